/-! The class on a fresh object. Written by wip/tool/cls.py. -/
theorem a_519 : m_at w_1 519 = some (.inl (7, 7, [(6, .ref 575), (5, .ref 567), (4, .ref 559), (3, .ref 551), (2, .ref 543), (1, .ref 535), (0, .ref 527)])) := rfl
theorem a_535 : m_at w_1 535 = some (.inr (4, [.int 1, .ref 536, .ref 539, .ref 540, .ref 541, .ref 542, .int 1, .int 0, .int 0, .int 0, .int 0])) := rfl
theorem a_536 : m_at w_1 536 = some (.inr (5, [.ref 537, .ref 538, .int 1000])) := rfl
theorem a_537 : m_at w_1 537 = some (.inr (2, [.ref 0, .int 0, .int 0])) := rfl
theorem a_538 : m_at w_1 538 = some (.inr (2, [.ref 0, .int 0, .int 0])) := rfl
theorem a_543 : m_at w_1 543 = some (.inr (4, [.int 2, .ref 544, .ref 547, .ref 548, .ref 549, .ref 550, .int 1, .int 0, .int 0, .int 0, .int 0])) := rfl
theorem a_544 : m_at w_1 544 = some (.inr (5, [.ref 545, .ref 546, .int 1000])) := rfl
theorem a_545 : m_at w_1 545 = some (.inr (2, [.ref 0, .int 0, .int 0])) := rfl
theorem a_546 : m_at w_1 546 = some (.inr (2, [.ref 0, .int 0, .int 0])) := rfl
theorem a_551 : m_at w_1 551 = some (.inr (4, [.int 3, .ref 552, .ref 555, .ref 556, .ref 557, .ref 558, .int 1, .int 0, .int 0, .int 0, .int 0])) := rfl
theorem a_552 : m_at w_1 552 = some (.inr (5, [.ref 553, .ref 554, .int 1000])) := rfl
theorem a_553 : m_at w_1 553 = some (.inr (2, [.ref 0, .int 0, .int 0])) := rfl
theorem a_554 : m_at w_1 554 = some (.inr (2, [.ref 0, .int 0, .int 0])) := rfl
theorem a_559 : m_at w_1 559 = some (.inr (4, [.int 4, .ref 560, .ref 563, .ref 564, .ref 565, .ref 566, .int 1, .int 0, .int 0, .int 0, .int 0])) := rfl
theorem a_560 : m_at w_1 560 = some (.inr (5, [.ref 561, .ref 562, .int 1000])) := rfl
theorem a_561 : m_at w_1 561 = some (.inr (2, [.ref 0, .int 0, .int 0])) := rfl
theorem a_562 : m_at w_1 562 = some (.inr (2, [.ref 0, .int 0, .int 0])) := rfl
theorem a_567 : m_at w_1 567 = some (.inr (4, [.int 5, .ref 568, .ref 571, .ref 572, .ref 573, .ref 574, .int 1, .int 0, .int 0, .int 0, .int 0])) := rfl
theorem a_568 : m_at w_1 568 = some (.inr (5, [.ref 569, .ref 570, .int 1000])) := rfl
theorem a_569 : m_at w_1 569 = some (.inr (2, [.ref 0, .int 0, .int 0])) := rfl
theorem a_570 : m_at w_1 570 = some (.inr (2, [.ref 0, .int 0, .int 0])) := rfl
theorem a_575 : m_at w_1 575 = some (.inr (4, [.int 6, .ref 576, .ref 579, .ref 580, .ref 581, .ref 582, .int 1, .int 0, .int 0, .int 0, .int 0])) := rfl
theorem a_576 : m_at w_1 576 = some (.inr (5, [.ref 577, .ref 578, .int 1000])) := rfl
theorem a_577 : m_at w_1 577 = some (.inr (2, [.ref 0, .int 0, .int 0])) := rfl
theorem a_578 : m_at w_1 578 = some (.inr (2, [.ref 0, .int 0, .int 0])) := rfl
theorem q_98 : m_mt[98]? = some M_98 := by rfl
theorem q_101 : m_mt[101]? = some M_101 := by rfl
theorem q_75 : m_mt[75]? = some M_75 := by rfl
theorem q_144 : m_mt[144]? = some M_144 := by rfl
theorem q_97 : m_mt[97]? = some M_97 := by rfl
theorem d_101_0 : m_dn M_101 0 (.aload_n 0) 1 1 := by decide +kernel
theorem d_101_1 : m_dn M_101 1 (.getfield 48) 3 4 := by decide +kernel
theorem d_101_12 : m_dn M_101 12 (.ireturn) 1 13 := by decide +kernel
theorem d_101_4 : m_dn M_101 4 (.ifCond .ne 7) 3 7 := by decide +kernel
theorem d_101_7 : m_dn M_101 7 (.iconst 1) 1 8 := by decide +kernel
theorem d_101_8 : m_dn M_101 8 (.goto 4) 3 11 := by decide +kernel
theorem d_144_0 : m_dn M_144 0 (.iconst 0) 1 1 := by decide +kernel
theorem d_144_1 : m_dn M_144 1 (.istore 4) 2 3 := by decide +kernel
theorem d_144_3 : m_dn M_144 3 (.iload 4) 2 5 := by decide +kernel
theorem d_144_5 : m_dn M_144 5 (.aload_n 0) 1 6 := by decide +kernel
theorem d_144_53 : m_dn M_144 53 (.aconst_null) 1 54 := by decide +kernel
theorem d_144_54 : m_dn M_144 54 (.areturn) 1 55 := by decide +kernel
theorem d_144_6 : m_dn M_144 6 (.invokevirtual 29) 3 9 := by decide +kernel
theorem d_144_9 : m_dn M_144 9 (.if_icmp .ge 44) 3 12 := by decide +kernel
theorem d_156_0 : m_dn M_156 0 (.iload_n 1) 1 1 := by decide +kernel
theorem d_156_1 : m_dn M_156 1 (.invokestatic 181) 3 4 := by decide +kernel
theorem d_156_10 : m_dn M_156 10 (.if_icmp .lt 10) 3 13 := by decide +kernel
theorem d_156_13 : m_dn M_156 13 (.iload_n 2) 1 14 := by decide +kernel
theorem d_156_14 : m_dn M_156 14 (.sipush 2000) 3 17 := by decide +kernel
theorem d_156_17 : m_dn M_156 17 (.if_icmp .le 5) 3 20 := by decide +kernel
theorem d_156_20 : m_dn M_156 20 (.iconst 0) 1 21 := by decide +kernel
theorem d_156_21 : m_dn M_156 21 (.ireturn) 1 22 := by decide +kernel
theorem d_156_22 : m_dn M_156 22 (.aload_n 0) 1 23 := by decide +kernel
theorem d_156_23 : m_dn M_156 23 (.getfield 28) 3 26 := by decide +kernel
theorem d_156_26 : m_dn M_156 26 (.iload_n 1) 1 27 := by decide +kernel
theorem d_156_27 : m_dn M_156 27 (.aaload) 1 28 := by decide +kernel
theorem d_156_28 : m_dn M_156 28 (.getfield 208) 3 31 := by decide +kernel
theorem d_156_31 : m_dn M_156 31 (.iload_n 2) 1 32 := by decide +kernel
theorem d_156_32 : m_dn M_156 32 (.putfield 212) 3 35 := by decide +kernel
theorem d_156_35 : m_dn M_156 35 (.aload_n 0) 1 36 := by decide +kernel
theorem d_156_36 : m_dn M_156 36 (.getfield 28) 3 39 := by decide +kernel
theorem d_156_39 : m_dn M_156 39 (.iload_n 1) 1 40 := by decide +kernel
theorem d_156_4 : m_dn M_156 4 (.ifCond .eq 16) 3 7 := by decide +kernel
theorem d_156_40 : m_dn M_156 40 (.aaload) 1 41 := by decide +kernel
theorem d_156_41 : m_dn M_156 41 (.getfield 208) 3 44 := by decide +kernel
theorem d_156_44 : m_dn M_156 44 (.invokevirtual 217) 3 47 := by decide +kernel
theorem d_156_47 : m_dn M_156 47 (.iconst 1) 1 48 := by decide +kernel
theorem d_156_48 : m_dn M_156 48 (.ireturn) 1 49 := by decide +kernel
theorem d_156_7 : m_dn M_156 7 (.iload_n 2) 1 8 := by decide +kernel
theorem d_156_8 : m_dn M_156 8 (.bipush 32) 2 10 := by decide +kernel
theorem d_220_0 : m_dn M_220 0 (.iload_n 1) 1 1 := by decide +kernel
theorem d_220_1 : m_dn M_220 1 (.invokestatic 181) 3 4 := by decide +kernel
theorem d_220_11 : m_dn M_220 11 (.iload_n 2) 1 12 := by decide +kernel
theorem d_220_12 : m_dn M_220 12 (.bipush 12) 2 14 := by decide +kernel
theorem d_220_14 : m_dn M_220 14 (.if_icmp .le 5) 3 17 := by decide +kernel
theorem d_220_17 : m_dn M_220 17 (.iconst (-1)) 1 18 := by decide +kernel
theorem d_220_18 : m_dn M_220 18 (.ireturn) 1 19 := by decide +kernel
theorem d_220_4 : m_dn M_220 4 (.ifCond .eq 13) 3 7 := by decide +kernel
theorem d_220_7 : m_dn M_220 7 (.iload_n 2) 1 8 := by decide +kernel
theorem d_220_8 : m_dn M_220 8 (.ifCond .lt 9) 3 11 := by decide +kernel
theorem d_223_0 : m_dn M_223 0 (.iload_n 1) 1 1 := by decide +kernel
theorem d_223_1 : m_dn M_223 1 (.invokestatic 181) 3 4 := by decide +kernel
theorem d_223_10 : m_dn M_223 10 (.getfield 28) 3 13 := by decide +kernel
theorem d_223_13 : m_dn M_223 13 (.iload_n 1) 1 14 := by decide +kernel
theorem d_223_14 : m_dn M_223 14 (.aaload) 1 15 := by decide +kernel
theorem d_223_15 : m_dn M_223 15 (.getfield 208) 3 18 := by decide +kernel
theorem d_223_18 : m_dn M_223 18 (.astore 6) 2 20 := by decide +kernel
theorem d_223_20 : m_dn M_223 20 (.aload 6) 2 22 := by decide +kernel
theorem d_223_22 : m_dn M_223 22 (.iload_n 2) 1 23 := by decide +kernel
theorem d_223_23 : m_dn M_223 23 (.iload_n 3) 1 24 := by decide +kernel
theorem d_223_24 : m_dn M_223 24 (.iload 4) 2 26 := by decide +kernel
theorem d_223_26 : m_dn M_223 26 (.invokevirtual 249) 3 29 := by decide +kernel
theorem d_223_29 : m_dn M_223 29 (.astore 7) 2 31 := by decide +kernel
theorem d_223_31 : m_dn M_223 31 (.aload 7) 2 33 := by decide +kernel
theorem d_223_33 : m_dn M_223 33 (.ifnonnull 5) 3 36 := by decide +kernel
theorem d_223_36 : m_dn M_223 36 (.iconst (-1)) 1 37 := by decide +kernel
theorem d_223_37 : m_dn M_223 37 (.ireturn) 1 38 := by decide +kernel
theorem d_223_4 : m_dn M_223 4 (.ifCond .ne 5) 3 7 := by decide +kernel
theorem d_223_7 : m_dn M_223 7 (.iconst (-1)) 1 8 := by decide +kernel
theorem d_223_8 : m_dn M_223 8 (.ireturn) 1 9 := by decide +kernel
theorem d_223_9 : m_dn M_223 9 (.aload_n 0) 1 10 := by decide +kernel
theorem d_235_0 : m_dn M_235 0 (.aload_n 1) 1 1 := by decide +kernel
theorem d_235_1 : m_dn M_235 1 (.getfield 184) 3 4 := by decide +kernel
theorem d_235_4 : m_dn M_235 4 (.invokevirtual 150) 3 7 := by decide +kernel
theorem d_235_7 : m_dn M_235 7 (.ifCond .ne 73) 3 10 := by decide +kernel
theorem d_235_80 : m_dn M_235 80 (.return_) 1 81 := by decide +kernel
theorem d_75_0 : m_dn M_75 0 (.aload_n 0) 1 1 := by decide +kernel
theorem d_75_1 : m_dn M_75 1 (.getfield 12) 3 4 := by decide +kernel
theorem d_75_11 : m_dn M_75 11 (.invokevirtual 25) 3 14 := by decide +kernel
theorem d_75_14 : m_dn M_75 14 (.iadd) 1 15 := by decide +kernel
theorem d_75_15 : m_dn M_75 15 (.ireturn) 1 16 := by decide +kernel
theorem d_75_4 : m_dn M_75 4 (.invokevirtual 25) 3 7 := by decide +kernel
theorem d_75_7 : m_dn M_75 7 (.aload_n 0) 1 8 := by decide +kernel
theorem d_75_8 : m_dn M_75 8 (.getfield 18) 3 11 := by decide +kernel
theorem d_97_0 : m_dn M_97 0 (.aload_n 0) 1 1 := by decide +kernel
theorem d_97_1 : m_dn M_97 1 (.aload_n 0) 1 2 := by decide +kernel
theorem d_97_10 : m_dn M_97 10 (.aload_n 0) 1 11 := by decide +kernel
theorem d_97_11 : m_dn M_97 11 (.aload_n 0) 1 12 := by decide +kernel
theorem d_97_12 : m_dn M_97 12 (.getfield 12) 3 15 := by decide +kernel
theorem d_97_137 : m_dn M_97 137 (.return_) 1 138 := by decide +kernel
theorem d_97_15 : m_dn M_97 15 (.invokevirtual 106) 3 18 := by decide +kernel
theorem d_97_18 : m_dn M_97 18 (.iadd) 1 19 := by decide +kernel
theorem d_97_19 : m_dn M_97 19 (.istore_n 2) 1 20 := by decide +kernel
theorem d_97_2 : m_dn M_97 2 (.getfield 18) 3 5 := by decide +kernel
theorem d_97_20 : m_dn M_97 20 (.aload_n 0) 1 21 := by decide +kernel
theorem d_97_21 : m_dn M_97 21 (.getfield 18) 3 24 := by decide +kernel
theorem d_97_24 : m_dn M_97 24 (.invokevirtual 110) 3 27 := by decide +kernel
theorem d_97_27 : m_dn M_97 27 (.ifCond .ne 49) 3 30 := by decide +kernel
theorem d_97_5 : m_dn M_97 5 (.invokevirtual 106) 3 8 := by decide +kernel
theorem d_97_76 : m_dn M_97 76 (.aload_n 0) 1 77 := by decide +kernel
theorem d_97_77 : m_dn M_97 77 (.invokevirtual 29) 3 80 := by decide +kernel
theorem d_97_8 : m_dn M_97 8 (.istore_n 1) 1 9 := by decide +kernel
theorem d_97_80 : m_dn M_97 80 (.ifCond .le 57) 3 83 := by decide +kernel
theorem d_97_9 : m_dn M_97 9 (.iload_n 1) 1 10 := by decide +kernel
theorem d_98_0 : m_dn M_98 0 (.iconst 0) 1 1 := by decide +kernel
theorem d_98_1 : m_dn M_98 1 (.istore_n 2) 1 2 := by decide +kernel
theorem d_98_2 : m_dn M_98 2 (.iconst 0) 1 3 := by decide +kernel
theorem d_98_3 : m_dn M_98 3 (.istore_n 3) 1 4 := by decide +kernel
theorem d_98_32 : m_dn M_98 32 (.iload_n 2) 1 33 := by decide +kernel
theorem d_98_33 : m_dn M_98 33 (.ireturn) 1 34 := by decide +kernel
theorem d_98_4 : m_dn M_98 4 (.iload_n 3) 1 5 := by decide +kernel
theorem d_98_5 : m_dn M_98 5 (.aload_n 1) 1 6 := by decide +kernel
theorem d_98_6 : m_dn M_98 6 (.invokevirtual 25) 3 9 := by decide +kernel
theorem d_98_9 : m_dn M_98 9 (.if_icmp .ge 23) 3 12 := by decide +kernel
theorem s_isEmpty {w : List mM} {u z : Value} {a : Nat} (h : m_at w a = some (.inr (2, [u, .int 0, z]))) : m_Rq M_101 (m_ent M_101 [.ref a] w) (fun v w' => v = some (.int 1) ∧ w' = w) 0 0 0 0 := by
  show m_Rq M_101 (0, [(0, .ref a)], [], w) _ 0 0 0 0
  refine m_Rq.n0 (x_aload_n d_101_0 rfl) ?_
  refine m_Rq.n0 (x_getf d_101_1 rfl h rfl) ?_
  refine m_Rq.n0 (x_iff d_101_4 rfl (by decide)) ?_
  refine m_Rq.n0 (x_iconst (z := 1) d_101_7 (by decide)) ?_
  refine m_Rq.n0 (x_goto d_101_8 rfl) ?_
  refine m_Rq.ir d_101_12 rfl rfl ?_
  exact ⟨rfl, rfl⟩
theorem m_Rq.callV {I J : mI} {pc pc' : Nat} {lv : List (Nat × Value)} {st : List Value} {w w0 : List mM} {as rest : List Value} {P : Option Value → List mM → Prop} {c s f l f1 l1 : Nat} (h : m_at1 I (pc, lv, st, w) = some (J, as, rest)) (hJ : m_Rq J (m_ent J as w) (fun v w' => v = none ∧ w' = w0) 0 0 f1 l1) (hp : pc + 3 = pc')
    (k : m_Rq I (pc', lv, rest, w0) P c s f l) (hf : f1 + 1 ≤ f) (hl : 8 + (J.2.2.1 + 11) + l1 ≤ l) : m_Rq I (pc, lv, st, w) P c s f l := by
  have := m_Rq.call (P := P) (c := c) (s := s) (f := f) (l := l) h hJ (fun v w' hv => by obtain ⟨rfl, rfl⟩ := hv; subst hp; exact k) hf hl
  rw [Nat.zero_add, Nat.zero_add] at this
  exact this
theorem s_sizeOf_538 {w : List mM} (hl : 119 ≤ w.length) (h538 : m_at w 538 = some (.inr (2, [.ref 0, .int 0, .int 0]))) : m_Rq M_98 (m_ent M_98 [.ref 536, .ref 538] w) (fun v w' => v = some (.int 0) ∧ w' = w) 0 0 1 100 := by
  show m_Rq M_98 (0, [(0, .ref 536), (1, .ref 538)], [], w) _ 0 0 1 100
  refine m_Rq.n0 (x_iconst (z := 0) d_98_0 (by decide)) ?_
  refine m_Rq.n0 (x_istore_n d_98_1 rfl (show m_put1 _ _ _ = [(2, _), (0, _), (1, _)] from rfl)) ?_
  refine m_Rq.n0 (x_iconst (z := 0) d_98_2 (by decide)) ?_
  refine m_Rq.n0 (x_istore_n d_98_3 rfl (show m_put1 _ _ _ = [(3, _), (2, _), (0, _), (1, _)] from rfl)) ?_
  refine m_Rq.n0 (x_iload_n d_98_4 rfl) ?_
  refine m_Rq.n0 (x_aload_n d_98_5 rfl) ?_
  refine m_Rq.callE (x_cv (n := 119) d_98_6 rfl q_17 (m_isRecv_of rfl h538) rfl rfl hl rfl) (s_size h538) rfl ?_ (by decide) (by decide)
  refine m_Rq.n0 (x_ict d_98_9 rfl (by decide)) ?_
  refine m_Rq.n0 (x_iload_n d_98_32 rfl) ?_
  refine m_Rq.ir d_98_33 rfl rfl ?_
  exact ⟨rfl, rfl⟩
theorem s_sizeOf_537 {w : List mM} (hl : 119 ≤ w.length) (h537 : m_at w 537 = some (.inr (2, [.ref 0, .int 0, .int 0]))) : m_Rq M_98 (m_ent M_98 [.ref 536, .ref 537] w) (fun v w' => v = some (.int 0) ∧ w' = w) 0 0 1 100 := by
  show m_Rq M_98 (0, [(0, .ref 536), (1, .ref 537)], [], w) _ 0 0 1 100
  refine m_Rq.n0 (x_iconst (z := 0) d_98_0 (by decide)) ?_
  refine m_Rq.n0 (x_istore_n d_98_1 rfl (show m_put1 _ _ _ = [(2, _), (0, _), (1, _)] from rfl)) ?_
  refine m_Rq.n0 (x_iconst (z := 0) d_98_2 (by decide)) ?_
  refine m_Rq.n0 (x_istore_n d_98_3 rfl (show m_put1 _ _ _ = [(3, _), (2, _), (0, _), (1, _)] from rfl)) ?_
  refine m_Rq.n0 (x_iload_n d_98_4 rfl) ?_
  refine m_Rq.n0 (x_aload_n d_98_5 rfl) ?_
  refine m_Rq.callE (x_cv (n := 119) d_98_6 rfl q_17 (m_isRecv_of rfl h537) rfl rfl hl rfl) (s_size h537) rfl ?_ (by decide) (by decide)
  refine m_Rq.n0 (x_ict d_98_9 rfl (by decide)) ?_
  refine m_Rq.n0 (x_iload_n d_98_32 rfl) ?_
  refine m_Rq.ir d_98_33 rfl rfl ?_
  exact ⟨rfl, rfl⟩
theorem s_count_536 {w : List mM} (hl : 119 ≤ w.length) {g : Value} (h536 : m_at w 536 = some (.inr (5, [.ref 537, .ref 538, g]))) (h537 : m_at w 537 = some (.inr (2, [.ref 0, .int 0, .int 0]))) (h538 : m_at w 538 = some (.inr (2, [.ref 0, .int 0, .int 0]))) : m_Rq M_75 (m_ent M_75 [.ref 536] w) (fun v w' => v = some (.int 0) ∧ w' = w) 0 0 1 100 := by
  show m_Rq M_75 (0, [(0, .ref 536)], [], w) _ 0 0 1 100
  refine m_Rq.n0 (x_aload_n d_75_0 rfl) ?_
  refine m_Rq.n0 (x_getf d_75_1 rfl h536 rfl) ?_
  refine m_Rq.callE (x_cv (n := 119) d_75_4 rfl q_17 (m_isRecv_of rfl h537) rfl rfl hl rfl) (s_size h537) rfl ?_ (by decide) (by decide)
  refine m_Rq.n0 (x_aload_n d_75_7 rfl) ?_
  refine m_Rq.n0 (x_getf d_75_8 rfl h536 rfl) ?_
  refine m_Rq.callE (x_cv (n := 119) d_75_11 rfl q_17 (m_isRecv_of rfl h538) rfl rfl hl rfl) (s_size h538) rfl ?_ (by decide) (by decide)
  refine m_Rq.n0 (x_iadd (z := 0) d_75_14 (by decide)) ?_
  refine m_Rq.ir d_75_15 rfl rfl ?_
  exact ⟨rfl, rfl⟩
theorem s_balance_536 {w : List mM} (hl : 119 ≤ w.length) {g : Value} (h536 : m_at w 536 = some (.inr (5, [.ref 537, .ref 538, g]))) (h537 : m_at w 537 = some (.inr (2, [.ref 0, .int 0, .int 0]))) (h538 : m_at w 538 = some (.inr (2, [.ref 0, .int 0, .int 0]))) : m_Rq M_97 (m_ent M_97 [.ref 536] w) (fun v w' => v = none ∧ w' = w) 0 0 3 300 := by
  show m_Rq M_97 (0, [(0, .ref 536)], [], w) _ 0 0 3 300
  refine m_Rq.n0 (x_aload_n d_97_0 rfl) ?_
  refine m_Rq.n0 (x_aload_n d_97_1 rfl) ?_
  refine m_Rq.n0 (x_getf d_97_2 rfl h536 rfl) ?_
  refine m_Rq.callE (x_cv (n := 119) d_97_5 rfl q_98 (m_isRecv_of rfl h536) rfl rfl hl rfl) (s_sizeOf_538 hl h538) rfl ?_ (by decide) (by decide)
  refine m_Rq.n0 (x_istore_n d_97_8 rfl (show m_put1 _ _ _ = [(1, _), (0, _)] from rfl)) ?_
  refine m_Rq.n0 (x_iload_n d_97_9 rfl) ?_
  refine m_Rq.n0 (x_aload_n d_97_10 rfl) ?_
  refine m_Rq.n0 (x_aload_n d_97_11 rfl) ?_
  refine m_Rq.n0 (x_getf d_97_12 rfl h536 rfl) ?_
  refine m_Rq.callE (x_cv (n := 119) d_97_15 rfl q_98 (m_isRecv_of rfl h536) rfl rfl hl rfl) (s_sizeOf_537 hl h537) rfl ?_ (by decide) (by decide)
  refine m_Rq.n0 (x_iadd (z := 0) d_97_18 (by decide)) ?_
  refine m_Rq.n0 (x_istore_n d_97_19 rfl (show m_put1 _ _ _ = [(2, _), (1, _), (0, _)] from rfl)) ?_
  refine m_Rq.n0 (x_aload_n d_97_20 rfl) ?_
  refine m_Rq.n0 (x_getf d_97_21 rfl h536 rfl) ?_
  refine m_Rq.callE (x_cv (n := 119) d_97_24 rfl q_101 (m_isRecv_of rfl h538) rfl rfl hl rfl) (s_isEmpty h538) rfl ?_ (by decide) (by decide)
  refine m_Rq.n0 (x_ift d_97_27 rfl (by decide)) ?_
  refine m_Rq.n0 (x_aload_n d_97_76 rfl) ?_
  refine m_Rq.callE (x_cv (n := 119) d_97_77 rfl q_75 (m_isRecv_of rfl h536) rfl rfl hl rfl) (s_count_536 hl h536 h537 h538) rfl ?_ (by decide) (by decide)
  refine m_Rq.n0 (x_ift d_97_80 rfl (by decide)) ?_
  refine m_Rq.vr d_97_137 rfl ?_
  exact ⟨rfl, rfl⟩
theorem s_find_536 {w : List mM} (hl : 119 ≤ w.length) {g : Value} (h536 : m_at w 536 = some (.inr (5, [.ref 537, .ref 538, g]))) (h537 : m_at w 537 = some (.inr (2, [.ref 0, .int 0, .int 0]))) (h538 : m_at w 538 = some (.inr (2, [.ref 0, .int 0, .int 0]))) {p v q : Int32}  : m_Rq M_144 (m_ent M_144 [.ref 536, .int p, .int v, .int q] w) (fun v w' => v = some .null ∧ w' = w) 0 0 2 200 := by
  show m_Rq M_144 (0, [(0, .ref 536), (1, .int p), (2, .int v), (3, .int q)], [], w) _ 0 0 2 200
  refine m_Rq.n0 (x_iconst (z := 0) d_144_0 (by decide)) ?_
  refine m_Rq.n0 (x_istore d_144_1 rfl (show m_put1 _ _ _ = [(4, _), (0, _), (1, _), (2, _), (3, _)] from rfl)) ?_
  refine m_Rq.n0 (x_iload d_144_3 rfl) ?_
  refine m_Rq.n0 (x_aload_n d_144_5 rfl) ?_
  refine m_Rq.callE (x_cv (n := 119) d_144_6 rfl q_75 (m_isRecv_of rfl h536) rfl rfl hl rfl) (s_count_536 hl h536 h537 h538) rfl ?_ (by decide) (by decide)
  refine m_Rq.n0 (x_ict d_144_9 rfl (by decide)) ?_
  refine m_Rq.n0 (x_null d_144_53) ?_
  refine m_Rq.nr d_144_54 rfl ?_
  exact ⟨rfl, rfl⟩
theorem c_entry_1 {p v q r : Int32} : m_Rq M_223 (m_ent M_223 [.ref 512, .int 1, .int p, .int v, .int q, .int r] w_1) (fun v w' => v = some (.int (-1)) ∧ w' = w_1) 0 0 10 1000 := by
  show m_Rq M_223 (0, [(0, .ref 512), (1, .int 1), (2, .int p), (3, .int v), (4, .int q), (5, .int r)], [], w_1) _ 0 0 10 1000
  refine m_Rq.n0 (x_iload_n d_223_0 rfl) ?_
  refine m_Rq.callE (x_cs (n := 119) d_223_1 rfl q_131 rfl rfl m_hn1 rfl rfl) (s_isNode1 (by decide) (by decide)) rfl ?_ (by decide) (by decide)
  refine m_Rq.n0 (x_ift d_223_4 rfl (by decide)) ?_
  refine m_Rq.n0 (x_aload_n d_223_9 rfl) ?_
  refine m_Rq.n0 (x_getf d_223_10 rfl a_512 rfl) ?_
  refine m_Rq.n0 (x_iload_n d_223_13 rfl) ?_
  refine m_Rq.n0 (x_aaload (j := 1) d_223_14 a_519 rfl rfl (by decide) (by decide) (by decide) rfl) ?_
  refine m_Rq.n0 (x_getf d_223_15 rfl a_535 rfl) ?_
  refine m_Rq.n0 (x_astore d_223_18 rfl (show m_put1 _ _ _ = [(6, _), (0, _), (1, _), (2, _), (3, _), (4, _), (5, _)] from rfl)) ?_
  refine m_Rq.n0 (x_aload d_223_20 rfl) ?_
  refine m_Rq.n0 (x_iload_n d_223_22 rfl) ?_
  refine m_Rq.n0 (x_iload_n d_223_23 rfl) ?_
  refine m_Rq.n0 (x_iload d_223_24 rfl) ?_
  refine m_Rq.callE (x_cv (n := 119) d_223_26 rfl q_144 (m_isRecv_of rfl a_536) rfl rfl m_hn1 rfl) (s_find_536 m_hn1 a_536 a_537 a_538) rfl ?_ (by decide) (by decide)
  refine m_Rq.n0 (x_astore0 d_223_29 rfl (show m_put1 _ _ _ = [(7, _), (6, _), (0, _), (1, _), (2, _), (3, _), (4, _), (5, _)] from rfl)) ?_
  refine m_Rq.n0 (x_aload0 d_223_31 rfl) ?_
  refine m_Rq.n0 (x_ifnonnull0 d_223_33 rfl) ?_
  refine m_Rq.n0 (x_iconst (z := (-1)) d_223_36 (by decide)) ?_
  refine m_Rq.ir d_223_37 rfl rfl ?_
  exact ⟨rfl, rfl⟩
theorem c_budget2_1 {w : List mM} (hl : 119 ≤ w.length) (h512 : m_at w 512 = some (.inr (0, [.ref 513, .ref 517, .ref 518, .ref 519, .ref 520, .ref 521, .ref 522, .ref 523, .ref 524, .ref 525, .int 0, .int 0, .int 0, .int 0, .int 0]))) (h519 : m_at w 519 = some (.inl (7, 7, [(6, .ref 575), (5, .ref 567), (4, .ref 559), (3, .ref 551), (2, .ref 543), (1, .ref 535), (0, .ref 527)]))) (h535 : m_at w 535 = some (.inr (4, [.int 1, .ref 536, .ref 539, .ref 540, .ref 541, .ref 542, .int 1, .int 0, .int 0, .int 0, .int 0]))) {g : Value} (h536 : m_at w 536 = some (.inr (5, [.ref 537, .ref 538, g]))) (h537 : m_at w 537 = some (.inr (2, [.ref 0, .int 0, .int 0]))) (h538 : m_at w 538 = some (.inr (2, [.ref 0, .int 0, .int 0]))) {b : Int32} : m_Rq M_156 (35, [(0, .ref 512), (1, .int 1), (2, .int b)], [], w) (fun v w' => v = some (.int 1) ∧ w' = w) 0 0 10 1000 := by
  refine m_Rq.n0 (x_aload_n d_156_35 rfl) ?_
  refine m_Rq.n0 (x_getf d_156_36 rfl h512 rfl) ?_
  refine m_Rq.n0 (x_iload_n d_156_39 rfl) ?_
  refine m_Rq.n0 (x_aaload (j := 1) d_156_40 h519 rfl rfl (by decide) (by decide) (by decide) rfl) ?_
  refine m_Rq.n0 (x_getf d_156_41 rfl h535 rfl) ?_
  refine m_Rq.callV (x_cv (n := 119) d_156_44 rfl q_97 (m_isRecv_of rfl h536) rfl rfl hl rfl) (s_balance_536 hl h536 h537 h538) rfl ?_ (by decide) (by decide)
  refine m_Rq.n0 (x_iconst (z := 1) d_156_47 (by decide)) ?_
  refine m_Rq.ir d_156_48 rfl rfl ?_
  exact ⟨rfl, rfl⟩
theorem c_budget_1 {b : Int32} (h0 : ¬ b < 32) (h1 : b ≤ 2000) : m_Rq M_156 (m_ent M_156 [.ref 512, .int 1, .int b] w_1) (fun v w' => v = some (.int 1) ∧ w' = (w_1.set (536 - 512) (.inr (5, [.ref 537, .ref 538, .int b])))) 0 0 10 1000 := by
  show m_Rq M_156 (0, [(0, .ref 512), (1, .int 1), (2, .int b)], [], w_1) _ 0 0 10 1000
  refine m_Rq.n0 (x_iload_n d_156_0 rfl) ?_
  refine m_Rq.callE (x_cs (n := 119) d_156_1 rfl q_131 rfl rfl m_hn1 rfl rfl) (s_isNode1 (by decide) (by decide)) rfl ?_ (by decide) (by decide)
  refine m_Rq.n0 (x_iff d_156_4 rfl (by decide)) ?_
  refine m_Rq.n0 (x_iload_n d_156_7 rfl) ?_
  refine m_Rq.n0 (x_bipush (z := 32) d_156_8 (by decide)) ?_
  refine m_Rq.n0 (x_icf d_156_10 rfl (decide_eq_false h0)) ?_
  refine m_Rq.n0 (x_iload_n d_156_13 rfl) ?_
  refine m_Rq.n0 (x_sipush (z := 2000) d_156_14 (by decide)) ?_
  refine m_Rq.n0 (x_ict d_156_17 rfl (decide_eq_true h1)) ?_
  refine m_Rq.n0 (x_aload_n d_156_22 rfl) ?_
  refine m_Rq.n0 (x_getf d_156_23 rfl a_512 rfl) ?_
  refine m_Rq.n0 (x_iload_n d_156_26 rfl) ?_
  refine m_Rq.n0 (x_aaload (j := 1) d_156_27 a_519 rfl rfl (by decide) (by decide) (by decide) rfl) ?_
  refine m_Rq.n0 (x_getf d_156_28 rfl a_535 rfl) ?_
  refine m_Rq.n0 (x_iload_n d_156_31 rfl) ?_
  refine m_Rq.n0 (x_putf d_156_32 rfl a_536 rfl (by decide) rfl rfl rfl rfl) ?_
  exact c_budget2_1 (w := (w_1.set (536 - 512) (.inr (5, [.ref 537, .ref 538, .int b])))) (by rw [List.length_set]; exact m_hn1) (m_at_ne (a := 536) a_512 rfl) (m_at_ne (a := 536) a_519 rfl) (m_at_ne (a := 536) a_535 rfl) (m_at_eq (a := 536) a_536) (m_at_ne (a := 536) a_537 rfl) (m_at_ne (a := 536) a_538 rfl)
theorem c_eo_1 {w : List mM} (hl : 119 ≤ w.length) (h535 : m_at w 535 = some (.inr (4, [.int 1, .ref 536, .ref 539, .ref 540, .ref 541, .ref 542, .int 1, .int 0, .int 0, .int 0, .int 0]))) (h539 : m_at w 539 = some (.inr (2, [.ref 0, .int 0, .int 0]))) : m_Rq M_235 (m_ent M_235 [.ref 512, .ref 535] w) (fun v w' => v = none ∧ w' = w) 0 0 1 100 := by
  show m_Rq M_235 (0, [(0, .ref 512), (1, .ref 535)], [], w) _ 0 0 1 100
  refine m_Rq.n0 (x_aload_n d_235_0 rfl) ?_
  refine m_Rq.n0 (x_getf d_235_1 rfl h535 rfl) ?_
  refine m_Rq.callE (x_cv (n := 119) d_235_4 rfl q_101 (m_isRecv_of rfl h539) rfl rfl hl rfl) (s_isEmpty h539) rfl ?_ (by decide) (by decide)
  refine m_Rq.n0 (x_ift d_235_7 rfl (by decide)) ?_
  refine m_Rq.vr d_235_80 rfl ?_
  exact ⟨rfl, rfl⟩
theorem s_sizeOf_546 {w : List mM} (hl : 119 ≤ w.length) (h546 : m_at w 546 = some (.inr (2, [.ref 0, .int 0, .int 0]))) : m_Rq M_98 (m_ent M_98 [.ref 544, .ref 546] w) (fun v w' => v = some (.int 0) ∧ w' = w) 0 0 1 100 := by
  show m_Rq M_98 (0, [(0, .ref 544), (1, .ref 546)], [], w) _ 0 0 1 100
  refine m_Rq.n0 (x_iconst (z := 0) d_98_0 (by decide)) ?_
  refine m_Rq.n0 (x_istore_n d_98_1 rfl (show m_put1 _ _ _ = [(2, _), (0, _), (1, _)] from rfl)) ?_
  refine m_Rq.n0 (x_iconst (z := 0) d_98_2 (by decide)) ?_
  refine m_Rq.n0 (x_istore_n d_98_3 rfl (show m_put1 _ _ _ = [(3, _), (2, _), (0, _), (1, _)] from rfl)) ?_
  refine m_Rq.n0 (x_iload_n d_98_4 rfl) ?_
  refine m_Rq.n0 (x_aload_n d_98_5 rfl) ?_
  refine m_Rq.callE (x_cv (n := 119) d_98_6 rfl q_17 (m_isRecv_of rfl h546) rfl rfl hl rfl) (s_size h546) rfl ?_ (by decide) (by decide)
  refine m_Rq.n0 (x_ict d_98_9 rfl (by decide)) ?_
  refine m_Rq.n0 (x_iload_n d_98_32 rfl) ?_
  refine m_Rq.ir d_98_33 rfl rfl ?_
  exact ⟨rfl, rfl⟩
theorem s_sizeOf_545 {w : List mM} (hl : 119 ≤ w.length) (h545 : m_at w 545 = some (.inr (2, [.ref 0, .int 0, .int 0]))) : m_Rq M_98 (m_ent M_98 [.ref 544, .ref 545] w) (fun v w' => v = some (.int 0) ∧ w' = w) 0 0 1 100 := by
  show m_Rq M_98 (0, [(0, .ref 544), (1, .ref 545)], [], w) _ 0 0 1 100
  refine m_Rq.n0 (x_iconst (z := 0) d_98_0 (by decide)) ?_
  refine m_Rq.n0 (x_istore_n d_98_1 rfl (show m_put1 _ _ _ = [(2, _), (0, _), (1, _)] from rfl)) ?_
  refine m_Rq.n0 (x_iconst (z := 0) d_98_2 (by decide)) ?_
  refine m_Rq.n0 (x_istore_n d_98_3 rfl (show m_put1 _ _ _ = [(3, _), (2, _), (0, _), (1, _)] from rfl)) ?_
  refine m_Rq.n0 (x_iload_n d_98_4 rfl) ?_
  refine m_Rq.n0 (x_aload_n d_98_5 rfl) ?_
  refine m_Rq.callE (x_cv (n := 119) d_98_6 rfl q_17 (m_isRecv_of rfl h545) rfl rfl hl rfl) (s_size h545) rfl ?_ (by decide) (by decide)
  refine m_Rq.n0 (x_ict d_98_9 rfl (by decide)) ?_
  refine m_Rq.n0 (x_iload_n d_98_32 rfl) ?_
  refine m_Rq.ir d_98_33 rfl rfl ?_
  exact ⟨rfl, rfl⟩
theorem s_count_544 {w : List mM} (hl : 119 ≤ w.length) {g : Value} (h544 : m_at w 544 = some (.inr (5, [.ref 545, .ref 546, g]))) (h545 : m_at w 545 = some (.inr (2, [.ref 0, .int 0, .int 0]))) (h546 : m_at w 546 = some (.inr (2, [.ref 0, .int 0, .int 0]))) : m_Rq M_75 (m_ent M_75 [.ref 544] w) (fun v w' => v = some (.int 0) ∧ w' = w) 0 0 1 100 := by
  show m_Rq M_75 (0, [(0, .ref 544)], [], w) _ 0 0 1 100
  refine m_Rq.n0 (x_aload_n d_75_0 rfl) ?_
  refine m_Rq.n0 (x_getf d_75_1 rfl h544 rfl) ?_
  refine m_Rq.callE (x_cv (n := 119) d_75_4 rfl q_17 (m_isRecv_of rfl h545) rfl rfl hl rfl) (s_size h545) rfl ?_ (by decide) (by decide)
  refine m_Rq.n0 (x_aload_n d_75_7 rfl) ?_
  refine m_Rq.n0 (x_getf d_75_8 rfl h544 rfl) ?_
  refine m_Rq.callE (x_cv (n := 119) d_75_11 rfl q_17 (m_isRecv_of rfl h546) rfl rfl hl rfl) (s_size h546) rfl ?_ (by decide) (by decide)
  refine m_Rq.n0 (x_iadd (z := 0) d_75_14 (by decide)) ?_
  refine m_Rq.ir d_75_15 rfl rfl ?_
  exact ⟨rfl, rfl⟩
theorem s_balance_544 {w : List mM} (hl : 119 ≤ w.length) {g : Value} (h544 : m_at w 544 = some (.inr (5, [.ref 545, .ref 546, g]))) (h545 : m_at w 545 = some (.inr (2, [.ref 0, .int 0, .int 0]))) (h546 : m_at w 546 = some (.inr (2, [.ref 0, .int 0, .int 0]))) : m_Rq M_97 (m_ent M_97 [.ref 544] w) (fun v w' => v = none ∧ w' = w) 0 0 3 300 := by
  show m_Rq M_97 (0, [(0, .ref 544)], [], w) _ 0 0 3 300
  refine m_Rq.n0 (x_aload_n d_97_0 rfl) ?_
  refine m_Rq.n0 (x_aload_n d_97_1 rfl) ?_
  refine m_Rq.n0 (x_getf d_97_2 rfl h544 rfl) ?_
  refine m_Rq.callE (x_cv (n := 119) d_97_5 rfl q_98 (m_isRecv_of rfl h544) rfl rfl hl rfl) (s_sizeOf_546 hl h546) rfl ?_ (by decide) (by decide)
  refine m_Rq.n0 (x_istore_n d_97_8 rfl (show m_put1 _ _ _ = [(1, _), (0, _)] from rfl)) ?_
  refine m_Rq.n0 (x_iload_n d_97_9 rfl) ?_
  refine m_Rq.n0 (x_aload_n d_97_10 rfl) ?_
  refine m_Rq.n0 (x_aload_n d_97_11 rfl) ?_
  refine m_Rq.n0 (x_getf d_97_12 rfl h544 rfl) ?_
  refine m_Rq.callE (x_cv (n := 119) d_97_15 rfl q_98 (m_isRecv_of rfl h544) rfl rfl hl rfl) (s_sizeOf_545 hl h545) rfl ?_ (by decide) (by decide)
  refine m_Rq.n0 (x_iadd (z := 0) d_97_18 (by decide)) ?_
  refine m_Rq.n0 (x_istore_n d_97_19 rfl (show m_put1 _ _ _ = [(2, _), (1, _), (0, _)] from rfl)) ?_
  refine m_Rq.n0 (x_aload_n d_97_20 rfl) ?_
  refine m_Rq.n0 (x_getf d_97_21 rfl h544 rfl) ?_
  refine m_Rq.callE (x_cv (n := 119) d_97_24 rfl q_101 (m_isRecv_of rfl h546) rfl rfl hl rfl) (s_isEmpty h546) rfl ?_ (by decide) (by decide)
  refine m_Rq.n0 (x_ift d_97_27 rfl (by decide)) ?_
  refine m_Rq.n0 (x_aload_n d_97_76 rfl) ?_
  refine m_Rq.callE (x_cv (n := 119) d_97_77 rfl q_75 (m_isRecv_of rfl h544) rfl rfl hl rfl) (s_count_544 hl h544 h545 h546) rfl ?_ (by decide) (by decide)
  refine m_Rq.n0 (x_ift d_97_80 rfl (by decide)) ?_
  refine m_Rq.vr d_97_137 rfl ?_
  exact ⟨rfl, rfl⟩
theorem s_find_544 {w : List mM} (hl : 119 ≤ w.length) {g : Value} (h544 : m_at w 544 = some (.inr (5, [.ref 545, .ref 546, g]))) (h545 : m_at w 545 = some (.inr (2, [.ref 0, .int 0, .int 0]))) (h546 : m_at w 546 = some (.inr (2, [.ref 0, .int 0, .int 0]))) {p v q : Int32}  : m_Rq M_144 (m_ent M_144 [.ref 544, .int p, .int v, .int q] w) (fun v w' => v = some .null ∧ w' = w) 0 0 2 200 := by
  show m_Rq M_144 (0, [(0, .ref 544), (1, .int p), (2, .int v), (3, .int q)], [], w) _ 0 0 2 200
  refine m_Rq.n0 (x_iconst (z := 0) d_144_0 (by decide)) ?_
  refine m_Rq.n0 (x_istore d_144_1 rfl (show m_put1 _ _ _ = [(4, _), (0, _), (1, _), (2, _), (3, _)] from rfl)) ?_
  refine m_Rq.n0 (x_iload d_144_3 rfl) ?_
  refine m_Rq.n0 (x_aload_n d_144_5 rfl) ?_
  refine m_Rq.callE (x_cv (n := 119) d_144_6 rfl q_75 (m_isRecv_of rfl h544) rfl rfl hl rfl) (s_count_544 hl h544 h545 h546) rfl ?_ (by decide) (by decide)
  refine m_Rq.n0 (x_ict d_144_9 rfl (by decide)) ?_
  refine m_Rq.n0 (x_null d_144_53) ?_
  refine m_Rq.nr d_144_54 rfl ?_
  exact ⟨rfl, rfl⟩
theorem c_entry_2 {p v q r : Int32} : m_Rq M_223 (m_ent M_223 [.ref 512, .int 2, .int p, .int v, .int q, .int r] w_1) (fun v w' => v = some (.int (-1)) ∧ w' = w_1) 0 0 10 1000 := by
  show m_Rq M_223 (0, [(0, .ref 512), (1, .int 2), (2, .int p), (3, .int v), (4, .int q), (5, .int r)], [], w_1) _ 0 0 10 1000
  refine m_Rq.n0 (x_iload_n d_223_0 rfl) ?_
  refine m_Rq.callE (x_cs (n := 119) d_223_1 rfl q_131 rfl rfl m_hn1 rfl rfl) (s_isNode1 (by decide) (by decide)) rfl ?_ (by decide) (by decide)
  refine m_Rq.n0 (x_ift d_223_4 rfl (by decide)) ?_
  refine m_Rq.n0 (x_aload_n d_223_9 rfl) ?_
  refine m_Rq.n0 (x_getf d_223_10 rfl a_512 rfl) ?_
  refine m_Rq.n0 (x_iload_n d_223_13 rfl) ?_
  refine m_Rq.n0 (x_aaload (j := 2) d_223_14 a_519 rfl rfl (by decide) (by decide) (by decide) rfl) ?_
  refine m_Rq.n0 (x_getf d_223_15 rfl a_543 rfl) ?_
  refine m_Rq.n0 (x_astore d_223_18 rfl (show m_put1 _ _ _ = [(6, _), (0, _), (1, _), (2, _), (3, _), (4, _), (5, _)] from rfl)) ?_
  refine m_Rq.n0 (x_aload d_223_20 rfl) ?_
  refine m_Rq.n0 (x_iload_n d_223_22 rfl) ?_
  refine m_Rq.n0 (x_iload_n d_223_23 rfl) ?_
  refine m_Rq.n0 (x_iload d_223_24 rfl) ?_
  refine m_Rq.callE (x_cv (n := 119) d_223_26 rfl q_144 (m_isRecv_of rfl a_544) rfl rfl m_hn1 rfl) (s_find_544 m_hn1 a_544 a_545 a_546) rfl ?_ (by decide) (by decide)
  refine m_Rq.n0 (x_astore0 d_223_29 rfl (show m_put1 _ _ _ = [(7, _), (6, _), (0, _), (1, _), (2, _), (3, _), (4, _), (5, _)] from rfl)) ?_
  refine m_Rq.n0 (x_aload0 d_223_31 rfl) ?_
  refine m_Rq.n0 (x_ifnonnull0 d_223_33 rfl) ?_
  refine m_Rq.n0 (x_iconst (z := (-1)) d_223_36 (by decide)) ?_
  refine m_Rq.ir d_223_37 rfl rfl ?_
  exact ⟨rfl, rfl⟩
theorem c_budget2_2 {w : List mM} (hl : 119 ≤ w.length) (h512 : m_at w 512 = some (.inr (0, [.ref 513, .ref 517, .ref 518, .ref 519, .ref 520, .ref 521, .ref 522, .ref 523, .ref 524, .ref 525, .int 0, .int 0, .int 0, .int 0, .int 0]))) (h519 : m_at w 519 = some (.inl (7, 7, [(6, .ref 575), (5, .ref 567), (4, .ref 559), (3, .ref 551), (2, .ref 543), (1, .ref 535), (0, .ref 527)]))) (h543 : m_at w 543 = some (.inr (4, [.int 2, .ref 544, .ref 547, .ref 548, .ref 549, .ref 550, .int 1, .int 0, .int 0, .int 0, .int 0]))) {g : Value} (h544 : m_at w 544 = some (.inr (5, [.ref 545, .ref 546, g]))) (h545 : m_at w 545 = some (.inr (2, [.ref 0, .int 0, .int 0]))) (h546 : m_at w 546 = some (.inr (2, [.ref 0, .int 0, .int 0]))) {b : Int32} : m_Rq M_156 (35, [(0, .ref 512), (1, .int 2), (2, .int b)], [], w) (fun v w' => v = some (.int 1) ∧ w' = w) 0 0 10 1000 := by
  refine m_Rq.n0 (x_aload_n d_156_35 rfl) ?_
  refine m_Rq.n0 (x_getf d_156_36 rfl h512 rfl) ?_
  refine m_Rq.n0 (x_iload_n d_156_39 rfl) ?_
  refine m_Rq.n0 (x_aaload (j := 2) d_156_40 h519 rfl rfl (by decide) (by decide) (by decide) rfl) ?_
  refine m_Rq.n0 (x_getf d_156_41 rfl h543 rfl) ?_
  refine m_Rq.callV (x_cv (n := 119) d_156_44 rfl q_97 (m_isRecv_of rfl h544) rfl rfl hl rfl) (s_balance_544 hl h544 h545 h546) rfl ?_ (by decide) (by decide)
  refine m_Rq.n0 (x_iconst (z := 1) d_156_47 (by decide)) ?_
  refine m_Rq.ir d_156_48 rfl rfl ?_
  exact ⟨rfl, rfl⟩
theorem c_budget_2 {b : Int32} (h0 : ¬ b < 32) (h1 : b ≤ 2000) : m_Rq M_156 (m_ent M_156 [.ref 512, .int 2, .int b] w_1) (fun v w' => v = some (.int 1) ∧ w' = (w_1.set (544 - 512) (.inr (5, [.ref 545, .ref 546, .int b])))) 0 0 10 1000 := by
  show m_Rq M_156 (0, [(0, .ref 512), (1, .int 2), (2, .int b)], [], w_1) _ 0 0 10 1000
  refine m_Rq.n0 (x_iload_n d_156_0 rfl) ?_
  refine m_Rq.callE (x_cs (n := 119) d_156_1 rfl q_131 rfl rfl m_hn1 rfl rfl) (s_isNode1 (by decide) (by decide)) rfl ?_ (by decide) (by decide)
  refine m_Rq.n0 (x_iff d_156_4 rfl (by decide)) ?_
  refine m_Rq.n0 (x_iload_n d_156_7 rfl) ?_
  refine m_Rq.n0 (x_bipush (z := 32) d_156_8 (by decide)) ?_
  refine m_Rq.n0 (x_icf d_156_10 rfl (decide_eq_false h0)) ?_
  refine m_Rq.n0 (x_iload_n d_156_13 rfl) ?_
  refine m_Rq.n0 (x_sipush (z := 2000) d_156_14 (by decide)) ?_
  refine m_Rq.n0 (x_ict d_156_17 rfl (decide_eq_true h1)) ?_
  refine m_Rq.n0 (x_aload_n d_156_22 rfl) ?_
  refine m_Rq.n0 (x_getf d_156_23 rfl a_512 rfl) ?_
  refine m_Rq.n0 (x_iload_n d_156_26 rfl) ?_
  refine m_Rq.n0 (x_aaload (j := 2) d_156_27 a_519 rfl rfl (by decide) (by decide) (by decide) rfl) ?_
  refine m_Rq.n0 (x_getf d_156_28 rfl a_543 rfl) ?_
  refine m_Rq.n0 (x_iload_n d_156_31 rfl) ?_
  refine m_Rq.n0 (x_putf d_156_32 rfl a_544 rfl (by decide) rfl rfl rfl rfl) ?_
  exact c_budget2_2 (w := (w_1.set (544 - 512) (.inr (5, [.ref 545, .ref 546, .int b])))) (by rw [List.length_set]; exact m_hn1) (m_at_ne (a := 544) a_512 rfl) (m_at_ne (a := 544) a_519 rfl) (m_at_ne (a := 544) a_543 rfl) (m_at_eq (a := 544) a_544) (m_at_ne (a := 544) a_545 rfl) (m_at_ne (a := 544) a_546 rfl)
theorem c_eo_2 {w : List mM} (hl : 119 ≤ w.length) (h543 : m_at w 543 = some (.inr (4, [.int 2, .ref 544, .ref 547, .ref 548, .ref 549, .ref 550, .int 1, .int 0, .int 0, .int 0, .int 0]))) (h547 : m_at w 547 = some (.inr (2, [.ref 0, .int 0, .int 0]))) : m_Rq M_235 (m_ent M_235 [.ref 512, .ref 543] w) (fun v w' => v = none ∧ w' = w) 0 0 1 100 := by
  show m_Rq M_235 (0, [(0, .ref 512), (1, .ref 543)], [], w) _ 0 0 1 100
  refine m_Rq.n0 (x_aload_n d_235_0 rfl) ?_
  refine m_Rq.n0 (x_getf d_235_1 rfl h543 rfl) ?_
  refine m_Rq.callE (x_cv (n := 119) d_235_4 rfl q_101 (m_isRecv_of rfl h547) rfl rfl hl rfl) (s_isEmpty h547) rfl ?_ (by decide) (by decide)
  refine m_Rq.n0 (x_ift d_235_7 rfl (by decide)) ?_
  refine m_Rq.vr d_235_80 rfl ?_
  exact ⟨rfl, rfl⟩
theorem s_sizeOf_554 {w : List mM} (hl : 119 ≤ w.length) (h554 : m_at w 554 = some (.inr (2, [.ref 0, .int 0, .int 0]))) : m_Rq M_98 (m_ent M_98 [.ref 552, .ref 554] w) (fun v w' => v = some (.int 0) ∧ w' = w) 0 0 1 100 := by
  show m_Rq M_98 (0, [(0, .ref 552), (1, .ref 554)], [], w) _ 0 0 1 100
  refine m_Rq.n0 (x_iconst (z := 0) d_98_0 (by decide)) ?_
  refine m_Rq.n0 (x_istore_n d_98_1 rfl (show m_put1 _ _ _ = [(2, _), (0, _), (1, _)] from rfl)) ?_
  refine m_Rq.n0 (x_iconst (z := 0) d_98_2 (by decide)) ?_
  refine m_Rq.n0 (x_istore_n d_98_3 rfl (show m_put1 _ _ _ = [(3, _), (2, _), (0, _), (1, _)] from rfl)) ?_
  refine m_Rq.n0 (x_iload_n d_98_4 rfl) ?_
  refine m_Rq.n0 (x_aload_n d_98_5 rfl) ?_
  refine m_Rq.callE (x_cv (n := 119) d_98_6 rfl q_17 (m_isRecv_of rfl h554) rfl rfl hl rfl) (s_size h554) rfl ?_ (by decide) (by decide)
  refine m_Rq.n0 (x_ict d_98_9 rfl (by decide)) ?_
  refine m_Rq.n0 (x_iload_n d_98_32 rfl) ?_
  refine m_Rq.ir d_98_33 rfl rfl ?_
  exact ⟨rfl, rfl⟩
theorem s_sizeOf_553 {w : List mM} (hl : 119 ≤ w.length) (h553 : m_at w 553 = some (.inr (2, [.ref 0, .int 0, .int 0]))) : m_Rq M_98 (m_ent M_98 [.ref 552, .ref 553] w) (fun v w' => v = some (.int 0) ∧ w' = w) 0 0 1 100 := by
  show m_Rq M_98 (0, [(0, .ref 552), (1, .ref 553)], [], w) _ 0 0 1 100
  refine m_Rq.n0 (x_iconst (z := 0) d_98_0 (by decide)) ?_
  refine m_Rq.n0 (x_istore_n d_98_1 rfl (show m_put1 _ _ _ = [(2, _), (0, _), (1, _)] from rfl)) ?_
  refine m_Rq.n0 (x_iconst (z := 0) d_98_2 (by decide)) ?_
  refine m_Rq.n0 (x_istore_n d_98_3 rfl (show m_put1 _ _ _ = [(3, _), (2, _), (0, _), (1, _)] from rfl)) ?_
  refine m_Rq.n0 (x_iload_n d_98_4 rfl) ?_
  refine m_Rq.n0 (x_aload_n d_98_5 rfl) ?_
  refine m_Rq.callE (x_cv (n := 119) d_98_6 rfl q_17 (m_isRecv_of rfl h553) rfl rfl hl rfl) (s_size h553) rfl ?_ (by decide) (by decide)
  refine m_Rq.n0 (x_ict d_98_9 rfl (by decide)) ?_
  refine m_Rq.n0 (x_iload_n d_98_32 rfl) ?_
  refine m_Rq.ir d_98_33 rfl rfl ?_
  exact ⟨rfl, rfl⟩
theorem s_count_552 {w : List mM} (hl : 119 ≤ w.length) {g : Value} (h552 : m_at w 552 = some (.inr (5, [.ref 553, .ref 554, g]))) (h553 : m_at w 553 = some (.inr (2, [.ref 0, .int 0, .int 0]))) (h554 : m_at w 554 = some (.inr (2, [.ref 0, .int 0, .int 0]))) : m_Rq M_75 (m_ent M_75 [.ref 552] w) (fun v w' => v = some (.int 0) ∧ w' = w) 0 0 1 100 := by
  show m_Rq M_75 (0, [(0, .ref 552)], [], w) _ 0 0 1 100
  refine m_Rq.n0 (x_aload_n d_75_0 rfl) ?_
  refine m_Rq.n0 (x_getf d_75_1 rfl h552 rfl) ?_
  refine m_Rq.callE (x_cv (n := 119) d_75_4 rfl q_17 (m_isRecv_of rfl h553) rfl rfl hl rfl) (s_size h553) rfl ?_ (by decide) (by decide)
  refine m_Rq.n0 (x_aload_n d_75_7 rfl) ?_
  refine m_Rq.n0 (x_getf d_75_8 rfl h552 rfl) ?_
  refine m_Rq.callE (x_cv (n := 119) d_75_11 rfl q_17 (m_isRecv_of rfl h554) rfl rfl hl rfl) (s_size h554) rfl ?_ (by decide) (by decide)
  refine m_Rq.n0 (x_iadd (z := 0) d_75_14 (by decide)) ?_
  refine m_Rq.ir d_75_15 rfl rfl ?_
  exact ⟨rfl, rfl⟩
theorem s_balance_552 {w : List mM} (hl : 119 ≤ w.length) {g : Value} (h552 : m_at w 552 = some (.inr (5, [.ref 553, .ref 554, g]))) (h553 : m_at w 553 = some (.inr (2, [.ref 0, .int 0, .int 0]))) (h554 : m_at w 554 = some (.inr (2, [.ref 0, .int 0, .int 0]))) : m_Rq M_97 (m_ent M_97 [.ref 552] w) (fun v w' => v = none ∧ w' = w) 0 0 3 300 := by
  show m_Rq M_97 (0, [(0, .ref 552)], [], w) _ 0 0 3 300
  refine m_Rq.n0 (x_aload_n d_97_0 rfl) ?_
  refine m_Rq.n0 (x_aload_n d_97_1 rfl) ?_
  refine m_Rq.n0 (x_getf d_97_2 rfl h552 rfl) ?_
  refine m_Rq.callE (x_cv (n := 119) d_97_5 rfl q_98 (m_isRecv_of rfl h552) rfl rfl hl rfl) (s_sizeOf_554 hl h554) rfl ?_ (by decide) (by decide)
  refine m_Rq.n0 (x_istore_n d_97_8 rfl (show m_put1 _ _ _ = [(1, _), (0, _)] from rfl)) ?_
  refine m_Rq.n0 (x_iload_n d_97_9 rfl) ?_
  refine m_Rq.n0 (x_aload_n d_97_10 rfl) ?_
  refine m_Rq.n0 (x_aload_n d_97_11 rfl) ?_
  refine m_Rq.n0 (x_getf d_97_12 rfl h552 rfl) ?_
  refine m_Rq.callE (x_cv (n := 119) d_97_15 rfl q_98 (m_isRecv_of rfl h552) rfl rfl hl rfl) (s_sizeOf_553 hl h553) rfl ?_ (by decide) (by decide)
  refine m_Rq.n0 (x_iadd (z := 0) d_97_18 (by decide)) ?_
  refine m_Rq.n0 (x_istore_n d_97_19 rfl (show m_put1 _ _ _ = [(2, _), (1, _), (0, _)] from rfl)) ?_
  refine m_Rq.n0 (x_aload_n d_97_20 rfl) ?_
  refine m_Rq.n0 (x_getf d_97_21 rfl h552 rfl) ?_
  refine m_Rq.callE (x_cv (n := 119) d_97_24 rfl q_101 (m_isRecv_of rfl h554) rfl rfl hl rfl) (s_isEmpty h554) rfl ?_ (by decide) (by decide)
  refine m_Rq.n0 (x_ift d_97_27 rfl (by decide)) ?_
  refine m_Rq.n0 (x_aload_n d_97_76 rfl) ?_
  refine m_Rq.callE (x_cv (n := 119) d_97_77 rfl q_75 (m_isRecv_of rfl h552) rfl rfl hl rfl) (s_count_552 hl h552 h553 h554) rfl ?_ (by decide) (by decide)
  refine m_Rq.n0 (x_ift d_97_80 rfl (by decide)) ?_
  refine m_Rq.vr d_97_137 rfl ?_
  exact ⟨rfl, rfl⟩
theorem s_find_552 {w : List mM} (hl : 119 ≤ w.length) {g : Value} (h552 : m_at w 552 = some (.inr (5, [.ref 553, .ref 554, g]))) (h553 : m_at w 553 = some (.inr (2, [.ref 0, .int 0, .int 0]))) (h554 : m_at w 554 = some (.inr (2, [.ref 0, .int 0, .int 0]))) {p v q : Int32}  : m_Rq M_144 (m_ent M_144 [.ref 552, .int p, .int v, .int q] w) (fun v w' => v = some .null ∧ w' = w) 0 0 2 200 := by
  show m_Rq M_144 (0, [(0, .ref 552), (1, .int p), (2, .int v), (3, .int q)], [], w) _ 0 0 2 200
  refine m_Rq.n0 (x_iconst (z := 0) d_144_0 (by decide)) ?_
  refine m_Rq.n0 (x_istore d_144_1 rfl (show m_put1 _ _ _ = [(4, _), (0, _), (1, _), (2, _), (3, _)] from rfl)) ?_
  refine m_Rq.n0 (x_iload d_144_3 rfl) ?_
  refine m_Rq.n0 (x_aload_n d_144_5 rfl) ?_
  refine m_Rq.callE (x_cv (n := 119) d_144_6 rfl q_75 (m_isRecv_of rfl h552) rfl rfl hl rfl) (s_count_552 hl h552 h553 h554) rfl ?_ (by decide) (by decide)
  refine m_Rq.n0 (x_ict d_144_9 rfl (by decide)) ?_
  refine m_Rq.n0 (x_null d_144_53) ?_
  refine m_Rq.nr d_144_54 rfl ?_
  exact ⟨rfl, rfl⟩
theorem c_entry_3 {p v q r : Int32} : m_Rq M_223 (m_ent M_223 [.ref 512, .int 3, .int p, .int v, .int q, .int r] w_1) (fun v w' => v = some (.int (-1)) ∧ w' = w_1) 0 0 10 1000 := by
  show m_Rq M_223 (0, [(0, .ref 512), (1, .int 3), (2, .int p), (3, .int v), (4, .int q), (5, .int r)], [], w_1) _ 0 0 10 1000
  refine m_Rq.n0 (x_iload_n d_223_0 rfl) ?_
  refine m_Rq.callE (x_cs (n := 119) d_223_1 rfl q_131 rfl rfl m_hn1 rfl rfl) (s_isNode1 (by decide) (by decide)) rfl ?_ (by decide) (by decide)
  refine m_Rq.n0 (x_ift d_223_4 rfl (by decide)) ?_
  refine m_Rq.n0 (x_aload_n d_223_9 rfl) ?_
  refine m_Rq.n0 (x_getf d_223_10 rfl a_512 rfl) ?_
  refine m_Rq.n0 (x_iload_n d_223_13 rfl) ?_
  refine m_Rq.n0 (x_aaload (j := 3) d_223_14 a_519 rfl rfl (by decide) (by decide) (by decide) rfl) ?_
  refine m_Rq.n0 (x_getf d_223_15 rfl a_551 rfl) ?_
  refine m_Rq.n0 (x_astore d_223_18 rfl (show m_put1 _ _ _ = [(6, _), (0, _), (1, _), (2, _), (3, _), (4, _), (5, _)] from rfl)) ?_
  refine m_Rq.n0 (x_aload d_223_20 rfl) ?_
  refine m_Rq.n0 (x_iload_n d_223_22 rfl) ?_
  refine m_Rq.n0 (x_iload_n d_223_23 rfl) ?_
  refine m_Rq.n0 (x_iload d_223_24 rfl) ?_
  refine m_Rq.callE (x_cv (n := 119) d_223_26 rfl q_144 (m_isRecv_of rfl a_552) rfl rfl m_hn1 rfl) (s_find_552 m_hn1 a_552 a_553 a_554) rfl ?_ (by decide) (by decide)
  refine m_Rq.n0 (x_astore0 d_223_29 rfl (show m_put1 _ _ _ = [(7, _), (6, _), (0, _), (1, _), (2, _), (3, _), (4, _), (5, _)] from rfl)) ?_
  refine m_Rq.n0 (x_aload0 d_223_31 rfl) ?_
  refine m_Rq.n0 (x_ifnonnull0 d_223_33 rfl) ?_
  refine m_Rq.n0 (x_iconst (z := (-1)) d_223_36 (by decide)) ?_
  refine m_Rq.ir d_223_37 rfl rfl ?_
  exact ⟨rfl, rfl⟩
theorem c_budget2_3 {w : List mM} (hl : 119 ≤ w.length) (h512 : m_at w 512 = some (.inr (0, [.ref 513, .ref 517, .ref 518, .ref 519, .ref 520, .ref 521, .ref 522, .ref 523, .ref 524, .ref 525, .int 0, .int 0, .int 0, .int 0, .int 0]))) (h519 : m_at w 519 = some (.inl (7, 7, [(6, .ref 575), (5, .ref 567), (4, .ref 559), (3, .ref 551), (2, .ref 543), (1, .ref 535), (0, .ref 527)]))) (h551 : m_at w 551 = some (.inr (4, [.int 3, .ref 552, .ref 555, .ref 556, .ref 557, .ref 558, .int 1, .int 0, .int 0, .int 0, .int 0]))) {g : Value} (h552 : m_at w 552 = some (.inr (5, [.ref 553, .ref 554, g]))) (h553 : m_at w 553 = some (.inr (2, [.ref 0, .int 0, .int 0]))) (h554 : m_at w 554 = some (.inr (2, [.ref 0, .int 0, .int 0]))) {b : Int32} : m_Rq M_156 (35, [(0, .ref 512), (1, .int 3), (2, .int b)], [], w) (fun v w' => v = some (.int 1) ∧ w' = w) 0 0 10 1000 := by
  refine m_Rq.n0 (x_aload_n d_156_35 rfl) ?_
  refine m_Rq.n0 (x_getf d_156_36 rfl h512 rfl) ?_
  refine m_Rq.n0 (x_iload_n d_156_39 rfl) ?_
  refine m_Rq.n0 (x_aaload (j := 3) d_156_40 h519 rfl rfl (by decide) (by decide) (by decide) rfl) ?_
  refine m_Rq.n0 (x_getf d_156_41 rfl h551 rfl) ?_
  refine m_Rq.callV (x_cv (n := 119) d_156_44 rfl q_97 (m_isRecv_of rfl h552) rfl rfl hl rfl) (s_balance_552 hl h552 h553 h554) rfl ?_ (by decide) (by decide)
  refine m_Rq.n0 (x_iconst (z := 1) d_156_47 (by decide)) ?_
  refine m_Rq.ir d_156_48 rfl rfl ?_
  exact ⟨rfl, rfl⟩
theorem c_budget_3 {b : Int32} (h0 : ¬ b < 32) (h1 : b ≤ 2000) : m_Rq M_156 (m_ent M_156 [.ref 512, .int 3, .int b] w_1) (fun v w' => v = some (.int 1) ∧ w' = (w_1.set (552 - 512) (.inr (5, [.ref 553, .ref 554, .int b])))) 0 0 10 1000 := by
  show m_Rq M_156 (0, [(0, .ref 512), (1, .int 3), (2, .int b)], [], w_1) _ 0 0 10 1000
  refine m_Rq.n0 (x_iload_n d_156_0 rfl) ?_
  refine m_Rq.callE (x_cs (n := 119) d_156_1 rfl q_131 rfl rfl m_hn1 rfl rfl) (s_isNode1 (by decide) (by decide)) rfl ?_ (by decide) (by decide)
  refine m_Rq.n0 (x_iff d_156_4 rfl (by decide)) ?_
  refine m_Rq.n0 (x_iload_n d_156_7 rfl) ?_
  refine m_Rq.n0 (x_bipush (z := 32) d_156_8 (by decide)) ?_
  refine m_Rq.n0 (x_icf d_156_10 rfl (decide_eq_false h0)) ?_
  refine m_Rq.n0 (x_iload_n d_156_13 rfl) ?_
  refine m_Rq.n0 (x_sipush (z := 2000) d_156_14 (by decide)) ?_
  refine m_Rq.n0 (x_ict d_156_17 rfl (decide_eq_true h1)) ?_
  refine m_Rq.n0 (x_aload_n d_156_22 rfl) ?_
  refine m_Rq.n0 (x_getf d_156_23 rfl a_512 rfl) ?_
  refine m_Rq.n0 (x_iload_n d_156_26 rfl) ?_
  refine m_Rq.n0 (x_aaload (j := 3) d_156_27 a_519 rfl rfl (by decide) (by decide) (by decide) rfl) ?_
  refine m_Rq.n0 (x_getf d_156_28 rfl a_551 rfl) ?_
  refine m_Rq.n0 (x_iload_n d_156_31 rfl) ?_
  refine m_Rq.n0 (x_putf d_156_32 rfl a_552 rfl (by decide) rfl rfl rfl rfl) ?_
  exact c_budget2_3 (w := (w_1.set (552 - 512) (.inr (5, [.ref 553, .ref 554, .int b])))) (by rw [List.length_set]; exact m_hn1) (m_at_ne (a := 552) a_512 rfl) (m_at_ne (a := 552) a_519 rfl) (m_at_ne (a := 552) a_551 rfl) (m_at_eq (a := 552) a_552) (m_at_ne (a := 552) a_553 rfl) (m_at_ne (a := 552) a_554 rfl)
theorem c_eo_3 {w : List mM} (hl : 119 ≤ w.length) (h551 : m_at w 551 = some (.inr (4, [.int 3, .ref 552, .ref 555, .ref 556, .ref 557, .ref 558, .int 1, .int 0, .int 0, .int 0, .int 0]))) (h555 : m_at w 555 = some (.inr (2, [.ref 0, .int 0, .int 0]))) : m_Rq M_235 (m_ent M_235 [.ref 512, .ref 551] w) (fun v w' => v = none ∧ w' = w) 0 0 1 100 := by
  show m_Rq M_235 (0, [(0, .ref 512), (1, .ref 551)], [], w) _ 0 0 1 100
  refine m_Rq.n0 (x_aload_n d_235_0 rfl) ?_
  refine m_Rq.n0 (x_getf d_235_1 rfl h551 rfl) ?_
  refine m_Rq.callE (x_cv (n := 119) d_235_4 rfl q_101 (m_isRecv_of rfl h555) rfl rfl hl rfl) (s_isEmpty h555) rfl ?_ (by decide) (by decide)
  refine m_Rq.n0 (x_ift d_235_7 rfl (by decide)) ?_
  refine m_Rq.vr d_235_80 rfl ?_
  exact ⟨rfl, rfl⟩
theorem s_sizeOf_562 {w : List mM} (hl : 119 ≤ w.length) (h562 : m_at w 562 = some (.inr (2, [.ref 0, .int 0, .int 0]))) : m_Rq M_98 (m_ent M_98 [.ref 560, .ref 562] w) (fun v w' => v = some (.int 0) ∧ w' = w) 0 0 1 100 := by
  show m_Rq M_98 (0, [(0, .ref 560), (1, .ref 562)], [], w) _ 0 0 1 100
  refine m_Rq.n0 (x_iconst (z := 0) d_98_0 (by decide)) ?_
  refine m_Rq.n0 (x_istore_n d_98_1 rfl (show m_put1 _ _ _ = [(2, _), (0, _), (1, _)] from rfl)) ?_
  refine m_Rq.n0 (x_iconst (z := 0) d_98_2 (by decide)) ?_
  refine m_Rq.n0 (x_istore_n d_98_3 rfl (show m_put1 _ _ _ = [(3, _), (2, _), (0, _), (1, _)] from rfl)) ?_
  refine m_Rq.n0 (x_iload_n d_98_4 rfl) ?_
  refine m_Rq.n0 (x_aload_n d_98_5 rfl) ?_
  refine m_Rq.callE (x_cv (n := 119) d_98_6 rfl q_17 (m_isRecv_of rfl h562) rfl rfl hl rfl) (s_size h562) rfl ?_ (by decide) (by decide)
  refine m_Rq.n0 (x_ict d_98_9 rfl (by decide)) ?_
  refine m_Rq.n0 (x_iload_n d_98_32 rfl) ?_
  refine m_Rq.ir d_98_33 rfl rfl ?_
  exact ⟨rfl, rfl⟩
theorem s_sizeOf_561 {w : List mM} (hl : 119 ≤ w.length) (h561 : m_at w 561 = some (.inr (2, [.ref 0, .int 0, .int 0]))) : m_Rq M_98 (m_ent M_98 [.ref 560, .ref 561] w) (fun v w' => v = some (.int 0) ∧ w' = w) 0 0 1 100 := by
  show m_Rq M_98 (0, [(0, .ref 560), (1, .ref 561)], [], w) _ 0 0 1 100
  refine m_Rq.n0 (x_iconst (z := 0) d_98_0 (by decide)) ?_
  refine m_Rq.n0 (x_istore_n d_98_1 rfl (show m_put1 _ _ _ = [(2, _), (0, _), (1, _)] from rfl)) ?_
  refine m_Rq.n0 (x_iconst (z := 0) d_98_2 (by decide)) ?_
  refine m_Rq.n0 (x_istore_n d_98_3 rfl (show m_put1 _ _ _ = [(3, _), (2, _), (0, _), (1, _)] from rfl)) ?_
  refine m_Rq.n0 (x_iload_n d_98_4 rfl) ?_
  refine m_Rq.n0 (x_aload_n d_98_5 rfl) ?_
  refine m_Rq.callE (x_cv (n := 119) d_98_6 rfl q_17 (m_isRecv_of rfl h561) rfl rfl hl rfl) (s_size h561) rfl ?_ (by decide) (by decide)
  refine m_Rq.n0 (x_ict d_98_9 rfl (by decide)) ?_
  refine m_Rq.n0 (x_iload_n d_98_32 rfl) ?_
  refine m_Rq.ir d_98_33 rfl rfl ?_
  exact ⟨rfl, rfl⟩
theorem s_count_560 {w : List mM} (hl : 119 ≤ w.length) {g : Value} (h560 : m_at w 560 = some (.inr (5, [.ref 561, .ref 562, g]))) (h561 : m_at w 561 = some (.inr (2, [.ref 0, .int 0, .int 0]))) (h562 : m_at w 562 = some (.inr (2, [.ref 0, .int 0, .int 0]))) : m_Rq M_75 (m_ent M_75 [.ref 560] w) (fun v w' => v = some (.int 0) ∧ w' = w) 0 0 1 100 := by
  show m_Rq M_75 (0, [(0, .ref 560)], [], w) _ 0 0 1 100
  refine m_Rq.n0 (x_aload_n d_75_0 rfl) ?_
  refine m_Rq.n0 (x_getf d_75_1 rfl h560 rfl) ?_
  refine m_Rq.callE (x_cv (n := 119) d_75_4 rfl q_17 (m_isRecv_of rfl h561) rfl rfl hl rfl) (s_size h561) rfl ?_ (by decide) (by decide)
  refine m_Rq.n0 (x_aload_n d_75_7 rfl) ?_
  refine m_Rq.n0 (x_getf d_75_8 rfl h560 rfl) ?_
  refine m_Rq.callE (x_cv (n := 119) d_75_11 rfl q_17 (m_isRecv_of rfl h562) rfl rfl hl rfl) (s_size h562) rfl ?_ (by decide) (by decide)
  refine m_Rq.n0 (x_iadd (z := 0) d_75_14 (by decide)) ?_
  refine m_Rq.ir d_75_15 rfl rfl ?_
  exact ⟨rfl, rfl⟩
theorem s_balance_560 {w : List mM} (hl : 119 ≤ w.length) {g : Value} (h560 : m_at w 560 = some (.inr (5, [.ref 561, .ref 562, g]))) (h561 : m_at w 561 = some (.inr (2, [.ref 0, .int 0, .int 0]))) (h562 : m_at w 562 = some (.inr (2, [.ref 0, .int 0, .int 0]))) : m_Rq M_97 (m_ent M_97 [.ref 560] w) (fun v w' => v = none ∧ w' = w) 0 0 3 300 := by
  show m_Rq M_97 (0, [(0, .ref 560)], [], w) _ 0 0 3 300
  refine m_Rq.n0 (x_aload_n d_97_0 rfl) ?_
  refine m_Rq.n0 (x_aload_n d_97_1 rfl) ?_
  refine m_Rq.n0 (x_getf d_97_2 rfl h560 rfl) ?_
  refine m_Rq.callE (x_cv (n := 119) d_97_5 rfl q_98 (m_isRecv_of rfl h560) rfl rfl hl rfl) (s_sizeOf_562 hl h562) rfl ?_ (by decide) (by decide)
  refine m_Rq.n0 (x_istore_n d_97_8 rfl (show m_put1 _ _ _ = [(1, _), (0, _)] from rfl)) ?_
  refine m_Rq.n0 (x_iload_n d_97_9 rfl) ?_
  refine m_Rq.n0 (x_aload_n d_97_10 rfl) ?_
  refine m_Rq.n0 (x_aload_n d_97_11 rfl) ?_
  refine m_Rq.n0 (x_getf d_97_12 rfl h560 rfl) ?_
  refine m_Rq.callE (x_cv (n := 119) d_97_15 rfl q_98 (m_isRecv_of rfl h560) rfl rfl hl rfl) (s_sizeOf_561 hl h561) rfl ?_ (by decide) (by decide)
  refine m_Rq.n0 (x_iadd (z := 0) d_97_18 (by decide)) ?_
  refine m_Rq.n0 (x_istore_n d_97_19 rfl (show m_put1 _ _ _ = [(2, _), (1, _), (0, _)] from rfl)) ?_
  refine m_Rq.n0 (x_aload_n d_97_20 rfl) ?_
  refine m_Rq.n0 (x_getf d_97_21 rfl h560 rfl) ?_
  refine m_Rq.callE (x_cv (n := 119) d_97_24 rfl q_101 (m_isRecv_of rfl h562) rfl rfl hl rfl) (s_isEmpty h562) rfl ?_ (by decide) (by decide)
  refine m_Rq.n0 (x_ift d_97_27 rfl (by decide)) ?_
  refine m_Rq.n0 (x_aload_n d_97_76 rfl) ?_
  refine m_Rq.callE (x_cv (n := 119) d_97_77 rfl q_75 (m_isRecv_of rfl h560) rfl rfl hl rfl) (s_count_560 hl h560 h561 h562) rfl ?_ (by decide) (by decide)
  refine m_Rq.n0 (x_ift d_97_80 rfl (by decide)) ?_
  refine m_Rq.vr d_97_137 rfl ?_
  exact ⟨rfl, rfl⟩
theorem s_find_560 {w : List mM} (hl : 119 ≤ w.length) {g : Value} (h560 : m_at w 560 = some (.inr (5, [.ref 561, .ref 562, g]))) (h561 : m_at w 561 = some (.inr (2, [.ref 0, .int 0, .int 0]))) (h562 : m_at w 562 = some (.inr (2, [.ref 0, .int 0, .int 0]))) {p v q : Int32}  : m_Rq M_144 (m_ent M_144 [.ref 560, .int p, .int v, .int q] w) (fun v w' => v = some .null ∧ w' = w) 0 0 2 200 := by
  show m_Rq M_144 (0, [(0, .ref 560), (1, .int p), (2, .int v), (3, .int q)], [], w) _ 0 0 2 200
  refine m_Rq.n0 (x_iconst (z := 0) d_144_0 (by decide)) ?_
  refine m_Rq.n0 (x_istore d_144_1 rfl (show m_put1 _ _ _ = [(4, _), (0, _), (1, _), (2, _), (3, _)] from rfl)) ?_
  refine m_Rq.n0 (x_iload d_144_3 rfl) ?_
  refine m_Rq.n0 (x_aload_n d_144_5 rfl) ?_
  refine m_Rq.callE (x_cv (n := 119) d_144_6 rfl q_75 (m_isRecv_of rfl h560) rfl rfl hl rfl) (s_count_560 hl h560 h561 h562) rfl ?_ (by decide) (by decide)
  refine m_Rq.n0 (x_ict d_144_9 rfl (by decide)) ?_
  refine m_Rq.n0 (x_null d_144_53) ?_
  refine m_Rq.nr d_144_54 rfl ?_
  exact ⟨rfl, rfl⟩
theorem c_entry_4 {p v q r : Int32} : m_Rq M_223 (m_ent M_223 [.ref 512, .int 4, .int p, .int v, .int q, .int r] w_1) (fun v w' => v = some (.int (-1)) ∧ w' = w_1) 0 0 10 1000 := by
  show m_Rq M_223 (0, [(0, .ref 512), (1, .int 4), (2, .int p), (3, .int v), (4, .int q), (5, .int r)], [], w_1) _ 0 0 10 1000
  refine m_Rq.n0 (x_iload_n d_223_0 rfl) ?_
  refine m_Rq.callE (x_cs (n := 119) d_223_1 rfl q_131 rfl rfl m_hn1 rfl rfl) (s_isNode1 (by decide) (by decide)) rfl ?_ (by decide) (by decide)
  refine m_Rq.n0 (x_ift d_223_4 rfl (by decide)) ?_
  refine m_Rq.n0 (x_aload_n d_223_9 rfl) ?_
  refine m_Rq.n0 (x_getf d_223_10 rfl a_512 rfl) ?_
  refine m_Rq.n0 (x_iload_n d_223_13 rfl) ?_
  refine m_Rq.n0 (x_aaload (j := 4) d_223_14 a_519 rfl rfl (by decide) (by decide) (by decide) rfl) ?_
  refine m_Rq.n0 (x_getf d_223_15 rfl a_559 rfl) ?_
  refine m_Rq.n0 (x_astore d_223_18 rfl (show m_put1 _ _ _ = [(6, _), (0, _), (1, _), (2, _), (3, _), (4, _), (5, _)] from rfl)) ?_
  refine m_Rq.n0 (x_aload d_223_20 rfl) ?_
  refine m_Rq.n0 (x_iload_n d_223_22 rfl) ?_
  refine m_Rq.n0 (x_iload_n d_223_23 rfl) ?_
  refine m_Rq.n0 (x_iload d_223_24 rfl) ?_
  refine m_Rq.callE (x_cv (n := 119) d_223_26 rfl q_144 (m_isRecv_of rfl a_560) rfl rfl m_hn1 rfl) (s_find_560 m_hn1 a_560 a_561 a_562) rfl ?_ (by decide) (by decide)
  refine m_Rq.n0 (x_astore0 d_223_29 rfl (show m_put1 _ _ _ = [(7, _), (6, _), (0, _), (1, _), (2, _), (3, _), (4, _), (5, _)] from rfl)) ?_
  refine m_Rq.n0 (x_aload0 d_223_31 rfl) ?_
  refine m_Rq.n0 (x_ifnonnull0 d_223_33 rfl) ?_
  refine m_Rq.n0 (x_iconst (z := (-1)) d_223_36 (by decide)) ?_
  refine m_Rq.ir d_223_37 rfl rfl ?_
  exact ⟨rfl, rfl⟩
theorem c_budget2_4 {w : List mM} (hl : 119 ≤ w.length) (h512 : m_at w 512 = some (.inr (0, [.ref 513, .ref 517, .ref 518, .ref 519, .ref 520, .ref 521, .ref 522, .ref 523, .ref 524, .ref 525, .int 0, .int 0, .int 0, .int 0, .int 0]))) (h519 : m_at w 519 = some (.inl (7, 7, [(6, .ref 575), (5, .ref 567), (4, .ref 559), (3, .ref 551), (2, .ref 543), (1, .ref 535), (0, .ref 527)]))) (h559 : m_at w 559 = some (.inr (4, [.int 4, .ref 560, .ref 563, .ref 564, .ref 565, .ref 566, .int 1, .int 0, .int 0, .int 0, .int 0]))) {g : Value} (h560 : m_at w 560 = some (.inr (5, [.ref 561, .ref 562, g]))) (h561 : m_at w 561 = some (.inr (2, [.ref 0, .int 0, .int 0]))) (h562 : m_at w 562 = some (.inr (2, [.ref 0, .int 0, .int 0]))) {b : Int32} : m_Rq M_156 (35, [(0, .ref 512), (1, .int 4), (2, .int b)], [], w) (fun v w' => v = some (.int 1) ∧ w' = w) 0 0 10 1000 := by
  refine m_Rq.n0 (x_aload_n d_156_35 rfl) ?_
  refine m_Rq.n0 (x_getf d_156_36 rfl h512 rfl) ?_
  refine m_Rq.n0 (x_iload_n d_156_39 rfl) ?_
  refine m_Rq.n0 (x_aaload (j := 4) d_156_40 h519 rfl rfl (by decide) (by decide) (by decide) rfl) ?_
  refine m_Rq.n0 (x_getf d_156_41 rfl h559 rfl) ?_
  refine m_Rq.callV (x_cv (n := 119) d_156_44 rfl q_97 (m_isRecv_of rfl h560) rfl rfl hl rfl) (s_balance_560 hl h560 h561 h562) rfl ?_ (by decide) (by decide)
  refine m_Rq.n0 (x_iconst (z := 1) d_156_47 (by decide)) ?_
  refine m_Rq.ir d_156_48 rfl rfl ?_
  exact ⟨rfl, rfl⟩
theorem c_budget_4 {b : Int32} (h0 : ¬ b < 32) (h1 : b ≤ 2000) : m_Rq M_156 (m_ent M_156 [.ref 512, .int 4, .int b] w_1) (fun v w' => v = some (.int 1) ∧ w' = (w_1.set (560 - 512) (.inr (5, [.ref 561, .ref 562, .int b])))) 0 0 10 1000 := by
  show m_Rq M_156 (0, [(0, .ref 512), (1, .int 4), (2, .int b)], [], w_1) _ 0 0 10 1000
  refine m_Rq.n0 (x_iload_n d_156_0 rfl) ?_
  refine m_Rq.callE (x_cs (n := 119) d_156_1 rfl q_131 rfl rfl m_hn1 rfl rfl) (s_isNode1 (by decide) (by decide)) rfl ?_ (by decide) (by decide)
  refine m_Rq.n0 (x_iff d_156_4 rfl (by decide)) ?_
  refine m_Rq.n0 (x_iload_n d_156_7 rfl) ?_
  refine m_Rq.n0 (x_bipush (z := 32) d_156_8 (by decide)) ?_
  refine m_Rq.n0 (x_icf d_156_10 rfl (decide_eq_false h0)) ?_
  refine m_Rq.n0 (x_iload_n d_156_13 rfl) ?_
  refine m_Rq.n0 (x_sipush (z := 2000) d_156_14 (by decide)) ?_
  refine m_Rq.n0 (x_ict d_156_17 rfl (decide_eq_true h1)) ?_
  refine m_Rq.n0 (x_aload_n d_156_22 rfl) ?_
  refine m_Rq.n0 (x_getf d_156_23 rfl a_512 rfl) ?_
  refine m_Rq.n0 (x_iload_n d_156_26 rfl) ?_
  refine m_Rq.n0 (x_aaload (j := 4) d_156_27 a_519 rfl rfl (by decide) (by decide) (by decide) rfl) ?_
  refine m_Rq.n0 (x_getf d_156_28 rfl a_559 rfl) ?_
  refine m_Rq.n0 (x_iload_n d_156_31 rfl) ?_
  refine m_Rq.n0 (x_putf d_156_32 rfl a_560 rfl (by decide) rfl rfl rfl rfl) ?_
  exact c_budget2_4 (w := (w_1.set (560 - 512) (.inr (5, [.ref 561, .ref 562, .int b])))) (by rw [List.length_set]; exact m_hn1) (m_at_ne (a := 560) a_512 rfl) (m_at_ne (a := 560) a_519 rfl) (m_at_ne (a := 560) a_559 rfl) (m_at_eq (a := 560) a_560) (m_at_ne (a := 560) a_561 rfl) (m_at_ne (a := 560) a_562 rfl)
theorem c_eo_4 {w : List mM} (hl : 119 ≤ w.length) (h559 : m_at w 559 = some (.inr (4, [.int 4, .ref 560, .ref 563, .ref 564, .ref 565, .ref 566, .int 1, .int 0, .int 0, .int 0, .int 0]))) (h563 : m_at w 563 = some (.inr (2, [.ref 0, .int 0, .int 0]))) : m_Rq M_235 (m_ent M_235 [.ref 512, .ref 559] w) (fun v w' => v = none ∧ w' = w) 0 0 1 100 := by
  show m_Rq M_235 (0, [(0, .ref 512), (1, .ref 559)], [], w) _ 0 0 1 100
  refine m_Rq.n0 (x_aload_n d_235_0 rfl) ?_
  refine m_Rq.n0 (x_getf d_235_1 rfl h559 rfl) ?_
  refine m_Rq.callE (x_cv (n := 119) d_235_4 rfl q_101 (m_isRecv_of rfl h563) rfl rfl hl rfl) (s_isEmpty h563) rfl ?_ (by decide) (by decide)
  refine m_Rq.n0 (x_ift d_235_7 rfl (by decide)) ?_
  refine m_Rq.vr d_235_80 rfl ?_
  exact ⟨rfl, rfl⟩
theorem s_sizeOf_570 {w : List mM} (hl : 119 ≤ w.length) (h570 : m_at w 570 = some (.inr (2, [.ref 0, .int 0, .int 0]))) : m_Rq M_98 (m_ent M_98 [.ref 568, .ref 570] w) (fun v w' => v = some (.int 0) ∧ w' = w) 0 0 1 100 := by
  show m_Rq M_98 (0, [(0, .ref 568), (1, .ref 570)], [], w) _ 0 0 1 100
  refine m_Rq.n0 (x_iconst (z := 0) d_98_0 (by decide)) ?_
  refine m_Rq.n0 (x_istore_n d_98_1 rfl (show m_put1 _ _ _ = [(2, _), (0, _), (1, _)] from rfl)) ?_
  refine m_Rq.n0 (x_iconst (z := 0) d_98_2 (by decide)) ?_
  refine m_Rq.n0 (x_istore_n d_98_3 rfl (show m_put1 _ _ _ = [(3, _), (2, _), (0, _), (1, _)] from rfl)) ?_
  refine m_Rq.n0 (x_iload_n d_98_4 rfl) ?_
  refine m_Rq.n0 (x_aload_n d_98_5 rfl) ?_
  refine m_Rq.callE (x_cv (n := 119) d_98_6 rfl q_17 (m_isRecv_of rfl h570) rfl rfl hl rfl) (s_size h570) rfl ?_ (by decide) (by decide)
  refine m_Rq.n0 (x_ict d_98_9 rfl (by decide)) ?_
  refine m_Rq.n0 (x_iload_n d_98_32 rfl) ?_
  refine m_Rq.ir d_98_33 rfl rfl ?_
  exact ⟨rfl, rfl⟩
theorem s_sizeOf_569 {w : List mM} (hl : 119 ≤ w.length) (h569 : m_at w 569 = some (.inr (2, [.ref 0, .int 0, .int 0]))) : m_Rq M_98 (m_ent M_98 [.ref 568, .ref 569] w) (fun v w' => v = some (.int 0) ∧ w' = w) 0 0 1 100 := by
  show m_Rq M_98 (0, [(0, .ref 568), (1, .ref 569)], [], w) _ 0 0 1 100
  refine m_Rq.n0 (x_iconst (z := 0) d_98_0 (by decide)) ?_
  refine m_Rq.n0 (x_istore_n d_98_1 rfl (show m_put1 _ _ _ = [(2, _), (0, _), (1, _)] from rfl)) ?_
  refine m_Rq.n0 (x_iconst (z := 0) d_98_2 (by decide)) ?_
  refine m_Rq.n0 (x_istore_n d_98_3 rfl (show m_put1 _ _ _ = [(3, _), (2, _), (0, _), (1, _)] from rfl)) ?_
  refine m_Rq.n0 (x_iload_n d_98_4 rfl) ?_
  refine m_Rq.n0 (x_aload_n d_98_5 rfl) ?_
  refine m_Rq.callE (x_cv (n := 119) d_98_6 rfl q_17 (m_isRecv_of rfl h569) rfl rfl hl rfl) (s_size h569) rfl ?_ (by decide) (by decide)
  refine m_Rq.n0 (x_ict d_98_9 rfl (by decide)) ?_
  refine m_Rq.n0 (x_iload_n d_98_32 rfl) ?_
  refine m_Rq.ir d_98_33 rfl rfl ?_
  exact ⟨rfl, rfl⟩
theorem s_count_568 {w : List mM} (hl : 119 ≤ w.length) {g : Value} (h568 : m_at w 568 = some (.inr (5, [.ref 569, .ref 570, g]))) (h569 : m_at w 569 = some (.inr (2, [.ref 0, .int 0, .int 0]))) (h570 : m_at w 570 = some (.inr (2, [.ref 0, .int 0, .int 0]))) : m_Rq M_75 (m_ent M_75 [.ref 568] w) (fun v w' => v = some (.int 0) ∧ w' = w) 0 0 1 100 := by
  show m_Rq M_75 (0, [(0, .ref 568)], [], w) _ 0 0 1 100
  refine m_Rq.n0 (x_aload_n d_75_0 rfl) ?_
  refine m_Rq.n0 (x_getf d_75_1 rfl h568 rfl) ?_
  refine m_Rq.callE (x_cv (n := 119) d_75_4 rfl q_17 (m_isRecv_of rfl h569) rfl rfl hl rfl) (s_size h569) rfl ?_ (by decide) (by decide)
  refine m_Rq.n0 (x_aload_n d_75_7 rfl) ?_
  refine m_Rq.n0 (x_getf d_75_8 rfl h568 rfl) ?_
  refine m_Rq.callE (x_cv (n := 119) d_75_11 rfl q_17 (m_isRecv_of rfl h570) rfl rfl hl rfl) (s_size h570) rfl ?_ (by decide) (by decide)
  refine m_Rq.n0 (x_iadd (z := 0) d_75_14 (by decide)) ?_
  refine m_Rq.ir d_75_15 rfl rfl ?_
  exact ⟨rfl, rfl⟩
theorem s_balance_568 {w : List mM} (hl : 119 ≤ w.length) {g : Value} (h568 : m_at w 568 = some (.inr (5, [.ref 569, .ref 570, g]))) (h569 : m_at w 569 = some (.inr (2, [.ref 0, .int 0, .int 0]))) (h570 : m_at w 570 = some (.inr (2, [.ref 0, .int 0, .int 0]))) : m_Rq M_97 (m_ent M_97 [.ref 568] w) (fun v w' => v = none ∧ w' = w) 0 0 3 300 := by
  show m_Rq M_97 (0, [(0, .ref 568)], [], w) _ 0 0 3 300
  refine m_Rq.n0 (x_aload_n d_97_0 rfl) ?_
  refine m_Rq.n0 (x_aload_n d_97_1 rfl) ?_
  refine m_Rq.n0 (x_getf d_97_2 rfl h568 rfl) ?_
  refine m_Rq.callE (x_cv (n := 119) d_97_5 rfl q_98 (m_isRecv_of rfl h568) rfl rfl hl rfl) (s_sizeOf_570 hl h570) rfl ?_ (by decide) (by decide)
  refine m_Rq.n0 (x_istore_n d_97_8 rfl (show m_put1 _ _ _ = [(1, _), (0, _)] from rfl)) ?_
  refine m_Rq.n0 (x_iload_n d_97_9 rfl) ?_
  refine m_Rq.n0 (x_aload_n d_97_10 rfl) ?_
  refine m_Rq.n0 (x_aload_n d_97_11 rfl) ?_
  refine m_Rq.n0 (x_getf d_97_12 rfl h568 rfl) ?_
  refine m_Rq.callE (x_cv (n := 119) d_97_15 rfl q_98 (m_isRecv_of rfl h568) rfl rfl hl rfl) (s_sizeOf_569 hl h569) rfl ?_ (by decide) (by decide)
  refine m_Rq.n0 (x_iadd (z := 0) d_97_18 (by decide)) ?_
  refine m_Rq.n0 (x_istore_n d_97_19 rfl (show m_put1 _ _ _ = [(2, _), (1, _), (0, _)] from rfl)) ?_
  refine m_Rq.n0 (x_aload_n d_97_20 rfl) ?_
  refine m_Rq.n0 (x_getf d_97_21 rfl h568 rfl) ?_
  refine m_Rq.callE (x_cv (n := 119) d_97_24 rfl q_101 (m_isRecv_of rfl h570) rfl rfl hl rfl) (s_isEmpty h570) rfl ?_ (by decide) (by decide)
  refine m_Rq.n0 (x_ift d_97_27 rfl (by decide)) ?_
  refine m_Rq.n0 (x_aload_n d_97_76 rfl) ?_
  refine m_Rq.callE (x_cv (n := 119) d_97_77 rfl q_75 (m_isRecv_of rfl h568) rfl rfl hl rfl) (s_count_568 hl h568 h569 h570) rfl ?_ (by decide) (by decide)
  refine m_Rq.n0 (x_ift d_97_80 rfl (by decide)) ?_
  refine m_Rq.vr d_97_137 rfl ?_
  exact ⟨rfl, rfl⟩
theorem s_find_568 {w : List mM} (hl : 119 ≤ w.length) {g : Value} (h568 : m_at w 568 = some (.inr (5, [.ref 569, .ref 570, g]))) (h569 : m_at w 569 = some (.inr (2, [.ref 0, .int 0, .int 0]))) (h570 : m_at w 570 = some (.inr (2, [.ref 0, .int 0, .int 0]))) {p v q : Int32}  : m_Rq M_144 (m_ent M_144 [.ref 568, .int p, .int v, .int q] w) (fun v w' => v = some .null ∧ w' = w) 0 0 2 200 := by
  show m_Rq M_144 (0, [(0, .ref 568), (1, .int p), (2, .int v), (3, .int q)], [], w) _ 0 0 2 200
  refine m_Rq.n0 (x_iconst (z := 0) d_144_0 (by decide)) ?_
  refine m_Rq.n0 (x_istore d_144_1 rfl (show m_put1 _ _ _ = [(4, _), (0, _), (1, _), (2, _), (3, _)] from rfl)) ?_
  refine m_Rq.n0 (x_iload d_144_3 rfl) ?_
  refine m_Rq.n0 (x_aload_n d_144_5 rfl) ?_
  refine m_Rq.callE (x_cv (n := 119) d_144_6 rfl q_75 (m_isRecv_of rfl h568) rfl rfl hl rfl) (s_count_568 hl h568 h569 h570) rfl ?_ (by decide) (by decide)
  refine m_Rq.n0 (x_ict d_144_9 rfl (by decide)) ?_
  refine m_Rq.n0 (x_null d_144_53) ?_
  refine m_Rq.nr d_144_54 rfl ?_
  exact ⟨rfl, rfl⟩
theorem c_entry_5 {p v q r : Int32} : m_Rq M_223 (m_ent M_223 [.ref 512, .int 5, .int p, .int v, .int q, .int r] w_1) (fun v w' => v = some (.int (-1)) ∧ w' = w_1) 0 0 10 1000 := by
  show m_Rq M_223 (0, [(0, .ref 512), (1, .int 5), (2, .int p), (3, .int v), (4, .int q), (5, .int r)], [], w_1) _ 0 0 10 1000
  refine m_Rq.n0 (x_iload_n d_223_0 rfl) ?_
  refine m_Rq.callE (x_cs (n := 119) d_223_1 rfl q_131 rfl rfl m_hn1 rfl rfl) (s_isNode1 (by decide) (by decide)) rfl ?_ (by decide) (by decide)
  refine m_Rq.n0 (x_ift d_223_4 rfl (by decide)) ?_
  refine m_Rq.n0 (x_aload_n d_223_9 rfl) ?_
  refine m_Rq.n0 (x_getf d_223_10 rfl a_512 rfl) ?_
  refine m_Rq.n0 (x_iload_n d_223_13 rfl) ?_
  refine m_Rq.n0 (x_aaload (j := 5) d_223_14 a_519 rfl rfl (by decide) (by decide) (by decide) rfl) ?_
  refine m_Rq.n0 (x_getf d_223_15 rfl a_567 rfl) ?_
  refine m_Rq.n0 (x_astore d_223_18 rfl (show m_put1 _ _ _ = [(6, _), (0, _), (1, _), (2, _), (3, _), (4, _), (5, _)] from rfl)) ?_
  refine m_Rq.n0 (x_aload d_223_20 rfl) ?_
  refine m_Rq.n0 (x_iload_n d_223_22 rfl) ?_
  refine m_Rq.n0 (x_iload_n d_223_23 rfl) ?_
  refine m_Rq.n0 (x_iload d_223_24 rfl) ?_
  refine m_Rq.callE (x_cv (n := 119) d_223_26 rfl q_144 (m_isRecv_of rfl a_568) rfl rfl m_hn1 rfl) (s_find_568 m_hn1 a_568 a_569 a_570) rfl ?_ (by decide) (by decide)
  refine m_Rq.n0 (x_astore0 d_223_29 rfl (show m_put1 _ _ _ = [(7, _), (6, _), (0, _), (1, _), (2, _), (3, _), (4, _), (5, _)] from rfl)) ?_
  refine m_Rq.n0 (x_aload0 d_223_31 rfl) ?_
  refine m_Rq.n0 (x_ifnonnull0 d_223_33 rfl) ?_
  refine m_Rq.n0 (x_iconst (z := (-1)) d_223_36 (by decide)) ?_
  refine m_Rq.ir d_223_37 rfl rfl ?_
  exact ⟨rfl, rfl⟩
theorem c_budget2_5 {w : List mM} (hl : 119 ≤ w.length) (h512 : m_at w 512 = some (.inr (0, [.ref 513, .ref 517, .ref 518, .ref 519, .ref 520, .ref 521, .ref 522, .ref 523, .ref 524, .ref 525, .int 0, .int 0, .int 0, .int 0, .int 0]))) (h519 : m_at w 519 = some (.inl (7, 7, [(6, .ref 575), (5, .ref 567), (4, .ref 559), (3, .ref 551), (2, .ref 543), (1, .ref 535), (0, .ref 527)]))) (h567 : m_at w 567 = some (.inr (4, [.int 5, .ref 568, .ref 571, .ref 572, .ref 573, .ref 574, .int 1, .int 0, .int 0, .int 0, .int 0]))) {g : Value} (h568 : m_at w 568 = some (.inr (5, [.ref 569, .ref 570, g]))) (h569 : m_at w 569 = some (.inr (2, [.ref 0, .int 0, .int 0]))) (h570 : m_at w 570 = some (.inr (2, [.ref 0, .int 0, .int 0]))) {b : Int32} : m_Rq M_156 (35, [(0, .ref 512), (1, .int 5), (2, .int b)], [], w) (fun v w' => v = some (.int 1) ∧ w' = w) 0 0 10 1000 := by
  refine m_Rq.n0 (x_aload_n d_156_35 rfl) ?_
  refine m_Rq.n0 (x_getf d_156_36 rfl h512 rfl) ?_
  refine m_Rq.n0 (x_iload_n d_156_39 rfl) ?_
  refine m_Rq.n0 (x_aaload (j := 5) d_156_40 h519 rfl rfl (by decide) (by decide) (by decide) rfl) ?_
  refine m_Rq.n0 (x_getf d_156_41 rfl h567 rfl) ?_
  refine m_Rq.callV (x_cv (n := 119) d_156_44 rfl q_97 (m_isRecv_of rfl h568) rfl rfl hl rfl) (s_balance_568 hl h568 h569 h570) rfl ?_ (by decide) (by decide)
  refine m_Rq.n0 (x_iconst (z := 1) d_156_47 (by decide)) ?_
  refine m_Rq.ir d_156_48 rfl rfl ?_
  exact ⟨rfl, rfl⟩
theorem c_budget_5 {b : Int32} (h0 : ¬ b < 32) (h1 : b ≤ 2000) : m_Rq M_156 (m_ent M_156 [.ref 512, .int 5, .int b] w_1) (fun v w' => v = some (.int 1) ∧ w' = (w_1.set (568 - 512) (.inr (5, [.ref 569, .ref 570, .int b])))) 0 0 10 1000 := by
  show m_Rq M_156 (0, [(0, .ref 512), (1, .int 5), (2, .int b)], [], w_1) _ 0 0 10 1000
  refine m_Rq.n0 (x_iload_n d_156_0 rfl) ?_
  refine m_Rq.callE (x_cs (n := 119) d_156_1 rfl q_131 rfl rfl m_hn1 rfl rfl) (s_isNode1 (by decide) (by decide)) rfl ?_ (by decide) (by decide)
  refine m_Rq.n0 (x_iff d_156_4 rfl (by decide)) ?_
  refine m_Rq.n0 (x_iload_n d_156_7 rfl) ?_
  refine m_Rq.n0 (x_bipush (z := 32) d_156_8 (by decide)) ?_
  refine m_Rq.n0 (x_icf d_156_10 rfl (decide_eq_false h0)) ?_
  refine m_Rq.n0 (x_iload_n d_156_13 rfl) ?_
  refine m_Rq.n0 (x_sipush (z := 2000) d_156_14 (by decide)) ?_
  refine m_Rq.n0 (x_ict d_156_17 rfl (decide_eq_true h1)) ?_
  refine m_Rq.n0 (x_aload_n d_156_22 rfl) ?_
  refine m_Rq.n0 (x_getf d_156_23 rfl a_512 rfl) ?_
  refine m_Rq.n0 (x_iload_n d_156_26 rfl) ?_
  refine m_Rq.n0 (x_aaload (j := 5) d_156_27 a_519 rfl rfl (by decide) (by decide) (by decide) rfl) ?_
  refine m_Rq.n0 (x_getf d_156_28 rfl a_567 rfl) ?_
  refine m_Rq.n0 (x_iload_n d_156_31 rfl) ?_
  refine m_Rq.n0 (x_putf d_156_32 rfl a_568 rfl (by decide) rfl rfl rfl rfl) ?_
  exact c_budget2_5 (w := (w_1.set (568 - 512) (.inr (5, [.ref 569, .ref 570, .int b])))) (by rw [List.length_set]; exact m_hn1) (m_at_ne (a := 568) a_512 rfl) (m_at_ne (a := 568) a_519 rfl) (m_at_ne (a := 568) a_567 rfl) (m_at_eq (a := 568) a_568) (m_at_ne (a := 568) a_569 rfl) (m_at_ne (a := 568) a_570 rfl)
theorem c_eo_5 {w : List mM} (hl : 119 ≤ w.length) (h567 : m_at w 567 = some (.inr (4, [.int 5, .ref 568, .ref 571, .ref 572, .ref 573, .ref 574, .int 1, .int 0, .int 0, .int 0, .int 0]))) (h571 : m_at w 571 = some (.inr (2, [.ref 0, .int 0, .int 0]))) : m_Rq M_235 (m_ent M_235 [.ref 512, .ref 567] w) (fun v w' => v = none ∧ w' = w) 0 0 1 100 := by
  show m_Rq M_235 (0, [(0, .ref 512), (1, .ref 567)], [], w) _ 0 0 1 100
  refine m_Rq.n0 (x_aload_n d_235_0 rfl) ?_
  refine m_Rq.n0 (x_getf d_235_1 rfl h567 rfl) ?_
  refine m_Rq.callE (x_cv (n := 119) d_235_4 rfl q_101 (m_isRecv_of rfl h571) rfl rfl hl rfl) (s_isEmpty h571) rfl ?_ (by decide) (by decide)
  refine m_Rq.n0 (x_ift d_235_7 rfl (by decide)) ?_
  refine m_Rq.vr d_235_80 rfl ?_
  exact ⟨rfl, rfl⟩
theorem s_sizeOf_578 {w : List mM} (hl : 119 ≤ w.length) (h578 : m_at w 578 = some (.inr (2, [.ref 0, .int 0, .int 0]))) : m_Rq M_98 (m_ent M_98 [.ref 576, .ref 578] w) (fun v w' => v = some (.int 0) ∧ w' = w) 0 0 1 100 := by
  show m_Rq M_98 (0, [(0, .ref 576), (1, .ref 578)], [], w) _ 0 0 1 100
  refine m_Rq.n0 (x_iconst (z := 0) d_98_0 (by decide)) ?_
  refine m_Rq.n0 (x_istore_n d_98_1 rfl (show m_put1 _ _ _ = [(2, _), (0, _), (1, _)] from rfl)) ?_
  refine m_Rq.n0 (x_iconst (z := 0) d_98_2 (by decide)) ?_
  refine m_Rq.n0 (x_istore_n d_98_3 rfl (show m_put1 _ _ _ = [(3, _), (2, _), (0, _), (1, _)] from rfl)) ?_
  refine m_Rq.n0 (x_iload_n d_98_4 rfl) ?_
  refine m_Rq.n0 (x_aload_n d_98_5 rfl) ?_
  refine m_Rq.callE (x_cv (n := 119) d_98_6 rfl q_17 (m_isRecv_of rfl h578) rfl rfl hl rfl) (s_size h578) rfl ?_ (by decide) (by decide)
  refine m_Rq.n0 (x_ict d_98_9 rfl (by decide)) ?_
  refine m_Rq.n0 (x_iload_n d_98_32 rfl) ?_
  refine m_Rq.ir d_98_33 rfl rfl ?_
  exact ⟨rfl, rfl⟩
theorem s_sizeOf_577 {w : List mM} (hl : 119 ≤ w.length) (h577 : m_at w 577 = some (.inr (2, [.ref 0, .int 0, .int 0]))) : m_Rq M_98 (m_ent M_98 [.ref 576, .ref 577] w) (fun v w' => v = some (.int 0) ∧ w' = w) 0 0 1 100 := by
  show m_Rq M_98 (0, [(0, .ref 576), (1, .ref 577)], [], w) _ 0 0 1 100
  refine m_Rq.n0 (x_iconst (z := 0) d_98_0 (by decide)) ?_
  refine m_Rq.n0 (x_istore_n d_98_1 rfl (show m_put1 _ _ _ = [(2, _), (0, _), (1, _)] from rfl)) ?_
  refine m_Rq.n0 (x_iconst (z := 0) d_98_2 (by decide)) ?_
  refine m_Rq.n0 (x_istore_n d_98_3 rfl (show m_put1 _ _ _ = [(3, _), (2, _), (0, _), (1, _)] from rfl)) ?_
  refine m_Rq.n0 (x_iload_n d_98_4 rfl) ?_
  refine m_Rq.n0 (x_aload_n d_98_5 rfl) ?_
  refine m_Rq.callE (x_cv (n := 119) d_98_6 rfl q_17 (m_isRecv_of rfl h577) rfl rfl hl rfl) (s_size h577) rfl ?_ (by decide) (by decide)
  refine m_Rq.n0 (x_ict d_98_9 rfl (by decide)) ?_
  refine m_Rq.n0 (x_iload_n d_98_32 rfl) ?_
  refine m_Rq.ir d_98_33 rfl rfl ?_
  exact ⟨rfl, rfl⟩
theorem s_count_576 {w : List mM} (hl : 119 ≤ w.length) {g : Value} (h576 : m_at w 576 = some (.inr (5, [.ref 577, .ref 578, g]))) (h577 : m_at w 577 = some (.inr (2, [.ref 0, .int 0, .int 0]))) (h578 : m_at w 578 = some (.inr (2, [.ref 0, .int 0, .int 0]))) : m_Rq M_75 (m_ent M_75 [.ref 576] w) (fun v w' => v = some (.int 0) ∧ w' = w) 0 0 1 100 := by
  show m_Rq M_75 (0, [(0, .ref 576)], [], w) _ 0 0 1 100
  refine m_Rq.n0 (x_aload_n d_75_0 rfl) ?_
  refine m_Rq.n0 (x_getf d_75_1 rfl h576 rfl) ?_
  refine m_Rq.callE (x_cv (n := 119) d_75_4 rfl q_17 (m_isRecv_of rfl h577) rfl rfl hl rfl) (s_size h577) rfl ?_ (by decide) (by decide)
  refine m_Rq.n0 (x_aload_n d_75_7 rfl) ?_
  refine m_Rq.n0 (x_getf d_75_8 rfl h576 rfl) ?_
  refine m_Rq.callE (x_cv (n := 119) d_75_11 rfl q_17 (m_isRecv_of rfl h578) rfl rfl hl rfl) (s_size h578) rfl ?_ (by decide) (by decide)
  refine m_Rq.n0 (x_iadd (z := 0) d_75_14 (by decide)) ?_
  refine m_Rq.ir d_75_15 rfl rfl ?_
  exact ⟨rfl, rfl⟩
theorem s_balance_576 {w : List mM} (hl : 119 ≤ w.length) {g : Value} (h576 : m_at w 576 = some (.inr (5, [.ref 577, .ref 578, g]))) (h577 : m_at w 577 = some (.inr (2, [.ref 0, .int 0, .int 0]))) (h578 : m_at w 578 = some (.inr (2, [.ref 0, .int 0, .int 0]))) : m_Rq M_97 (m_ent M_97 [.ref 576] w) (fun v w' => v = none ∧ w' = w) 0 0 3 300 := by
  show m_Rq M_97 (0, [(0, .ref 576)], [], w) _ 0 0 3 300
  refine m_Rq.n0 (x_aload_n d_97_0 rfl) ?_
  refine m_Rq.n0 (x_aload_n d_97_1 rfl) ?_
  refine m_Rq.n0 (x_getf d_97_2 rfl h576 rfl) ?_
  refine m_Rq.callE (x_cv (n := 119) d_97_5 rfl q_98 (m_isRecv_of rfl h576) rfl rfl hl rfl) (s_sizeOf_578 hl h578) rfl ?_ (by decide) (by decide)
  refine m_Rq.n0 (x_istore_n d_97_8 rfl (show m_put1 _ _ _ = [(1, _), (0, _)] from rfl)) ?_
  refine m_Rq.n0 (x_iload_n d_97_9 rfl) ?_
  refine m_Rq.n0 (x_aload_n d_97_10 rfl) ?_
  refine m_Rq.n0 (x_aload_n d_97_11 rfl) ?_
  refine m_Rq.n0 (x_getf d_97_12 rfl h576 rfl) ?_
  refine m_Rq.callE (x_cv (n := 119) d_97_15 rfl q_98 (m_isRecv_of rfl h576) rfl rfl hl rfl) (s_sizeOf_577 hl h577) rfl ?_ (by decide) (by decide)
  refine m_Rq.n0 (x_iadd (z := 0) d_97_18 (by decide)) ?_
  refine m_Rq.n0 (x_istore_n d_97_19 rfl (show m_put1 _ _ _ = [(2, _), (1, _), (0, _)] from rfl)) ?_
  refine m_Rq.n0 (x_aload_n d_97_20 rfl) ?_
  refine m_Rq.n0 (x_getf d_97_21 rfl h576 rfl) ?_
  refine m_Rq.callE (x_cv (n := 119) d_97_24 rfl q_101 (m_isRecv_of rfl h578) rfl rfl hl rfl) (s_isEmpty h578) rfl ?_ (by decide) (by decide)
  refine m_Rq.n0 (x_ift d_97_27 rfl (by decide)) ?_
  refine m_Rq.n0 (x_aload_n d_97_76 rfl) ?_
  refine m_Rq.callE (x_cv (n := 119) d_97_77 rfl q_75 (m_isRecv_of rfl h576) rfl rfl hl rfl) (s_count_576 hl h576 h577 h578) rfl ?_ (by decide) (by decide)
  refine m_Rq.n0 (x_ift d_97_80 rfl (by decide)) ?_
  refine m_Rq.vr d_97_137 rfl ?_
  exact ⟨rfl, rfl⟩
theorem s_find_576 {w : List mM} (hl : 119 ≤ w.length) {g : Value} (h576 : m_at w 576 = some (.inr (5, [.ref 577, .ref 578, g]))) (h577 : m_at w 577 = some (.inr (2, [.ref 0, .int 0, .int 0]))) (h578 : m_at w 578 = some (.inr (2, [.ref 0, .int 0, .int 0]))) {p v q : Int32}  : m_Rq M_144 (m_ent M_144 [.ref 576, .int p, .int v, .int q] w) (fun v w' => v = some .null ∧ w' = w) 0 0 2 200 := by
  show m_Rq M_144 (0, [(0, .ref 576), (1, .int p), (2, .int v), (3, .int q)], [], w) _ 0 0 2 200
  refine m_Rq.n0 (x_iconst (z := 0) d_144_0 (by decide)) ?_
  refine m_Rq.n0 (x_istore d_144_1 rfl (show m_put1 _ _ _ = [(4, _), (0, _), (1, _), (2, _), (3, _)] from rfl)) ?_
  refine m_Rq.n0 (x_iload d_144_3 rfl) ?_
  refine m_Rq.n0 (x_aload_n d_144_5 rfl) ?_
  refine m_Rq.callE (x_cv (n := 119) d_144_6 rfl q_75 (m_isRecv_of rfl h576) rfl rfl hl rfl) (s_count_576 hl h576 h577 h578) rfl ?_ (by decide) (by decide)
  refine m_Rq.n0 (x_ict d_144_9 rfl (by decide)) ?_
  refine m_Rq.n0 (x_null d_144_53) ?_
  refine m_Rq.nr d_144_54 rfl ?_
  exact ⟨rfl, rfl⟩
theorem c_entry_6 {p v q r : Int32} : m_Rq M_223 (m_ent M_223 [.ref 512, .int 6, .int p, .int v, .int q, .int r] w_1) (fun v w' => v = some (.int (-1)) ∧ w' = w_1) 0 0 10 1000 := by
  show m_Rq M_223 (0, [(0, .ref 512), (1, .int 6), (2, .int p), (3, .int v), (4, .int q), (5, .int r)], [], w_1) _ 0 0 10 1000
  refine m_Rq.n0 (x_iload_n d_223_0 rfl) ?_
  refine m_Rq.callE (x_cs (n := 119) d_223_1 rfl q_131 rfl rfl m_hn1 rfl rfl) (s_isNode1 (by decide) (by decide)) rfl ?_ (by decide) (by decide)
  refine m_Rq.n0 (x_ift d_223_4 rfl (by decide)) ?_
  refine m_Rq.n0 (x_aload_n d_223_9 rfl) ?_
  refine m_Rq.n0 (x_getf d_223_10 rfl a_512 rfl) ?_
  refine m_Rq.n0 (x_iload_n d_223_13 rfl) ?_
  refine m_Rq.n0 (x_aaload (j := 6) d_223_14 a_519 rfl rfl (by decide) (by decide) (by decide) rfl) ?_
  refine m_Rq.n0 (x_getf d_223_15 rfl a_575 rfl) ?_
  refine m_Rq.n0 (x_astore d_223_18 rfl (show m_put1 _ _ _ = [(6, _), (0, _), (1, _), (2, _), (3, _), (4, _), (5, _)] from rfl)) ?_
  refine m_Rq.n0 (x_aload d_223_20 rfl) ?_
  refine m_Rq.n0 (x_iload_n d_223_22 rfl) ?_
  refine m_Rq.n0 (x_iload_n d_223_23 rfl) ?_
  refine m_Rq.n0 (x_iload d_223_24 rfl) ?_
  refine m_Rq.callE (x_cv (n := 119) d_223_26 rfl q_144 (m_isRecv_of rfl a_576) rfl rfl m_hn1 rfl) (s_find_576 m_hn1 a_576 a_577 a_578) rfl ?_ (by decide) (by decide)
  refine m_Rq.n0 (x_astore0 d_223_29 rfl (show m_put1 _ _ _ = [(7, _), (6, _), (0, _), (1, _), (2, _), (3, _), (4, _), (5, _)] from rfl)) ?_
  refine m_Rq.n0 (x_aload0 d_223_31 rfl) ?_
  refine m_Rq.n0 (x_ifnonnull0 d_223_33 rfl) ?_
  refine m_Rq.n0 (x_iconst (z := (-1)) d_223_36 (by decide)) ?_
  refine m_Rq.ir d_223_37 rfl rfl ?_
  exact ⟨rfl, rfl⟩
theorem c_budget2_6 {w : List mM} (hl : 119 ≤ w.length) (h512 : m_at w 512 = some (.inr (0, [.ref 513, .ref 517, .ref 518, .ref 519, .ref 520, .ref 521, .ref 522, .ref 523, .ref 524, .ref 525, .int 0, .int 0, .int 0, .int 0, .int 0]))) (h519 : m_at w 519 = some (.inl (7, 7, [(6, .ref 575), (5, .ref 567), (4, .ref 559), (3, .ref 551), (2, .ref 543), (1, .ref 535), (0, .ref 527)]))) (h575 : m_at w 575 = some (.inr (4, [.int 6, .ref 576, .ref 579, .ref 580, .ref 581, .ref 582, .int 1, .int 0, .int 0, .int 0, .int 0]))) {g : Value} (h576 : m_at w 576 = some (.inr (5, [.ref 577, .ref 578, g]))) (h577 : m_at w 577 = some (.inr (2, [.ref 0, .int 0, .int 0]))) (h578 : m_at w 578 = some (.inr (2, [.ref 0, .int 0, .int 0]))) {b : Int32} : m_Rq M_156 (35, [(0, .ref 512), (1, .int 6), (2, .int b)], [], w) (fun v w' => v = some (.int 1) ∧ w' = w) 0 0 10 1000 := by
  refine m_Rq.n0 (x_aload_n d_156_35 rfl) ?_
  refine m_Rq.n0 (x_getf d_156_36 rfl h512 rfl) ?_
  refine m_Rq.n0 (x_iload_n d_156_39 rfl) ?_
  refine m_Rq.n0 (x_aaload (j := 6) d_156_40 h519 rfl rfl (by decide) (by decide) (by decide) rfl) ?_
  refine m_Rq.n0 (x_getf d_156_41 rfl h575 rfl) ?_
  refine m_Rq.callV (x_cv (n := 119) d_156_44 rfl q_97 (m_isRecv_of rfl h576) rfl rfl hl rfl) (s_balance_576 hl h576 h577 h578) rfl ?_ (by decide) (by decide)
  refine m_Rq.n0 (x_iconst (z := 1) d_156_47 (by decide)) ?_
  refine m_Rq.ir d_156_48 rfl rfl ?_
  exact ⟨rfl, rfl⟩
theorem c_budget_6 {b : Int32} (h0 : ¬ b < 32) (h1 : b ≤ 2000) : m_Rq M_156 (m_ent M_156 [.ref 512, .int 6, .int b] w_1) (fun v w' => v = some (.int 1) ∧ w' = (w_1.set (576 - 512) (.inr (5, [.ref 577, .ref 578, .int b])))) 0 0 10 1000 := by
  show m_Rq M_156 (0, [(0, .ref 512), (1, .int 6), (2, .int b)], [], w_1) _ 0 0 10 1000
  refine m_Rq.n0 (x_iload_n d_156_0 rfl) ?_
  refine m_Rq.callE (x_cs (n := 119) d_156_1 rfl q_131 rfl rfl m_hn1 rfl rfl) (s_isNode1 (by decide) (by decide)) rfl ?_ (by decide) (by decide)
  refine m_Rq.n0 (x_iff d_156_4 rfl (by decide)) ?_
  refine m_Rq.n0 (x_iload_n d_156_7 rfl) ?_
  refine m_Rq.n0 (x_bipush (z := 32) d_156_8 (by decide)) ?_
  refine m_Rq.n0 (x_icf d_156_10 rfl (decide_eq_false h0)) ?_
  refine m_Rq.n0 (x_iload_n d_156_13 rfl) ?_
  refine m_Rq.n0 (x_sipush (z := 2000) d_156_14 (by decide)) ?_
  refine m_Rq.n0 (x_ict d_156_17 rfl (decide_eq_true h1)) ?_
  refine m_Rq.n0 (x_aload_n d_156_22 rfl) ?_
  refine m_Rq.n0 (x_getf d_156_23 rfl a_512 rfl) ?_
  refine m_Rq.n0 (x_iload_n d_156_26 rfl) ?_
  refine m_Rq.n0 (x_aaload (j := 6) d_156_27 a_519 rfl rfl (by decide) (by decide) (by decide) rfl) ?_
  refine m_Rq.n0 (x_getf d_156_28 rfl a_575 rfl) ?_
  refine m_Rq.n0 (x_iload_n d_156_31 rfl) ?_
  refine m_Rq.n0 (x_putf d_156_32 rfl a_576 rfl (by decide) rfl rfl rfl rfl) ?_
  exact c_budget2_6 (w := (w_1.set (576 - 512) (.inr (5, [.ref 577, .ref 578, .int b])))) (by rw [List.length_set]; exact m_hn1) (m_at_ne (a := 576) a_512 rfl) (m_at_ne (a := 576) a_519 rfl) (m_at_ne (a := 576) a_575 rfl) (m_at_eq (a := 576) a_576) (m_at_ne (a := 576) a_577 rfl) (m_at_ne (a := 576) a_578 rfl)
theorem c_eo_6 {w : List mM} (hl : 119 ≤ w.length) (h575 : m_at w 575 = some (.inr (4, [.int 6, .ref 576, .ref 579, .ref 580, .ref 581, .ref 582, .int 1, .int 0, .int 0, .int 0, .int 0]))) (h579 : m_at w 579 = some (.inr (2, [.ref 0, .int 0, .int 0]))) : m_Rq M_235 (m_ent M_235 [.ref 512, .ref 575] w) (fun v w' => v = none ∧ w' = w) 0 0 1 100 := by
  show m_Rq M_235 (0, [(0, .ref 512), (1, .ref 575)], [], w) _ 0 0 1 100
  refine m_Rq.n0 (x_aload_n d_235_0 rfl) ?_
  refine m_Rq.n0 (x_getf d_235_1 rfl h575 rfl) ?_
  refine m_Rq.callE (x_cv (n := 119) d_235_4 rfl q_101 (m_isRecv_of rfl h579) rfl rfl hl rfl) (s_isEmpty h579) rfl ?_ (by decide) (by decide)
  refine m_Rq.n0 (x_ift d_235_7 rfl (by decide)) ?_
  refine m_Rq.vr d_235_80 rfl ?_
  exact ⟨rfl, rfl⟩
theorem c_entry_0 {p v q r n : Int32} (h0 : ¬ m_nd n) : m_Rq M_223 (m_ent M_223 [.ref 512, .int n, .int p, .int v, .int q, .int r] w_1) (fun v w' => v = some (.int (-1)) ∧ w' = w_1) 0 0 10 1000 := by
  show m_Rq M_223 (0, [(0, .ref 512), (1, .int n), (2, .int p), (3, .int v), (4, .int q), (5, .int r)], [], w_1) _ 0 0 10 1000
  refine m_Rq.n0 (x_iload_n d_223_0 rfl) ?_
  refine m_Rq.callE (x_cs (n := 119) d_223_1 rfl q_131 rfl rfl m_hn1 rfl rfl) (s_isNode h0) rfl ?_ (by decide) (by decide)
  refine m_Rq.n0 (x_iff d_223_4 rfl (by decide)) ?_
  refine m_Rq.n0 (x_iconst (z := (-1)) d_223_7 (by decide)) ?_
  refine m_Rq.ir d_223_8 rfl rfl ?_
  exact ⟨rfl, rfl⟩
theorem c_budget_0 {n b : Int32} (h0 : ¬ m_nd n) : m_Rq M_156 (m_ent M_156 [.ref 512, .int n, .int b] w_1) (fun v w' => v = some (.int 0) ∧ w' = w_1) 0 0 10 1000 := by
  show m_Rq M_156 (0, [(0, .ref 512), (1, .int n), (2, .int b)], [], w_1) _ 0 0 10 1000
  refine m_Rq.n0 (x_iload_n d_156_0 rfl) ?_
  refine m_Rq.callE (x_cs (n := 119) d_156_1 rfl q_131 rfl rfl m_hn1 rfl rfl) (s_isNode h0) rfl ?_ (by decide) (by decide)
  refine m_Rq.n0 (x_ift d_156_4 rfl (by decide)) ?_
  refine m_Rq.n0 (x_iconst (z := 0) d_156_20 (by decide)) ?_
  refine m_Rq.ir d_156_21 rfl rfl ?_
  exact ⟨rfl, rfl⟩
theorem c_budget_l {n b : Int32} (h : m_nd n) (h0 : b < 32) : m_Rq M_156 (m_ent M_156 [.ref 512, .int n, .int b] w_1) (fun v w' => v = some (.int 0) ∧ w' = w_1) 0 0 10 1000 := by
  show m_Rq M_156 (0, [(0, .ref 512), (1, .int n), (2, .int b)], [], w_1) _ 0 0 10 1000
  refine m_Rq.n0 (x_iload_n d_156_0 rfl) ?_
  refine m_Rq.callE (x_cs (n := 119) d_156_1 rfl q_131 rfl rfl m_hn1 rfl rfl) (s_isNode1 h.1 h.2) rfl ?_ (by decide) (by decide)
  refine m_Rq.n0 (x_iff d_156_4 rfl (by decide)) ?_
  refine m_Rq.n0 (x_iload_n d_156_7 rfl) ?_
  refine m_Rq.n0 (x_bipush (z := 32) d_156_8 (by decide)) ?_
  refine m_Rq.n0 (x_ict d_156_10 rfl (decide_eq_true h0)) ?_
  refine m_Rq.n0 (x_iconst (z := 0) d_156_20 (by decide)) ?_
  refine m_Rq.ir d_156_21 rfl rfl ?_
  exact ⟨rfl, rfl⟩
theorem c_budget_g {n b : Int32} (h : m_nd n) (h0 : ¬ b < 32) (h1 : ¬ b ≤ 2000) : m_Rq M_156 (m_ent M_156 [.ref 512, .int n, .int b] w_1) (fun v w' => v = some (.int 0) ∧ w' = w_1) 0 0 10 1000 := by
  show m_Rq M_156 (0, [(0, .ref 512), (1, .int n), (2, .int b)], [], w_1) _ 0 0 10 1000
  refine m_Rq.n0 (x_iload_n d_156_0 rfl) ?_
  refine m_Rq.callE (x_cs (n := 119) d_156_1 rfl q_131 rfl rfl m_hn1 rfl rfl) (s_isNode1 h.1 h.2) rfl ?_ (by decide) (by decide)
  refine m_Rq.n0 (x_iff d_156_4 rfl (by decide)) ?_
  refine m_Rq.n0 (x_iload_n d_156_7 rfl) ?_
  refine m_Rq.n0 (x_bipush (z := 32) d_156_8 (by decide)) ?_
  refine m_Rq.n0 (x_icf d_156_10 rfl (decide_eq_false h0)) ?_
  refine m_Rq.n0 (x_iload_n d_156_13 rfl) ?_
  refine m_Rq.n0 (x_sipush (z := 2000) d_156_14 (by decide)) ?_
  refine m_Rq.n0 (x_icf d_156_17 rfl (decide_eq_false h1)) ?_
  refine m_Rq.n0 (x_iconst (z := 0) d_156_20 (by decide)) ?_
  refine m_Rq.ir d_156_21 rfl rfl ?_
  exact ⟨rfl, rfl⟩
theorem c_node_0 {n q : Int32} (h0 : ¬ m_nd n) : m_Rq M_220 (m_ent M_220 [.ref 512, .int n, .int q] w_1) (fun v w' => v = some (.int (-1)) ∧ w' = w_1) 0 0 10 1000 := by
  show m_Rq M_220 (0, [(0, .ref 512), (1, .int n), (2, .int q)], [], w_1) _ 0 0 10 1000
  refine m_Rq.n0 (x_iload_n d_220_0 rfl) ?_
  refine m_Rq.callE (x_cs (n := 119) d_220_1 rfl q_131 rfl rfl m_hn1 rfl rfl) (s_isNode h0) rfl ?_ (by decide) (by decide)
  refine m_Rq.n0 (x_ift d_220_4 rfl (by decide)) ?_
  refine m_Rq.n0 (x_iconst (z := (-1)) d_220_17 (by decide)) ?_
  refine m_Rq.ir d_220_18 rfl rfl ?_
  exact ⟨rfl, rfl⟩
theorem c_node_l {n q : Int32} (h : m_nd n) (h0 : q < 0) : m_Rq M_220 (m_ent M_220 [.ref 512, .int n, .int q] w_1) (fun v w' => v = some (.int (-1)) ∧ w' = w_1) 0 0 10 1000 := by
  show m_Rq M_220 (0, [(0, .ref 512), (1, .int n), (2, .int q)], [], w_1) _ 0 0 10 1000
  refine m_Rq.n0 (x_iload_n d_220_0 rfl) ?_
  refine m_Rq.callE (x_cs (n := 119) d_220_1 rfl q_131 rfl rfl m_hn1 rfl rfl) (s_isNode1 h.1 h.2) rfl ?_ (by decide) (by decide)
  refine m_Rq.n0 (x_iff d_220_4 rfl (by decide)) ?_
  refine m_Rq.n0 (x_iload_n d_220_7 rfl) ?_
  refine m_Rq.n0 (x_ift d_220_8 rfl (decide_eq_true h0)) ?_
  refine m_Rq.n0 (x_iconst (z := (-1)) d_220_17 (by decide)) ?_
  refine m_Rq.ir d_220_18 rfl rfl ?_
  exact ⟨rfl, rfl⟩
theorem c_node_g {n q : Int32} (h : m_nd n) (h0 : ¬ q < 0) (h1 : ¬ q ≤ 12) : m_Rq M_220 (m_ent M_220 [.ref 512, .int n, .int q] w_1) (fun v w' => v = some (.int (-1)) ∧ w' = w_1) 0 0 10 1000 := by
  show m_Rq M_220 (0, [(0, .ref 512), (1, .int n), (2, .int q)], [], w_1) _ 0 0 10 1000
  refine m_Rq.n0 (x_iload_n d_220_0 rfl) ?_
  refine m_Rq.callE (x_cs (n := 119) d_220_1 rfl q_131 rfl rfl m_hn1 rfl rfl) (s_isNode1 h.1 h.2) rfl ?_ (by decide) (by decide)
  refine m_Rq.n0 (x_iff d_220_4 rfl (by decide)) ?_
  refine m_Rq.n0 (x_iload_n d_220_7 rfl) ?_
  refine m_Rq.n0 (x_iff d_220_8 rfl (decide_eq_false h0)) ?_
  refine m_Rq.n0 (x_iload_n d_220_11 rfl) ?_
  refine m_Rq.n0 (x_bipush (z := 12) d_220_12 (by decide)) ?_
  refine m_Rq.n0 (x_icf d_220_14 rfl (decide_eq_false h1)) ?_
  refine m_Rq.n0 (x_iconst (z := (-1)) d_220_17 (by decide)) ?_
  refine m_Rq.ir d_220_18 rfl rfl ?_
  exact ⟨rfl, rfl⟩
