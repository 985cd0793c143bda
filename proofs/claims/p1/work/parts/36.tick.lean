/-! tick on a fresh object. Written by wip/tool/tick.py. -/
theorem a_539 : m_at w_1 539 = some (.inr (2, [.ref 0, .int 0, .int 0])) := rfl
theorem a_547 : m_at w_1 547 = some (.inr (2, [.ref 0, .int 0, .int 0])) := rfl
theorem a_555 : m_at w_1 555 = some (.inr (2, [.ref 0, .int 0, .int 0])) := rfl
theorem a_563 : m_at w_1 563 = some (.inr (2, [.ref 0, .int 0, .int 0])) := rfl
theorem a_571 : m_at w_1 571 = some (.inr (2, [.ref 0, .int 0, .int 0])) := rfl
theorem a_579 : m_at w_1 579 = some (.inr (2, [.ref 0, .int 0, .int 0])) := rfl
theorem a_630 : m_at w_1 630 = some (.inl (1, 1, [])) := rfl
theorem q_235 : m_mt[235]? = some M_235 := by rfl
theorem q_330 : m_mt[330]? = some M_330 := by rfl
theorem d_234_0 : m_dn M_234 0 (.iload_n 1) 1 1 := by decide +kernel
theorem d_234_1 : m_dn M_234 1 (.iconst 1) 1 2 := by decide +kernel
theorem d_234_2 : m_dn M_234 2 (.if_icmp .lt 9) 3 5 := by decide +kernel
theorem d_234_21 : m_dn M_234 21 (.iconst 0) 1 22 := by decide +kernel
theorem d_234_22 : m_dn M_234 22 (.istore_n 2) 1 23 := by decide +kernel
theorem d_234_23 : m_dn M_234 23 (.iload_n 2) 1 24 := by decide +kernel
theorem d_234_24 : m_dn M_234 24 (.iload_n 1) 1 25 := by decide +kernel
theorem d_234_25 : m_dn M_234 25 (.if_icmp .ge 43) 3 28 := by decide +kernel
theorem d_234_28 : m_dn M_234 28 (.aload_n 0) 1 29 := by decide +kernel
theorem d_234_29 : m_dn M_234 29 (.dup) 1 30 := by decide +kernel
theorem d_234_30 : m_dn M_234 30 (.getfield 174) 3 33 := by decide +kernel
theorem d_234_33 : m_dn M_234 33 (.iconst 1) 1 34 := by decide +kernel
theorem d_234_34 : m_dn M_234 34 (.iadd) 1 35 := by decide +kernel
theorem d_234_35 : m_dn M_234 35 (.putfield 174) 3 38 := by decide +kernel
theorem d_234_38 : m_dn M_234 38 (.iconst 1) 1 39 := by decide +kernel
theorem d_234_39 : m_dn M_234 39 (.istore_n 3) 1 40 := by decide +kernel
theorem d_234_40 : m_dn M_234 40 (.iload_n 3) 1 41 := by decide +kernel
theorem d_234_41 : m_dn M_234 41 (.bipush 6) 2 43 := by decide +kernel
theorem d_234_43 : m_dn M_234 43 (.if_icmp .gt 19) 3 46 := by decide +kernel
theorem d_234_46 : m_dn M_234 46 (.aload_n 0) 1 47 := by decide +kernel
theorem d_234_47 : m_dn M_234 47 (.aload_n 0) 1 48 := by decide +kernel
theorem d_234_48 : m_dn M_234 48 (.getfield 28) 3 51 := by decide +kernel
theorem d_234_5 : m_dn M_234 5 (.iload_n 1) 1 6 := by decide +kernel
theorem d_234_51 : m_dn M_234 51 (.iload_n 3) 1 52 := by decide +kernel
theorem d_234_52 : m_dn M_234 52 (.aaload) 1 53 := by decide +kernel
theorem d_234_53 : m_dn M_234 53 (.invokevirtual 177) 3 56 := by decide +kernel
theorem d_234_56 : m_dn M_234 56 (.iinc 3 1) 3 59 := by decide +kernel
theorem d_234_59 : m_dn M_234 59 (.goto (-19)) 3 62 := by decide +kernel
theorem d_234_6 : m_dn M_234 6 (.bipush 100) 2 8 := by decide +kernel
theorem d_234_62 : m_dn M_234 62 (.iinc 2 1) 3 65 := by decide +kernel
theorem d_234_65 : m_dn M_234 65 (.goto (-42)) 3 68 := by decide +kernel
theorem d_234_68 : m_dn M_234 68 (.aload_n 0) 1 69 := by decide +kernel
theorem d_234_69 : m_dn M_234 69 (.getfield 174) 3 72 := by decide +kernel
theorem d_234_72 : m_dn M_234 72 (.ireturn) 1 73 := by decide +kernel
theorem d_234_8 : m_dn M_234 8 (.if_icmp .le 13) 3 11 := by decide +kernel
theorem d_329_0 : m_dn M_329 0 (.aload_n 0) 1 1 := by decide +kernel
theorem d_329_1 : m_dn M_329 1 (.iload_n 1) 1 2 := by decide +kernel
theorem d_329_16 : m_dn M_329 16 (.iconst 0) 1 17 := by decide +kernel
theorem d_329_17 : m_dn M_329 17 (.putfield 155) 3 20 := by decide +kernel
theorem d_329_2 : m_dn M_329 2 (.iconst 1) 1 3 := by decide +kernel
theorem d_329_20 : m_dn M_329 20 (.aload_n 0) 1 21 := by decide +kernel
theorem d_329_21 : m_dn M_329 21 (.getfield 155) 3 24 := by decide +kernel
theorem d_329_24 : m_dn M_329 24 (.ifCond .eq 5) 3 27 := by decide +kernel
theorem d_329_29 : m_dn M_329 29 (.iconst 0) 1 30 := by decide +kernel
theorem d_329_3 : m_dn M_329 3 (.if_icmp .lt 9) 3 6 := by decide +kernel
theorem d_329_30 : m_dn M_329 30 (.istore_n 2) 1 31 := by decide +kernel
theorem d_329_31 : m_dn M_329 31 (.iload_n 2) 1 32 := by decide +kernel
theorem d_329_32 : m_dn M_329 32 (.iload_n 1) 1 33 := by decide +kernel
theorem d_329_33 : m_dn M_329 33 (.if_icmp .ge 38) 3 36 := by decide +kernel
theorem d_329_36 : m_dn M_329 36 (.aload_n 0) 1 37 := by decide +kernel
theorem d_329_37 : m_dn M_329 37 (.dup) 1 38 := by decide +kernel
theorem d_329_38 : m_dn M_329 38 (.getfield 390) 3 41 := by decide +kernel
theorem d_329_41 : m_dn M_329 41 (.iconst 1) 1 42 := by decide +kernel
theorem d_329_42 : m_dn M_329 42 (.iadd) 1 43 := by decide +kernel
theorem d_329_43 : m_dn M_329 43 (.putfield 390) 3 46 := by decide +kernel
theorem d_329_46 : m_dn M_329 46 (.iconst 1) 1 47 := by decide +kernel
theorem d_329_47 : m_dn M_329 47 (.istore_n 3) 1 48 := by decide +kernel
theorem d_329_48 : m_dn M_329 48 (.iload_n 3) 1 49 := by decide +kernel
theorem d_329_49 : m_dn M_329 49 (.bipush 7) 2 51 := by decide +kernel
theorem d_329_51 : m_dn M_329 51 (.if_icmp .ge 14) 3 54 := by decide +kernel
theorem d_329_54 : m_dn M_329 54 (.aload_n 0) 1 55 := by decide +kernel
theorem d_329_55 : m_dn M_329 55 (.iload_n 3) 1 56 := by decide +kernel
theorem d_329_56 : m_dn M_329 56 (.invokevirtual 624) 3 59 := by decide +kernel
theorem d_329_59 : m_dn M_329 59 (.iinc 3 1) 3 62 := by decide +kernel
theorem d_329_6 : m_dn M_329 6 (.iload_n 1) 1 7 := by decide +kernel
theorem d_329_62 : m_dn M_329 62 (.goto (-14)) 3 65 := by decide +kernel
theorem d_329_65 : m_dn M_329 65 (.iinc 2 1) 3 68 := by decide +kernel
theorem d_329_68 : m_dn M_329 68 (.goto (-37)) 3 71 := by decide +kernel
theorem d_329_7 : m_dn M_329 7 (.bipush 100) 2 9 := by decide +kernel
theorem d_329_71 : m_dn M_329 71 (.aload_n 0) 1 72 := by decide +kernel
theorem d_329_72 : m_dn M_329 72 (.getfield 390) 3 75 := by decide +kernel
theorem d_329_75 : m_dn M_329 75 (.ireturn) 1 76 := by decide +kernel
theorem d_329_9 : m_dn M_329 9 (.if_icmp .le 7) 3 12 := by decide +kernel
def f_c (c : Int32) : List Value := [.ref 513, .ref 517, .ref 518, .ref 519, .ref 520, .ref 521, .ref 522, .ref 523, .ref 524, .ref 525, .int 0, .int 0, .int 0, .int 0, .int c]
def g_C : List (Nat × mM) := [(519, .inl (7, 7, [(6, .ref 575), (5, .ref 567), (4, .ref 559), (3, .ref 551), (2, .ref 543), (1, .ref 535), (0, .ref 527)])), (535, .inr (4, [.int 1, .ref 536, .ref 539, .ref 540, .ref 541, .ref 542, .int 1, .int 0, .int 0, .int 0, .int 0])), (543, .inr (4, [.int 2, .ref 544, .ref 547, .ref 548, .ref 549, .ref 550, .int 1, .int 0, .int 0, .int 0, .int 0])), (551, .inr (4, [.int 3, .ref 552, .ref 555, .ref 556, .ref 557, .ref 558, .int 1, .int 0, .int 0, .int 0, .int 0])), (559, .inr (4, [.int 4, .ref 560, .ref 563, .ref 564, .ref 565, .ref 566, .int 1, .int 0, .int 0, .int 0, .int 0])), (567, .inr (4, [.int 5, .ref 568, .ref 571, .ref 572, .ref 573, .ref 574, .int 1, .int 0, .int 0, .int 0, .int 0])), (575, .inr (4, [.int 6, .ref 576, .ref 579, .ref 580, .ref 581, .ref 582, .int 1, .int 0, .int 0, .int 0, .int 0])), (539, .inr (2, [.ref 0, .int 0, .int 0])), (547, .inr (2, [.ref 0, .int 0, .int 0])), (555, .inr (2, [.ref 0, .int 0, .int 0])), (563, .inr (2, [.ref 0, .int 0, .int 0])), (571, .inr (2, [.ref 0, .int 0, .int 0])), (579, .inr (2, [.ref 0, .int 0, .int 0])), (583, .inr (14, [.int 0, .ref 584, .int 0, .int (-1), .int 0, .int 0, .int 0, .int 0, .int 0, .int 0, .int 0, .int 0, .int 0, .int 0, .int 0, .int 0, .int 0, .int 0, .int 0, .int 0, .int 0, .ref 585, .ref 586, .int 0, .int 0, .int 0, .int 0, .int 0, .int 0, .int 0, .int 0, .int 0, .ref 587, .ref 588, .ref 589, .ref 590, .int 0, .int 0, .int 0, .int 0, .ref 591, .ref 592, .ref 593, .ref 594, .ref 595, .ref 596, .ref 597, .ref 598, .ref 599, .ref 600, .ref 601, .ref 602, .ref 603, .ref 604, .ref 605, .ref 606, .ref 607, .ref 608, .int 0, .ref 609, .ref 610, .ref 611, .ref 612, .ref 613, .ref 614, .ref 615, .ref 616, .ref 617, .ref 618, .ref 619, .int 0, .int 0, .ref 620, .ref 621, .int 0, .ref 622, .ref 623, .int 0, .ref 624, .ref 625, .int 0, .int 0, .int 0, .ref 626, .int 0, .int 0, .int 0, .int 0, .ref 627, .ref 628, .ref 629, .int 0])), (609, .inl (4, 896, [])), (630, .inl (1, 1, []))]
theorem wfC : m_wf 512 [] g_C = true := by decide
theorem c_tick_in {i m : Nat} {c : Int32} {w : List mM} (h : m_FW 512 0 (f_c c) [] g_C w) {P : Option Value → List mM → Prop} (kk : m_Rq M_234 (23, [(2, .int (Int32.ofNat (i + 1))), (3, .int 7), (0, .ref 512), (1, .int (Int32.ofNat m))], [], w) P 0 0 10 1000) : m_Rq M_234 (40, [(3, .int 1), (2, .int (Int32.ofNat i)), (0, .ref 512), (1, .int (Int32.ofNat m))], [], w) P 0 0 10 1000 := by
  refine m_Rq.n0 (x_iload_n d_234_40 rfl) ?_
  refine m_Rq.n0 (x_bipush (z := 6) d_234_41 (by decide)) ?_
  refine m_Rq.n0 (x_icf d_234_43 rfl (by decide)) ?_
  refine m_Rq.n0 (x_aload_n d_234_46 rfl) ?_
  refine m_Rq.n0 (x_aload_n d_234_47 rfl) ?_
  refine m_Rq.n0 (x_getf d_234_48 rfl h.2.1 rfl) ?_
  refine m_Rq.n0 (x_iload_n d_234_51 rfl) ?_
  refine m_Rq.n0 (x_aaload (j := 1) d_234_52 (h.g 0 rfl) rfl rfl (by decide) (by decide) (by decide) rfl) ?_
  refine m_Rq.callV (x_cv (n := 119) d_234_53 rfl q_235 (m_isRecv_of rfl h.2.1) rfl rfl h.1 rfl) (c_eo_1 h.1 (h.g 1 rfl) (h.g 7 rfl)) rfl ?_ (by decide) (by decide)
  refine m_Rq.n0 (x_iinc (z := 2) d_234_56 rfl rfl (by decide) (show m_put1 _ _ _ = [(3, _), (2, _), (0, _), (1, _)] from rfl)) ?_
  refine m_Rq.n0 (x_goto d_234_59 rfl) ?_
  refine m_Rq.n0 (x_iload_n d_234_40 rfl) ?_
  refine m_Rq.n0 (x_bipush (z := 6) d_234_41 (by decide)) ?_
  refine m_Rq.n0 (x_icf d_234_43 rfl (by decide)) ?_
  refine m_Rq.n0 (x_aload_n d_234_46 rfl) ?_
  refine m_Rq.n0 (x_aload_n d_234_47 rfl) ?_
  refine m_Rq.n0 (x_getf d_234_48 rfl h.2.1 rfl) ?_
  refine m_Rq.n0 (x_iload_n d_234_51 rfl) ?_
  refine m_Rq.n0 (x_aaload (j := 2) d_234_52 (h.g 0 rfl) rfl rfl (by decide) (by decide) (by decide) rfl) ?_
  refine m_Rq.callV (x_cv (n := 119) d_234_53 rfl q_235 (m_isRecv_of rfl h.2.1) rfl rfl h.1 rfl) (c_eo_2 h.1 (h.g 2 rfl) (h.g 8 rfl)) rfl ?_ (by decide) (by decide)
  refine m_Rq.n0 (x_iinc (z := 3) d_234_56 rfl rfl (by decide) (show m_put1 _ _ _ = [(3, _), (2, _), (0, _), (1, _)] from rfl)) ?_
  refine m_Rq.n0 (x_goto d_234_59 rfl) ?_
  refine m_Rq.n0 (x_iload_n d_234_40 rfl) ?_
  refine m_Rq.n0 (x_bipush (z := 6) d_234_41 (by decide)) ?_
  refine m_Rq.n0 (x_icf d_234_43 rfl (by decide)) ?_
  refine m_Rq.n0 (x_aload_n d_234_46 rfl) ?_
  refine m_Rq.n0 (x_aload_n d_234_47 rfl) ?_
  refine m_Rq.n0 (x_getf d_234_48 rfl h.2.1 rfl) ?_
  refine m_Rq.n0 (x_iload_n d_234_51 rfl) ?_
  refine m_Rq.n0 (x_aaload (j := 3) d_234_52 (h.g 0 rfl) rfl rfl (by decide) (by decide) (by decide) rfl) ?_
  refine m_Rq.callV (x_cv (n := 119) d_234_53 rfl q_235 (m_isRecv_of rfl h.2.1) rfl rfl h.1 rfl) (c_eo_3 h.1 (h.g 3 rfl) (h.g 9 rfl)) rfl ?_ (by decide) (by decide)
  refine m_Rq.n0 (x_iinc (z := 4) d_234_56 rfl rfl (by decide) (show m_put1 _ _ _ = [(3, _), (2, _), (0, _), (1, _)] from rfl)) ?_
  refine m_Rq.n0 (x_goto d_234_59 rfl) ?_
  refine m_Rq.n0 (x_iload_n d_234_40 rfl) ?_
  refine m_Rq.n0 (x_bipush (z := 6) d_234_41 (by decide)) ?_
  refine m_Rq.n0 (x_icf d_234_43 rfl (by decide)) ?_
  refine m_Rq.n0 (x_aload_n d_234_46 rfl) ?_
  refine m_Rq.n0 (x_aload_n d_234_47 rfl) ?_
  refine m_Rq.n0 (x_getf d_234_48 rfl h.2.1 rfl) ?_
  refine m_Rq.n0 (x_iload_n d_234_51 rfl) ?_
  refine m_Rq.n0 (x_aaload (j := 4) d_234_52 (h.g 0 rfl) rfl rfl (by decide) (by decide) (by decide) rfl) ?_
  refine m_Rq.callV (x_cv (n := 119) d_234_53 rfl q_235 (m_isRecv_of rfl h.2.1) rfl rfl h.1 rfl) (c_eo_4 h.1 (h.g 4 rfl) (h.g 10 rfl)) rfl ?_ (by decide) (by decide)
  refine m_Rq.n0 (x_iinc (z := 5) d_234_56 rfl rfl (by decide) (show m_put1 _ _ _ = [(3, _), (2, _), (0, _), (1, _)] from rfl)) ?_
  refine m_Rq.n0 (x_goto d_234_59 rfl) ?_
  refine m_Rq.n0 (x_iload_n d_234_40 rfl) ?_
  refine m_Rq.n0 (x_bipush (z := 6) d_234_41 (by decide)) ?_
  refine m_Rq.n0 (x_icf d_234_43 rfl (by decide)) ?_
  refine m_Rq.n0 (x_aload_n d_234_46 rfl) ?_
  refine m_Rq.n0 (x_aload_n d_234_47 rfl) ?_
  refine m_Rq.n0 (x_getf d_234_48 rfl h.2.1 rfl) ?_
  refine m_Rq.n0 (x_iload_n d_234_51 rfl) ?_
  refine m_Rq.n0 (x_aaload (j := 5) d_234_52 (h.g 0 rfl) rfl rfl (by decide) (by decide) (by decide) rfl) ?_
  refine m_Rq.callV (x_cv (n := 119) d_234_53 rfl q_235 (m_isRecv_of rfl h.2.1) rfl rfl h.1 rfl) (c_eo_5 h.1 (h.g 5 rfl) (h.g 11 rfl)) rfl ?_ (by decide) (by decide)
  refine m_Rq.n0 (x_iinc (z := 6) d_234_56 rfl rfl (by decide) (show m_put1 _ _ _ = [(3, _), (2, _), (0, _), (1, _)] from rfl)) ?_
  refine m_Rq.n0 (x_goto d_234_59 rfl) ?_
  refine m_Rq.n0 (x_iload_n d_234_40 rfl) ?_
  refine m_Rq.n0 (x_bipush (z := 6) d_234_41 (by decide)) ?_
  refine m_Rq.n0 (x_icf d_234_43 rfl (by decide)) ?_
  refine m_Rq.n0 (x_aload_n d_234_46 rfl) ?_
  refine m_Rq.n0 (x_aload_n d_234_47 rfl) ?_
  refine m_Rq.n0 (x_getf d_234_48 rfl h.2.1 rfl) ?_
  refine m_Rq.n0 (x_iload_n d_234_51 rfl) ?_
  refine m_Rq.n0 (x_aaload (j := 6) d_234_52 (h.g 0 rfl) rfl rfl (by decide) (by decide) (by decide) rfl) ?_
  refine m_Rq.callV (x_cv (n := 119) d_234_53 rfl q_235 (m_isRecv_of rfl h.2.1) rfl rfl h.1 rfl) (c_eo_6 h.1 (h.g 6 rfl) (h.g 12 rfl)) rfl ?_ (by decide) (by decide)
  refine m_Rq.n0 (x_iinc (z := 7) d_234_56 rfl rfl (by decide) (show m_put1 _ _ _ = [(3, _), (2, _), (0, _), (1, _)] from rfl)) ?_
  refine m_Rq.n0 (x_goto d_234_59 rfl) ?_
  refine m_Rq.n0 (x_iload_n d_234_40 rfl) ?_
  refine m_Rq.n0 (x_bipush (z := 6) d_234_41 (by decide)) ?_
  refine m_Rq.n0 (x_ict d_234_43 rfl (by decide)) ?_
  refine m_Rq.n0 (x_iinc (z := Int32.ofNat (i + 1)) d_234_62 rfl rfl (m_n_inc _) (show m_put1 _ _ _ = [(2, _), (3, _), (0, _), (1, _)] from rfl)) ?_
  refine m_Rq.n0 (x_goto d_234_65 rfl) ?_
  exact kk
theorem l_ctick {m : Nat} (hm : m < 101) : ∀ (d i : Nat) (w : List mM), m_FW 512 0 (f_c (Int32.ofNat i)) [] g_C w → i + d = m → m_Rq M_234 (23, [(2, .int (Int32.ofNat i)), (3, .int 7), (0, .ref 512), (1, .int (Int32.ofNat m))], [], w) (fun v w => v = some (.int (Int32.ofNat m)) ∧ m_FW 512 0 (f_c (Int32.ofNat m)) [] g_C w) 0 0 10 1000 := by
  intro d
  induction d with
  | zero =>
    intro i w h he
    refine m_Rq.n0 (x_iload_n d_234_23 rfl) ?_
    refine m_Rq.n0 (x_iload_n d_234_24 rfl) ?_
    refine m_Rq.n0 (x_ict d_234_25 rfl (m_c2n (a := i) (b := m) (by omega) (by omega) (decide_eq_true (by omega)))) ?_
    refine m_Rq.n0 (x_aload_n d_234_68 rfl) ?_
    refine m_Rq.n0 (x_getf d_234_69 rfl h.2.1 rfl) ?_
    refine m_Rq.ir d_234_72 rfl rfl ?_
    have e : i = m := he
    subst e
    exact ⟨rfl, h⟩
  | succ d ih =>
    intro i w h he
    refine m_Rq.n0 (x_iload_n d_234_23 rfl) ?_
    refine m_Rq.n0 (x_iload_n d_234_24 rfl) ?_
    refine m_Rq.n0 (x_icf d_234_25 rfl (m_c2n (a := i) (b := m) (by omega) (by omega) (decide_eq_false (by omega)))) ?_
    refine m_Rq.n0 (x_aload_n d_234_28 rfl) ?_
    refine m_Rq.n0 (x_dup d_234_29 rfl) ?_
    refine m_Rq.n0 (x_getf d_234_30 rfl h.2.1 rfl) ?_
    refine m_Rq.n0 (x_iconst (z := 1) d_234_33 (by decide)) ?_
    refine m_Rq.n0 (x_iadd (z := Int32.ofNat (i + 1)) d_234_34 (m_n_add _ _)) ?_
    refine m_Rq.fwP (fs' := f_c (Int32.ofNat (i + 1))) d_234_35 wfC h rfl rfl (by decide) rfl rfl rfl rfl (fun w h => ?_)
    refine m_Rq.n0 (x_iconst (z := 1) d_234_38 (by decide)) ?_
    refine m_Rq.n0 (x_istore_n d_234_39 rfl (show m_put1 _ _ _ = [(3, _), (2, _), (0, _), (1, _)] from rfl)) ?_
    exact c_tick_in h (ih (i + 1) w h (by omega))
theorem c_tick {m : Nat} (h0 : 1 ≤ m) (hm : m < 101) {w : List mM} (h : m_FW 512 0 (f_c 0) [] g_C w) : m_Rq M_234 (m_ent M_234 [.ref 512, .int (Int32.ofNat m)] w) (fun v w => v = some (.int (Int32.ofNat m)) ∧ m_FW 512 0 (f_c (Int32.ofNat m)) [] g_C w) 0 0 10 1000 := by
  show m_Rq M_234 (0, [(0, .ref 512), (1, .int (Int32.ofNat m))], [], w) _ 0 0 10 1000
  refine m_Rq.n0 (x_iload_n d_234_0 rfl) ?_
  refine m_Rq.n0 (x_iconst (z := 1) d_234_1 (by decide)) ?_
  refine m_Rq.n0 (x_icf d_234_2 rfl (m_c2n (a := m) (b := 1) (by omega) (by omega) (decide_eq_false (by omega)))) ?_
  refine m_Rq.n0 (x_iload_n d_234_5 rfl) ?_
  refine m_Rq.n0 (x_bipush (z := 100) d_234_6 (by decide)) ?_
  refine m_Rq.n0 (x_ict d_234_8 rfl (m_c2n (a := m) (b := 100) (by omega) (by omega) (decide_eq_true (by omega)))) ?_
  refine m_Rq.n0 (x_iconst (z := 0) d_234_21 (by decide)) ?_
  refine m_Rq.n0 (x_istore_n d_234_22 rfl (show m_put1 _ _ _ = [(2, _), (0, _), (1, _)] from rfl)) ?_
  refine m_Rq.n0 (x_iload_n d_234_23 rfl) ?_
  refine m_Rq.n0 (x_iload_n d_234_24 rfl) ?_
  refine m_Rq.n0 (x_icf d_234_25 rfl (m_c2n (a := 0) (b := m) (by omega) (by omega) (decide_eq_false (by omega)))) ?_
  refine m_Rq.n0 (x_aload_n d_234_28 rfl) ?_
  refine m_Rq.n0 (x_dup d_234_29 rfl) ?_
  refine m_Rq.n0 (x_getf d_234_30 rfl h.2.1 rfl) ?_
  refine m_Rq.n0 (x_iconst (z := 1) d_234_33 (by decide)) ?_
  refine m_Rq.n0 (x_iadd (z := 1) d_234_34 (by decide)) ?_
  refine m_Rq.fwP (fs' := f_c 1) d_234_35 wfC h rfl rfl (by decide) rfl rfl rfl rfl (fun w h => ?_)
  refine m_Rq.n0 (x_iconst (z := 1) d_234_38 (by decide)) ?_
  refine m_Rq.n0 (x_istore_n d_234_39 rfl (show m_put1 _ _ _ = [(3, _), (2, _), (0, _), (1, _)] from rfl)) ?_
  exact c_tick_in (i := 0) h (l_ctick hm (m - 1) 1 w h (by omega))
def g_M (z : Int64) : List (Nat × mM) := [(609, .inl (4, 896, [])), (630, .inl (1, 1, [(0, .long z)]))]
theorem wfM {z : Int64} : m_wf 583 [] (g_M z) = true := by simp [m_wf, g_M]
theorem e_tick_in {i m : Nat} {c : Int32} {z : Int64} {w : List mM} (h : m_FW 583 14 (f_m c) [] (g_M z) w) {P : Option Value → List mM → Prop} (kk : m_Rq M_329 (31, [(2, .int (Int32.ofNat (i + 1))), (3, .int 7), (0, .ref 583), (1, .int (Int32.ofNat m))], [], w) P 0 0 10 1000) : m_Rq M_329 (48, [(3, .int 1), (2, .int (Int32.ofNat i)), (0, .ref 583), (1, .int (Int32.ofNat m))], [], w) P 0 0 10 1000 := by
  refine m_Rq.n0 (x_iload_n d_329_48 rfl) ?_
  refine m_Rq.n0 (x_bipush (z := 7) d_329_49 (by decide)) ?_
  refine m_Rq.n0 (x_icf d_329_51 rfl (by decide)) ?_
  refine m_Rq.n0 (x_aload_n d_329_54 rfl) ?_
  refine m_Rq.n0 (x_iload_n d_329_55 rfl) ?_
  refine m_Rq.callV (x_cv (n := 119) d_329_56 rfl q_330 (m_isRecv_of rfl h.2.1) rfl rfl h.1 rfl) (s_lapse (n := 1) h.2.1 (h.g 0 rfl) (by decide)) rfl ?_ (by decide) (by decide)
  refine m_Rq.n0 (x_iinc (z := 2) d_329_59 rfl rfl (by decide) (show m_put1 _ _ _ = [(3, _), (2, _), (0, _), (1, _)] from rfl)) ?_
  refine m_Rq.n0 (x_goto d_329_62 rfl) ?_
  refine m_Rq.n0 (x_iload_n d_329_48 rfl) ?_
  refine m_Rq.n0 (x_bipush (z := 7) d_329_49 (by decide)) ?_
  refine m_Rq.n0 (x_icf d_329_51 rfl (by decide)) ?_
  refine m_Rq.n0 (x_aload_n d_329_54 rfl) ?_
  refine m_Rq.n0 (x_iload_n d_329_55 rfl) ?_
  refine m_Rq.callV (x_cv (n := 119) d_329_56 rfl q_330 (m_isRecv_of rfl h.2.1) rfl rfl h.1 rfl) (s_lapse (n := 2) h.2.1 (h.g 0 rfl) (by decide)) rfl ?_ (by decide) (by decide)
  refine m_Rq.n0 (x_iinc (z := 3) d_329_59 rfl rfl (by decide) (show m_put1 _ _ _ = [(3, _), (2, _), (0, _), (1, _)] from rfl)) ?_
  refine m_Rq.n0 (x_goto d_329_62 rfl) ?_
  refine m_Rq.n0 (x_iload_n d_329_48 rfl) ?_
  refine m_Rq.n0 (x_bipush (z := 7) d_329_49 (by decide)) ?_
  refine m_Rq.n0 (x_icf d_329_51 rfl (by decide)) ?_
  refine m_Rq.n0 (x_aload_n d_329_54 rfl) ?_
  refine m_Rq.n0 (x_iload_n d_329_55 rfl) ?_
  refine m_Rq.callV (x_cv (n := 119) d_329_56 rfl q_330 (m_isRecv_of rfl h.2.1) rfl rfl h.1 rfl) (s_lapse (n := 3) h.2.1 (h.g 0 rfl) (by decide)) rfl ?_ (by decide) (by decide)
  refine m_Rq.n0 (x_iinc (z := 4) d_329_59 rfl rfl (by decide) (show m_put1 _ _ _ = [(3, _), (2, _), (0, _), (1, _)] from rfl)) ?_
  refine m_Rq.n0 (x_goto d_329_62 rfl) ?_
  refine m_Rq.n0 (x_iload_n d_329_48 rfl) ?_
  refine m_Rq.n0 (x_bipush (z := 7) d_329_49 (by decide)) ?_
  refine m_Rq.n0 (x_icf d_329_51 rfl (by decide)) ?_
  refine m_Rq.n0 (x_aload_n d_329_54 rfl) ?_
  refine m_Rq.n0 (x_iload_n d_329_55 rfl) ?_
  refine m_Rq.callV (x_cv (n := 119) d_329_56 rfl q_330 (m_isRecv_of rfl h.2.1) rfl rfl h.1 rfl) (s_lapse (n := 4) h.2.1 (h.g 0 rfl) (by decide)) rfl ?_ (by decide) (by decide)
  refine m_Rq.n0 (x_iinc (z := 5) d_329_59 rfl rfl (by decide) (show m_put1 _ _ _ = [(3, _), (2, _), (0, _), (1, _)] from rfl)) ?_
  refine m_Rq.n0 (x_goto d_329_62 rfl) ?_
  refine m_Rq.n0 (x_iload_n d_329_48 rfl) ?_
  refine m_Rq.n0 (x_bipush (z := 7) d_329_49 (by decide)) ?_
  refine m_Rq.n0 (x_icf d_329_51 rfl (by decide)) ?_
  refine m_Rq.n0 (x_aload_n d_329_54 rfl) ?_
  refine m_Rq.n0 (x_iload_n d_329_55 rfl) ?_
  refine m_Rq.callV (x_cv (n := 119) d_329_56 rfl q_330 (m_isRecv_of rfl h.2.1) rfl rfl h.1 rfl) (s_lapse (n := 5) h.2.1 (h.g 0 rfl) (by decide)) rfl ?_ (by decide) (by decide)
  refine m_Rq.n0 (x_iinc (z := 6) d_329_59 rfl rfl (by decide) (show m_put1 _ _ _ = [(3, _), (2, _), (0, _), (1, _)] from rfl)) ?_
  refine m_Rq.n0 (x_goto d_329_62 rfl) ?_
  refine m_Rq.n0 (x_iload_n d_329_48 rfl) ?_
  refine m_Rq.n0 (x_bipush (z := 7) d_329_49 (by decide)) ?_
  refine m_Rq.n0 (x_icf d_329_51 rfl (by decide)) ?_
  refine m_Rq.n0 (x_aload_n d_329_54 rfl) ?_
  refine m_Rq.n0 (x_iload_n d_329_55 rfl) ?_
  refine m_Rq.callV (x_cv (n := 119) d_329_56 rfl q_330 (m_isRecv_of rfl h.2.1) rfl rfl h.1 rfl) (s_lapse (n := 6) h.2.1 (h.g 0 rfl) (by decide)) rfl ?_ (by decide) (by decide)
  refine m_Rq.n0 (x_iinc (z := 7) d_329_59 rfl rfl (by decide) (show m_put1 _ _ _ = [(3, _), (2, _), (0, _), (1, _)] from rfl)) ?_
  refine m_Rq.n0 (x_goto d_329_62 rfl) ?_
  refine m_Rq.n0 (x_iload_n d_329_48 rfl) ?_
  refine m_Rq.n0 (x_bipush (z := 7) d_329_49 (by decide)) ?_
  refine m_Rq.n0 (x_ict d_329_51 rfl (by decide)) ?_
  refine m_Rq.n0 (x_iinc (z := Int32.ofNat (i + 1)) d_329_65 rfl rfl (m_n_inc _) (show m_put1 _ _ _ = [(2, _), (3, _), (0, _), (1, _)] from rfl)) ?_
  refine m_Rq.n0 (x_goto d_329_68 rfl) ?_
  exact kk
theorem l_mtick {m : Nat} {z : Int64} (hm : m < 101) : ∀ (d i : Nat) (w : List mM), m_FW 583 14 (f_m (Int32.ofNat i)) [] (g_M z) w → i + d = m → m_Rq M_329 (31, [(2, .int (Int32.ofNat i)), (3, .int 7), (0, .ref 583), (1, .int (Int32.ofNat m))], [], w) (fun v w => v = some (.int (Int32.ofNat m)) ∧ m_FW 583 14 (f_m (Int32.ofNat m)) [] (g_M z) w) 0 0 10 1000 := by
  intro d
  induction d with
  | zero =>
    intro i w h he
    refine m_Rq.n0 (x_iload_n d_329_31 rfl) ?_
    refine m_Rq.n0 (x_iload_n d_329_32 rfl) ?_
    refine m_Rq.n0 (x_ict d_329_33 rfl (m_c2n (a := i) (b := m) (by omega) (by omega) (decide_eq_true (by omega)))) ?_
    refine m_Rq.n0 (x_aload_n d_329_71 rfl) ?_
    refine m_Rq.n0 (x_getf d_329_72 rfl h.2.1 rfl) ?_
    refine m_Rq.ir d_329_75 rfl rfl ?_
    have e : i = m := he
    subst e
    exact ⟨rfl, h⟩
  | succ d ih =>
    intro i w h he
    refine m_Rq.n0 (x_iload_n d_329_31 rfl) ?_
    refine m_Rq.n0 (x_iload_n d_329_32 rfl) ?_
    refine m_Rq.n0 (x_icf d_329_33 rfl (m_c2n (a := i) (b := m) (by omega) (by omega) (decide_eq_false (by omega)))) ?_
    refine m_Rq.n0 (x_aload_n d_329_36 rfl) ?_
    refine m_Rq.n0 (x_dup d_329_37 rfl) ?_
    refine m_Rq.n0 (x_getf d_329_38 rfl h.2.1 rfl) ?_
    refine m_Rq.n0 (x_iconst (z := 1) d_329_41 (by decide)) ?_
    refine m_Rq.n0 (x_iadd (z := Int32.ofNat (i + 1)) d_329_42 (m_n_add _ _)) ?_
    refine m_Rq.fwP (fs' := f_m (Int32.ofNat (i + 1))) d_329_43 wfM h rfl rfl (by decide) rfl rfl rfl rfl (fun w h => ?_)
    refine m_Rq.n0 (x_iconst (z := 1) d_329_46 (by decide)) ?_
    refine m_Rq.n0 (x_istore_n d_329_47 rfl (show m_put1 _ _ _ = [(3, _), (2, _), (0, _), (1, _)] from rfl)) ?_
    exact e_tick_in h (ih (i + 1) w h (by omega))
theorem e_tick {m : Nat} {z : Int64} (h0 : 1 ≤ m) (hm : m < 101) {w : List mM} (h : m_FW 583 14 (f_m 0) [] (g_M z) w) : m_Rq M_329 (m_ent M_329 [.ref 583, .int (Int32.ofNat m)] w) (fun v w => v = some (.int (Int32.ofNat m)) ∧ m_FW 583 14 (f_m (Int32.ofNat m)) [] (g_M z) w) 0 0 10 1000 := by
  show m_Rq M_329 (0, [(0, .ref 583), (1, .int (Int32.ofNat m))], [], w) _ 0 0 10 1000
  refine m_Rq.n0 (x_aload_n d_329_0 rfl) ?_
  refine m_Rq.n0 (x_iload_n d_329_1 rfl) ?_
  refine m_Rq.n0 (x_iconst (z := 1) d_329_2 (by decide)) ?_
  refine m_Rq.n0 (x_icf d_329_3 rfl (m_c2n (a := m) (b := 1) (by omega) (by omega) (decide_eq_false (by omega)))) ?_
  refine m_Rq.n0 (x_iload_n d_329_6 rfl) ?_
  refine m_Rq.n0 (x_bipush (z := 100) d_329_7 (by decide)) ?_
  refine m_Rq.n0 (x_ict d_329_9 rfl (m_c2n (a := m) (b := 100) (by omega) (by omega) (decide_eq_true (by omega)))) ?_
  refine m_Rq.n0 (x_iconst (z := 0) d_329_16 (by decide)) ?_
  refine m_Rq.n0 (x_putfs d_329_17 rfl h.2.1 rfl rfl (by decide) rfl rfl rfl) ?_
  refine m_Rq.n0 (x_aload_n d_329_20 rfl) ?_
  refine m_Rq.n0 (x_getf d_329_21 rfl h.2.1 rfl) ?_
  refine m_Rq.n0 (x_ift d_329_24 rfl (by decide)) ?_
  refine m_Rq.n0 (x_iconst (z := 0) d_329_29 (by decide)) ?_
  refine m_Rq.n0 (x_istore_n d_329_30 rfl (show m_put1 _ _ _ = [(2, _), (0, _), (1, _)] from rfl)) ?_
  refine m_Rq.n0 (x_iload_n d_329_31 rfl) ?_
  refine m_Rq.n0 (x_iload_n d_329_32 rfl) ?_
  refine m_Rq.n0 (x_icf d_329_33 rfl (m_c2n (a := 0) (b := m) (by omega) (by omega) (decide_eq_false (by omega)))) ?_
  refine m_Rq.n0 (x_aload_n d_329_36 rfl) ?_
  refine m_Rq.n0 (x_dup d_329_37 rfl) ?_
  refine m_Rq.n0 (x_getf d_329_38 rfl h.2.1 rfl) ?_
  refine m_Rq.n0 (x_iconst (z := 1) d_329_41 (by decide)) ?_
  refine m_Rq.n0 (x_iadd (z := 1) d_329_42 (by decide)) ?_
  refine m_Rq.fwP (fs' := f_m 1) d_329_43 wfM h rfl rfl (by decide) rfl rfl rfl rfl (fun w h => ?_)
  refine m_Rq.n0 (x_iconst (z := 1) d_329_46 (by decide)) ?_
  refine m_Rq.n0 (x_istore_n d_329_47 rfl (show m_put1 _ _ _ = [(3, _), (2, _), (0, _), (1, _)] from rfl)) ?_
  exact e_tick_in (i := 0) h (l_mtick hm (m - 1) 1 w h (by omega))
theorem m_FW_C : m_FW 512 0 (f_c 0) [] g_C w_1 := by
  refine ⟨m_hn1, a_512, fun q hq => absurd hq List.not_mem_nil, ?_⟩
  unfold g_C
  simp only [List.forall_mem_cons]
  exact ⟨a_519, a_535, a_543, a_551, a_559, a_567, a_575, a_539, a_547, a_555, a_563, a_571, a_579, a_583, a_609, a_630, fun q hq => absurd hq List.not_mem_nil⟩
