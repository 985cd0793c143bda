/-! What both machines refuse on a fresh object. Written by wip/tool/sym.py. -/
theorem m_hn1 : 119 ≤ w_1.length := by decide +kernel
theorem m_Two.same2 {J K : mI} {as bs : List Value} (x : Int32) {c s f l c' s' f' l' : Nat} (h1 : m_Rq J (m_ent J as w_1) (fun v w => v = some (.int x) ∧ w = w_1) c s f l) (h2 : m_Rq K (m_ent K bs w_1) (fun v w => v = some (.int x) ∧ w = w_1) c' s' f' l') (b : decide (c ≤ 400 ∧ s ≤ 400000 ∧ f ≤ 100 ∧ l ≤ 20000 ∧ c' ≤ 400 ∧ s' ≤ 400000 ∧ f' ≤ 100 ∧ l' ≤ 20000) = true) : m_Two J K as bs :=
  m_Two.same x h1 (h2.mono (fun _ _ h => h.1) (Nat.le_refl _) (Nat.le_refl _) (Nat.le_refl _) (Nat.le_refl _)) b
theorem a_512 : m_at w_1 512 = some (.inr (0, [.ref 513, .ref 517, .ref 518, .ref 519, .ref 520, .ref 521, .ref 522, .ref 523, .ref 524, .ref 525, .int 0, .int 0, .int 0, .int 0, .int 0])) := rfl
theorem a_523 : m_at w_1 523 = some (.inr (2, [.ref 0, .int 0, .int 0])) := rfl
theorem a_524 : m_at w_1 524 = some (.inr (2, [.ref 0, .int 0, .int 0])) := rfl
theorem a_583 : m_at w_1 583 = some (.inr (14, [.int 0, .ref 584, .int 0, .int (-1), .int 0, .int 0, .int 0, .int 0, .int 0, .int 0, .int 0, .int 0, .int 0, .int 0, .int 0, .int 0, .int 0, .int 0, .int 0, .int 0, .int 0, .ref 585, .ref 586, .int 0, .int 0, .int 0, .int 0, .int 0, .int 0, .int 0, .int 0, .int 0, .ref 587, .ref 588, .ref 589, .ref 590, .int 0, .int 0, .int 0, .int 0, .ref 591, .ref 592, .ref 593, .ref 594, .ref 595, .ref 596, .ref 597, .ref 598, .ref 599, .ref 600, .ref 601, .ref 602, .ref 603, .ref 604, .ref 605, .ref 606, .ref 607, .ref 608, .int 0, .ref 609, .ref 610, .ref 611, .ref 612, .ref 613, .ref 614, .ref 615, .ref 616, .ref 617, .ref 618, .ref 619, .int 0, .int 0, .ref 620, .ref 621, .int 0, .ref 622, .ref 623, .int 0, .ref 624, .ref 625, .int 0, .int 0, .int 0, .ref 626, .int 0, .int 0, .int 0, .int 0, .ref 627, .ref 628, .ref 629, .int 0])) := rfl
theorem q_17 : m_mt[17]? = some M_17 := by rfl
theorem q_15 : m_mt[15]? = some M_15 := by rfl
theorem q_131 : m_mt[131]? = some M_131 := by rfl
theorem q_333 : m_mt[333]? = some M_333 := by rfl
theorem d_126_0 : m_dn M_126 0 (.iload_n 1) 1 1 := by decide +kernel
theorem d_126_1 : m_dn M_126 1 (.ifCond .lt 14) 3 4 := by decide +kernel
theorem d_126_12 : m_dn M_126 12 (.if_icmp .lt 5) 3 15 := by decide +kernel
theorem d_126_15 : m_dn M_126 15 (.iconst 0) 1 16 := by decide +kernel
theorem d_126_16 : m_dn M_126 16 (.ireturn) 1 17 := by decide +kernel
theorem d_126_4 : m_dn M_126 4 (.iload_n 1) 1 5 := by decide +kernel
theorem d_126_5 : m_dn M_126 5 (.aload_n 0) 1 6 := by decide +kernel
theorem d_126_6 : m_dn M_126 6 (.getfield 44) 3 9 := by decide +kernel
theorem d_126_9 : m_dn M_126 9 (.invokevirtual 94) 3 12 := by decide +kernel
theorem d_131_0 : m_dn M_131 0 (.iload_n 0) 1 1 := by decide +kernel
theorem d_131_1 : m_dn M_131 1 (.iconst 1) 1 2 := by decide +kernel
theorem d_131_11 : m_dn M_131 11 (.iconst 1) 1 12 := by decide +kernel
theorem d_131_12 : m_dn M_131 12 (.goto 4) 3 15 := by decide +kernel
theorem d_131_15 : m_dn M_131 15 (.iconst 0) 1 16 := by decide +kernel
theorem d_131_16 : m_dn M_131 16 (.ireturn) 1 17 := by decide +kernel
theorem d_131_2 : m_dn M_131 2 (.if_icmp .lt 13) 3 5 := by decide +kernel
theorem d_131_5 : m_dn M_131 5 (.iload_n 0) 1 6 := by decide +kernel
theorem d_131_6 : m_dn M_131 6 (.bipush 6) 2 8 := by decide +kernel
theorem d_131_8 : m_dn M_131 8 (.if_icmp .gt 7) 3 11 := by decide +kernel
theorem d_148_0 : m_dn M_148 0 (.iload_n 1) 1 1 := by decide +kernel
theorem d_148_1 : m_dn M_148 1 (.ifCond .lt 14) 3 4 := by decide +kernel
theorem d_148_12 : m_dn M_148 12 (.if_icmp .lt 5) 3 15 := by decide +kernel
theorem d_148_15 : m_dn M_148 15 (.iconst 0) 1 16 := by decide +kernel
theorem d_148_16 : m_dn M_148 16 (.ireturn) 1 17 := by decide +kernel
theorem d_148_4 : m_dn M_148 4 (.iload_n 1) 1 5 := by decide +kernel
theorem d_148_5 : m_dn M_148 5 (.aload_n 0) 1 6 := by decide +kernel
theorem d_148_6 : m_dn M_148 6 (.getfield 44) 3 9 := by decide +kernel
theorem d_148_9 : m_dn M_148 9 (.invokevirtual 94) 3 12 := by decide +kernel
theorem d_14_0 : m_dn M_14 0 (.iload_n 1) 1 1 := by decide +kernel
theorem d_14_1 : m_dn M_14 1 (.invokestatic 80) 3 4 := by decide +kernel
theorem d_14_16 : m_dn M_14 16 (.iconst 0) 1 17 := by decide +kernel
theorem d_14_17 : m_dn M_14 17 (.ireturn) 1 18 := by decide +kernel
theorem d_14_4 : m_dn M_14 4 (.ifCond .eq 12) 3 7 := by decide +kernel
theorem d_151_0 : m_dn M_151 0 (.iload_n 1) 1 1 := by decide +kernel
theorem d_151_1 : m_dn M_151 1 (.invokestatic 181) 3 4 := by decide +kernel
theorem d_151_19 : m_dn M_151 19 (.iconst 0) 1 20 := by decide +kernel
theorem d_151_20 : m_dn M_151 20 (.ireturn) 1 21 := by decide +kernel
theorem d_151_4 : m_dn M_151 4 (.ifCond .eq 15) 3 7 := by decide +kernel
theorem d_155_0 : m_dn M_155 0 (.iload_n 1) 1 1 := by decide +kernel
theorem d_155_1 : m_dn M_155 1 (.invokestatic 181) 3 4 := by decide +kernel
theorem d_155_19 : m_dn M_155 19 (.iconst 0) 1 20 := by decide +kernel
theorem d_155_20 : m_dn M_155 20 (.ireturn) 1 21 := by decide +kernel
theorem d_155_4 : m_dn M_155 4 (.ifCond .eq 15) 3 7 := by decide +kernel
theorem d_157_0 : m_dn M_157 0 (.iload_n 1) 1 1 := by decide +kernel
theorem d_157_1 : m_dn M_157 1 (.ifCond .lt 14) 3 4 := by decide +kernel
theorem d_157_12 : m_dn M_157 12 (.if_icmp .lt 5) 3 15 := by decide +kernel
theorem d_157_15 : m_dn M_157 15 (.iconst (-1)) 1 16 := by decide +kernel
theorem d_157_16 : m_dn M_157 16 (.ireturn) 1 17 := by decide +kernel
theorem d_157_4 : m_dn M_157 4 (.iload_n 1) 1 5 := by decide +kernel
theorem d_157_5 : m_dn M_157 5 (.aload_n 0) 1 6 := by decide +kernel
theorem d_157_6 : m_dn M_157 6 (.getfield 48) 3 9 := by decide +kernel
theorem d_157_9 : m_dn M_157 9 (.invokevirtual 94) 3 12 := by decide +kernel
theorem d_15_0 : m_dn M_15 0 (.iload_n 0) 1 1 := by decide +kernel
theorem d_15_1 : m_dn M_15 1 (.ifCond .lt 13) 3 4 := by decide +kernel
theorem d_15_10 : m_dn M_15 10 (.iconst 1) 1 11 := by decide +kernel
theorem d_15_11 : m_dn M_15 11 (.goto 4) 3 14 := by decide +kernel
theorem d_15_14 : m_dn M_15 14 (.iconst 0) 1 15 := by decide +kernel
theorem d_15_15 : m_dn M_15 15 (.ireturn) 1 16 := by decide +kernel
theorem d_15_4 : m_dn M_15 4 (.iload_n 0) 1 5 := by decide +kernel
theorem d_15_5 : m_dn M_15 5 (.bipush 32) 2 7 := by decide +kernel
theorem d_15_7 : m_dn M_15 7 (.if_icmp .ge 7) 3 10 := by decide +kernel
theorem d_17_0 : m_dn M_17 0 (.aload_n 0) 1 1 := by decide +kernel
theorem d_17_1 : m_dn M_17 1 (.getfield 48) 3 4 := by decide +kernel
theorem d_17_4 : m_dn M_17 4 (.ireturn) 1 5 := by decide +kernel
theorem d_225_0 : m_dn M_225 0 (.iload_n 1) 1 1 := by decide +kernel
theorem d_225_1 : m_dn M_225 1 (.ifCond .lt 14) 3 4 := by decide +kernel
theorem d_225_12 : m_dn M_225 12 (.if_icmp .lt 5) 3 15 := by decide +kernel
theorem d_225_15 : m_dn M_225 15 (.iconst (-1)) 1 16 := by decide +kernel
theorem d_225_16 : m_dn M_225 16 (.ireturn) 1 17 := by decide +kernel
theorem d_225_4 : m_dn M_225 4 (.iload_n 1) 1 5 := by decide +kernel
theorem d_225_5 : m_dn M_225 5 (.aload_n 0) 1 6 := by decide +kernel
theorem d_225_6 : m_dn M_225 6 (.getfield 44) 3 9 := by decide +kernel
theorem d_225_9 : m_dn M_225 9 (.invokevirtual 94) 3 12 := by decide +kernel
theorem d_228_0 : m_dn M_228 0 (.iload_n 1) 1 1 := by decide +kernel
theorem d_228_1 : m_dn M_228 1 (.tableswitch 84 0 6 #[43, 51, 56, 64, 69, 74, 79]) 43 44 := by decide +kernel
theorem d_228_85 : m_dn M_228 85 (.iconst (-1)) 1 86 := by decide +kernel
theorem d_228_86 : m_dn M_228 86 (.ireturn) 1 87 := by decide +kernel
theorem d_268_0 : m_dn M_268 0 (.aload_n 0) 1 1 := by decide +kernel
theorem d_268_1 : m_dn M_268 1 (.iconst 0) 1 2 := by decide +kernel
theorem d_268_10 : m_dn M_268 10 (.bipush 31) 2 12 := by decide +kernel
theorem d_268_12 : m_dn M_268 12 (.if_icmp .gt 15) 3 15 := by decide +kernel
theorem d_268_2 : m_dn M_268 2 (.putfield 155) 3 5 := by decide +kernel
theorem d_268_27 : m_dn M_268 27 (.iconst 0) 1 28 := by decide +kernel
theorem d_268_28 : m_dn M_268 28 (.ireturn) 1 29 := by decide +kernel
theorem d_268_5 : m_dn M_268 5 (.iload_n 1) 1 6 := by decide +kernel
theorem d_268_6 : m_dn M_268 6 (.ifCond .lt 21) 3 9 := by decide +kernel
theorem d_268_9 : m_dn M_268 9 (.iload_n 1) 1 10 := by decide +kernel
theorem d_314_0 : m_dn M_314 0 (.aload_n 0) 1 1 := by decide +kernel
theorem d_314_1 : m_dn M_314 1 (.iconst 0) 1 2 := by decide +kernel
theorem d_314_10 : m_dn M_314 10 (.aload_n 0) 1 11 := by decide +kernel
theorem d_314_11 : m_dn M_314 11 (.getfield 533) 3 14 := by decide +kernel
theorem d_314_14 : m_dn M_314 14 (.if_icmp .lt 5) 3 17 := by decide +kernel
theorem d_314_17 : m_dn M_314 17 (.iconst 0) 1 18 := by decide +kernel
theorem d_314_18 : m_dn M_314 18 (.ireturn) 1 19 := by decide +kernel
theorem d_314_2 : m_dn M_314 2 (.putfield 155) 3 5 := by decide +kernel
theorem d_314_5 : m_dn M_314 5 (.iload_n 1) 1 6 := by decide +kernel
theorem d_314_6 : m_dn M_314 6 (.ifCond .lt 11) 3 9 := by decide +kernel
theorem d_314_9 : m_dn M_314 9 (.iload_n 1) 1 10 := by decide +kernel
theorem d_326_0 : m_dn M_326 0 (.aload_n 0) 1 1 := by decide +kernel
theorem d_326_1 : m_dn M_326 1 (.iconst 0) 1 2 := by decide +kernel
theorem d_326_10 : m_dn M_326 10 (.aload_n 0) 1 11 := by decide +kernel
theorem d_326_11 : m_dn M_326 11 (.getfield 533) 3 14 := by decide +kernel
theorem d_326_14 : m_dn M_326 14 (.if_icmp .lt 5) 3 17 := by decide +kernel
theorem d_326_17 : m_dn M_326 17 (.iconst 0) 1 18 := by decide +kernel
theorem d_326_18 : m_dn M_326 18 (.ireturn) 1 19 := by decide +kernel
theorem d_326_2 : m_dn M_326 2 (.putfield 155) 3 5 := by decide +kernel
theorem d_326_5 : m_dn M_326 5 (.iload_n 1) 1 6 := by decide +kernel
theorem d_326_6 : m_dn M_326 6 (.ifCond .lt 11) 3 9 := by decide +kernel
theorem d_326_9 : m_dn M_326 9 (.iload_n 1) 1 10 := by decide +kernel
theorem d_332_0 : m_dn M_332 0 (.aload_n 0) 1 1 := by decide +kernel
theorem d_332_1 : m_dn M_332 1 (.iconst 0) 1 2 := by decide +kernel
theorem d_332_2 : m_dn M_332 2 (.putfield 155) 3 5 := by decide +kernel
theorem d_332_21 : m_dn M_332 21 (.iconst 0) 1 22 := by decide +kernel
theorem d_332_22 : m_dn M_332 22 (.ireturn) 1 23 := by decide +kernel
theorem d_332_5 : m_dn M_332 5 (.iload_n 1) 1 6 := by decide +kernel
theorem d_332_6 : m_dn M_332 6 (.invokestatic 627) 3 9 := by decide +kernel
theorem d_332_9 : m_dn M_332 9 (.ifCond .eq 12) 3 12 := by decide +kernel
theorem d_333_0 : m_dn M_333 0 (.iload_n 0) 1 1 := by decide +kernel
theorem d_333_1 : m_dn M_333 1 (.ifCond .le 13) 3 4 := by decide +kernel
theorem d_333_10 : m_dn M_333 10 (.iconst 1) 1 11 := by decide +kernel
theorem d_333_11 : m_dn M_333 11 (.goto 4) 3 14 := by decide +kernel
theorem d_333_14 : m_dn M_333 14 (.iconst 0) 1 15 := by decide +kernel
theorem d_333_15 : m_dn M_333 15 (.ireturn) 1 16 := by decide +kernel
theorem d_333_4 : m_dn M_333 4 (.iload_n 0) 1 5 := by decide +kernel
theorem d_333_5 : m_dn M_333 5 (.bipush 7) 2 7 := by decide +kernel
theorem d_333_7 : m_dn M_333 7 (.if_icmp .ge 7) 3 10 := by decide +kernel
theorem d_334_0 : m_dn M_334 0 (.aload_n 0) 1 1 := by decide +kernel
theorem d_334_1 : m_dn M_334 1 (.iconst 0) 1 2 := by decide +kernel
theorem d_334_2 : m_dn M_334 2 (.putfield 155) 3 5 := by decide +kernel
theorem d_334_21 : m_dn M_334 21 (.iconst 0) 1 22 := by decide +kernel
theorem d_334_22 : m_dn M_334 22 (.ireturn) 1 23 := by decide +kernel
theorem d_334_5 : m_dn M_334 5 (.iload_n 1) 1 6 := by decide +kernel
theorem d_334_6 : m_dn M_334 6 (.invokestatic 627) 3 9 := by decide +kernel
theorem d_334_9 : m_dn M_334 9 (.ifCond .eq 12) 3 12 := by decide +kernel
theorem d_344_0 : m_dn M_344 0 (.aload_n 0) 1 1 := by decide +kernel
theorem d_344_1 : m_dn M_344 1 (.iconst 0) 1 2 := by decide +kernel
theorem d_344_10 : m_dn M_344 10 (.aload_n 0) 1 11 := by decide +kernel
theorem d_344_11 : m_dn M_344 11 (.getfield 612) 3 14 := by decide +kernel
theorem d_344_14 : m_dn M_344 14 (.if_icmp .lt 5) 3 17 := by decide +kernel
theorem d_344_17 : m_dn M_344 17 (.iconst (-1)) 1 18 := by decide +kernel
theorem d_344_18 : m_dn M_344 18 (.ireturn) 1 19 := by decide +kernel
theorem d_344_2 : m_dn M_344 2 (.putfield 155) 3 5 := by decide +kernel
theorem d_344_5 : m_dn M_344 5 (.iload_n 1) 1 6 := by decide +kernel
theorem d_344_6 : m_dn M_344 6 (.ifCond .lt 11) 3 9 := by decide +kernel
theorem d_344_9 : m_dn M_344 9 (.iload_n 1) 1 10 := by decide +kernel
theorem d_347_0 : m_dn M_347 0 (.aload_n 0) 1 1 := by decide +kernel
theorem d_347_1 : m_dn M_347 1 (.iconst 0) 1 2 := by decide +kernel
theorem d_347_10 : m_dn M_347 10 (.aload_n 0) 1 11 := by decide +kernel
theorem d_347_11 : m_dn M_347 11 (.getfield 533) 3 14 := by decide +kernel
theorem d_347_14 : m_dn M_347 14 (.if_icmp .ge 13) 3 17 := by decide +kernel
theorem d_347_2 : m_dn M_347 2 (.putfield 155) 3 5 := by decide +kernel
theorem d_347_27 : m_dn M_347 27 (.iconst (-1)) 1 28 := by decide +kernel
theorem d_347_28 : m_dn M_347 28 (.ireturn) 1 29 := by decide +kernel
theorem d_347_5 : m_dn M_347 5 (.iload_n 1) 1 6 := by decide +kernel
theorem d_347_6 : m_dn M_347 6 (.ifCond .lt 21) 3 9 := by decide +kernel
theorem d_347_9 : m_dn M_347 9 (.iload_n 1) 1 10 := by decide +kernel
theorem d_348_0 : m_dn M_348 0 (.aload_n 0) 1 1 := by decide +kernel
theorem d_348_1 : m_dn M_348 1 (.iconst 0) 1 2 := by decide +kernel
theorem d_348_2 : m_dn M_348 2 (.putfield 155) 3 5 := by decide +kernel
theorem d_348_5 : m_dn M_348 5 (.iload_n 1) 1 6 := by decide +kernel
theorem d_348_6 : m_dn M_348 6 (.tableswitch 77 0 6 #[42, 47, 52, 57, 62, 67, 72]) 42 48 := by decide +kernel
theorem d_348_83 : m_dn M_348 83 (.iconst (-1)) 1 84 := by decide +kernel
theorem d_348_84 : m_dn M_348 84 (.ireturn) 1 85 := by decide +kernel
theorem s_size {w : List mM} {u z : Value} {n : Int32} {a : Nat} (h : m_at w a = some (.inr (2, [u, .int n, z]))) : m_Rq M_17 (m_ent M_17 [.ref a] w) (fun v w' => v = some (.int n) ∧ w' = w) 0 0 0 0 := by
  show m_Rq M_17 (0, [(0, .ref a)], [], w) _ 0 0 0 0
  refine m_Rq.n0 (x_aload_n d_17_0 rfl) ?_
  refine m_Rq.n0 (x_getf d_17_1 rfl h rfl) ?_
  refine m_Rq.ir d_17_4 rfl rfl ?_
  exact ⟨rfl, rfl⟩
theorem s_isPath1 {w : List mM} {p : Int32} (h0 : ¬ p < 0) (h1 : p < 32) : m_Rq M_15 (m_ent M_15 [.int p] w) (fun v w' => v = some (.int 1) ∧ w' = w) 0 0 0 0 := by
  show m_Rq M_15 (0, [(0, .int p)], [], w) _ 0 0 0 0
  refine m_Rq.n0 (x_iload_n d_15_0 rfl) ?_
  refine m_Rq.n0 (x_iff d_15_1 rfl (decide_eq_false h0)) ?_
  refine m_Rq.n0 (x_iload_n d_15_4 rfl) ?_
  refine m_Rq.n0 (x_bipush (z := 32) d_15_5 (by decide)) ?_
  refine m_Rq.n0 (x_icf d_15_7 rfl (decide_eq_false (m_lt_nle h1))) ?_
  refine m_Rq.n0 (x_iconst (z := 1) d_15_10 (by decide)) ?_
  refine m_Rq.n0 (x_goto d_15_11 rfl) ?_
  refine m_Rq.ir d_15_15 rfl rfl ?_
  exact ⟨rfl, rfl⟩
theorem s_isPath0a {w : List mM} {p : Int32} (h0 : p < 0) : m_Rq M_15 (m_ent M_15 [.int p] w) (fun v w' => v = some (.int 0) ∧ w' = w) 0 0 0 0 := by
  show m_Rq M_15 (0, [(0, .int p)], [], w) _ 0 0 0 0
  refine m_Rq.n0 (x_iload_n d_15_0 rfl) ?_
  refine m_Rq.n0 (x_ift d_15_1 rfl (decide_eq_true h0)) ?_
  refine m_Rq.n0 (x_iconst (z := 0) d_15_14 (by decide)) ?_
  refine m_Rq.ir d_15_15 rfl rfl ?_
  exact ⟨rfl, rfl⟩
theorem s_isPath0b {w : List mM} {p : Int32} (h0 : ¬ p < 0) (h1 : ¬ p < 32) : m_Rq M_15 (m_ent M_15 [.int p] w) (fun v w' => v = some (.int 0) ∧ w' = w) 0 0 0 0 := by
  show m_Rq M_15 (0, [(0, .int p)], [], w) _ 0 0 0 0
  refine m_Rq.n0 (x_iload_n d_15_0 rfl) ?_
  refine m_Rq.n0 (x_iff d_15_1 rfl (decide_eq_false h0)) ?_
  refine m_Rq.n0 (x_iload_n d_15_4 rfl) ?_
  refine m_Rq.n0 (x_bipush (z := 32) d_15_5 (by decide)) ?_
  refine m_Rq.n0 (x_ict d_15_7 rfl (decide_eq_true (m_not_lt h1))) ?_
  refine m_Rq.n0 (x_iconst (z := 0) d_15_14 (by decide)) ?_
  refine m_Rq.ir d_15_15 rfl rfl ?_
  exact ⟨rfl, rfl⟩
theorem s_isNode1 {w : List mM} {p : Int32} (h0 : ¬ p < 1) (h1 : ¬ 6 < p) : m_Rq M_131 (m_ent M_131 [.int p] w) (fun v w' => v = some (.int 1) ∧ w' = w) 0 0 0 0 := by
  show m_Rq M_131 (0, [(0, .int p)], [], w) _ 0 0 0 0
  refine m_Rq.n0 (x_iload_n d_131_0 rfl) ?_
  refine m_Rq.n0 (x_iconst (z := 1) d_131_1 (by decide)) ?_
  refine m_Rq.n0 (x_icf d_131_2 rfl (decide_eq_false h0)) ?_
  refine m_Rq.n0 (x_iload_n d_131_5 rfl) ?_
  refine m_Rq.n0 (x_bipush (z := 6) d_131_6 (by decide)) ?_
  refine m_Rq.n0 (x_icf d_131_8 rfl (decide_eq_false h1)) ?_
  refine m_Rq.n0 (x_iconst (z := 1) d_131_11 (by decide)) ?_
  refine m_Rq.n0 (x_goto d_131_12 rfl) ?_
  refine m_Rq.ir d_131_16 rfl rfl ?_
  exact ⟨rfl, rfl⟩
theorem s_isNode0a {w : List mM} {p : Int32} (h0 : p < 1) : m_Rq M_131 (m_ent M_131 [.int p] w) (fun v w' => v = some (.int 0) ∧ w' = w) 0 0 0 0 := by
  show m_Rq M_131 (0, [(0, .int p)], [], w) _ 0 0 0 0
  refine m_Rq.n0 (x_iload_n d_131_0 rfl) ?_
  refine m_Rq.n0 (x_iconst (z := 1) d_131_1 (by decide)) ?_
  refine m_Rq.n0 (x_ict d_131_2 rfl (decide_eq_true h0)) ?_
  refine m_Rq.n0 (x_iconst (z := 0) d_131_15 (by decide)) ?_
  refine m_Rq.ir d_131_16 rfl rfl ?_
  exact ⟨rfl, rfl⟩
theorem s_isNode0b {w : List mM} {p : Int32} (h0 : ¬ p < 1) (h1 : 6 < p) : m_Rq M_131 (m_ent M_131 [.int p] w) (fun v w' => v = some (.int 0) ∧ w' = w) 0 0 0 0 := by
  show m_Rq M_131 (0, [(0, .int p)], [], w) _ 0 0 0 0
  refine m_Rq.n0 (x_iload_n d_131_0 rfl) ?_
  refine m_Rq.n0 (x_iconst (z := 1) d_131_1 (by decide)) ?_
  refine m_Rq.n0 (x_icf d_131_2 rfl (decide_eq_false h0)) ?_
  refine m_Rq.n0 (x_iload_n d_131_5 rfl) ?_
  refine m_Rq.n0 (x_bipush (z := 6) d_131_6 (by decide)) ?_
  refine m_Rq.n0 (x_ict d_131_8 rfl (decide_eq_true h1)) ?_
  refine m_Rq.n0 (x_iconst (z := 0) d_131_15 (by decide)) ?_
  refine m_Rq.ir d_131_16 rfl rfl ?_
  exact ⟨rfl, rfl⟩
theorem s_mNode1 {w : List mM} {p : Int32} (h0 : ¬ p ≤ 0) (h1 : ¬ 7 ≤ p) : m_Rq M_333 (m_ent M_333 [.int p] w) (fun v w' => v = some (.int 1) ∧ w' = w) 0 0 0 0 := by
  show m_Rq M_333 (0, [(0, .int p)], [], w) _ 0 0 0 0
  refine m_Rq.n0 (x_iload_n d_333_0 rfl) ?_
  refine m_Rq.n0 (x_iff d_333_1 rfl (decide_eq_false h0)) ?_
  refine m_Rq.n0 (x_iload_n d_333_4 rfl) ?_
  refine m_Rq.n0 (x_bipush (z := 7) d_333_5 (by decide)) ?_
  refine m_Rq.n0 (x_icf d_333_7 rfl (decide_eq_false h1)) ?_
  refine m_Rq.n0 (x_iconst (z := 1) d_333_10 (by decide)) ?_
  refine m_Rq.n0 (x_goto d_333_11 rfl) ?_
  refine m_Rq.ir d_333_15 rfl rfl ?_
  exact ⟨rfl, rfl⟩
theorem s_mNode0a {w : List mM} {p : Int32} (h0 : p ≤ 0) : m_Rq M_333 (m_ent M_333 [.int p] w) (fun v w' => v = some (.int 0) ∧ w' = w) 0 0 0 0 := by
  show m_Rq M_333 (0, [(0, .int p)], [], w) _ 0 0 0 0
  refine m_Rq.n0 (x_iload_n d_333_0 rfl) ?_
  refine m_Rq.n0 (x_ift d_333_1 rfl (decide_eq_true h0)) ?_
  refine m_Rq.n0 (x_iconst (z := 0) d_333_14 (by decide)) ?_
  refine m_Rq.ir d_333_15 rfl rfl ?_
  exact ⟨rfl, rfl⟩
theorem s_mNode0b {w : List mM} {p : Int32} (h0 : ¬ p ≤ 0) (h1 : 7 ≤ p) : m_Rq M_333 (m_ent M_333 [.int p] w) (fun v w' => v = some (.int 0) ∧ w' = w) 0 0 0 0 := by
  show m_Rq M_333 (0, [(0, .int p)], [], w) _ 0 0 0 0
  refine m_Rq.n0 (x_iload_n d_333_0 rfl) ?_
  refine m_Rq.n0 (x_iff d_333_1 rfl (decide_eq_false h0)) ?_
  refine m_Rq.n0 (x_iload_n d_333_4 rfl) ?_
  refine m_Rq.n0 (x_bipush (z := 7) d_333_5 (by decide)) ?_
  refine m_Rq.n0 (x_ict d_333_7 rfl (decide_eq_true h1)) ?_
  refine m_Rq.n0 (x_iconst (z := 0) d_333_14 (by decide)) ?_
  refine m_Rq.ir d_333_15 rfl rfl ?_
  exact ⟨rfl, rfl⟩
def m_nd (p : Int32) : Prop := ¬ p < 1 ∧ ¬ 6 < p
theorem m_nd_m {p : Int32} : m_nd p ↔ ¬ p ≤ 0 ∧ ¬ 7 ≤ p := by
  unfold m_nd
  simp only [Int32.lt_iff_toInt_lt, Int32.le_iff_toInt_le]
  show ¬ p.toInt < 1 ∧ ¬ 6 < p.toInt ↔ ¬ p.toInt ≤ 0 ∧ ¬ 7 ≤ p.toInt
  omega
theorem m_nd_in {p : Int32} (h : m_nd p) : ∃ i, i < 6 ∧ p = Int32.ofNat (i + 1) := by
  unfold m_nd at h
  simp only [Int32.lt_iff_toInt_lt] at h
  have h0 : ¬ p.toInt < 1 := h.1
  have h1 : ¬ 6 < p.toInt := h.2
  refine ⟨p.toInt.toNat - 1, by omega, ?_⟩
  apply Int32.toInt_inj.mp
  rw [Int32.toInt_ofNat_of_lt (by omega)]
  omega
theorem s_isNode {w : List mM} {p : Int32} (h : ¬ m_nd p) : m_Rq M_131 (m_ent M_131 [.int p] w) (fun v w' => v = some (.int 0) ∧ w' = w) 0 0 0 0 := by
  by_cases h0 : p < 1
  · exact s_isNode0a h0
  · by_cases h1 : 6 < p
    · exact s_isNode0b h0 h1
    · exact absurd ⟨h0, h1⟩ h
theorem s_mNode {w : List mM} {p : Int32} (h : ¬ m_nd p) : m_Rq M_333 (m_ent M_333 [.int p] w) (fun v w' => v = some (.int 0) ∧ w' = w) 0 0 0 0 := by
  by_cases h0 : p ≤ 0
  · exact s_mNode0a h0
  · by_cases h1 : 7 ≤ p
    · exact s_mNode0b h0 h1
    · exact absurd (m_nd_m.mpr ⟨h0, h1⟩) h
theorem c_deliver_a {k : Int32} (h0 : k < 0) : m_Rq M_126 (m_ent M_126 [.ref 512, .int k] w_1) (fun v w' => v = some (.int 0) ∧ w' = w_1) 0 0 10 1000 := by
  show m_Rq M_126 (0, [(0, .ref 512), (1, .int k)], [], w_1) _ 0 0 10 1000
  refine m_Rq.n0 (x_iload_n d_126_0 rfl) ?_
  refine m_Rq.n0 (x_ift d_126_1 rfl (decide_eq_true h0)) ?_
  refine m_Rq.n0 (x_iconst (z := 0) d_126_15 (by decide)) ?_
  refine m_Rq.ir d_126_16 rfl rfl ?_
  exact ⟨rfl, rfl⟩
theorem c_deliver_b {k : Int32} (h0 : ¬ k < 0) : m_Rq M_126 (m_ent M_126 [.ref 512, .int k] w_1) (fun v w' => v = some (.int 0) ∧ w' = w_1) 0 0 10 1000 := by
  show m_Rq M_126 (0, [(0, .ref 512), (1, .int k)], [], w_1) _ 0 0 10 1000
  refine m_Rq.n0 (x_iload_n d_126_0 rfl) ?_
  refine m_Rq.n0 (x_iff d_126_1 rfl (decide_eq_false h0)) ?_
  refine m_Rq.n0 (x_iload_n d_126_4 rfl) ?_
  refine m_Rq.n0 (x_aload_n d_126_5 rfl) ?_
  refine m_Rq.n0 (x_getf d_126_6 rfl a_512 rfl) ?_
  refine m_Rq.callE (x_cv (n := 119) d_126_9 rfl q_17 (m_isRecv_of rfl a_523) rfl rfl m_hn1 rfl) (s_size a_523) rfl ?_ (by decide) (by decide)
  refine m_Rq.n0 (x_icf d_126_12 rfl (decide_eq_false h0)) ?_
  refine m_Rq.n0 (x_iconst (z := 0) d_126_15 (by decide)) ?_
  refine m_Rq.ir d_126_16 rfl rfl ?_
  exact ⟨rfl, rfl⟩
theorem e_deliver_a {k : Int32} (h0 : k < 0) : m_Rq M_314 (m_ent M_314 [.ref 583, .int k] w_1) (fun v w' => v = some (.int 0) ∧ w' = w_1) 0 0 10 1000 := by
  show m_Rq M_314 (0, [(0, .ref 583), (1, .int k)], [], w_1) _ 0 0 10 1000
  refine m_Rq.n0 (x_aload_n d_314_0 rfl) ?_
  refine m_Rq.n0 (x_iconst (z := 0) d_314_1 (by decide)) ?_
  refine m_Rq.n0 (x_putfs d_314_2 rfl a_583 rfl rfl (by decide) rfl rfl rfl) ?_
  refine m_Rq.n0 (x_iload_n d_314_5 rfl) ?_
  refine m_Rq.n0 (x_ift d_314_6 rfl (decide_eq_true h0)) ?_
  refine m_Rq.n0 (x_iconst (z := 0) d_314_17 (by decide)) ?_
  refine m_Rq.ir d_314_18 rfl rfl ?_
  exact ⟨rfl, rfl⟩
theorem e_deliver_b {k : Int32} (h0 : ¬ k < 0) : m_Rq M_314 (m_ent M_314 [.ref 583, .int k] w_1) (fun v w' => v = some (.int 0) ∧ w' = w_1) 0 0 10 1000 := by
  show m_Rq M_314 (0, [(0, .ref 583), (1, .int k)], [], w_1) _ 0 0 10 1000
  refine m_Rq.n0 (x_aload_n d_314_0 rfl) ?_
  refine m_Rq.n0 (x_iconst (z := 0) d_314_1 (by decide)) ?_
  refine m_Rq.n0 (x_putfs d_314_2 rfl a_583 rfl rfl (by decide) rfl rfl rfl) ?_
  refine m_Rq.n0 (x_iload_n d_314_5 rfl) ?_
  refine m_Rq.n0 (x_iff d_314_6 rfl (decide_eq_false h0)) ?_
  refine m_Rq.n0 (x_iload_n d_314_9 rfl) ?_
  refine m_Rq.n0 (x_aload_n d_314_10 rfl) ?_
  refine m_Rq.n0 (x_getf d_314_11 rfl a_583 rfl) ?_
  refine m_Rq.n0 (x_icf d_314_14 rfl (decide_eq_false h0)) ?_
  refine m_Rq.n0 (x_iconst (z := 0) d_314_17 (by decide)) ?_
  refine m_Rq.ir d_314_18 rfl rfl ?_
  exact ⟨rfl, rfl⟩
theorem t_deliver (k : Int32) : m_Two M_126 M_314 [.ref 512, .int k] [.ref 583, .int k] := by
  by_cases h0 : k < 0
  · exact m_Two.same2 0 (c_deliver_a h0) (e_deliver_a h0) rfl
  · exact m_Two.same2 0 (c_deliver_b h0) (e_deliver_b h0) rfl
theorem c_lose_a {k : Int32} (h0 : k < 0) : m_Rq M_148 (m_ent M_148 [.ref 512, .int k] w_1) (fun v w' => v = some (.int 0) ∧ w' = w_1) 0 0 10 1000 := by
  show m_Rq M_148 (0, [(0, .ref 512), (1, .int k)], [], w_1) _ 0 0 10 1000
  refine m_Rq.n0 (x_iload_n d_148_0 rfl) ?_
  refine m_Rq.n0 (x_ift d_148_1 rfl (decide_eq_true h0)) ?_
  refine m_Rq.n0 (x_iconst (z := 0) d_148_15 (by decide)) ?_
  refine m_Rq.ir d_148_16 rfl rfl ?_
  exact ⟨rfl, rfl⟩
theorem c_lose_b {k : Int32} (h0 : ¬ k < 0) : m_Rq M_148 (m_ent M_148 [.ref 512, .int k] w_1) (fun v w' => v = some (.int 0) ∧ w' = w_1) 0 0 10 1000 := by
  show m_Rq M_148 (0, [(0, .ref 512), (1, .int k)], [], w_1) _ 0 0 10 1000
  refine m_Rq.n0 (x_iload_n d_148_0 rfl) ?_
  refine m_Rq.n0 (x_iff d_148_1 rfl (decide_eq_false h0)) ?_
  refine m_Rq.n0 (x_iload_n d_148_4 rfl) ?_
  refine m_Rq.n0 (x_aload_n d_148_5 rfl) ?_
  refine m_Rq.n0 (x_getf d_148_6 rfl a_512 rfl) ?_
  refine m_Rq.callE (x_cv (n := 119) d_148_9 rfl q_17 (m_isRecv_of rfl a_523) rfl rfl m_hn1 rfl) (s_size a_523) rfl ?_ (by decide) (by decide)
  refine m_Rq.n0 (x_icf d_148_12 rfl (decide_eq_false h0)) ?_
  refine m_Rq.n0 (x_iconst (z := 0) d_148_15 (by decide)) ?_
  refine m_Rq.ir d_148_16 rfl rfl ?_
  exact ⟨rfl, rfl⟩
theorem e_lose_a {k : Int32} (h0 : k < 0) : m_Rq M_326 (m_ent M_326 [.ref 583, .int k] w_1) (fun v w' => v = some (.int 0) ∧ w' = w_1) 0 0 10 1000 := by
  show m_Rq M_326 (0, [(0, .ref 583), (1, .int k)], [], w_1) _ 0 0 10 1000
  refine m_Rq.n0 (x_aload_n d_326_0 rfl) ?_
  refine m_Rq.n0 (x_iconst (z := 0) d_326_1 (by decide)) ?_
  refine m_Rq.n0 (x_putfs d_326_2 rfl a_583 rfl rfl (by decide) rfl rfl rfl) ?_
  refine m_Rq.n0 (x_iload_n d_326_5 rfl) ?_
  refine m_Rq.n0 (x_ift d_326_6 rfl (decide_eq_true h0)) ?_
  refine m_Rq.n0 (x_iconst (z := 0) d_326_17 (by decide)) ?_
  refine m_Rq.ir d_326_18 rfl rfl ?_
  exact ⟨rfl, rfl⟩
theorem e_lose_b {k : Int32} (h0 : ¬ k < 0) : m_Rq M_326 (m_ent M_326 [.ref 583, .int k] w_1) (fun v w' => v = some (.int 0) ∧ w' = w_1) 0 0 10 1000 := by
  show m_Rq M_326 (0, [(0, .ref 583), (1, .int k)], [], w_1) _ 0 0 10 1000
  refine m_Rq.n0 (x_aload_n d_326_0 rfl) ?_
  refine m_Rq.n0 (x_iconst (z := 0) d_326_1 (by decide)) ?_
  refine m_Rq.n0 (x_putfs d_326_2 rfl a_583 rfl rfl (by decide) rfl rfl rfl) ?_
  refine m_Rq.n0 (x_iload_n d_326_5 rfl) ?_
  refine m_Rq.n0 (x_iff d_326_6 rfl (decide_eq_false h0)) ?_
  refine m_Rq.n0 (x_iload_n d_326_9 rfl) ?_
  refine m_Rq.n0 (x_aload_n d_326_10 rfl) ?_
  refine m_Rq.n0 (x_getf d_326_11 rfl a_583 rfl) ?_
  refine m_Rq.n0 (x_icf d_326_14 rfl (decide_eq_false h0)) ?_
  refine m_Rq.n0 (x_iconst (z := 0) d_326_17 (by decide)) ?_
  refine m_Rq.ir d_326_18 rfl rfl ?_
  exact ⟨rfl, rfl⟩
theorem t_lose (k : Int32) : m_Two M_148 M_326 [.ref 512, .int k] [.ref 583, .int k] := by
  by_cases h0 : k < 0
  · exact m_Two.same2 0 (c_lose_a h0) (e_lose_a h0) rfl
  · exact m_Two.same2 0 (c_lose_b h0) (e_lose_b h0) rfl
theorem c_letter_a {k : Int32} {j : Int32} (h0 : k < 0) : m_Rq M_157 (m_ent M_157 [.ref 512, .int k, .int j] w_1) (fun v w' => v = some (.int (-1)) ∧ w' = w_1) 0 0 10 1000 := by
  show m_Rq M_157 (0, [(0, .ref 512), (1, .int k), (2, .int j)], [], w_1) _ 0 0 10 1000
  refine m_Rq.n0 (x_iload_n d_157_0 rfl) ?_
  refine m_Rq.n0 (x_ift d_157_1 rfl (decide_eq_true h0)) ?_
  refine m_Rq.n0 (x_iconst (z := (-1)) d_157_15 (by decide)) ?_
  refine m_Rq.ir d_157_16 rfl rfl ?_
  exact ⟨rfl, rfl⟩
theorem c_letter_b {k : Int32} {j : Int32} (h0 : ¬ k < 0) : m_Rq M_157 (m_ent M_157 [.ref 512, .int k, .int j] w_1) (fun v w' => v = some (.int (-1)) ∧ w' = w_1) 0 0 10 1000 := by
  show m_Rq M_157 (0, [(0, .ref 512), (1, .int k), (2, .int j)], [], w_1) _ 0 0 10 1000
  refine m_Rq.n0 (x_iload_n d_157_0 rfl) ?_
  refine m_Rq.n0 (x_iff d_157_1 rfl (decide_eq_false h0)) ?_
  refine m_Rq.n0 (x_iload_n d_157_4 rfl) ?_
  refine m_Rq.n0 (x_aload_n d_157_5 rfl) ?_
  refine m_Rq.n0 (x_getf d_157_6 rfl a_512 rfl) ?_
  refine m_Rq.callE (x_cv (n := 119) d_157_9 rfl q_17 (m_isRecv_of rfl a_524) rfl rfl m_hn1 rfl) (s_size a_524) rfl ?_ (by decide) (by decide)
  refine m_Rq.n0 (x_icf d_157_12 rfl (decide_eq_false h0)) ?_
  refine m_Rq.n0 (x_iconst (z := (-1)) d_157_15 (by decide)) ?_
  refine m_Rq.ir d_157_16 rfl rfl ?_
  exact ⟨rfl, rfl⟩
theorem e_letter_a {k : Int32} {j : Int32} (h0 : k < 0) : m_Rq M_344 (m_ent M_344 [.ref 583, .int k, .int j] w_1) (fun v w' => v = some (.int (-1)) ∧ w' = w_1) 0 0 10 1000 := by
  show m_Rq M_344 (0, [(0, .ref 583), (1, .int k), (2, .int j)], [], w_1) _ 0 0 10 1000
  refine m_Rq.n0 (x_aload_n d_344_0 rfl) ?_
  refine m_Rq.n0 (x_iconst (z := 0) d_344_1 (by decide)) ?_
  refine m_Rq.n0 (x_putfs d_344_2 rfl a_583 rfl rfl (by decide) rfl rfl rfl) ?_
  refine m_Rq.n0 (x_iload_n d_344_5 rfl) ?_
  refine m_Rq.n0 (x_ift d_344_6 rfl (decide_eq_true h0)) ?_
  refine m_Rq.n0 (x_iconst (z := (-1)) d_344_17 (by decide)) ?_
  refine m_Rq.ir d_344_18 rfl rfl ?_
  exact ⟨rfl, rfl⟩
theorem e_letter_b {k : Int32} {j : Int32} (h0 : ¬ k < 0) : m_Rq M_344 (m_ent M_344 [.ref 583, .int k, .int j] w_1) (fun v w' => v = some (.int (-1)) ∧ w' = w_1) 0 0 10 1000 := by
  show m_Rq M_344 (0, [(0, .ref 583), (1, .int k), (2, .int j)], [], w_1) _ 0 0 10 1000
  refine m_Rq.n0 (x_aload_n d_344_0 rfl) ?_
  refine m_Rq.n0 (x_iconst (z := 0) d_344_1 (by decide)) ?_
  refine m_Rq.n0 (x_putfs d_344_2 rfl a_583 rfl rfl (by decide) rfl rfl rfl) ?_
  refine m_Rq.n0 (x_iload_n d_344_5 rfl) ?_
  refine m_Rq.n0 (x_iff d_344_6 rfl (decide_eq_false h0)) ?_
  refine m_Rq.n0 (x_iload_n d_344_9 rfl) ?_
  refine m_Rq.n0 (x_aload_n d_344_10 rfl) ?_
  refine m_Rq.n0 (x_getf d_344_11 rfl a_583 rfl) ?_
  refine m_Rq.n0 (x_icf d_344_14 rfl (decide_eq_false h0)) ?_
  refine m_Rq.n0 (x_iconst (z := (-1)) d_344_17 (by decide)) ?_
  refine m_Rq.ir d_344_18 rfl rfl ?_
  exact ⟨rfl, rfl⟩
theorem t_letter (k j : Int32) : m_Two M_157 M_344 [.ref 512, .int k, .int j] [.ref 583, .int k, .int j] := by
  by_cases h0 : k < 0
  · exact m_Two.same2 (-1) (c_letter_a h0) (e_letter_a h0) rfl
  · exact m_Two.same2 (-1) (c_letter_b h0) (e_letter_b h0) rfl
theorem c_message_a {k : Int32} {j : Int32} (h0 : k < 0) : m_Rq M_225 (m_ent M_225 [.ref 512, .int k, .int j] w_1) (fun v w' => v = some (.int (-1)) ∧ w' = w_1) 0 0 10 1000 := by
  show m_Rq M_225 (0, [(0, .ref 512), (1, .int k), (2, .int j)], [], w_1) _ 0 0 10 1000
  refine m_Rq.n0 (x_iload_n d_225_0 rfl) ?_
  refine m_Rq.n0 (x_ift d_225_1 rfl (decide_eq_true h0)) ?_
  refine m_Rq.n0 (x_iconst (z := (-1)) d_225_15 (by decide)) ?_
  refine m_Rq.ir d_225_16 rfl rfl ?_
  exact ⟨rfl, rfl⟩
theorem c_message_b {k : Int32} {j : Int32} (h0 : ¬ k < 0) : m_Rq M_225 (m_ent M_225 [.ref 512, .int k, .int j] w_1) (fun v w' => v = some (.int (-1)) ∧ w' = w_1) 0 0 10 1000 := by
  show m_Rq M_225 (0, [(0, .ref 512), (1, .int k), (2, .int j)], [], w_1) _ 0 0 10 1000
  refine m_Rq.n0 (x_iload_n d_225_0 rfl) ?_
  refine m_Rq.n0 (x_iff d_225_1 rfl (decide_eq_false h0)) ?_
  refine m_Rq.n0 (x_iload_n d_225_4 rfl) ?_
  refine m_Rq.n0 (x_aload_n d_225_5 rfl) ?_
  refine m_Rq.n0 (x_getf d_225_6 rfl a_512 rfl) ?_
  refine m_Rq.callE (x_cv (n := 119) d_225_9 rfl q_17 (m_isRecv_of rfl a_523) rfl rfl m_hn1 rfl) (s_size a_523) rfl ?_ (by decide) (by decide)
  refine m_Rq.n0 (x_icf d_225_12 rfl (decide_eq_false h0)) ?_
  refine m_Rq.n0 (x_iconst (z := (-1)) d_225_15 (by decide)) ?_
  refine m_Rq.ir d_225_16 rfl rfl ?_
  exact ⟨rfl, rfl⟩
theorem e_message_a {k : Int32} {j : Int32} (h0 : k < 0) : m_Rq M_347 (m_ent M_347 [.ref 583, .int k, .int j] w_1) (fun v w' => v = some (.int (-1)) ∧ w' = w_1) 0 0 10 1000 := by
  show m_Rq M_347 (0, [(0, .ref 583), (1, .int k), (2, .int j)], [], w_1) _ 0 0 10 1000
  refine m_Rq.n0 (x_aload_n d_347_0 rfl) ?_
  refine m_Rq.n0 (x_iconst (z := 0) d_347_1 (by decide)) ?_
  refine m_Rq.n0 (x_putfs d_347_2 rfl a_583 rfl rfl (by decide) rfl rfl rfl) ?_
  refine m_Rq.n0 (x_iload_n d_347_5 rfl) ?_
  refine m_Rq.n0 (x_ift d_347_6 rfl (decide_eq_true h0)) ?_
  refine m_Rq.n0 (x_iconst (z := (-1)) d_347_27 (by decide)) ?_
  refine m_Rq.ir d_347_28 rfl rfl ?_
  exact ⟨rfl, rfl⟩
theorem e_message_b {k : Int32} {j : Int32} (h0 : ¬ k < 0) : m_Rq M_347 (m_ent M_347 [.ref 583, .int k, .int j] w_1) (fun v w' => v = some (.int (-1)) ∧ w' = w_1) 0 0 10 1000 := by
  show m_Rq M_347 (0, [(0, .ref 583), (1, .int k), (2, .int j)], [], w_1) _ 0 0 10 1000
  refine m_Rq.n0 (x_aload_n d_347_0 rfl) ?_
  refine m_Rq.n0 (x_iconst (z := 0) d_347_1 (by decide)) ?_
  refine m_Rq.n0 (x_putfs d_347_2 rfl a_583 rfl rfl (by decide) rfl rfl rfl) ?_
  refine m_Rq.n0 (x_iload_n d_347_5 rfl) ?_
  refine m_Rq.n0 (x_iff d_347_6 rfl (decide_eq_false h0)) ?_
  refine m_Rq.n0 (x_iload_n d_347_9 rfl) ?_
  refine m_Rq.n0 (x_aload_n d_347_10 rfl) ?_
  refine m_Rq.n0 (x_getf d_347_11 rfl a_583 rfl) ?_
  refine m_Rq.n0 (x_ict d_347_14 rfl (decide_eq_true (m_not_lt h0))) ?_
  refine m_Rq.n0 (x_iconst (z := (-1)) d_347_27 (by decide)) ?_
  refine m_Rq.ir d_347_28 rfl rfl ?_
  exact ⟨rfl, rfl⟩
theorem t_message (k j : Int32) : m_Two M_225 M_347 [.ref 512, .int k, .int j] [.ref 583, .int k, .int j] := by
  by_cases h0 : k < 0
  · exact m_Two.same2 (-1) (c_message_a h0) (e_message_a h0) rfl
  · exact m_Two.same2 (-1) (c_message_b h0) (e_message_b h0) rfl
theorem c_drop_a {p : Int32} (h0 : p < 0) : m_Rq M_14 (m_ent M_14 [.ref 512, .int p] w_1) (fun v w' => v = some (.int 0) ∧ w' = w_1) 0 0 10 1000 := by
  show m_Rq M_14 (0, [(0, .ref 512), (1, .int p)], [], w_1) _ 0 0 10 1000
  refine m_Rq.n0 (x_iload_n d_14_0 rfl) ?_
  refine m_Rq.callE (x_cs (n := 119) d_14_1 rfl q_15 rfl rfl m_hn1 rfl rfl) (s_isPath0a h0) rfl ?_ (by decide) (by decide)
  refine m_Rq.n0 (x_ift d_14_4 rfl (by decide)) ?_
  refine m_Rq.n0 (x_iconst (z := 0) d_14_16 (by decide)) ?_
  refine m_Rq.ir d_14_17 rfl rfl ?_
  exact ⟨rfl, rfl⟩
theorem c_drop_b {p : Int32} (h0 : ¬ p < 0) (h1 : ¬ p < 32) : m_Rq M_14 (m_ent M_14 [.ref 512, .int p] w_1) (fun v w' => v = some (.int 0) ∧ w' = w_1) 0 0 10 1000 := by
  show m_Rq M_14 (0, [(0, .ref 512), (1, .int p)], [], w_1) _ 0 0 10 1000
  refine m_Rq.n0 (x_iload_n d_14_0 rfl) ?_
  refine m_Rq.callE (x_cs (n := 119) d_14_1 rfl q_15 rfl rfl m_hn1 rfl rfl) (s_isPath0b h0 h1) rfl ?_ (by decide) (by decide)
  refine m_Rq.n0 (x_ift d_14_4 rfl (by decide)) ?_
  refine m_Rq.n0 (x_iconst (z := 0) d_14_16 (by decide)) ?_
  refine m_Rq.ir d_14_17 rfl rfl ?_
  exact ⟨rfl, rfl⟩
theorem e_drop_a {p : Int32} (h0 : p < 0) : m_Rq M_268 (m_ent M_268 [.ref 583, .int p] w_1) (fun v w' => v = some (.int 0) ∧ w' = w_1) 0 0 10 1000 := by
  show m_Rq M_268 (0, [(0, .ref 583), (1, .int p)], [], w_1) _ 0 0 10 1000
  refine m_Rq.n0 (x_aload_n d_268_0 rfl) ?_
  refine m_Rq.n0 (x_iconst (z := 0) d_268_1 (by decide)) ?_
  refine m_Rq.n0 (x_putfs d_268_2 rfl a_583 rfl rfl (by decide) rfl rfl rfl) ?_
  refine m_Rq.n0 (x_iload_n d_268_5 rfl) ?_
  refine m_Rq.n0 (x_ift d_268_6 rfl (decide_eq_true h0)) ?_
  refine m_Rq.n0 (x_iconst (z := 0) d_268_27 (by decide)) ?_
  refine m_Rq.ir d_268_28 rfl rfl ?_
  exact ⟨rfl, rfl⟩
theorem e_drop_b {p : Int32} (h0 : ¬ p < 0) (h1 : 31 < p) : m_Rq M_268 (m_ent M_268 [.ref 583, .int p] w_1) (fun v w' => v = some (.int 0) ∧ w' = w_1) 0 0 10 1000 := by
  show m_Rq M_268 (0, [(0, .ref 583), (1, .int p)], [], w_1) _ 0 0 10 1000
  refine m_Rq.n0 (x_aload_n d_268_0 rfl) ?_
  refine m_Rq.n0 (x_iconst (z := 0) d_268_1 (by decide)) ?_
  refine m_Rq.n0 (x_putfs d_268_2 rfl a_583 rfl rfl (by decide) rfl rfl rfl) ?_
  refine m_Rq.n0 (x_iload_n d_268_5 rfl) ?_
  refine m_Rq.n0 (x_iff d_268_6 rfl (decide_eq_false h0)) ?_
  refine m_Rq.n0 (x_iload_n d_268_9 rfl) ?_
  refine m_Rq.n0 (x_bipush (z := 31) d_268_10 (by decide)) ?_
  refine m_Rq.n0 (x_ict d_268_12 rfl (decide_eq_true h1)) ?_
  refine m_Rq.n0 (x_iconst (z := 0) d_268_27 (by decide)) ?_
  refine m_Rq.ir d_268_28 rfl rfl ?_
  exact ⟨rfl, rfl⟩
theorem m_32_31 {p : Int32} (h : ¬ p < 32) : 31 < p := by
  rw [Int32.lt_iff_toInt_lt] at h ⊢
  have h1 : ¬ p.toInt < 32 := h
  show 31 < p.toInt
  omega
theorem t_drop (p : Int32) : m_Two M_14 M_268 [.ref 512, .int p] [.ref 583, .int p] := by
  by_cases h0 : p < 0
  · exact m_Two.same2 0 (c_drop_a h0) (e_drop_a h0) rfl
  · by_cases h1 : p < 32
    · obtain ⟨j, hj, rfl⟩ := m_n_in (N := 32) (by decide) h0 h1
      exact m_Two.ofk (m_rng k_drop hj)
    · exact m_Two.same2 0 (c_drop_b h0 h1) (e_drop_b h0 (m_32_31 h1)) rfl
theorem t_ask : m_Two M_16 M_269 [.ref 512] [.ref 583] := m_Two.ofk k_ask
theorem t_fault : m_Two M_125 M_313 [.ref 512] [.ref 583] := m_Two.ofk k_fault
theorem t_settle : m_Two M_149 M_327 [.ref 512] [.ref 583] := m_Two.ofk k_settle
theorem c_back_a {p : Int32} (h0 : ¬ m_nd p) : m_Rq M_155 (m_ent M_155 [.ref 512, .int p] w_1) (fun v w' => v = some (.int 0) ∧ w' = w_1) 0 0 10 1000 := by
  show m_Rq M_155 (0, [(0, .ref 512), (1, .int p)], [], w_1) _ 0 0 10 1000
  refine m_Rq.n0 (x_iload_n d_155_0 rfl) ?_
  refine m_Rq.callE (x_cs (n := 119) d_155_1 rfl q_131 rfl rfl m_hn1 rfl rfl) (s_isNode h0) rfl ?_ (by decide) (by decide)
  refine m_Rq.n0 (x_ift d_155_4 rfl (by decide)) ?_
  refine m_Rq.n0 (x_iconst (z := 0) d_155_19 (by decide)) ?_
  refine m_Rq.ir d_155_20 rfl rfl ?_
  exact ⟨rfl, rfl⟩
theorem e_back_a {p : Int32} (h0 : ¬ m_nd p) : m_Rq M_334 (m_ent M_334 [.ref 583, .int p] w_1) (fun v w' => v = some (.int 0) ∧ w' = w_1) 0 0 10 1000 := by
  show m_Rq M_334 (0, [(0, .ref 583), (1, .int p)], [], w_1) _ 0 0 10 1000
  refine m_Rq.n0 (x_aload_n d_334_0 rfl) ?_
  refine m_Rq.n0 (x_iconst (z := 0) d_334_1 (by decide)) ?_
  refine m_Rq.n0 (x_putfs d_334_2 rfl a_583 rfl rfl (by decide) rfl rfl rfl) ?_
  refine m_Rq.n0 (x_iload_n d_334_5 rfl) ?_
  refine m_Rq.callE (x_cs (n := 119) d_334_6 rfl q_333 rfl rfl m_hn1 rfl rfl) (s_mNode h0) rfl ?_ (by decide) (by decide)
  refine m_Rq.n0 (x_ift d_334_9 rfl (by decide)) ?_
  refine m_Rq.n0 (x_iconst (z := 0) d_334_21 (by decide)) ?_
  refine m_Rq.ir d_334_22 rfl rfl ?_
  exact ⟨rfl, rfl⟩
theorem c_fail_a {p : Int32} (h0 : ¬ m_nd p) : m_Rq M_151 (m_ent M_151 [.ref 512, .int p] w_1) (fun v w' => v = some (.int 0) ∧ w' = w_1) 0 0 10 1000 := by
  show m_Rq M_151 (0, [(0, .ref 512), (1, .int p)], [], w_1) _ 0 0 10 1000
  refine m_Rq.n0 (x_iload_n d_151_0 rfl) ?_
  refine m_Rq.callE (x_cs (n := 119) d_151_1 rfl q_131 rfl rfl m_hn1 rfl rfl) (s_isNode h0) rfl ?_ (by decide) (by decide)
  refine m_Rq.n0 (x_ift d_151_4 rfl (by decide)) ?_
  refine m_Rq.n0 (x_iconst (z := 0) d_151_19 (by decide)) ?_
  refine m_Rq.ir d_151_20 rfl rfl ?_
  exact ⟨rfl, rfl⟩
theorem e_fail_a {p : Int32} (h0 : ¬ m_nd p) : m_Rq M_332 (m_ent M_332 [.ref 583, .int p] w_1) (fun v w' => v = some (.int 0) ∧ w' = w_1) 0 0 10 1000 := by
  show m_Rq M_332 (0, [(0, .ref 583), (1, .int p)], [], w_1) _ 0 0 10 1000
  refine m_Rq.n0 (x_aload_n d_332_0 rfl) ?_
  refine m_Rq.n0 (x_iconst (z := 0) d_332_1 (by decide)) ?_
  refine m_Rq.n0 (x_putfs d_332_2 rfl a_583 rfl rfl (by decide) rfl rfl rfl) ?_
  refine m_Rq.n0 (x_iload_n d_332_5 rfl) ?_
  refine m_Rq.callE (x_cs (n := 119) d_332_6 rfl q_333 rfl rfl m_hn1 rfl rfl) (s_mNode h0) rfl ?_ (by decide) (by decide)
  refine m_Rq.n0 (x_ift d_332_9 rfl (by decide)) ?_
  refine m_Rq.n0 (x_iconst (z := 0) d_332_21 (by decide)) ?_
  refine m_Rq.ir d_332_22 rfl rfl ?_
  exact ⟨rfl, rfl⟩
theorem t_back (p : Int32) : m_Two M_155 M_334 [.ref 512, .int p] [.ref 583, .int p] := by
  by_cases h0 : m_nd p
  · obtain ⟨j, hj, rfl⟩ := m_nd_in h0
    exact m_Two.ofk (m_rng k_back hj)
  · exact m_Two.same2 0 (c_back_a h0) (e_back_a h0) rfl
theorem m_tsw_d {pc t : Nat} {d lo hi : Int} {offs : Array Int} {x : Int32} {r : List Value} (h : x.toInt < lo ∨ hi < x.toInt) (hj : m_jmp pc d = some t) : m_tsw pc d lo hi offs (.int x :: r) = some (t, r) := by
  unfold m_tsw
  simp only [if_pos h, hj, Option.map_some]
theorem c_total_d {p : Int32} (h : p.toInt < 0 ∨ 6 < p.toInt) : m_Rq M_228 (m_ent M_228 [.ref 512, .int p] w_1) (fun v w' => v = some (.int (-1)) ∧ w' = w_1) 0 0 10 1000 := by
  show m_Rq M_228 (0, [(0, .ref 512), (1, .int p)], [], w_1) _ 0 0 10 1000
  refine m_Rq.n0 (x_iload_n d_228_0 rfl) ?_
  refine m_Rq.n0 (x_tsw (t := 85) d_228_1 ?_) ?_
  · exact m_tsw_d h rfl
  refine m_Rq.n0 (x_iconst (z := (-1)) d_228_85 (by decide)) ?_
  refine m_Rq.ir d_228_86 rfl rfl ?_
  exact ⟨rfl, rfl⟩
theorem e_total_d {p : Int32} (h : p.toInt < 0 ∨ 6 < p.toInt) : m_Rq M_348 (m_ent M_348 [.ref 583, .int p] w_1) (fun v w' => v = some (.int (-1)) ∧ w' = w_1) 0 0 10 1000 := by
  show m_Rq M_348 (0, [(0, .ref 583), (1, .int p)], [], w_1) _ 0 0 10 1000
  refine m_Rq.n0 (x_aload_n d_348_0 rfl) ?_
  refine m_Rq.n0 (x_iconst (z := 0) d_348_1 (by decide)) ?_
  refine m_Rq.n0 (x_putfs d_348_2 rfl a_583 rfl rfl (by decide) rfl rfl rfl) ?_
  refine m_Rq.n0 (x_iload_n d_348_5 rfl) ?_
  refine m_Rq.n0 (x_tsw (t := 83) d_348_6 ?_) ?_
  · exact m_tsw_d h rfl
  refine m_Rq.n0 (x_iconst (z := (-1)) d_348_83 (by decide)) ?_
  refine m_Rq.ir d_348_84 rfl rfl ?_
  exact ⟨rfl, rfl⟩
theorem t_total (p : Int32) : m_Two M_228 M_348 [.ref 512, .int p] [.ref 583, .int p] := by
  by_cases h : p.toInt < 0 ∨ 6 < p.toInt
  · exact m_Two.same2 (-1) (c_total_d h) (e_total_d h) rfl
  · have e : p = Int32.ofNat p.toInt.toNat := by
      apply Int32.toInt_inj.mp
      rw [Int32.toInt_ofNat_of_lt (by omega)]
      omega
    rw [e]
    exact m_Two.ofk (m_rng k_total (by omega))
