/-! The reference on a fresh object. Written by wip/tool/mdl.py. -/
theorem a_592 : m_at w_1 592 = some (.inl (0, 7, [(6, .int 1000), (5, .int 1000), (4, .int 1000), (3, .int 1000), (2, .int 1000), (1, .int 1000)])) := rfl
theorem q_297 : m_mt[297]? = some M_297 := by rfl
theorem q_296 : m_mt[296]? = some M_296 := by rfl
theorem d_296_0 : m_dn M_296 0 (.aload_n 0) 1 1 := by decide +kernel
theorem d_296_1 : m_dn M_296 1 (.iload_n 1) 1 2 := by decide +kernel
theorem d_296_10 : m_dn M_296 10 (.iload_n 1) 1 11 := by decide +kernel
theorem d_296_11 : m_dn M_296 11 (.iaload) 1 12 := by decide +kernel
theorem d_296_12 : m_dn M_296 12 (.iconst 2) 1 13 := by decide +kernel
theorem d_296_13 : m_dn M_296 13 (.idiv) 1 14 := by decide +kernel
theorem d_296_14 : m_dn M_296 14 (.if_icmp .le 25) 3 17 := by decide +kernel
theorem d_296_2 : m_dn M_296 2 (.iconst 1) 1 3 := by decide +kernel
theorem d_296_3 : m_dn M_296 3 (.invokevirtual 418) 3 6 := by decide +kernel
theorem d_296_39 : m_dn M_296 39 (.aload_n 0) 1 40 := by decide +kernel
theorem d_296_40 : m_dn M_296 40 (.iload_n 1) 1 41 := by decide +kernel
theorem d_296_41 : m_dn M_296 41 (.iconst 0) 1 42 := by decide +kernel
theorem d_296_42 : m_dn M_296 42 (.invokevirtual 418) 3 45 := by decide +kernel
theorem d_296_45 : m_dn M_296 45 (.aload_n 0) 1 46 := by decide +kernel
theorem d_296_46 : m_dn M_296 46 (.getfield 39) 3 49 := by decide +kernel
theorem d_296_49 : m_dn M_296 49 (.iload_n 1) 1 50 := by decide +kernel
theorem d_296_50 : m_dn M_296 50 (.iaload) 1 51 := by decide +kernel
theorem d_296_51 : m_dn M_296 51 (.if_icmp .le 34) 3 54 := by decide +kernel
theorem d_296_6 : m_dn M_296 6 (.aload_n 0) 1 7 := by decide +kernel
theorem d_296_7 : m_dn M_296 7 (.getfield 39) 3 10 := by decide +kernel
theorem d_296_85 : m_dn M_296 85 (.return_) 1 86 := by decide +kernel
theorem d_335_0 : m_dn M_335 0 (.aload_n 0) 1 1 := by decide +kernel
theorem d_335_1 : m_dn M_335 1 (.iconst 0) 1 2 := by decide +kernel
theorem d_335_12 : m_dn M_335 12 (.iload_n 2) 1 13 := by decide +kernel
theorem d_335_13 : m_dn M_335 13 (.bipush 32) 2 15 := by decide +kernel
theorem d_335_15 : m_dn M_335 15 (.if_icmp .lt 10) 3 18 := by decide +kernel
theorem d_335_18 : m_dn M_335 18 (.iload_n 2) 1 19 := by decide +kernel
theorem d_335_19 : m_dn M_335 19 (.sipush 2000) 3 22 := by decide +kernel
theorem d_335_2 : m_dn M_335 2 (.putfield 155) 3 5 := by decide +kernel
theorem d_335_22 : m_dn M_335 22 (.if_icmp .le 5) 3 25 := by decide +kernel
theorem d_335_25 : m_dn M_335 25 (.iconst 0) 1 26 := by decide +kernel
theorem d_335_26 : m_dn M_335 26 (.ireturn) 1 27 := by decide +kernel
theorem d_335_27 : m_dn M_335 27 (.aload_n 0) 1 28 := by decide +kernel
theorem d_335_28 : m_dn M_335 28 (.getfield 39) 3 31 := by decide +kernel
theorem d_335_31 : m_dn M_335 31 (.iload_n 1) 1 32 := by decide +kernel
theorem d_335_32 : m_dn M_335 32 (.iload_n 2) 1 33 := by decide +kernel
theorem d_335_33 : m_dn M_335 33 (.iastore) 1 34 := by decide +kernel
theorem d_335_34 : m_dn M_335 34 (.aload_n 0) 1 35 := by decide +kernel
theorem d_335_35 : m_dn M_335 35 (.iload_n 1) 1 36 := by decide +kernel
theorem d_335_36 : m_dn M_335 36 (.invokevirtual 428) 3 39 := by decide +kernel
theorem d_335_39 : m_dn M_335 39 (.iconst 1) 1 40 := by decide +kernel
theorem d_335_40 : m_dn M_335 40 (.ireturn) 1 41 := by decide +kernel
theorem d_335_5 : m_dn M_335 5 (.iload_n 1) 1 6 := by decide +kernel
theorem d_335_6 : m_dn M_335 6 (.invokestatic 627) 3 9 := by decide +kernel
theorem d_335_9 : m_dn M_335 9 (.ifCond .eq 16) 3 12 := by decide +kernel
theorem d_345_0 : m_dn M_345 0 (.aload_n 0) 1 1 := by decide +kernel
theorem d_345_1 : m_dn M_345 1 (.iconst 0) 1 2 := by decide +kernel
theorem d_345_100 : m_dn M_345 100 (.iload_n 1) 1 101 := by decide +kernel
theorem d_345_101 : m_dn M_345 101 (.imul) 1 102 := by decide +kernel
theorem d_345_102 : m_dn M_345 102 (.istore 6) 2 104 := by decide +kernel
theorem d_345_12 : m_dn M_345 12 (.iconst (-1)) 1 13 := by decide +kernel
theorem d_345_13 : m_dn M_345 13 (.ireturn) 1 14 := by decide +kernel
theorem d_345_14 : m_dn M_345 14 (.iconst 0) 1 15 := by decide +kernel
theorem d_345_144 : m_dn M_345 144 (.iconst 0) 1 145 := by decide +kernel
theorem d_345_145 : m_dn M_345 145 (.istore 6) 2 147 := by decide +kernel
theorem d_345_147 : m_dn M_345 147 (.iconst 0) 1 148 := by decide +kernel
theorem d_345_148 : m_dn M_345 148 (.istore 7) 2 150 := by decide +kernel
theorem d_345_15 : m_dn M_345 15 (.istore_n 3) 1 16 := by decide +kernel
theorem d_345_150 : m_dn M_345 150 (.iload 7) 2 152 := by decide +kernel
theorem d_345_152 : m_dn M_345 152 (.aload_n 0) 1 153 := by decide +kernel
theorem d_345_153 : m_dn M_345 153 (.getfield 507) 3 156 := by decide +kernel
theorem d_345_156 : m_dn M_345 156 (.if_icmp .ge 33) 3 159 := by decide +kernel
theorem d_345_16 : m_dn M_345 16 (.iconst 0) 1 17 := by decide +kernel
theorem d_345_17 : m_dn M_345 17 (.istore 4) 2 19 := by decide +kernel
theorem d_345_189 : m_dn M_345 189 (.iload_n 2) 1 190 := by decide +kernel
theorem d_345_19 : m_dn M_345 19 (.iconst 0) 1 20 := by decide +kernel
theorem d_345_190 : m_dn M_345 190 (.tableswitch 164 0 12 #[66, 81, 83, 90, 93, 100, 107, 110, 113, 120, 120, 134, 134]) 66 256 := by decide +kernel
theorem d_345_2 : m_dn M_345 2 (.putfield 155) 3 5 := by decide +kernel
theorem d_345_20 : m_dn M_345 20 (.istore 5) 2 22 := by decide +kernel
theorem d_345_22 : m_dn M_345 22 (.sipush 1024) 3 25 := by decide +kernel
theorem d_345_25 : m_dn M_345 25 (.iload_n 1) 1 26 := by decide +kernel
theorem d_345_26 : m_dn M_345 26 (.imul) 1 27 := by decide +kernel
theorem d_345_27 : m_dn M_345 27 (.istore 6) 2 29 := by decide +kernel
theorem d_345_273 : m_dn M_345 273 (.aload_n 0) 1 274 := by decide +kernel
theorem d_345_274 : m_dn M_345 274 (.iload_n 1) 1 275 := by decide +kernel
theorem d_345_275 : m_dn M_345 275 (.iconst 0) 1 276 := by decide +kernel
theorem d_345_276 : m_dn M_345 276 (.invokevirtual 418) 3 279 := by decide +kernel
theorem d_345_279 : m_dn M_345 279 (.ireturn) 1 280 := by decide +kernel
theorem d_345_354 : m_dn M_345 354 (.iconst (-1)) 1 355 := by decide +kernel
theorem d_345_355 : m_dn M_345 355 (.ireturn) 1 356 := by decide +kernel
theorem d_345_5 : m_dn M_345 5 (.iload_n 1) 1 6 := by decide +kernel
theorem d_345_6 : m_dn M_345 6 (.invokestatic 627) 3 9 := by decide +kernel
theorem d_345_9 : m_dn M_345 9 (.ifCond .ne 5) 3 12 := by decide +kernel
theorem d_345_97 : m_dn M_345 97 (.sipush 128) 3 100 := by decide +kernel
theorem d_346_0 : m_dn M_346 0 (.aload_n 0) 1 1 := by decide +kernel
theorem d_346_1 : m_dn M_346 1 (.iconst 0) 1 2 := by decide +kernel
theorem d_346_12 : m_dn M_346 12 (.iload_n 2) 1 13 := by decide +kernel
theorem d_346_13 : m_dn M_346 13 (.ifCond .lt 30) 3 16 := by decide +kernel
theorem d_346_16 : m_dn M_346 16 (.iload_n 2) 1 17 := by decide +kernel
theorem d_346_17 : m_dn M_346 17 (.bipush 31) 2 19 := by decide +kernel
theorem d_346_19 : m_dn M_346 19 (.if_icmp .gt 24) 3 22 := by decide +kernel
theorem d_346_2 : m_dn M_346 2 (.putfield 155) 3 5 := by decide +kernel
theorem d_346_22 : m_dn M_346 22 (.iload_n 3) 1 23 := by decide +kernel
theorem d_346_23 : m_dn M_346 23 (.ifCond .lt 20) 3 26 := by decide +kernel
theorem d_346_26 : m_dn M_346 26 (.iload_n 3) 1 27 := by decide +kernel
theorem d_346_27 : m_dn M_346 27 (.iconst 3) 1 28 := by decide +kernel
theorem d_346_28 : m_dn M_346 28 (.if_icmp .gt 15) 3 31 := by decide +kernel
theorem d_346_31 : m_dn M_346 31 (.iload 4) 2 33 := by decide +kernel
theorem d_346_33 : m_dn M_346 33 (.ifCond .lt 10) 3 36 := by decide +kernel
theorem d_346_36 : m_dn M_346 36 (.iload 4) 2 38 := by decide +kernel
theorem d_346_38 : m_dn M_346 38 (.bipush 8) 2 40 := by decide +kernel
theorem d_346_40 : m_dn M_346 40 (.if_icmp .lt 5) 3 43 := by decide +kernel
theorem d_346_43 : m_dn M_346 43 (.iconst (-1)) 1 44 := by decide +kernel
theorem d_346_44 : m_dn M_346 44 (.ireturn) 1 45 := by decide +kernel
theorem d_346_45 : m_dn M_346 45 (.bipush 8) 2 47 := by decide +kernel
theorem d_346_47 : m_dn M_346 47 (.sipush 128) 3 50 := by decide +kernel
theorem d_346_5 : m_dn M_346 5 (.iload_n 1) 1 6 := by decide +kernel
theorem d_346_50 : m_dn M_346 50 (.iload_n 1) 1 51 := by decide +kernel
theorem d_346_51 : m_dn M_346 51 (.imul) 1 52 := by decide +kernel
theorem d_346_52 : m_dn M_346 52 (.iconst 4) 1 53 := by decide +kernel
theorem d_346_53 : m_dn M_346 53 (.iload_n 2) 1 54 := by decide +kernel
theorem d_346_54 : m_dn M_346 54 (.imul) 1 55 := by decide +kernel
theorem d_346_55 : m_dn M_346 55 (.iadd) 1 56 := by decide +kernel
theorem d_346_56 : m_dn M_346 56 (.iload_n 3) 1 57 := by decide +kernel
theorem d_346_57 : m_dn M_346 57 (.iadd) 1 58 := by decide +kernel
theorem d_346_58 : m_dn M_346 58 (.imul) 1 59 := by decide +kernel
theorem d_346_59 : m_dn M_346 59 (.iload 4) 2 61 := by decide +kernel
theorem d_346_6 : m_dn M_346 6 (.invokestatic 627) 3 9 := by decide +kernel
theorem d_346_61 : m_dn M_346 61 (.iadd) 1 62 := by decide +kernel
theorem d_346_62 : m_dn M_346 62 (.istore 6) 2 64 := by decide +kernel
theorem d_346_64 : m_dn M_346 64 (.aload_n 0) 1 65 := by decide +kernel
theorem d_346_65 : m_dn M_346 65 (.getfield 66) 3 68 := by decide +kernel
theorem d_346_68 : m_dn M_346 68 (.iload 6) 2 70 := by decide +kernel
theorem d_346_70 : m_dn M_346 70 (.baload) 1 71 := by decide +kernel
theorem d_346_71 : m_dn M_346 71 (.ifCond .ne 5) 3 74 := by decide +kernel
theorem d_346_74 : m_dn M_346 74 (.iconst (-1)) 1 75 := by decide +kernel
theorem d_346_75 : m_dn M_346 75 (.ireturn) 1 76 := by decide +kernel
theorem d_346_9 : m_dn M_346 9 (.ifCond .eq 34) 3 12 := by decide +kernel
theorem m_rng2 {N M i j : Nat} {f : Nat → Nat → Bool} (h : (List.range N).all (fun i => (List.range M).all (fun j => f i j)) = true) (hi : i < N) (hj : j < M) : f i j = true := List.all_eq_true.mp (List.all_eq_true.mp h i (List.mem_range.mpr hi)) j (List.mem_range.mpr hj)
theorem m_c1_ltf {a : Nat} (ha : a < 2147483648) : m_c1 .lt (Int32.ofNat a) = false := decide_eq_false (m_n_neg ha)
theorem x_bastore {ic : mI → mF → Option mR} {I : mI} {pc pc' : Nat} {lv : List (Nat × Value)} {r : List Value} {w : List mM} {x y z : Int32} {a N j : Nat} {els : List (Nat × Value)} (hd : m_dn I pc .bastore 1 pc') (hw : m_at w a = some (.inl (4, N, els))) (hi : ¬ y < 0) (hj : y.toNatClampNeg = j) (hN : j < N) (hz : vp_nar .boolean x = z) : m_nx ic I (pc, lv, .int x :: .int y :: .ref a :: r, w) = some ((pc', lv, r, w.set (a - 512) (.inl (4, N, m_sel els j (.int z)))), 0, 0, 0, 0) := by
  refine x_hs hd rfl rfl rfl ?_
  have h2 : ¬ (y < 0 ∨ N ≤ j) := fun h => h.elim hi (fun h => absurd hN (Nat.not_lt.mpr h))
  have e3 : ¬ ((4 : Nat) = 3) := by decide
  simp only [m_hs, m_ast, hw, hj, if_neg e3, if_true]
  rw [if_pos h2, hz]
theorem e_entry_0 {n p v q r : Int32} (h0 : ¬ m_nd n) : m_Rq M_346 (m_ent M_346 [.ref 583, .int n, .int p, .int v, .int q, .int r] w_1) (fun v w' => v = some (.int (-1)) ∧ w' = w_1) 0 0 10 1000 := by
  show m_Rq M_346 (0, [(0, .ref 583), (1, .int n), (2, .int p), (3, .int v), (4, .int q), (5, .int r)], [], w_1) _ 0 0 10 1000
  refine m_Rq.n0 (x_aload_n d_346_0 rfl) ?_
  refine m_Rq.n0 (x_iconst (z := 0) d_346_1 (by decide)) ?_
  refine m_Rq.n0 (x_putfs d_346_2 rfl a_583 rfl rfl (by decide) rfl rfl rfl) ?_
  refine m_Rq.n0 (x_iload_n d_346_5 rfl) ?_
  refine m_Rq.callE (x_cs (n := 119) d_346_6 rfl q_333 rfl rfl m_hn1 rfl rfl) (s_mNode h0) rfl ?_ (by decide) (by decide)
  refine m_Rq.n0 (x_ift d_346_9 rfl (by decide)) ?_
  refine m_Rq.n0 (x_iconst (z := (-1)) d_346_43 (by decide)) ?_
  refine m_Rq.ir d_346_44 rfl rfl ?_
  exact ⟨rfl, rfl⟩
theorem e_entry_1 {n p v q r : Int32} (h : m_nd n) (h1 : p < 0) : m_Rq M_346 (m_ent M_346 [.ref 583, .int n, .int p, .int v, .int q, .int r] w_1) (fun v w' => v = some (.int (-1)) ∧ w' = w_1) 0 0 10 1000 := by
  show m_Rq M_346 (0, [(0, .ref 583), (1, .int n), (2, .int p), (3, .int v), (4, .int q), (5, .int r)], [], w_1) _ 0 0 10 1000
  refine m_Rq.n0 (x_aload_n d_346_0 rfl) ?_
  refine m_Rq.n0 (x_iconst (z := 0) d_346_1 (by decide)) ?_
  refine m_Rq.n0 (x_putfs d_346_2 rfl a_583 rfl rfl (by decide) rfl rfl rfl) ?_
  refine m_Rq.n0 (x_iload_n d_346_5 rfl) ?_
  refine m_Rq.callE (x_cs (n := 119) d_346_6 rfl q_333 rfl rfl m_hn1 rfl rfl) (s_mNode1 (m_nd_m.mp h).1 (m_nd_m.mp h).2) rfl ?_ (by decide) (by decide)
  refine m_Rq.n0 (x_iff d_346_9 rfl (by decide)) ?_
  refine m_Rq.n0 (x_iload_n d_346_12 rfl) ?_
  refine m_Rq.n0 (x_ift d_346_13 rfl (decide_eq_true h1)) ?_
  refine m_Rq.n0 (x_iconst (z := (-1)) d_346_43 (by decide)) ?_
  refine m_Rq.ir d_346_44 rfl rfl ?_
  exact ⟨rfl, rfl⟩
theorem e_entry_2 {n p v q r : Int32} (h : m_nd n) (h1 : ¬ p < 0) (h2 : 31 < p) : m_Rq M_346 (m_ent M_346 [.ref 583, .int n, .int p, .int v, .int q, .int r] w_1) (fun v w' => v = some (.int (-1)) ∧ w' = w_1) 0 0 10 1000 := by
  show m_Rq M_346 (0, [(0, .ref 583), (1, .int n), (2, .int p), (3, .int v), (4, .int q), (5, .int r)], [], w_1) _ 0 0 10 1000
  refine m_Rq.n0 (x_aload_n d_346_0 rfl) ?_
  refine m_Rq.n0 (x_iconst (z := 0) d_346_1 (by decide)) ?_
  refine m_Rq.n0 (x_putfs d_346_2 rfl a_583 rfl rfl (by decide) rfl rfl rfl) ?_
  refine m_Rq.n0 (x_iload_n d_346_5 rfl) ?_
  refine m_Rq.callE (x_cs (n := 119) d_346_6 rfl q_333 rfl rfl m_hn1 rfl rfl) (s_mNode1 (m_nd_m.mp h).1 (m_nd_m.mp h).2) rfl ?_ (by decide) (by decide)
  refine m_Rq.n0 (x_iff d_346_9 rfl (by decide)) ?_
  refine m_Rq.n0 (x_iload_n d_346_12 rfl) ?_
  refine m_Rq.n0 (x_iff d_346_13 rfl (decide_eq_false h1)) ?_
  refine m_Rq.n0 (x_iload_n d_346_16 rfl) ?_
  refine m_Rq.n0 (x_bipush (z := 31) d_346_17 (by decide)) ?_
  refine m_Rq.n0 (x_ict d_346_19 rfl (decide_eq_true h2)) ?_
  refine m_Rq.n0 (x_iconst (z := (-1)) d_346_43 (by decide)) ?_
  refine m_Rq.ir d_346_44 rfl rfl ?_
  exact ⟨rfl, rfl⟩
theorem e_entry_3 {n p v q r : Int32} (h : m_nd n) (h1 : ¬ p < 0) (h2 : ¬ 31 < p) (h3 : v < 0) : m_Rq M_346 (m_ent M_346 [.ref 583, .int n, .int p, .int v, .int q, .int r] w_1) (fun v w' => v = some (.int (-1)) ∧ w' = w_1) 0 0 10 1000 := by
  show m_Rq M_346 (0, [(0, .ref 583), (1, .int n), (2, .int p), (3, .int v), (4, .int q), (5, .int r)], [], w_1) _ 0 0 10 1000
  refine m_Rq.n0 (x_aload_n d_346_0 rfl) ?_
  refine m_Rq.n0 (x_iconst (z := 0) d_346_1 (by decide)) ?_
  refine m_Rq.n0 (x_putfs d_346_2 rfl a_583 rfl rfl (by decide) rfl rfl rfl) ?_
  refine m_Rq.n0 (x_iload_n d_346_5 rfl) ?_
  refine m_Rq.callE (x_cs (n := 119) d_346_6 rfl q_333 rfl rfl m_hn1 rfl rfl) (s_mNode1 (m_nd_m.mp h).1 (m_nd_m.mp h).2) rfl ?_ (by decide) (by decide)
  refine m_Rq.n0 (x_iff d_346_9 rfl (by decide)) ?_
  refine m_Rq.n0 (x_iload_n d_346_12 rfl) ?_
  refine m_Rq.n0 (x_iff d_346_13 rfl (decide_eq_false h1)) ?_
  refine m_Rq.n0 (x_iload_n d_346_16 rfl) ?_
  refine m_Rq.n0 (x_bipush (z := 31) d_346_17 (by decide)) ?_
  refine m_Rq.n0 (x_icf d_346_19 rfl (decide_eq_false h2)) ?_
  refine m_Rq.n0 (x_iload_n d_346_22 rfl) ?_
  refine m_Rq.n0 (x_ift d_346_23 rfl (decide_eq_true h3)) ?_
  refine m_Rq.n0 (x_iconst (z := (-1)) d_346_43 (by decide)) ?_
  refine m_Rq.ir d_346_44 rfl rfl ?_
  exact ⟨rfl, rfl⟩
theorem e_entry_4 {n p v q r : Int32} (h : m_nd n) (h1 : ¬ p < 0) (h2 : ¬ 31 < p) (h3 : ¬ v < 0) (h4 : 3 < v) : m_Rq M_346 (m_ent M_346 [.ref 583, .int n, .int p, .int v, .int q, .int r] w_1) (fun v w' => v = some (.int (-1)) ∧ w' = w_1) 0 0 10 1000 := by
  show m_Rq M_346 (0, [(0, .ref 583), (1, .int n), (2, .int p), (3, .int v), (4, .int q), (5, .int r)], [], w_1) _ 0 0 10 1000
  refine m_Rq.n0 (x_aload_n d_346_0 rfl) ?_
  refine m_Rq.n0 (x_iconst (z := 0) d_346_1 (by decide)) ?_
  refine m_Rq.n0 (x_putfs d_346_2 rfl a_583 rfl rfl (by decide) rfl rfl rfl) ?_
  refine m_Rq.n0 (x_iload_n d_346_5 rfl) ?_
  refine m_Rq.callE (x_cs (n := 119) d_346_6 rfl q_333 rfl rfl m_hn1 rfl rfl) (s_mNode1 (m_nd_m.mp h).1 (m_nd_m.mp h).2) rfl ?_ (by decide) (by decide)
  refine m_Rq.n0 (x_iff d_346_9 rfl (by decide)) ?_
  refine m_Rq.n0 (x_iload_n d_346_12 rfl) ?_
  refine m_Rq.n0 (x_iff d_346_13 rfl (decide_eq_false h1)) ?_
  refine m_Rq.n0 (x_iload_n d_346_16 rfl) ?_
  refine m_Rq.n0 (x_bipush (z := 31) d_346_17 (by decide)) ?_
  refine m_Rq.n0 (x_icf d_346_19 rfl (decide_eq_false h2)) ?_
  refine m_Rq.n0 (x_iload_n d_346_22 rfl) ?_
  refine m_Rq.n0 (x_iff d_346_23 rfl (decide_eq_false h3)) ?_
  refine m_Rq.n0 (x_iload_n d_346_26 rfl) ?_
  refine m_Rq.n0 (x_iconst (z := 3) d_346_27 (by decide)) ?_
  refine m_Rq.n0 (x_ict d_346_28 rfl (decide_eq_true h4)) ?_
  refine m_Rq.n0 (x_iconst (z := (-1)) d_346_43 (by decide)) ?_
  refine m_Rq.ir d_346_44 rfl rfl ?_
  exact ⟨rfl, rfl⟩
theorem e_entry_5 {n p v q r : Int32} (h : m_nd n) (h1 : ¬ p < 0) (h2 : ¬ 31 < p) (h3 : ¬ v < 0) (h4 : ¬ 3 < v) (h5 : q < 0) : m_Rq M_346 (m_ent M_346 [.ref 583, .int n, .int p, .int v, .int q, .int r] w_1) (fun v w' => v = some (.int (-1)) ∧ w' = w_1) 0 0 10 1000 := by
  show m_Rq M_346 (0, [(0, .ref 583), (1, .int n), (2, .int p), (3, .int v), (4, .int q), (5, .int r)], [], w_1) _ 0 0 10 1000
  refine m_Rq.n0 (x_aload_n d_346_0 rfl) ?_
  refine m_Rq.n0 (x_iconst (z := 0) d_346_1 (by decide)) ?_
  refine m_Rq.n0 (x_putfs d_346_2 rfl a_583 rfl rfl (by decide) rfl rfl rfl) ?_
  refine m_Rq.n0 (x_iload_n d_346_5 rfl) ?_
  refine m_Rq.callE (x_cs (n := 119) d_346_6 rfl q_333 rfl rfl m_hn1 rfl rfl) (s_mNode1 (m_nd_m.mp h).1 (m_nd_m.mp h).2) rfl ?_ (by decide) (by decide)
  refine m_Rq.n0 (x_iff d_346_9 rfl (by decide)) ?_
  refine m_Rq.n0 (x_iload_n d_346_12 rfl) ?_
  refine m_Rq.n0 (x_iff d_346_13 rfl (decide_eq_false h1)) ?_
  refine m_Rq.n0 (x_iload_n d_346_16 rfl) ?_
  refine m_Rq.n0 (x_bipush (z := 31) d_346_17 (by decide)) ?_
  refine m_Rq.n0 (x_icf d_346_19 rfl (decide_eq_false h2)) ?_
  refine m_Rq.n0 (x_iload_n d_346_22 rfl) ?_
  refine m_Rq.n0 (x_iff d_346_23 rfl (decide_eq_false h3)) ?_
  refine m_Rq.n0 (x_iload_n d_346_26 rfl) ?_
  refine m_Rq.n0 (x_iconst (z := 3) d_346_27 (by decide)) ?_
  refine m_Rq.n0 (x_icf d_346_28 rfl (decide_eq_false h4)) ?_
  refine m_Rq.n0 (x_iload d_346_31 rfl) ?_
  refine m_Rq.n0 (x_ift d_346_33 rfl (decide_eq_true h5)) ?_
  refine m_Rq.n0 (x_iconst (z := (-1)) d_346_43 (by decide)) ?_
  refine m_Rq.ir d_346_44 rfl rfl ?_
  exact ⟨rfl, rfl⟩
theorem e_entry_6 {n p v q r : Int32} (h : m_nd n) (h1 : ¬ p < 0) (h2 : ¬ 31 < p) (h3 : ¬ v < 0) (h4 : ¬ 3 < v) (h5 : ¬ q < 0) (h6 : ¬ q < 8) : m_Rq M_346 (m_ent M_346 [.ref 583, .int n, .int p, .int v, .int q, .int r] w_1) (fun v w' => v = some (.int (-1)) ∧ w' = w_1) 0 0 10 1000 := by
  show m_Rq M_346 (0, [(0, .ref 583), (1, .int n), (2, .int p), (3, .int v), (4, .int q), (5, .int r)], [], w_1) _ 0 0 10 1000
  refine m_Rq.n0 (x_aload_n d_346_0 rfl) ?_
  refine m_Rq.n0 (x_iconst (z := 0) d_346_1 (by decide)) ?_
  refine m_Rq.n0 (x_putfs d_346_2 rfl a_583 rfl rfl (by decide) rfl rfl rfl) ?_
  refine m_Rq.n0 (x_iload_n d_346_5 rfl) ?_
  refine m_Rq.callE (x_cs (n := 119) d_346_6 rfl q_333 rfl rfl m_hn1 rfl rfl) (s_mNode1 (m_nd_m.mp h).1 (m_nd_m.mp h).2) rfl ?_ (by decide) (by decide)
  refine m_Rq.n0 (x_iff d_346_9 rfl (by decide)) ?_
  refine m_Rq.n0 (x_iload_n d_346_12 rfl) ?_
  refine m_Rq.n0 (x_iff d_346_13 rfl (decide_eq_false h1)) ?_
  refine m_Rq.n0 (x_iload_n d_346_16 rfl) ?_
  refine m_Rq.n0 (x_bipush (z := 31) d_346_17 (by decide)) ?_
  refine m_Rq.n0 (x_icf d_346_19 rfl (decide_eq_false h2)) ?_
  refine m_Rq.n0 (x_iload_n d_346_22 rfl) ?_
  refine m_Rq.n0 (x_iff d_346_23 rfl (decide_eq_false h3)) ?_
  refine m_Rq.n0 (x_iload_n d_346_26 rfl) ?_
  refine m_Rq.n0 (x_iconst (z := 3) d_346_27 (by decide)) ?_
  refine m_Rq.n0 (x_icf d_346_28 rfl (decide_eq_false h4)) ?_
  refine m_Rq.n0 (x_iload d_346_31 rfl) ?_
  refine m_Rq.n0 (x_iff d_346_33 rfl (decide_eq_false h5)) ?_
  refine m_Rq.n0 (x_iload d_346_36 rfl) ?_
  refine m_Rq.n0 (x_bipush (z := 8) d_346_38 (by decide)) ?_
  refine m_Rq.n0 (x_icf d_346_40 rfl (decide_eq_false h6)) ?_
  refine m_Rq.n0 (x_iconst (z := (-1)) d_346_43 (by decide)) ?_
  refine m_Rq.ir d_346_44 rfl rfl ?_
  exact ⟨rfl, rfl⟩
theorem e_entry_7 {m a b d : Nat} {r : Int32} (hm : m < 7) (h : m_nd (Int32.ofNat m)) (ha : a < 32) (hb : b < 4) (hd : d < 8) : m_Rq M_346 (m_ent M_346 [.ref 583, .int (Int32.ofNat m), .int (Int32.ofNat a), .int (Int32.ofNat b), .int (Int32.ofNat d), .int r] w_1) (fun v w' => v = some (.int (-1)) ∧ w' = w_1) 0 0 10 1000 := by
  show m_Rq M_346 (0, [(0, .ref 583), (1, .int (Int32.ofNat m)), (2, .int (Int32.ofNat a)), (3, .int (Int32.ofNat b)), (4, .int (Int32.ofNat d)), (5, .int r)], [], w_1) _ 0 0 10 1000
  refine m_Rq.n0 (x_aload_n d_346_0 rfl) ?_
  refine m_Rq.n0 (x_iconst (z := 0) d_346_1 (by decide)) ?_
  refine m_Rq.n0 (x_putfs d_346_2 rfl a_583 rfl rfl (by decide) rfl rfl rfl) ?_
  refine m_Rq.n0 (x_iload_n d_346_5 rfl) ?_
  refine m_Rq.callE (x_cs (n := 119) d_346_6 rfl q_333 rfl rfl m_hn1 rfl rfl) (s_mNode1 (m_nd_m.mp h).1 (m_nd_m.mp h).2) rfl ?_ (by decide) (by decide)
  refine m_Rq.n0 (x_iff d_346_9 rfl (by decide)) ?_
  refine m_Rq.n0 (x_iload_n d_346_12 rfl) ?_
  refine m_Rq.n0 (x_iff d_346_13 rfl (m_c1_ltf (a := a) (by omega))) ?_
  refine m_Rq.n0 (x_iload_n d_346_16 rfl) ?_
  refine m_Rq.n0 (x_bipush (z := 31) d_346_17 (by decide)) ?_
  refine m_Rq.n0 (x_icf d_346_19 rfl (m_c2n (a := a) (b := 31) (by omega) (by omega) (decide_eq_false (by omega)))) ?_
  refine m_Rq.n0 (x_iload_n d_346_22 rfl) ?_
  refine m_Rq.n0 (x_iff d_346_23 rfl (m_c1_ltf (a := b) (by omega))) ?_
  refine m_Rq.n0 (x_iload_n d_346_26 rfl) ?_
  refine m_Rq.n0 (x_iconst (z := 3) d_346_27 (by decide)) ?_
  refine m_Rq.n0 (x_icf d_346_28 rfl (m_c2n (a := b) (b := 3) (by omega) (by omega) (decide_eq_false (by omega)))) ?_
  refine m_Rq.n0 (x_iload d_346_31 rfl) ?_
  refine m_Rq.n0 (x_iff d_346_33 rfl (m_c1_ltf (a := d) (by omega))) ?_
  refine m_Rq.n0 (x_iload d_346_36 rfl) ?_
  refine m_Rq.n0 (x_bipush (z := 8) d_346_38 (by decide)) ?_
  refine m_Rq.n0 (x_ict d_346_40 rfl (m_c2n (a := d) (b := 8) (by omega) (by omega) (decide_eq_true (by omega)))) ?_
  refine m_Rq.n0 (x_bipush (z := 8) d_346_45 (by decide)) ?_
  refine m_Rq.n0 (x_sipush (z := 128) d_346_47 (by decide)) ?_
  refine m_Rq.n0 (x_iload_n d_346_50 rfl) ?_
  refine m_Rq.n0 (x_imul (z := Int32.ofNat (128 * m)) d_346_51 (m_n_mul _ _)) ?_
  refine m_Rq.n0 (x_iconst (z := 4) d_346_52 (by decide)) ?_
  refine m_Rq.n0 (x_iload_n d_346_53 rfl) ?_
  refine m_Rq.n0 (x_imul (z := Int32.ofNat (4 * a)) d_346_54 (m_n_mul _ _)) ?_
  refine m_Rq.n0 (x_iadd (z := Int32.ofNat ((128 * m) + (4 * a))) d_346_55 (m_n_add _ _)) ?_
  refine m_Rq.n0 (x_iload_n d_346_56 rfl) ?_
  refine m_Rq.n0 (x_iadd (z := Int32.ofNat (((128 * m) + (4 * a)) + b)) d_346_57 (m_n_add _ _)) ?_
  refine m_Rq.n0 (x_imul (z := Int32.ofNat (8 * (((128 * m) + (4 * a)) + b))) d_346_58 (m_n_mul _ _)) ?_
  refine m_Rq.n0 (x_iload d_346_59 rfl) ?_
  refine m_Rq.n0 (x_iadd (z := Int32.ofNat ((8 * (((128 * m) + (4 * a)) + b)) + d)) d_346_61 (m_n_add _ _)) ?_
  refine m_Rq.n0 (x_istore d_346_62 rfl (show m_put1 _ _ _ = [(6, _), (0, _), (1, _), (2, _), (3, _), (4, _), (5, _)] from rfl)) ?_
  refine m_Rq.n0 (x_aload_n d_346_64 rfl) ?_
  refine m_Rq.n0 (x_getf d_346_65 rfl a_583 rfl) ?_
  refine m_Rq.n0 (x_iload d_346_68 rfl) ?_
  refine m_Rq.n0 (x_baload (j := ((8 * (((128 * m) + (4 * a)) + b)) + d)) d_346_70 a_601 rfl (m_n_neg (by omega)) (m_n_cl (by omega)) (by omega) rfl) ?_
  refine m_Rq.n0 (x_iff d_346_71 rfl (by decide)) ?_
  refine m_Rq.n0 (x_iconst (z := (-1)) d_346_74 (by decide)) ?_
  refine m_Rq.ir d_346_75 rfl rfl ?_
  exact ⟨rfl, rfl⟩
theorem m_lt_of {p : Int32} {k : Nat} {k1 : Int32} (hk : k + 1 < 2147483648) (e : k1 = Int32.ofNat k) (h0 : ¬ p < 0) (h1 : ¬ k1 < p) : ∃ j, j < k + 1 ∧ p = Int32.ofNat j := by
  obtain ⟨j, hj, rfl⟩ := m_n_of h0
  refine ⟨j, ?_, rfl⟩
  rw [e, m_n_lt (by omega) hj] at h1
  omega
theorem c_entry (n p v q r : Int32) : m_Rq M_223 (m_ent M_223 [.ref 512, .int n, .int p, .int v, .int q, .int r] w_1) (fun v w' => v = some (.int (-1)) ∧ w' = w_1) 0 0 10 1000 := by
  by_cases h : m_nd n
  · obtain ⟨j, hj, rfl⟩ := m_nd_in h
    match j, hj with
    | 0, _ => exact c_entry_1
    | 1, _ => exact c_entry_2
    | 2, _ => exact c_entry_3
    | 3, _ => exact c_entry_4
    | 4, _ => exact c_entry_5
    | 5, _ => exact c_entry_6
    | j + 6, hj => omega
  · exact c_entry_0 h
theorem e_entry (n p v q r : Int32) : m_Rq M_346 (m_ent M_346 [.ref 583, .int n, .int p, .int v, .int q, .int r] w_1) (fun v w' => v = some (.int (-1)) ∧ w' = w_1) 0 0 10 1000 := by
  by_cases h : m_nd n
  · by_cases h1 : p < 0
    · exact e_entry_1 h h1
    · by_cases h2 : 31 < p
      · exact e_entry_2 h h1 h2
      · by_cases h3 : v < 0
        · exact e_entry_3 h h1 h2 h3
        · by_cases h4 : 3 < v
          · exact e_entry_4 h h1 h2 h3 h4
          · by_cases h5 : q < 0
            · exact e_entry_5 h h1 h2 h3 h4 h5
            · by_cases h6 : q < 8
              · obtain ⟨a, ha, rfl⟩ := m_lt_of (k := 31) (by decide) rfl h1 h2
                obtain ⟨b, hb, rfl⟩ := m_lt_of (k := 3) (by decide) rfl h3 h4
                obtain ⟨d, hd, rfl⟩ := m_n_in (N := 8) (by decide) h5 h6
                obtain ⟨j, hj, rfl⟩ := m_nd_in h
                exact e_entry_7 (by omega) h ha hb hd
              · exact e_entry_6 h h1 h2 h3 h4 h5 h6
  · exact e_entry_0 h
theorem t_entry (n p v q r : Int32) : m_Two M_223 M_346 [.ref 512, .int n, .int p, .int v, .int q, .int r] [.ref 583, .int n, .int p, .int v, .int q, .int r] := m_Two.same2 (-1) (c_entry n p v q r) (e_entry n p v q r) rfl
/-- the class's world is known by what holds of it -/
theorem m_Two.gen {J K : mI} {as bs : List Value} (x : Int32) {Q : List mM → Prop} {c s f l c' s' f' l' : Nat} (h1 : m_Rq J (m_ent J as w_1) (fun v w => v = some (.int x) ∧ Q w) c s f l) (hQ : ∀ w, Q w → m_mdl w = true) (h2 : ∀ w, Q w → m_Rq K (m_ent K bs w) (fun v _ => v = some (.int x)) c' s' f' l') (b : decide (c ≤ 400 ∧ s ≤ 400000 ∧ f ≤ 100 ∧ l ≤ 20000 ∧ c' ≤ 400 ∧ s' ≤ 400000 ∧ f' ≤ 100 ∧ l' ≤ 20000) = true) : m_Two J K as bs := by
  have b := of_decide_eq_true b
  obtain ⟨n, r, g1, ⟨g2, g3⟩, g4, g5, g6, g7⟩ := h1
  exact ⟨x, r.2.1, hQ _ g3, ⟨n, r, g1, ⟨g2, rfl⟩, by omega, by omega, by omega, by omega⟩, (h2 _ g3).mono (fun _ _ h => h) b.2.2.2.2.1 b.2.2.2.2.2.1 b.2.2.2.2.2.2.1 b.2.2.2.2.2.2.2⟩
theorem m_mdl_of {w : List mM} {fs : List Value} (hl : 119 ≤ w.length) (h : m_at w 583 = some (.inr (14, fs))) : m_mdl w = true := by
  unfold m_mdl
  rw [h]
  simp only [hl, decide_true, Bool.and_self]
theorem s_trim {w : List mM} (hl : 119 ≤ w.length) {c b : Int32} (hm : m_at w 583 = some (.inr (14, f_m c))) (ht : m_at w 601 = some (.inl (4, 7168, []))) {els : List (Nat × Value)} (hb : m_at w 592 = some (.inl (0, 7, els))) {n : Nat} (hn : n < 7) (he : m_el 0 els n = .int b) (h2 : 0 ≤ b / 2) (h0 : 0 ≤ b) : m_Rq M_296 (m_ent M_296 [.ref 583, .int (Int32.ofNat n)] w) (fun v w' => v = none ∧ w' = w) 0 0 1 100 := by
  show m_Rq M_296 (0, [(0, .ref 583), (1, .int (Int32.ofNat n))], [], w) _ 0 0 1 100
  refine m_Rq.n0 (x_aload_n d_296_0 rfl) ?_
  refine m_Rq.n0 (x_iload_n d_296_1 rfl) ?_
  refine m_Rq.n0 (x_iconst (z := 1) d_296_2 (by decide)) ?_
  refine m_Rq.callE (x_cv (n := 119) d_296_3 rfl q_297 (m_isRecv_of rfl hm) rfl rfl hl rfl) (s_sizes hm ht hn) rfl ?_ (by decide) (by decide)
  refine m_Rq.n0 (x_aload_n d_296_6 rfl) ?_
  refine m_Rq.n0 (x_getf d_296_7 rfl hm rfl) ?_
  refine m_Rq.n0 (x_iload_n d_296_10 rfl) ?_
  refine m_Rq.n0 (x_iaload (j := n) d_296_11 hb rfl (m_n_neg (by omega)) (m_n_cl (by omega)) (by omega) he) ?_
  refine m_Rq.n0 (x_iconst (z := 2) d_296_12 (by decide)) ?_
  refine m_Rq.n0 (x_idiv d_296_13 (by decide) rfl) ?_
  refine m_Rq.n0 (x_ict d_296_14 rfl (decide_eq_true h2)) ?_
  refine m_Rq.n0 (x_aload_n d_296_39 rfl) ?_
  refine m_Rq.n0 (x_iload_n d_296_40 rfl) ?_
  refine m_Rq.n0 (x_iconst (z := 0) d_296_41 (by decide)) ?_
  refine m_Rq.callE (x_cv (n := 119) d_296_42 rfl q_297 (m_isRecv_of rfl hm) rfl rfl hl rfl) (s_sizes hm ht hn) rfl ?_ (by decide) (by decide)
  refine m_Rq.n0 (x_aload_n d_296_45 rfl) ?_
  refine m_Rq.n0 (x_getf d_296_46 rfl hm rfl) ?_
  refine m_Rq.n0 (x_iload_n d_296_49 rfl) ?_
  refine m_Rq.n0 (x_iaload (j := n) d_296_50 hb rfl (m_n_neg (by omega)) (m_n_cl (by omega)) (by omega) he) ?_
  refine m_Rq.n0 (x_ict d_296_51 rfl (decide_eq_true h0)) ?_
  refine m_Rq.vr d_296_85 rfl ?_
  exact ⟨rfl, rfl⟩
theorem e_budget_0 {n b : Int32} (h0 : ¬ m_nd n) : m_Rq M_335 (m_ent M_335 [.ref 583, .int n, .int b] w_1) (fun v w' => v = some (.int 0) ∧ w' = w_1) 0 0 10 1000 := by
  show m_Rq M_335 (0, [(0, .ref 583), (1, .int n), (2, .int b)], [], w_1) _ 0 0 10 1000
  refine m_Rq.n0 (x_aload_n d_335_0 rfl) ?_
  refine m_Rq.n0 (x_iconst (z := 0) d_335_1 (by decide)) ?_
  refine m_Rq.n0 (x_putfs d_335_2 rfl a_583 rfl rfl (by decide) rfl rfl rfl) ?_
  refine m_Rq.n0 (x_iload_n d_335_5 rfl) ?_
  refine m_Rq.callE (x_cs (n := 119) d_335_6 rfl q_333 rfl rfl m_hn1 rfl rfl) (s_mNode h0) rfl ?_ (by decide) (by decide)
  refine m_Rq.n0 (x_ift d_335_9 rfl (by decide)) ?_
  refine m_Rq.n0 (x_iconst (z := 0) d_335_25 (by decide)) ?_
  refine m_Rq.ir d_335_26 rfl rfl ?_
  exact ⟨rfl, rfl⟩
theorem e_budget_l {n b : Int32} (h : m_nd n) (h0 : b < 32) : m_Rq M_335 (m_ent M_335 [.ref 583, .int n, .int b] w_1) (fun v w' => v = some (.int 0) ∧ w' = w_1) 0 0 10 1000 := by
  show m_Rq M_335 (0, [(0, .ref 583), (1, .int n), (2, .int b)], [], w_1) _ 0 0 10 1000
  refine m_Rq.n0 (x_aload_n d_335_0 rfl) ?_
  refine m_Rq.n0 (x_iconst (z := 0) d_335_1 (by decide)) ?_
  refine m_Rq.n0 (x_putfs d_335_2 rfl a_583 rfl rfl (by decide) rfl rfl rfl) ?_
  refine m_Rq.n0 (x_iload_n d_335_5 rfl) ?_
  refine m_Rq.callE (x_cs (n := 119) d_335_6 rfl q_333 rfl rfl m_hn1 rfl rfl) (s_mNode1 (m_nd_m.mp h).1 (m_nd_m.mp h).2) rfl ?_ (by decide) (by decide)
  refine m_Rq.n0 (x_iff d_335_9 rfl (by decide)) ?_
  refine m_Rq.n0 (x_iload_n d_335_12 rfl) ?_
  refine m_Rq.n0 (x_bipush (z := 32) d_335_13 (by decide)) ?_
  refine m_Rq.n0 (x_ict d_335_15 rfl (decide_eq_true h0)) ?_
  refine m_Rq.n0 (x_iconst (z := 0) d_335_25 (by decide)) ?_
  refine m_Rq.ir d_335_26 rfl rfl ?_
  exact ⟨rfl, rfl⟩
theorem e_budget_g {n b : Int32} (h : m_nd n) (h0 : ¬ b < 32) (h1 : ¬ b ≤ 2000) : m_Rq M_335 (m_ent M_335 [.ref 583, .int n, .int b] w_1) (fun v w' => v = some (.int 0) ∧ w' = w_1) 0 0 10 1000 := by
  show m_Rq M_335 (0, [(0, .ref 583), (1, .int n), (2, .int b)], [], w_1) _ 0 0 10 1000
  refine m_Rq.n0 (x_aload_n d_335_0 rfl) ?_
  refine m_Rq.n0 (x_iconst (z := 0) d_335_1 (by decide)) ?_
  refine m_Rq.n0 (x_putfs d_335_2 rfl a_583 rfl rfl (by decide) rfl rfl rfl) ?_
  refine m_Rq.n0 (x_iload_n d_335_5 rfl) ?_
  refine m_Rq.callE (x_cs (n := 119) d_335_6 rfl q_333 rfl rfl m_hn1 rfl rfl) (s_mNode1 (m_nd_m.mp h).1 (m_nd_m.mp h).2) rfl ?_ (by decide) (by decide)
  refine m_Rq.n0 (x_iff d_335_9 rfl (by decide)) ?_
  refine m_Rq.n0 (x_iload_n d_335_12 rfl) ?_
  refine m_Rq.n0 (x_bipush (z := 32) d_335_13 (by decide)) ?_
  refine m_Rq.n0 (x_icf d_335_15 rfl (decide_eq_false h0)) ?_
  refine m_Rq.n0 (x_iload_n d_335_18 rfl) ?_
  refine m_Rq.n0 (x_sipush (z := 2000) d_335_19 (by decide)) ?_
  refine m_Rq.n0 (x_icf d_335_22 rfl (decide_eq_false h1)) ?_
  refine m_Rq.n0 (x_iconst (z := 0) d_335_25 (by decide)) ?_
  refine m_Rq.ir d_335_26 rfl rfl ?_
  exact ⟨rfl, rfl⟩
theorem e_budget2 {w : List mM} (hl : 119 ≤ w.length) {c b : Int32} (hm : m_at w 583 = some (.inr (14, f_m c))) (ht : m_at w 601 = some (.inl (4, 7168, []))) {els : List (Nat × Value)} (hb : m_at w 592 = some (.inl (0, 7, els))) {n : Nat} (hn : n < 7) (he : m_el 0 els n = .int b) (h2 : 0 ≤ b / 2) (h0 : 0 ≤ b) : m_Rq M_335 (34, [(0, .ref 583), (1, .int (Int32.ofNat n)), (2, .int b)], [], w) (fun v _ => v = some (.int 1)) 0 0 10 1000 := by
  refine m_Rq.n0 (x_aload_n d_335_34 rfl) ?_
  refine m_Rq.n0 (x_iload_n d_335_35 rfl) ?_
  refine m_Rq.callV (x_cv (n := 119) d_335_36 rfl q_296 (m_isRecv_of rfl hm) rfl rfl hl rfl) (s_trim hl hm ht hb hn he h2 h0) rfl ?_ (by decide) (by decide)
  refine m_Rq.n0 (x_iconst (z := 1) d_335_39 (by decide)) ?_
  refine m_Rq.ir d_335_40 rfl rfl ?_
  exact rfl
theorem m_half : (List.range 2001).all (fun b => decide (0 ≤ Int32.ofNat b / 2)) = true := by decide +kernel
theorem e_budget1 {w : List mM} (hl : 119 ≤ w.length) {b : Int32} {c : Int32} (hm : m_at w 583 = some (.inr (14, f_m c))) (ht : m_at w 601 = some (.inl (4, 7168, []))) {els : List (Nat × Value)} (hb : m_at w 592 = some (.inl (0, 7, els))) {n : Nat} (hn : n < 7) (h : m_nd (Int32.ofNat n)) (h0 : ¬ b < 32) (h1 : b ≤ 2000) (hc : c = 0) : m_Rq M_335 (m_ent M_335 [.ref 583, .int (Int32.ofNat n), .int b] w) (fun v _ => v = some (.int 1)) 0 0 10 1000 := by
  subst hc
  have g0 : ¬ b < 0 := by
    rw [Int32.lt_iff_toInt_lt] at h0 ⊢
    have h9 : ¬ b.toInt < 32 := h0
    show ¬ b.toInt < 0
    omega
  have g1 : 0 ≤ b := m_not_lt g0
  have g2 : 0 ≤ b / 2 := by
    obtain ⟨j, hj, rfl⟩ := m_n_of g0
    have h9 := (m_n_le hj (by decide : 2000 < 2147483648)).mp h1
    exact of_decide_eq_true (m_rng m_half (by omega))
  show m_Rq M_335 (0, [(0, .ref 583), (1, .int (Int32.ofNat n)), (2, .int b)], [], w) _ 0 0 10 1000
  refine m_Rq.n0 (x_aload_n d_335_0 rfl) ?_
  refine m_Rq.n0 (x_iconst (z := 0) d_335_1 (by decide)) ?_
  refine m_Rq.n0 (x_putfs d_335_2 rfl hm rfl rfl (by decide) rfl rfl rfl) ?_
  refine m_Rq.n0 (x_iload_n d_335_5 rfl) ?_
  refine m_Rq.callE (x_cs (n := 119) d_335_6 rfl q_333 rfl rfl hl rfl rfl) (s_mNode1 (m_nd_m.mp h).1 (m_nd_m.mp h).2) rfl ?_ (by decide) (by decide)
  refine m_Rq.n0 (x_iff d_335_9 rfl (by decide)) ?_
  refine m_Rq.n0 (x_iload_n d_335_12 rfl) ?_
  refine m_Rq.n0 (x_bipush (z := 32) d_335_13 (by decide)) ?_
  refine m_Rq.n0 (x_icf d_335_15 rfl (decide_eq_false h0)) ?_
  refine m_Rq.n0 (x_iload_n d_335_18 rfl) ?_
  refine m_Rq.n0 (x_sipush (z := 2000) d_335_19 (by decide)) ?_
  refine m_Rq.n0 (x_ict d_335_22 rfl (decide_eq_true h1)) ?_
  refine m_Rq.n0 (x_aload_n d_335_27 rfl) ?_
  refine m_Rq.n0 (x_getf d_335_28 rfl hm rfl) ?_
  refine m_Rq.n0 (x_iload_n d_335_31 rfl) ?_
  refine m_Rq.n0 (x_iload_n d_335_32 rfl) ?_
  refine m_Rq.n0 (x_iastore (j := n) d_335_33 hb (m_n_neg (by omega)) (m_n_cl (by omega)) (by omega) rfl) ?_
  exact e_budget2 (by rw [List.length_set]; exact hl) (m_at_ne (a := 592) hm rfl) (m_at_ne (a := 592) ht rfl) (m_at_eq (a := 592) hb) hn (by rw [m_el_set, if_pos rfl]; rfl) g2 g1

theorem t_budget_1 {b : Int32} (h0 : ¬ b < 32) (h1 : b ≤ 2000) : m_Two M_156 M_335 [.ref 512, .int (Int32.ofNat 1), .int b] [.ref 583, .int (Int32.ofNat 1), .int b] := by
  refine m_Two.gen 1 (c' := 0) (s' := 0) (f' := 10) (l' := 1000) (c_budget_1 h0 h1) (fun w hw => ?_) (fun w hw => ?_) rfl
  · subst hw
    exact m_mdl_of (by rw [List.length_set]; exact m_hn1) (m_at_ne (a := 536) a_583 rfl)
  · subst hw
    exact e_budget1 (c := 0) (by rw [List.length_set]; exact m_hn1) (m_at_ne (a := 536) a_583 rfl) (m_at_ne (a := 536) a_601 rfl) (m_at_ne (a := 536) a_592 rfl) (by decide) ⟨by decide, by decide⟩ h0 h1 rfl
theorem t_budget_2 {b : Int32} (h0 : ¬ b < 32) (h1 : b ≤ 2000) : m_Two M_156 M_335 [.ref 512, .int (Int32.ofNat 2), .int b] [.ref 583, .int (Int32.ofNat 2), .int b] := by
  refine m_Two.gen 1 (c' := 0) (s' := 0) (f' := 10) (l' := 1000) (c_budget_2 h0 h1) (fun w hw => ?_) (fun w hw => ?_) rfl
  · subst hw
    exact m_mdl_of (by rw [List.length_set]; exact m_hn1) (m_at_ne (a := 544) a_583 rfl)
  · subst hw
    exact e_budget1 (c := 0) (by rw [List.length_set]; exact m_hn1) (m_at_ne (a := 544) a_583 rfl) (m_at_ne (a := 544) a_601 rfl) (m_at_ne (a := 544) a_592 rfl) (by decide) ⟨by decide, by decide⟩ h0 h1 rfl
theorem t_budget_3 {b : Int32} (h0 : ¬ b < 32) (h1 : b ≤ 2000) : m_Two M_156 M_335 [.ref 512, .int (Int32.ofNat 3), .int b] [.ref 583, .int (Int32.ofNat 3), .int b] := by
  refine m_Two.gen 1 (c' := 0) (s' := 0) (f' := 10) (l' := 1000) (c_budget_3 h0 h1) (fun w hw => ?_) (fun w hw => ?_) rfl
  · subst hw
    exact m_mdl_of (by rw [List.length_set]; exact m_hn1) (m_at_ne (a := 552) a_583 rfl)
  · subst hw
    exact e_budget1 (c := 0) (by rw [List.length_set]; exact m_hn1) (m_at_ne (a := 552) a_583 rfl) (m_at_ne (a := 552) a_601 rfl) (m_at_ne (a := 552) a_592 rfl) (by decide) ⟨by decide, by decide⟩ h0 h1 rfl
theorem t_budget_4 {b : Int32} (h0 : ¬ b < 32) (h1 : b ≤ 2000) : m_Two M_156 M_335 [.ref 512, .int (Int32.ofNat 4), .int b] [.ref 583, .int (Int32.ofNat 4), .int b] := by
  refine m_Two.gen 1 (c' := 0) (s' := 0) (f' := 10) (l' := 1000) (c_budget_4 h0 h1) (fun w hw => ?_) (fun w hw => ?_) rfl
  · subst hw
    exact m_mdl_of (by rw [List.length_set]; exact m_hn1) (m_at_ne (a := 560) a_583 rfl)
  · subst hw
    exact e_budget1 (c := 0) (by rw [List.length_set]; exact m_hn1) (m_at_ne (a := 560) a_583 rfl) (m_at_ne (a := 560) a_601 rfl) (m_at_ne (a := 560) a_592 rfl) (by decide) ⟨by decide, by decide⟩ h0 h1 rfl
theorem t_budget_5 {b : Int32} (h0 : ¬ b < 32) (h1 : b ≤ 2000) : m_Two M_156 M_335 [.ref 512, .int (Int32.ofNat 5), .int b] [.ref 583, .int (Int32.ofNat 5), .int b] := by
  refine m_Two.gen 1 (c' := 0) (s' := 0) (f' := 10) (l' := 1000) (c_budget_5 h0 h1) (fun w hw => ?_) (fun w hw => ?_) rfl
  · subst hw
    exact m_mdl_of (by rw [List.length_set]; exact m_hn1) (m_at_ne (a := 568) a_583 rfl)
  · subst hw
    exact e_budget1 (c := 0) (by rw [List.length_set]; exact m_hn1) (m_at_ne (a := 568) a_583 rfl) (m_at_ne (a := 568) a_601 rfl) (m_at_ne (a := 568) a_592 rfl) (by decide) ⟨by decide, by decide⟩ h0 h1 rfl
theorem t_budget_6 {b : Int32} (h0 : ¬ b < 32) (h1 : b ≤ 2000) : m_Two M_156 M_335 [.ref 512, .int (Int32.ofNat 6), .int b] [.ref 583, .int (Int32.ofNat 6), .int b] := by
  refine m_Two.gen 1 (c' := 0) (s' := 0) (f' := 10) (l' := 1000) (c_budget_6 h0 h1) (fun w hw => ?_) (fun w hw => ?_) rfl
  · subst hw
    exact m_mdl_of (by rw [List.length_set]; exact m_hn1) (m_at_ne (a := 576) a_583 rfl)
  · subst hw
    exact e_budget1 (c := 0) (by rw [List.length_set]; exact m_hn1) (m_at_ne (a := 576) a_583 rfl) (m_at_ne (a := 576) a_601 rfl) (m_at_ne (a := 576) a_592 rfl) (by decide) ⟨by decide, by decide⟩ h0 h1 rfl
theorem t_budget (n b : Int32) : m_Two M_156 M_335 [.ref 512, .int n, .int b] [.ref 583, .int n, .int b] := by
  by_cases h : m_nd n
  · by_cases h0 : b < 32
    · exact m_Two.same2 0 (c_budget_l h h0) (e_budget_l h h0) rfl
    · by_cases h1 : b ≤ 2000
      · obtain ⟨j, hj, rfl⟩ := m_nd_in h
        match j, hj with
        | 0, _ => exact t_budget_1 h0 h1
        | 1, _ => exact t_budget_2 h0 h1
        | 2, _ => exact t_budget_3 h0 h1
        | 3, _ => exact t_budget_4 h0 h1
        | 4, _ => exact t_budget_5 h0 h1
        | 5, _ => exact t_budget_6 h0 h1
        | j + 6, hj => omega
      · exact m_Two.same2 0 (c_budget_g h h0 h1) (e_budget_g h h0 h1) rfl
  · exact m_Two.same2 0 (c_budget_0 h) (e_budget_0 h) rfl
theorem e_node_0 {n q : Int32} (h0 : ¬ m_nd n) : m_Rq M_345 (m_ent M_345 [.ref 583, .int n, .int q] w_1) (fun v w' => v = some (.int (-1)) ∧ w' = w_1) 0 0 10 1000 := by
  show m_Rq M_345 (0, [(0, .ref 583), (1, .int n), (2, .int q)], [], w_1) _ 0 0 10 1000
  refine m_Rq.n0 (x_aload_n d_345_0 rfl) ?_
  refine m_Rq.n0 (x_iconst (z := 0) d_345_1 (by decide)) ?_
  refine m_Rq.n0 (x_putfs d_345_2 rfl a_583 rfl rfl (by decide) rfl rfl rfl) ?_
  refine m_Rq.n0 (x_iload_n d_345_5 rfl) ?_
  refine m_Rq.callE (x_cs (n := 119) d_345_6 rfl q_333 rfl rfl m_hn1 rfl rfl) (s_mNode h0) rfl ?_ (by decide) (by decide)
  refine m_Rq.n0 (x_iff d_345_9 rfl (by decide)) ?_
  refine m_Rq.n0 (x_iconst (z := (-1)) d_345_12 (by decide)) ?_
  refine m_Rq.ir d_345_13 rfl rfl ?_
  exact ⟨rfl, rfl⟩
theorem e_node_s {n : Nat} (hn : n < 7) (h : m_nd (Int32.ofNat n)) {q z : Int32} (kk : m_Rq M_345 (190, [(7, .int 0), (6, .int 0), (5, .int 0), (4, .int 0), (3, .int 0), (0, .ref 583), (1, .int (Int32.ofNat n)), (2, .int q)], [.int q], w_1) (fun v w' => v = some (.int z) ∧ w' = w_1) 0 0 10 1000) : m_Rq M_345 (m_ent M_345 [.ref 583, .int (Int32.ofNat n), .int q] w_1) (fun v w' => v = some (.int z) ∧ w' = w_1) 0 0 10 1000 := by
  show m_Rq M_345 (0, [(0, .ref 583), (1, .int (Int32.ofNat n)), (2, .int q)], [], w_1) _ 0 0 10 1000
  refine m_Rq.n0 (x_aload_n d_345_0 rfl) ?_
  refine m_Rq.n0 (x_iconst (z := 0) d_345_1 (by decide)) ?_
  refine m_Rq.n0 (x_putfs d_345_2 rfl a_583 rfl rfl (by decide) rfl rfl rfl) ?_
  refine m_Rq.n0 (x_iload_n d_345_5 rfl) ?_
  refine m_Rq.callE (x_cs (n := 119) d_345_6 rfl q_333 rfl rfl m_hn1 rfl rfl) (s_mNode1 (m_nd_m.mp h).1 (m_nd_m.mp h).2) rfl ?_ (by decide) (by decide)
  refine m_Rq.n0 (x_ift d_345_9 rfl (by decide)) ?_
  refine m_Rq.n0 (x_iconst (z := 0) d_345_14 (by decide)) ?_
  refine m_Rq.n0 (x_istore_n d_345_15 rfl (show m_put1 _ _ _ = [(3, _), (0, _), (1, _), (2, _)] from rfl)) ?_
  refine m_Rq.n0 (x_iconst (z := 0) d_345_16 (by decide)) ?_
  refine m_Rq.n0 (x_istore d_345_17 rfl (show m_put1 _ _ _ = [(4, _), (3, _), (0, _), (1, _), (2, _)] from rfl)) ?_
  refine m_Rq.n0 (x_iconst (z := 0) d_345_19 (by decide)) ?_
  refine m_Rq.n0 (x_istore d_345_20 rfl (show m_put1 _ _ _ = [(5, _), (4, _), (3, _), (0, _), (1, _), (2, _)] from rfl)) ?_
  refine m_Rq.n0 (x_sipush (z := 1024) d_345_22 (by decide)) ?_
  refine m_Rq.n0 (x_iload_n d_345_25 rfl) ?_
  refine m_Rq.n0 (x_imul (z := Int32.ofNat (1024 * n)) d_345_26 (m_n_mul _ _)) ?_
  refine m_Rq.n0 (x_istore d_345_27 rfl (show m_put1 _ _ _ = [(6, _), (5, _), (4, _), (3, _), (0, _), (1, _), (2, _)] from rfl)) ?_
  refine m_Rq.n0 (x_iload d_345_29 rfl) ?_
  refine m_Rq.n0 (x_sipush (z := 1024) d_345_31 (by decide)) ?_
  refine m_Rq.n0 (x_iload_n d_345_34 rfl) ?_
  refine m_Rq.n0 (x_imul (z := Int32.ofNat (1024 * n)) d_345_35 (m_n_mul _ _)) ?_
  refine m_Rq.n0 (x_sipush (z := 1024) d_345_36 (by decide)) ?_
  refine m_Rq.n0 (x_iadd (z := Int32.ofNat ((1024 * n) + 1024)) d_345_39 (m_n_add _ _)) ?_
  refine m_Rq.n0 (x_icf d_345_40 rfl (m_c2n (a := (1024 * n)) (b := ((1024 * n) + 1024)) (by omega) (by omega) (decide_eq_false (by omega)))) ?_
  refine m_Rq.n0 (x_iload_n d_345_43 rfl) ?_
  refine m_Rq.n0 (x_aload_n d_345_44 rfl) ?_
  refine m_Rq.n0 (x_getf d_345_45 rfl a_583 rfl) ?_
  refine m_Rq.n0 (x_iload d_345_48 rfl) ?_
  refine m_Rq.n0 (x_baload (j := (1024 * n)) d_345_50 a_601 rfl (m_n_neg (by omega)) (m_n_cl (by omega)) (by omega) rfl) ?_
  refine m_Rq.n0 (x_ift d_345_51 rfl (by decide)) ?_
  refine m_Rq.n0 (x_iconst (z := 0) d_345_58 (by decide)) ?_
  refine m_Rq.n0 (x_iadd (z := 0) d_345_59 (by decide)) ?_
  refine m_Rq.n0 (x_istore_n d_345_60 rfl (show m_put1 _ _ _ = [(3, _), (6, _), (5, _), (4, _), (0, _), (1, _), (2, _)] from rfl)) ?_
  refine m_Rq.n0 (x_iload d_345_61 rfl) ?_
  refine m_Rq.n0 (x_aload_n d_345_63 rfl) ?_
  refine m_Rq.n0 (x_getf d_345_64 rfl a_583 rfl) ?_
  refine m_Rq.n0 (x_iload d_345_67 rfl) ?_
  refine m_Rq.n0 (x_baload (j := (1024 * n)) d_345_69 a_601 rfl (m_n_neg (by omega)) (m_n_cl (by omega)) (by omega) rfl) ?_
  refine m_Rq.n0 (x_ift d_345_70 rfl (by decide)) ?_
  refine m_Rq.n0 (x_iconst (z := 0) d_345_87 (by decide)) ?_
  refine m_Rq.n0 (x_iadd (z := 0) d_345_88 (by decide)) ?_
  refine m_Rq.n0 (x_istore d_345_89 rfl (show m_put1 _ _ _ = [(4, _), (3, _), (6, _), (5, _), (0, _), (1, _), (2, _)] from rfl)) ?_
  refine m_Rq.n0 (x_iinc (z := Int32.ofNat ((1024 * n) + 1)) d_345_91 rfl rfl (m_n_inc _) (show m_put1 _ _ _ = [(6, _), (4, _), (3, _), (5, _), (0, _), (1, _), (2, _)] from rfl)) ?_
  refine m_Rq.n0 (x_goto d_345_94 rfl) ?_
  refine l_node1 hn ?_ 1023 (1024 * n + 1) (by omega)
  refine m_Rq.n0 (x_sipush (z := 128) d_345_97 (by decide)) ?_
  refine m_Rq.n0 (x_iload_n d_345_100 rfl) ?_
  refine m_Rq.n0 (x_imul (z := Int32.ofNat (128 * n)) d_345_101 (m_n_mul _ _)) ?_
  refine m_Rq.n0 (x_istore d_345_102 rfl (show m_put1 _ _ _ = [(6, _), (4, _), (3, _), (5, _), (0, _), (1, _), (2, _)] from rfl)) ?_
  refine m_Rq.n0 (x_iload d_345_104 rfl) ?_
  refine m_Rq.n0 (x_sipush (z := 128) d_345_106 (by decide)) ?_
  refine m_Rq.n0 (x_iload_n d_345_109 rfl) ?_
  refine m_Rq.n0 (x_imul (z := Int32.ofNat (128 * n)) d_345_110 (m_n_mul _ _)) ?_
  refine m_Rq.n0 (x_sipush (z := 128) d_345_111 (by decide)) ?_
  refine m_Rq.n0 (x_iadd (z := Int32.ofNat ((128 * n) + 128)) d_345_114 (m_n_add _ _)) ?_
  refine m_Rq.n0 (x_icf d_345_115 rfl (m_c2n (a := (128 * n)) (b := ((128 * n) + 128)) (by omega) (by omega) (decide_eq_false (by omega)))) ?_
  refine m_Rq.n0 (x_iload d_345_118 rfl) ?_
  refine m_Rq.n0 (x_aload_n d_345_120 rfl) ?_
  refine m_Rq.n0 (x_getf d_345_121 rfl a_583 rfl) ?_
  refine m_Rq.n0 (x_iload d_345_124 rfl) ?_
  refine m_Rq.n0 (x_baload (j := (128 * n)) d_345_126 a_609 rfl (m_n_neg (by omega)) (m_n_cl (by omega)) (by omega) rfl) ?_
  refine m_Rq.n0 (x_ift d_345_127 rfl (by decide)) ?_
  refine m_Rq.n0 (x_iconst (z := 0) d_345_134 (by decide)) ?_
  refine m_Rq.n0 (x_iadd (z := 0) d_345_135 (by decide)) ?_
  refine m_Rq.n0 (x_istore d_345_136 rfl (show m_put1 _ _ _ = [(5, _), (6, _), (4, _), (3, _), (0, _), (1, _), (2, _)] from rfl)) ?_
  refine m_Rq.n0 (x_iinc (z := Int32.ofNat ((128 * n) + 1)) d_345_138 rfl rfl (m_n_inc _) (show m_put1 _ _ _ = [(6, _), (5, _), (4, _), (3, _), (0, _), (1, _), (2, _)] from rfl)) ?_
  refine m_Rq.n0 (x_goto d_345_141 rfl) ?_
  refine l_node2 hn ?_ 127 (128 * n + 1) (by omega)
  refine m_Rq.n0 (x_iconst (z := 0) d_345_144 (by decide)) ?_
  refine m_Rq.n0 (x_istore d_345_145 rfl (show m_put1 _ _ _ = [(6, _), (5, _), (4, _), (3, _), (0, _), (1, _), (2, _)] from rfl)) ?_
  refine m_Rq.n0 (x_iconst (z := 0) d_345_147 (by decide)) ?_
  refine m_Rq.n0 (x_istore d_345_148 rfl (show m_put1 _ _ _ = [(7, _), (6, _), (5, _), (4, _), (3, _), (0, _), (1, _), (2, _)] from rfl)) ?_
  refine m_Rq.n0 (x_iload d_345_150 rfl) ?_
  refine m_Rq.n0 (x_aload_n d_345_152 rfl) ?_
  refine m_Rq.n0 (x_getf d_345_153 rfl a_583 rfl) ?_
  refine m_Rq.n0 (x_ict d_345_156 rfl (by decide)) ?_
  refine m_Rq.n0 (x_iload_n d_345_189 rfl) ?_
  exact kk
theorem k_mnode : (List.range 6).all (fun i => (List.range 13).all (fun j => decide (j = 2) || m_rk (m_exec 60 M_345 (190, [(7, .int 0), (6, .int 0), (5, .int 0), (4, .int 0), (3, .int 0), (0, .ref 583), (1, .int (Int32.ofNat (i + 1))), (2, .int (Int32.ofNat j))], [.int (Int32.ofNat j)], w_1)) (some (.int (if j = 0 then 1 else 0))) w_1 0 0 10 1000)) = true := by decide +kernel
theorem e_node_d {n : Nat} {q : Int32} (hq : q.toInt < 0 ∨ 12 < q.toInt) : m_Rq M_345 (190, [(7, .int 0), (6, .int 0), (5, .int 0), (4, .int 0), (3, .int 0), (0, .ref 583), (1, .int (Int32.ofNat n)), (2, .int q)], [.int q], w_1) (fun v w' => v = some (.int (-1)) ∧ w' = w_1) 0 0 10 1000 := by
  refine m_Rq.n0 (x_tsw (t := 354) d_345_190 ?_) ?_
  · exact m_tsw_d hq rfl
  refine m_Rq.n0 (x_iconst (z := (-1)) d_345_354 (by decide)) ?_
  refine m_Rq.ir d_345_355 rfl rfl ?_
  exact ⟨rfl, rfl⟩
theorem e_node_2 {n : Nat} (hn : n < 7) : m_Rq M_345 (190, [(7, .int 0), (6, .int 0), (5, .int 0), (4, .int 0), (3, .int 0), (0, .ref 583), (1, .int (Int32.ofNat n)), (2, .int 2)], [.int 2], w_1) (fun v w' => v = some (.int 0) ∧ w' = w_1) 0 0 10 1000 := by
  refine m_Rq.n0 (x_tsw (t := 273) d_345_190 rfl) ?_
  refine m_Rq.n0 (x_aload_n d_345_273 rfl) ?_
  refine m_Rq.n0 (x_iload_n d_345_274 rfl) ?_
  refine m_Rq.n0 (x_iconst (z := 0) d_345_275 (by decide)) ?_
  refine m_Rq.callE (x_cv (n := 119) d_345_276 rfl q_297 (m_isRecv_of rfl a_583) rfl rfl m_hn1 rfl) (s_sizes (c := 0) a_583 a_601 hn) rfl ?_ (by decide) (by decide)
  refine m_Rq.ir d_345_279 rfl rfl ?_
  exact ⟨rfl, rfl⟩
theorem t_node (n q : Int32) : m_Two M_220 M_345 [.ref 512, .int n, .int q] [.ref 583, .int n, .int q] := by
  by_cases h : m_nd n
  · by_cases hq : q.toInt < 0 ∨ 12 < q.toInt
    · refine m_Two.same2 (-1) (c := 0) (s := 0) (f := 10) (l := 1000) ?_ (c' := 0) (s' := 0) (f' := 10) (l' := 1000) ?_ rfl
      · by_cases h0 : q < 0
        · exact c_node_l h h0
        · refine c_node_g h h0 (fun h1 => ?_)
          rw [Int32.lt_iff_toInt_lt] at h0
          rw [Int32.le_iff_toInt_le] at h1
          have h2 : ¬ q.toInt < 0 := h0
          have h3 : q.toInt ≤ 12 := h1
          omega
      · obtain ⟨j, hj, rfl⟩ := m_nd_in h
        exact e_node_s (by omega) h (e_node_d hq)
    · have e : q = Int32.ofNat q.toInt.toNat := by
        apply Int32.toInt_inj.mp
        rw [Int32.toInt_ofNat_of_lt (by omega)]
        omega
      have hk : q.toInt.toNat < 13 := by omega
      generalize q.toInt.toNat = k at e hk
      subst e
      obtain ⟨j, hj, rfl⟩ := m_nd_in h
      have g1 : m_1k 100 M_220 [.ref 512, .int (Int32.ofNat (j + 1)), .int (Int32.ofNat k)] (if k = 0 then 1 else 0) = true := m_rng2 (f := fun i j => m_1k 100 M_220 [.ref 512, .int (Int32.ofNat (i + 1)), .int (Int32.ofNat j)] (if j = 0 then 1 else 0)) k_node hj hk
      refine m_Two.same2 (if k = 0 then 1 else 0) (m_1k_rq g1) (c' := 0) (s' := 0) (f' := 10) (l' := 1000) (e_node_s (by omega) h ?_) rfl
      by_cases h2 : k = 2
      · subst h2
        exact e_node_2 (by omega)
      · have g0 := m_rng k_mnode hj
        have g := m_rng g0 hk
        rw [Bool.or_eq_true] at g
        rcases g with g | g
        · exact absurd (of_decide_eq_true g) h2
        · exact m_Rq.ofk 60 g ⟨rfl, rfl⟩
  · exact m_Two.same2 (-1) (c_node_0 h) (e_node_0 h) rfl
