/-! ArrayList: contracts. Written by wip/tool/alist.py. -/
theorem m_c1_ltf {a : Nat} (ha : a < 2147483648) : m_c1 .lt (Int32.ofNat a) = false := decide_eq_false (m_n_neg ha)
theorem q_30 : m_mt[30]? = some M_30 := by rfl
theorem q_78 : m_mt[78]? = some M_78 := by rfl
theorem q_17 : m_mt[17]? = some M_17 := by rfl
theorem q_101 : m_mt[101]? = some M_101 := by rfl
theorem q_79 : m_mt[79]? = some M_79 := by rfl
theorem q_77 : m_mt[77]? = some M_77 := by rfl
theorem b_30 : m_bOk M_30 := (m_mt_ok M_30 (List.mem_of_getElem? q_30)).body
theorem b_78 : m_bOk M_78 := (m_mt_ok M_78 (List.mem_of_getElem? q_78)).body
theorem b_17 : m_bOk M_17 := (m_mt_ok M_17 (List.mem_of_getElem? q_17)).body
theorem b_101 : m_bOk M_101 := (m_mt_ok M_101 (List.mem_of_getElem? q_101)).body
theorem b_79 : m_bOk M_79 := (m_mt_ok M_79 (List.mem_of_getElem? q_79)).body
theorem b_77 : m_bOk M_77 := (m_mt_ok M_77 (List.mem_of_getElem? q_77)).body
theorem d_101_0 : m_dn M_101 0 (.aload_n 0) 1 1 := by decide +kernel
theorem d_101_1 : m_dn M_101 1 (.getfield 48) 3 4 := by decide +kernel
theorem d_101_11 : m_dn M_101 11 (.iconst 0) 1 12 := by decide +kernel
theorem d_101_12 : m_dn M_101 12 (.ireturn) 1 13 := by decide +kernel
theorem d_101_4 : m_dn M_101 4 (.ifCond .ne 7) 3 7 := by decide +kernel
theorem d_101_7 : m_dn M_101 7 (.iconst 1) 1 8 := by decide +kernel
theorem d_101_8 : m_dn M_101 8 (.goto 4) 3 11 := by decide +kernel
theorem d_17_0 : m_dn M_17 0 (.aload_n 0) 1 1 := by decide +kernel
theorem d_17_1 : m_dn M_17 1 (.getfield 48) 3 4 := by decide +kernel
theorem d_17_4 : m_dn M_17 4 (.ireturn) 1 5 := by decide +kernel
theorem d_30_0 : m_dn M_30 0 (.iload_n 0) 1 1 := by decide +kernel
theorem d_30_1 : m_dn M_30 1 (.ifCond .lt 8) 3 4 := by decide +kernel
theorem d_30_16 : m_dn M_30 16 (.iload_n 0) 1 17 := by decide +kernel
theorem d_30_17 : m_dn M_30 17 (.ireturn) 1 18 := by decide +kernel
theorem d_30_4 : m_dn M_30 4 (.iload_n 0) 1 5 := by decide +kernel
theorem d_30_5 : m_dn M_30 5 (.iload_n 1) 1 6 := by decide +kernel
theorem d_30_6 : m_dn M_30 6 (.if_icmp .lt 10) 3 9 := by decide +kernel
theorem d_77_0 : m_dn M_77 0 (.iload_n 1) 1 1 := by decide +kernel
theorem d_77_1 : m_dn M_77 1 (.aload_n 0) 1 2 := by decide +kernel
theorem d_77_10 : m_dn M_77 10 (.iload_n 1) 1 11 := by decide +kernel
theorem d_77_11 : m_dn M_77 11 (.invokevirtual 123) 3 14 := by decide +kernel
theorem d_77_14 : m_dn M_77 14 (.areturn) 1 15 := by decide +kernel
theorem d_77_2 : m_dn M_77 2 (.getfield 48) 3 5 := by decide +kernel
theorem d_77_5 : m_dn M_77 5 (.invokestatic 118) 3 8 := by decide +kernel
theorem d_77_8 : m_dn M_77 8 (.pop) 1 9 := by decide +kernel
theorem d_77_9 : m_dn M_77 9 (.aload_n 0) 1 10 := by decide +kernel
theorem d_78_0 : m_dn M_78 0 (.iload_n 0) 1 1 := by decide +kernel
theorem d_78_1 : m_dn M_78 1 (.iload_n 1) 1 2 := by decide +kernel
theorem d_78_2 : m_dn M_78 2 (.aconst_null) 1 3 := by decide +kernel
theorem d_78_3 : m_dn M_78 3 (.invokestatic 105) 3 6 := by decide +kernel
theorem d_78_6 : m_dn M_78 6 (.ireturn) 1 7 := by decide +kernel
theorem d_79_0 : m_dn M_79 0 (.aload_n 0) 1 1 := by decide +kernel
theorem d_79_1 : m_dn M_79 1 (.getfield 9) 3 4 := by decide +kernel
theorem d_79_4 : m_dn M_79 4 (.iload_n 1) 1 5 := by decide +kernel
theorem d_79_5 : m_dn M_79 5 (.aaload) 1 6 := by decide +kernel
theorem d_79_6 : m_dn M_79 6 (.areturn) 1 7 := by decide +kernel
theorem c_chk3 {l : Launch} {w : List mM} {i n : Nat} (hi : i < n) (hn : n < 2147483648) : m_Rs l M_30 (m_ent M_30 [.int (Int32.ofNat i), .int (Int32.ofNat n), .null] w) (fun v w' => v = some (.int (Int32.ofNat i)) ∧ w' = w) 0 0 0 0 := by
  show m_Rs l M_30 (0, [(0, .int (Int32.ofNat i)), (1, .int (Int32.ofNat n)), (2, .null)], [], w) _ 0 0 0 0
  refine m_Rs.n0 b_30 (x_iload_n d_30_0 rfl) ?_
  refine m_Rs.n0 b_30 (x_iff d_30_1 rfl (m_c1_ltf (a := i) (by omega))) ?_
  refine m_Rs.n0 b_30 (x_iload_n d_30_4 rfl) ?_
  refine m_Rs.n0 b_30 (x_iload_n d_30_5 rfl) ?_
  refine m_Rs.n0 b_30 (x_ict d_30_6 rfl (m_c2n (a := i) (b := n) (by omega) (by omega) (decide_eq_true (p := i < n) (by omega)))) ?_
  refine m_Rs.n0 b_30 (x_iload_n d_30_16 rfl) ?_
  refine m_Rs.ret b_30 (m_rt_ir d_30_17 rfl rfl) ?_
  exact ⟨rfl, rfl⟩
theorem c_chk {l : Launch} {w : List mM} {i n : Nat} (hi : i < n) (hn : n < 2147483648) : m_Rs l M_78 (m_ent M_78 [.int (Int32.ofNat i), .int (Int32.ofNat n)] w) (fun v w' => v = some (.int (Int32.ofNat i)) ∧ w' = w) 0 0 1 100 := by
  show m_Rs l M_78 (0, [(0, .int (Int32.ofNat i)), (1, .int (Int32.ofNat n))], [], w) _ 0 0 1 100
  refine m_Rs.n0 b_78 (x_iload_n d_78_0 rfl) ?_
  refine m_Rs.n0 b_78 (x_iload_n d_78_1 rfl) ?_
  refine m_Rs.n0 b_78 (x_null d_78_2) ?_
  refine m_Rs.callE b_78 (y_cs d_78_3 rfl q_30 (show m_takeS _ _ = some (_, [_, _, _], []) from rfl) (by simp only [m_okf, List.all_cons, List.all_nil, Bool.and_true, Bool.and_self, m_okv_i, m_okv_l, m_okv_0, m_okv_t]) rfl) (c_chk3 hi hn) rfl ?_ (by decide) (by decide)
  refine m_Rs.ret b_78 (m_rt_ir d_78_6 rfl rfl) ?_
  exact ⟨rfl, rfl⟩
theorem c_size {l : Launch} {w : List mM} {a n : Nat} {u : Value} {mc : Value} (ha : m_at w a = some (.inr (2, [u, .int (Int32.ofNat n), mc]))) : m_Rs l M_17 (m_ent M_17 [.ref a] w) (fun v w' => v = some (.int (Int32.ofNat n)) ∧ w' = w) 0 0 0 0 := by
  show m_Rs l M_17 (0, [(0, .ref a)], [], w) _ 0 0 0 0
  refine m_Rs.n0 b_17 (x_aload_n d_17_0 rfl) ?_
  refine m_Rs.n0 b_17 (x_getf d_17_1 rfl ha rfl) ?_
  refine m_Rs.ret b_17 (m_rt_ir d_17_4 rfl rfl) ?_
  exact ⟨rfl, rfl⟩
theorem c_empty1 {l : Launch} {w : List mM} {a n : Nat} {u : Value} {mc : Value} (ha : m_at w a = some (.inr (2, [u, .int (Int32.ofNat n), mc]))) (h0 : n = 0) : m_Rs l M_101 (m_ent M_101 [.ref a] w) (fun v w' => v = some (.int 1) ∧ w' = w) 0 0 0 0 := by
  show m_Rs l M_101 (0, [(0, .ref a)], [], w) _ 0 0 0 0
  refine m_Rs.n0 b_101 (x_aload_n d_101_0 rfl) ?_
  refine m_Rs.n0 b_101 (x_getf d_101_1 rfl ha rfl) ?_
  refine m_Rs.n0 b_101 (x_iff d_101_4 rfl (m_c1n (a := n) (by omega) (decide_eq_false (p := ¬ n = 0) (by omega)))) ?_
  refine m_Rs.n0 b_101 (x_iconst (z := 1) d_101_7 (by decide)) ?_
  refine m_Rs.n0 b_101 (x_goto d_101_8 rfl) ?_
  refine m_Rs.ret b_101 (m_rt_ir d_101_12 rfl rfl) ?_
  exact ⟨rfl, rfl⟩
theorem c_empty0 {l : Launch} {w : List mM} {a n : Nat} {u : Value} {mc : Value} (ha : m_at w a = some (.inr (2, [u, .int (Int32.ofNat n), mc]))) (h0 : ¬ n = 0) (hn : n < 2147483648) : m_Rs l M_101 (m_ent M_101 [.ref a] w) (fun v w' => v = some (.int 0) ∧ w' = w) 0 0 0 0 := by
  show m_Rs l M_101 (0, [(0, .ref a)], [], w) _ 0 0 0 0
  refine m_Rs.n0 b_101 (x_aload_n d_101_0 rfl) ?_
  refine m_Rs.n0 b_101 (x_getf d_101_1 rfl ha rfl) ?_
  refine m_Rs.n0 b_101 (x_ift d_101_4 rfl (m_c1n (a := n) (by omega) (decide_eq_true (p := ¬ n = 0) (by omega)))) ?_
  refine m_Rs.n0 b_101 (x_iconst (z := 0) d_101_11 (by decide)) ?_
  refine m_Rs.ret b_101 (m_rt_ir d_101_12 rfl rfl) ?_
  exact ⟨rfl, rfl⟩
theorem c_eld {l : Launch} {w : List mM} {a r n N : Nat} {mc : Int32} {els : List (Nat × Value)} (ha : m_at w a = some (.inr (2, [.ref r, .int (Int32.ofNat n), .int mc]))) (he : m_at w r = some (.inl (8, N, els))) {i b : Nat} (hi : i < N) (hN : N < 2147483648) (hb : m_el 8 els i = .ref b) : m_Rs l M_79 (m_ent M_79 [.ref a, .int (Int32.ofNat i)] w) (fun v w' => v = some (.ref b) ∧ w' = w) 0 0 0 0 := by
  show m_Rs l M_79 (0, [(0, .ref a), (1, .int (Int32.ofNat i))], [], w) _ 0 0 0 0
  refine m_Rs.n0 b_79 (x_aload_n d_79_0 rfl) ?_
  refine m_Rs.n0 b_79 (x_getf d_79_1 rfl ha rfl) ?_
  refine m_Rs.n0 b_79 (x_iload_n d_79_4 rfl) ?_
  refine m_Rs.n0 b_79 (x_aaload (j := i) d_79_5 he rfl rfl (m_n_neg (by omega)) (m_n_cl (by omega)) (by omega) hb) ?_
  refine m_Rs.ret b_79 (m_rt_ar d_79_6 rfl) ?_
  exact ⟨rfl, rfl⟩
theorem c_get {l : Launch} {w : List mM} {a r n N : Nat} {mc : Int32} {els : List (Nat × Value)} (ha : m_at w a = some (.inr (2, [.ref r, .int (Int32.ofNat n), .int mc]))) (he : m_at w r = some (.inl (8, N, els))) {i b : Nat} (hi : i < n) (hnN : n ≤ N) (hN : N < 2147483648) (hb : m_el 8 els i = .ref b) : m_Rs l M_77 (m_ent M_77 [.ref a, .int (Int32.ofNat i)] w) (fun v w' => v = some (.ref b) ∧ w' = w) 0 0 2 200 := by
  show m_Rs l M_77 (0, [(0, .ref a), (1, .int (Int32.ofNat i))], [], w) _ 0 0 2 200
  refine m_Rs.n0 b_77 (x_iload_n d_77_0 rfl) ?_
  refine m_Rs.n0 b_77 (x_aload_n d_77_1 rfl) ?_
  refine m_Rs.n0 b_77 (x_getf d_77_2 rfl ha rfl) ?_
  refine m_Rs.callE b_77 (y_cs d_77_5 rfl q_78 (show m_takeS _ _ = some (_, [_, _], []) from rfl) (by simp only [m_okf, List.all_cons, List.all_nil, Bool.and_true, Bool.and_self, m_okv_i, m_okv_l, m_okv_0, m_okv_t, m_okv_at ha]) rfl) (c_chk hi (by omega)) rfl ?_ (by decide) (by decide)
  refine m_Rs.n0 b_77 (x_pop d_77_8 rfl) ?_
  refine m_Rs.n0 b_77 (x_aload_n d_77_9 rfl) ?_
  refine m_Rs.n0 b_77 (x_iload_n d_77_10 rfl) ?_
  refine m_Rs.callE b_77 (y_cv d_77_11 rfl q_79 (m_isRecv_of rfl ha) (show m_takeI _ _ = some (_, [_, _], []) from rfl) (by simp only [m_okf, List.all_cons, List.all_nil, Bool.and_true, Bool.and_self, m_okv_i, m_okv_l, m_okv_0, m_okv_t, m_okv_at ha]) rfl) (c_eld ha he (by omega) hN hb) rfl ?_ (by decide) (by decide)
  refine m_Rs.ret b_77 (m_rt_ar d_77_14 rfl) ?_
  exact ⟨rfl, rfl⟩
