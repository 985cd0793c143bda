/-! ArrayList: contracts. Written by wip/tool/alist.py. -/
theorem m_c1_ltf {a : Nat} (ha : a < 2147483648) : m_c1 .lt (Int32.ofNat a) = false := decide_eq_false (m_n_neg ha)
theorem q_30 : m_mt[30]? = some M_30 := by rfl
theorem q_78 : m_mt[78]? = some M_78 := by rfl
theorem q_17 : m_mt[17]? = some M_17 := by rfl
theorem q_101 : m_mt[101]? = some M_101 := by rfl
theorem q_79 : m_mt[79]? = some M_79 := by rfl
theorem q_77 : m_mt[77]? = some M_77 := by rfl
theorem q_96 : m_mt[96]? = some M_96 := by rfl
theorem q_95 : m_mt[95]? = some M_95 := by rfl
theorem b_30 : m_bOk M_30 := (m_mt_ok M_30 (List.mem_of_getElem? q_30)).body
theorem b_78 : m_bOk M_78 := (m_mt_ok M_78 (List.mem_of_getElem? q_78)).body
theorem b_17 : m_bOk M_17 := (m_mt_ok M_17 (List.mem_of_getElem? q_17)).body
theorem b_101 : m_bOk M_101 := (m_mt_ok M_101 (List.mem_of_getElem? q_101)).body
theorem b_79 : m_bOk M_79 := (m_mt_ok M_79 (List.mem_of_getElem? q_79)).body
theorem b_77 : m_bOk M_77 := (m_mt_ok M_77 (List.mem_of_getElem? q_77)).body
theorem b_96 : m_bOk M_96 := (m_mt_ok M_96 (List.mem_of_getElem? q_96)).body
theorem b_95 : m_bOk M_95 := (m_mt_ok M_95 (List.mem_of_getElem? q_95)).body
theorem d_101_0 : m_dn M_101 0 (.aload_n 0) 1 1 := by decide +kernel
theorem d_101_1 : m_dn M_101 1 (.getfield 48) 3 4 := by decide +kernel
theorem d_101_11 : m_dn M_101 11 (.iconst 0) 1 12 := by decide +kernel
theorem d_101_12 : m_dn M_101 12 (.ireturn) 1 13 := by decide +kernel
theorem d_101_4 : m_dn M_101 4 (.ifCond .ne 7) 3 7 := by decide +kernel
theorem d_101_7 : m_dn M_101 7 (.iconst 1) 1 8 := by decide +kernel
theorem d_101_8 : m_dn M_101 8 (.goto 4) 3 11 := by decide +kernel
theorem d_17_0 : m_dn M_17 0 (.aload_n 0) 1 1 := by decide +kernel
theorem d_17_1 : m_dn M_17 1 (.getfield 48) 3 4 := by decide +kernel
theorem d_17_4 : m_dn M_17 4 (.ireturn) 1 5 := by decide +kernel
theorem d_30_0 : m_dn M_30 0 (.iload_n 0) 1 1 := by decide +kernel
theorem d_30_1 : m_dn M_30 1 (.ifCond .lt 8) 3 4 := by decide +kernel
theorem d_30_16 : m_dn M_30 16 (.iload_n 0) 1 17 := by decide +kernel
theorem d_30_17 : m_dn M_30 17 (.ireturn) 1 18 := by decide +kernel
theorem d_30_4 : m_dn M_30 4 (.iload_n 0) 1 5 := by decide +kernel
theorem d_30_5 : m_dn M_30 5 (.iload_n 1) 1 6 := by decide +kernel
theorem d_30_6 : m_dn M_30 6 (.if_icmp .lt 10) 3 9 := by decide +kernel
theorem d_77_0 : m_dn M_77 0 (.iload_n 1) 1 1 := by decide +kernel
theorem d_77_1 : m_dn M_77 1 (.aload_n 0) 1 2 := by decide +kernel
theorem d_77_10 : m_dn M_77 10 (.iload_n 1) 1 11 := by decide +kernel
theorem d_77_11 : m_dn M_77 11 (.invokevirtual 123) 3 14 := by decide +kernel
theorem d_77_14 : m_dn M_77 14 (.areturn) 1 15 := by decide +kernel
theorem d_77_2 : m_dn M_77 2 (.getfield 48) 3 5 := by decide +kernel
theorem d_77_5 : m_dn M_77 5 (.invokestatic 118) 3 8 := by decide +kernel
theorem d_77_8 : m_dn M_77 8 (.pop) 1 9 := by decide +kernel
theorem d_77_9 : m_dn M_77 9 (.aload_n 0) 1 10 := by decide +kernel
theorem d_78_0 : m_dn M_78 0 (.iload_n 0) 1 1 := by decide +kernel
theorem d_78_1 : m_dn M_78 1 (.iload_n 1) 1 2 := by decide +kernel
theorem d_78_2 : m_dn M_78 2 (.aconst_null) 1 3 := by decide +kernel
theorem d_78_3 : m_dn M_78 3 (.invokestatic 105) 3 6 := by decide +kernel
theorem d_78_6 : m_dn M_78 6 (.ireturn) 1 7 := by decide +kernel
theorem d_79_0 : m_dn M_79 0 (.aload_n 0) 1 1 := by decide +kernel
theorem d_79_1 : m_dn M_79 1 (.getfield 9) 3 4 := by decide +kernel
theorem d_79_4 : m_dn M_79 4 (.iload_n 1) 1 5 := by decide +kernel
theorem d_79_5 : m_dn M_79 5 (.aaload) 1 6 := by decide +kernel
theorem d_79_6 : m_dn M_79 6 (.areturn) 1 7 := by decide +kernel
theorem d_95_0 : m_dn M_95 0 (.iload_n 1) 1 1 := by decide +kernel
theorem d_95_1 : m_dn M_95 1 (.aload_n 0) 1 2 := by decide +kernel
theorem d_95_10 : m_dn M_95 10 (.getfield 9) 3 13 := by decide +kernel
theorem d_95_13 : m_dn M_95 13 (.astore_n 2) 1 14 := by decide +kernel
theorem d_95_14 : m_dn M_95 14 (.aload_n 2) 1 15 := by decide +kernel
theorem d_95_15 : m_dn M_95 15 (.iload_n 1) 1 16 := by decide +kernel
theorem d_95_16 : m_dn M_95 16 (.aaload) 1 17 := by decide +kernel
theorem d_95_17 : m_dn M_95 17 (.astore_n 3) 1 18 := by decide +kernel
theorem d_95_18 : m_dn M_95 18 (.aload_n 0) 1 19 := by decide +kernel
theorem d_95_19 : m_dn M_95 19 (.aload_n 2) 1 20 := by decide +kernel
theorem d_95_2 : m_dn M_95 2 (.getfield 48) 3 5 := by decide +kernel
theorem d_95_20 : m_dn M_95 20 (.iload_n 1) 1 21 := by decide +kernel
theorem d_95_21 : m_dn M_95 21 (.invokevirtual 144) 3 24 := by decide +kernel
theorem d_95_24 : m_dn M_95 24 (.aload_n 3) 1 25 := by decide +kernel
theorem d_95_25 : m_dn M_95 25 (.areturn) 1 26 := by decide +kernel
theorem d_95_5 : m_dn M_95 5 (.invokestatic 118) 3 8 := by decide +kernel
theorem d_95_8 : m_dn M_95 8 (.pop) 1 9 := by decide +kernel
theorem d_95_9 : m_dn M_95 9 (.aload_n 0) 1 10 := by decide +kernel
theorem d_96_0 : m_dn M_96 0 (.aload_n 0) 1 1 := by decide +kernel
theorem d_96_1 : m_dn M_96 1 (.dup) 1 2 := by decide +kernel
theorem d_96_10 : m_dn M_96 10 (.aload_n 0) 1 11 := by decide +kernel
theorem d_96_11 : m_dn M_96 11 (.getfield 48) 3 14 := by decide +kernel
theorem d_96_14 : m_dn M_96 14 (.iconst 1) 1 15 := by decide +kernel
theorem d_96_15 : m_dn M_96 15 (.isub) 1 16 := by decide +kernel
theorem d_96_16 : m_dn M_96 16 (.dup) 1 17 := by decide +kernel
theorem d_96_17 : m_dn M_96 17 (.istore_n 3) 1 18 := by decide +kernel
theorem d_96_18 : m_dn M_96 18 (.iload_n 2) 1 19 := by decide +kernel
theorem d_96_19 : m_dn M_96 19 (.if_icmp .le 15) 3 22 := by decide +kernel
theorem d_96_2 : m_dn M_96 2 (.getfield 63) 3 5 := by decide +kernel
theorem d_96_22 : m_dn M_96 22 (.aload_n 1) 1 23 := by decide +kernel
theorem d_96_23 : m_dn M_96 23 (.iload_n 2) 1 24 := by decide +kernel
theorem d_96_24 : m_dn M_96 24 (.iconst 1) 1 25 := by decide +kernel
theorem d_96_25 : m_dn M_96 25 (.iadd) 1 26 := by decide +kernel
theorem d_96_26 : m_dn M_96 26 (.aload_n 1) 1 27 := by decide +kernel
theorem d_96_27 : m_dn M_96 27 (.iload_n 2) 1 28 := by decide +kernel
theorem d_96_28 : m_dn M_96 28 (.iload_n 3) 1 29 := by decide +kernel
theorem d_96_29 : m_dn M_96 29 (.iload_n 2) 1 30 := by decide +kernel
theorem d_96_30 : m_dn M_96 30 (.isub) 1 31 := by decide +kernel
theorem d_96_31 : m_dn M_96 31 (.invokestatic 112) 3 34 := by decide +kernel
theorem d_96_34 : m_dn M_96 34 (.aload_n 1) 1 35 := by decide +kernel
theorem d_96_35 : m_dn M_96 35 (.aload_n 0) 1 36 := by decide +kernel
theorem d_96_36 : m_dn M_96 36 (.iload_n 3) 1 37 := by decide +kernel
theorem d_96_37 : m_dn M_96 37 (.dup_x1) 1 38 := by decide +kernel
theorem d_96_38 : m_dn M_96 38 (.putfield 48) 3 41 := by decide +kernel
theorem d_96_41 : m_dn M_96 41 (.aconst_null) 1 42 := by decide +kernel
theorem d_96_42 : m_dn M_96 42 (.aastore) 1 43 := by decide +kernel
theorem d_96_43 : m_dn M_96 43 (.return_) 1 44 := by decide +kernel
theorem d_96_5 : m_dn M_96 5 (.iconst 1) 1 6 := by decide +kernel
theorem d_96_6 : m_dn M_96 6 (.iadd) 1 7 := by decide +kernel
theorem d_96_7 : m_dn M_96 7 (.putfield 63) 3 10 := by decide +kernel
theorem c_chk3 {l : Launch} {w : List mM} {i n : Nat} (hi : i < n) (hn : n < 2147483648) : m_Rs l M_30 (m_ent M_30 [.int (Int32.ofNat i), .int (Int32.ofNat n), .null] w) (fun v w' => v = some (.int (Int32.ofNat i)) ∧ w' = w) 0 0 0 0 := by
  show m_Rs l M_30 (0, [(0, .int (Int32.ofNat i)), (1, .int (Int32.ofNat n)), (2, .null)], [], w) _ 0 0 0 0
  refine m_Rs.n0 b_30 (x_iload_n d_30_0 rfl) ?_
  refine m_Rs.n0 b_30 (x_iff d_30_1 rfl (m_c1_ltf (a := i) (by omega))) ?_
  refine m_Rs.n0 b_30 (x_iload_n d_30_4 rfl) ?_
  refine m_Rs.n0 b_30 (x_iload_n d_30_5 rfl) ?_
  refine m_Rs.n0 b_30 (x_ict d_30_6 rfl (m_c2n (a := i) (b := n) (by omega) (by omega) (decide_eq_true (p := i < n) (by omega)))) ?_
  refine m_Rs.n0 b_30 (x_iload_n d_30_16 rfl) ?_
  refine m_Rs.ret b_30 (m_rt_ir d_30_17 rfl rfl) ?_
  exact ⟨rfl, rfl⟩
theorem c_chk {l : Launch} {w : List mM} {i n : Nat} (hi : i < n) (hn : n < 2147483648) : m_Rs l M_78 (m_ent M_78 [.int (Int32.ofNat i), .int (Int32.ofNat n)] w) (fun v w' => v = some (.int (Int32.ofNat i)) ∧ w' = w) 0 0 1 100 := by
  show m_Rs l M_78 (0, [(0, .int (Int32.ofNat i)), (1, .int (Int32.ofNat n))], [], w) _ 0 0 1 100
  refine m_Rs.n0 b_78 (x_iload_n d_78_0 rfl) ?_
  refine m_Rs.n0 b_78 (x_iload_n d_78_1 rfl) ?_
  refine m_Rs.n0 b_78 (x_null d_78_2) ?_
  refine m_Rs.callE b_78 (y_cs d_78_3 rfl q_30 (show m_takeS _ _ = some (_, [_, _, _], []) from rfl) (by simp only [m_okf, List.all_cons, List.all_nil, Bool.and_true, Bool.and_self, m_okv_i, m_okv_l, m_okv_0, m_okv_t]) rfl) (c_chk3 hi hn) rfl ?_ (by decide) (by decide)
  refine m_Rs.ret b_78 (m_rt_ir d_78_6 rfl rfl) ?_
  exact ⟨rfl, rfl⟩
theorem c_size {l : Launch} {w : List mM} {a n : Nat} {u : Value} {mc : Value} (ha : m_at w a = some (.inr (2, [u, .int (Int32.ofNat n), mc]))) : m_Rs l M_17 (m_ent M_17 [.ref a] w) (fun v w' => v = some (.int (Int32.ofNat n)) ∧ w' = w) 0 0 0 0 := by
  show m_Rs l M_17 (0, [(0, .ref a)], [], w) _ 0 0 0 0
  refine m_Rs.n0 b_17 (x_aload_n d_17_0 rfl) ?_
  refine m_Rs.n0 b_17 (x_getf d_17_1 rfl ha rfl) ?_
  refine m_Rs.ret b_17 (m_rt_ir d_17_4 rfl rfl) ?_
  exact ⟨rfl, rfl⟩
theorem c_empty1 {l : Launch} {w : List mM} {a n : Nat} {u : Value} {mc : Value} (ha : m_at w a = some (.inr (2, [u, .int (Int32.ofNat n), mc]))) (h0 : n = 0) : m_Rs l M_101 (m_ent M_101 [.ref a] w) (fun v w' => v = some (.int 1) ∧ w' = w) 0 0 0 0 := by
  show m_Rs l M_101 (0, [(0, .ref a)], [], w) _ 0 0 0 0
  refine m_Rs.n0 b_101 (x_aload_n d_101_0 rfl) ?_
  refine m_Rs.n0 b_101 (x_getf d_101_1 rfl ha rfl) ?_
  refine m_Rs.n0 b_101 (x_iff d_101_4 rfl (m_c1n (a := n) (by omega) (decide_eq_false (p := ¬ n = 0) (by omega)))) ?_
  refine m_Rs.n0 b_101 (x_iconst (z := 1) d_101_7 (by decide)) ?_
  refine m_Rs.n0 b_101 (x_goto d_101_8 rfl) ?_
  refine m_Rs.ret b_101 (m_rt_ir d_101_12 rfl rfl) ?_
  exact ⟨rfl, rfl⟩
theorem c_empty0 {l : Launch} {w : List mM} {a n : Nat} {u : Value} {mc : Value} (ha : m_at w a = some (.inr (2, [u, .int (Int32.ofNat n), mc]))) (h0 : ¬ n = 0) (hn : n < 2147483648) : m_Rs l M_101 (m_ent M_101 [.ref a] w) (fun v w' => v = some (.int 0) ∧ w' = w) 0 0 0 0 := by
  show m_Rs l M_101 (0, [(0, .ref a)], [], w) _ 0 0 0 0
  refine m_Rs.n0 b_101 (x_aload_n d_101_0 rfl) ?_
  refine m_Rs.n0 b_101 (x_getf d_101_1 rfl ha rfl) ?_
  refine m_Rs.n0 b_101 (x_ift d_101_4 rfl (m_c1n (a := n) (by omega) (decide_eq_true (p := ¬ n = 0) (by omega)))) ?_
  refine m_Rs.n0 b_101 (x_iconst (z := 0) d_101_11 (by decide)) ?_
  refine m_Rs.ret b_101 (m_rt_ir d_101_12 rfl rfl) ?_
  exact ⟨rfl, rfl⟩
theorem c_eld {l : Launch} {w : List mM} {a r n N : Nat} {mc : Int32} {els : List (Nat × Value)} (ha : m_at w a = some (.inr (2, [.ref r, .int (Int32.ofNat n), .int mc]))) (he : m_at w r = some (.inl (8, N, els))) {i b : Nat} (hi : i < N) (hN : N < 2147483648) (hb : m_el 8 els i = .ref b) : m_Rs l M_79 (m_ent M_79 [.ref a, .int (Int32.ofNat i)] w) (fun v w' => v = some (.ref b) ∧ w' = w) 0 0 0 0 := by
  show m_Rs l M_79 (0, [(0, .ref a), (1, .int (Int32.ofNat i))], [], w) _ 0 0 0 0
  refine m_Rs.n0 b_79 (x_aload_n d_79_0 rfl) ?_
  refine m_Rs.n0 b_79 (x_getf d_79_1 rfl ha rfl) ?_
  refine m_Rs.n0 b_79 (x_iload_n d_79_4 rfl) ?_
  refine m_Rs.n0 b_79 (x_aaload (j := i) d_79_5 he rfl rfl (m_n_neg (by omega)) (m_n_cl (by omega)) (by omega) hb) ?_
  refine m_Rs.ret b_79 (m_rt_ar d_79_6 rfl) ?_
  exact ⟨rfl, rfl⟩
theorem c_get {l : Launch} {w : List mM} {a r n N : Nat} {mc : Int32} {els : List (Nat × Value)} (ha : m_at w a = some (.inr (2, [.ref r, .int (Int32.ofNat n), .int mc]))) (he : m_at w r = some (.inl (8, N, els))) {i b : Nat} (hi : i < n) (hnN : n ≤ N) (hN : N < 2147483648) (hb : m_el 8 els i = .ref b) : m_Rs l M_77 (m_ent M_77 [.ref a, .int (Int32.ofNat i)] w) (fun v w' => v = some (.ref b) ∧ w' = w) 0 0 2 200 := by
  show m_Rs l M_77 (0, [(0, .ref a), (1, .int (Int32.ofNat i))], [], w) _ 0 0 2 200
  refine m_Rs.n0 b_77 (x_iload_n d_77_0 rfl) ?_
  refine m_Rs.n0 b_77 (x_aload_n d_77_1 rfl) ?_
  refine m_Rs.n0 b_77 (x_getf d_77_2 rfl ha rfl) ?_
  refine m_Rs.callE b_77 (y_cs d_77_5 rfl q_78 (show m_takeS _ _ = some (_, [_, _], []) from rfl) (by simp only [m_okf, List.all_cons, List.all_nil, Bool.and_true, Bool.and_self, m_okv_i, m_okv_l, m_okv_0, m_okv_t, m_okv_at ha]) rfl) (c_chk hi (by omega)) rfl ?_ (by decide) (by decide)
  refine m_Rs.n0 b_77 (x_pop d_77_8 rfl) ?_
  refine m_Rs.n0 b_77 (x_aload_n d_77_9 rfl) ?_
  refine m_Rs.n0 b_77 (x_iload_n d_77_10 rfl) ?_
  refine m_Rs.callE b_77 (y_cv d_77_11 rfl q_79 (m_isRecv_of rfl ha) (show m_takeI _ _ = some (_, [_, _], []) from rfl) (by simp only [m_okf, List.all_cons, List.all_nil, Bool.and_true, Bool.and_self, m_okv_i, m_okv_l, m_okv_0, m_okv_t, m_okv_at ha]) rfl) (c_eld ha he (by omega) hN hb) rfl ?_ (by decide) (by decide)
  refine m_Rs.ret b_77 (m_rt_ar d_77_14 rfl) ?_
  exact ⟨rfl, rfl⟩
def m_Els (w : List mM) (els : List (Nat × Value)) (n a : Nat) : Prop := ∀ i, i < n → ∃ b ci fs, m_el 8 els i = .ref b ∧ m_at w b = some (.inr (ci, fs)) ∧ (ci, 8) ∈ m_asl ∧ ¬ b = a
theorem m_Els.w1 {w w1 : List mM} {els : List (Nat × Value)} {n a x : Nat} {c : mM} (h : m_Els w els n a) (h1 : m_W1 w w1 x c) (hx : x = a ∨ ∃ t N e, m_at w x = some (.inl (t, N, e))) : m_Els w1 els n a := by
  intro i hi
  obtain ⟨b, ci, fs, g1, g2, g3, g4⟩ := h i hi
  refine ⟨b, ci, fs, g1, h1.2.2 b _ g2 ?_, g3, g4⟩
  rcases hx with rfl | ⟨t, N, e, hx⟩
  · exact g4
  · exact m_ne_ao hx g2
theorem m_Els.app {w x : List mM} {els : List (Nat × Value)} {n a : Nat} (h : m_Els w els n a) : m_Els (w ++ x) els n a := by
  intro i hi
  obtain ⟨b, ci, fs, g1, g2, g3, g4⟩ := h i hi
  exact ⟨b, ci, fs, g1, m_at_app g2, g3, g4⟩
theorem m_Els.el {w : List mM} {els : List (Nat × Value)} {n a k d : Nat} (h : m_Els w els n a) (hd : k + d ≤ n) : ∀ i, i < d → m_el 8 els (k + i) = .null ∨ ∃ b ci fs, m_el 8 els (k + i) = .ref b ∧ m_at w b = some (.inr (ci, fs)) ∧ (ci, 8) ∈ m_asl := by
  intro i hi
  obtain ⟨b, ci, fs, g1, g2, g3, g4⟩ := h (k + i) (by omega)
  exact Or.inr ⟨b, ci, fs, g1, g2, g3⟩
/-- the same, and nothing is made -/
def m_Fe (w w' : List mM) (S : List Nat) : Prop := m_Fr w w' S ∧ w'.length = w.length
theorem m_Fe.refl {w : List mM} {S : List Nat} : m_Fe w w S := ⟨m_Fr.refl, rfl⟩
theorem m_Fe.w1 {w w' w1 : List mM} {S : List Nat} {a : Nat} {c : mM} (h : m_Fe w w' S) (h1 : m_W1 w' w1 a c) (ha : a ∈ S) : m_Fe w w1 S := ⟨h.1.w1 h1 ha, h1.1.trans h.2⟩
theorem c_frem {l : Launch} {w : List mM} {a r n N : Nat} {mc : Int32} {els : List (Nat × Value)} {i : Nat} (ha : m_at w a = some (.inr (2, [.ref r, .int (Int32.ofNat n), .int mc]))) (he : m_at w r = some (.inl (8, N, els))) (hL : m_Els w els n a) (hi : i < n) (hnN : n ≤ N) (hN : N < 2147483648) : m_Rs l M_96 (m_ent M_96 [.ref a, .ref r, .int (Int32.ofNat i)] w) (fun v w' => v = none ∧ m_Fe w w' [a, r] ∧ m_at w' a = some (.inr (2, [.ref r, .int (Int32.ofNat (n - 1)), .int (mc + 1)])) ∧ ∃ els', m_at w' r = some (.inl (8, N, els')) ∧ ∀ j, j < n - 1 → m_el 8 els' j = m_el 8 els (if j < i then j else j + 1)) 0 0 2 200 := by
  show m_Rs l M_96 (0, [(0, .ref a), (1, .ref r), (2, .int (Int32.ofNat i))], [], w) _ 0 0 2 200
  have hF : m_Fe w w [a, r] := m_Fe.refl
  by_cases hi9 : n - 1 ≤ i
  · refine m_Rs.n0 b_96 (x_aload_n d_96_0 rfl) ?_
    refine m_Rs.n0 b_96 (x_dup d_96_1 rfl) ?_
    refine m_Rs.n0 b_96 (x_getf d_96_2 rfl ha rfl) ?_
    refine m_Rs.n0 b_96 (x_iconst (z := 1) d_96_5 (by decide)) ?_
    refine m_Rs.n0 b_96 (x_iadd d_96_6 rfl) ?_
    refine m_Rs.wput (fs' := [.ref r, .int (Int32.ofNat n), .int (mc + 1)]) b_96 d_96_7 rfl ha rfl (by decide) rfl rfl rfl rfl rfl (fun w1 h1 => ?_)
    have hne := m_ne_oa ha he
    replace he := h1.2.2 _ _ he hne
    replace hF := hF.w1 h1 (by simp)
    replace hL := hL.w1 h1 (Or.inl rfl)
    replace ha := h1.2.1
    refine m_Rs.n0 b_96 (x_aload_n d_96_10 rfl) ?_
    refine m_Rs.n0 b_96 (x_getf d_96_11 rfl ha rfl) ?_
    refine m_Rs.n0 b_96 (x_iconst (z := 1) d_96_14 (by decide)) ?_
    refine m_Rs.n0 b_96 (x_isub (z := Int32.ofNat (n - 1)) d_96_15 (m_n_sub (a := n) (b := 1) (by omega))) ?_
    refine m_Rs.n0 b_96 (x_dup d_96_16 rfl) ?_
    refine m_Rs.n0 b_96 (x_istore_n d_96_17 rfl (show m_put1 _ _ _ = [(3, _), (0, _), (1, _), (2, _)] from rfl)) ?_
    refine m_Rs.n0 b_96 (x_iload_n d_96_18 rfl) ?_
    refine m_Rs.n0 b_96 (x_ict d_96_19 rfl (m_c2n (a := (n - 1)) (b := i) (by omega) (by omega) (decide_eq_true (p := (n - 1) ≤ i) (by omega)))) ?_
    refine m_Rs.n0 b_96 (x_aload_n d_96_34 rfl) ?_
    refine m_Rs.n0 b_96 (x_aload_n d_96_35 rfl) ?_
    refine m_Rs.n0 b_96 (x_iload_n d_96_36 rfl) ?_
    refine m_Rs.n0 b_96 (x_dup_x1 d_96_37 rfl rfl) ?_
    refine m_Rs.wput (fs' := [.ref r, .int (Int32.ofNat (n - 1)), .int (mc + 1)]) b_96 d_96_38 rfl ha rfl (by decide) rfl rfl rfl rfl rfl (fun w2 h1 => ?_)
    have hne := m_ne_oa ha he
    replace he := h1.2.2 _ _ he hne
    replace hF := hF.w1 h1 (by simp)
    replace ha := h1.2.1
    refine m_Rs.n0 b_96 (x_null d_96_41) ?_
    refine m_Rs.wast0 (j := (n - 1)) b_96 d_96_42 he rfl rfl (m_n_neg (by omega)) (m_n_cl (by omega)) (by omega) (fun w3 h1 => ?_)
    have hne := m_ne_ao he ha
    replace ha := h1.2.2 _ _ ha hne
    replace hF := hF.w1 h1 (by simp)
    replace he := h1.2.1
    refine m_Rs.ret b_96 (m_rt_vr d_96_43 rfl) ?_
    refine ⟨rfl, hF, ha, _, he, fun j hj => ?_⟩
    rw [m_el_set, if_neg (by omega), if_pos (by omega)]
  · refine m_Rs.n0 b_96 (x_aload_n d_96_0 rfl) ?_
    refine m_Rs.n0 b_96 (x_dup d_96_1 rfl) ?_
    refine m_Rs.n0 b_96 (x_getf d_96_2 rfl ha rfl) ?_
    refine m_Rs.n0 b_96 (x_iconst (z := 1) d_96_5 (by decide)) ?_
    refine m_Rs.n0 b_96 (x_iadd d_96_6 rfl) ?_
    refine m_Rs.wput (fs' := [.ref r, .int (Int32.ofNat n), .int (mc + 1)]) b_96 d_96_7 rfl ha rfl (by decide) rfl rfl rfl rfl rfl (fun w4 h1 => ?_)
    have hne := m_ne_oa ha he
    replace he := h1.2.2 _ _ he hne
    replace hF := hF.w1 h1 (by simp)
    replace hL := hL.w1 h1 (Or.inl rfl)
    replace ha := h1.2.1
    refine m_Rs.n0 b_96 (x_aload_n d_96_10 rfl) ?_
    refine m_Rs.n0 b_96 (x_getf d_96_11 rfl ha rfl) ?_
    refine m_Rs.n0 b_96 (x_iconst (z := 1) d_96_14 (by decide)) ?_
    refine m_Rs.n0 b_96 (x_isub (z := Int32.ofNat (n - 1)) d_96_15 (m_n_sub (a := n) (b := 1) (by omega))) ?_
    refine m_Rs.n0 b_96 (x_dup d_96_16 rfl) ?_
    refine m_Rs.n0 b_96 (x_istore_n d_96_17 rfl (show m_put1 _ _ _ = [(3, _), (0, _), (1, _), (2, _)] from rfl)) ?_
    refine m_Rs.n0 b_96 (x_iload_n d_96_18 rfl) ?_
    refine m_Rs.n0 b_96 (x_icf d_96_19 rfl (m_c2n (a := (n - 1)) (b := i) (by omega) (by omega) (decide_eq_false (p := (n - 1) ≤ i) (by omega)))) ?_
    refine m_Rs.n0 b_96 (x_aload_n d_96_22 rfl) ?_
    refine m_Rs.n0 b_96 (x_iload_n d_96_23 rfl) ?_
    refine m_Rs.n0 b_96 (x_iconst (z := 1) d_96_24 (by decide)) ?_
    refine m_Rs.n0 b_96 (x_iadd (z := Int32.ofNat (i + 1)) d_96_25 (m_n_add _ _)) ?_
    refine m_Rs.n0 b_96 (x_aload_n d_96_26 rfl) ?_
    refine m_Rs.n0 b_96 (x_iload_n d_96_27 rfl) ?_
    refine m_Rs.n0 b_96 (x_iload_n d_96_28 rfl) ?_
    refine m_Rs.n0 b_96 (x_iload_n d_96_29 rfl) ?_
    refine m_Rs.n0 b_96 (x_isub (z := Int32.ofNat ((n - 1) - i)) d_96_30 (m_n_sub (a := (n - 1)) (b := i) (by omega))) ?_
    have hx9 : ∃ t N e, m_at _ r = some (.inl (t, N, e)) := ⟨_, _, _, he⟩
    refine m_Rs.wcpq (sn := i + 1) (dn := i) (nn := n - 1 - i) b_96 d_96_31 (m_gi4 162 rfl rfl) he he (m_n_neg (by omega)) (m_n_neg (by omega)) (m_n_neg (by omega)) (m_n_cl (by omega)) (m_n_cl (by omega)) (m_n_cl (by omega)) (by omega) (by omega) (hL.el (by omega)) (by decide) (fun w5 h1 => ?_) (by decide) (by decide)
    have hne := m_ne_ao he ha
    replace ha := h1.2.2 _ _ ha hne
    replace hF := hF.w1 h1 (by simp)
    replace he := h1.2.1
    clear hL
    refine m_Rs.n0 b_96 (x_aload_n d_96_34 rfl) ?_
    refine m_Rs.n0 b_96 (x_aload_n d_96_35 rfl) ?_
    refine m_Rs.n0 b_96 (x_iload_n d_96_36 rfl) ?_
    refine m_Rs.n0 b_96 (x_dup_x1 d_96_37 rfl rfl) ?_
    refine m_Rs.wput (fs' := [.ref r, .int (Int32.ofNat (n - 1)), .int (mc + 1)]) b_96 d_96_38 rfl ha rfl (by decide) rfl rfl rfl rfl rfl (fun w6 h1 => ?_)
    have hne := m_ne_oa ha he
    replace he := h1.2.2 _ _ he hne
    replace hF := hF.w1 h1 (by simp)
    replace ha := h1.2.1
    refine m_Rs.n0 b_96 (x_null d_96_41) ?_
    refine m_Rs.wast0 (j := (n - 1)) b_96 d_96_42 he rfl rfl (m_n_neg (by omega)) (m_n_cl (by omega)) (by omega) (fun w7 h1 => ?_)
    have hne := m_ne_ao he ha
    replace ha := h1.2.2 _ _ ha hne
    replace hF := hF.w1 h1 (by simp)
    replace he := h1.2.1
    refine m_Rs.ret b_96 (m_rt_vr d_96_43 rfl) ?_
    refine ⟨rfl, hF, ha, _, he, fun j hj => ?_⟩
    rw [m_el_set, if_neg (by omega), m_el_cpl]
    by_cases h9 : j < i
    · rw [if_neg (by omega), if_pos h9]
    · rw [if_pos (by omega), if_neg h9, show i + 1 + (j - i) = j + 1 by omega]
theorem m_Rs.callQ {l : Launch} {I J : mI} {pc pc' : Nat} {lv : List (Nat × Value)} {st as rest : List Value} {w : List mM} {P : Option Value → List mM → Prop} {Q : List mM → Prop} {c s f lo f1 l1 : Nat} (hI : m_bOk I) (h : m_at1 I (pc, lv, st, w) = some (J, as, rest)) (hJ : m_Rs l J (m_ent J as w) (fun v w' => v = none ∧ Q w') 0 0 f1 l1) (hp : pc + 3 = pc') (k : ∀ w', Q w' → m_Rs l I (pc', lv, rest, w') P c s f lo) (hf : f1 + 1 ≤ f) (hl : 8 + (J.2.2.1 + 11) + l1 ≤ lo) : m_Rs l I (pc, lv, st, w) P c s f lo := by
  have := m_Rs.callP (P := P) (c := c) (s := s) hI h hJ hp (fun v w' hv => by obtain ⟨rfl, h2⟩ := hv; exact k w' h2) hf hl
  rw [Nat.zero_add, Nat.zero_add] at this
  exact this
theorem c_rem {l : Launch} {w : List mM} {a r n N : Nat} {mc : Int32} {els : List (Nat × Value)} {i : Nat} (ha : m_at w a = some (.inr (2, [.ref r, .int (Int32.ofNat n), .int mc]))) (he : m_at w r = some (.inl (8, N, els))) (hL : m_Els w els n a) (hi : i < n) (hnN : n ≤ N) (hN : N < 2147483648) {b : Nat} (hb : m_el 8 els i = .ref b) : m_Rs l M_95 (m_ent M_95 [.ref a, .int (Int32.ofNat i)] w) (fun v w' => v = some (.ref b) ∧ m_Fe w w' [a, r] ∧ m_at w' a = some (.inr (2, [.ref r, .int (Int32.ofNat (n - 1)), .int (mc + 1)])) ∧ ∃ els', m_at w' r = some (.inl (8, N, els')) ∧ ∀ j, j < n - 1 → m_el 8 els' j = m_el 8 els (if j < i then j else j + 1)) 0 0 3 400 := by
  show m_Rs l M_95 (0, [(0, .ref a), (1, .int (Int32.ofNat i))], [], w) _ 0 0 3 400
  obtain ⟨b9, ci9, fs9, z1, hbo, z3, z4⟩ := hL i hi
  cases hb.symm.trans z1
  refine m_Rs.n0 b_95 (x_iload_n d_95_0 rfl) ?_
  refine m_Rs.n0 b_95 (x_aload_n d_95_1 rfl) ?_
  refine m_Rs.n0 b_95 (x_getf d_95_2 rfl ha rfl) ?_
  refine m_Rs.callE b_95 (y_cs d_95_5 rfl q_78 (show m_takeS _ _ = some (_, [_, _], []) from rfl) (by simp only [m_okf, List.all_cons, List.all_nil, Bool.and_true, Bool.and_self, m_okv_i, m_okv_l, m_okv_0, m_okv_t, m_okv_at ha]) rfl) (c_chk hi (by omega)) rfl ?_ (by decide) (by decide)
  refine m_Rs.n0 b_95 (x_pop d_95_8 rfl) ?_
  refine m_Rs.n0 b_95 (x_aload_n d_95_9 rfl) ?_
  refine m_Rs.n0 b_95 (x_getf d_95_10 rfl ha rfl) ?_
  refine m_Rs.n0 b_95 (x_astore_n d_95_13 rfl (show m_put1 _ _ _ = [(2, _), (0, _), (1, _)] from rfl)) ?_
  refine m_Rs.n0 b_95 (x_aload_n d_95_14 rfl) ?_
  refine m_Rs.n0 b_95 (x_iload_n d_95_15 rfl) ?_
  refine m_Rs.n0 b_95 (x_aaload (j := i) d_95_16 he rfl rfl (m_n_neg (by omega)) (m_n_cl (by omega)) (by omega) hb) ?_
  refine m_Rs.n0 b_95 (x_astore_n d_95_17 rfl (show m_put1 _ _ _ = [(3, _), (2, _), (0, _), (1, _)] from rfl)) ?_
  refine m_Rs.n0 b_95 (x_aload_n d_95_18 rfl) ?_
  refine m_Rs.n0 b_95 (x_aload_n d_95_19 rfl) ?_
  refine m_Rs.n0 b_95 (x_iload_n d_95_20 rfl) ?_
  refine m_Rs.callQ b_95 (y_cv d_95_21 rfl q_96 (m_isRecv_of rfl ha) (show m_takeI _ _ = some (_, [_, _, _], []) from rfl) (by simp only [m_okf, List.all_cons, List.all_nil, Bool.and_true, Bool.and_self, m_okv_i, m_okv_l, m_okv_0, m_okv_t, m_okv_at hbo, m_okv_at he, m_okv_at ha]) rfl) (c_frem ha he hL hi hnN hN) rfl (fun w1 h1 => ?_) (by decide) (by decide)
  refine m_Rs.n0 b_95 (x_aload_n d_95_24 rfl) ?_
  refine m_Rs.ret b_95 (m_rt_ar d_95_25 rfl) ?_
  exact ⟨rfl, h1⟩
