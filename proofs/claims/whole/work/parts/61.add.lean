/-! ArrayList.add: contracts. Written by wip/tool/alist4.py. -/
theorem m_okv_z (n : Nat) : m_okv n (.ref 0) = true := m_okv_out (by decide)
theorem q_64 : m_mt[64]? = some M_64 := by rfl
theorem q_63 : m_mt[63]? = some M_63 := by rfl
theorem q_62 : m_mt[62]? = some M_62 := by rfl
theorem b_64 : m_bOk M_64 := (m_mt_ok M_64 (List.mem_of_getElem? q_64)).body
theorem b_63 : m_bOk M_63 := (m_mt_ok M_63 (List.mem_of_getElem? q_63)).body
theorem b_62 : m_bOk M_62 := (m_mt_ok M_62 (List.mem_of_getElem? q_62)).body
theorem d_62_0 : m_dn M_62 0 (.aload_n 0) 1 1 := by decide +kernel
theorem d_62_1 : m_dn M_62 1 (.dup) 1 2 := by decide +kernel
theorem d_62_10 : m_dn M_62 10 (.aload_n 0) 1 11 := by decide +kernel
theorem d_62_11 : m_dn M_62 11 (.aload_n 1) 1 12 := by decide +kernel
theorem d_62_12 : m_dn M_62 12 (.aload_n 0) 1 13 := by decide +kernel
theorem d_62_13 : m_dn M_62 13 (.getfield 9) 3 16 := by decide +kernel
theorem d_62_16 : m_dn M_62 16 (.aload_n 0) 1 17 := by decide +kernel
theorem d_62_17 : m_dn M_62 17 (.getfield 48) 3 20 := by decide +kernel
theorem d_62_2 : m_dn M_62 2 (.getfield 63) 3 5 := by decide +kernel
theorem d_62_20 : m_dn M_62 20 (.invokevirtual 131) 3 23 := by decide +kernel
theorem d_62_23 : m_dn M_62 23 (.iconst 1) 1 24 := by decide +kernel
theorem d_62_24 : m_dn M_62 24 (.ireturn) 1 25 := by decide +kernel
theorem d_62_5 : m_dn M_62 5 (.iconst 1) 1 6 := by decide +kernel
theorem d_62_6 : m_dn M_62 6 (.iadd) 1 7 := by decide +kernel
theorem d_62_7 : m_dn M_62 7 (.putfield 63) 3 10 := by decide +kernel
theorem d_63_0 : m_dn M_63 0 (.iload_n 3) 1 1 := by decide +kernel
theorem d_63_1 : m_dn M_63 1 (.aload_n 2) 1 2 := by decide +kernel
theorem d_63_10 : m_dn M_63 10 (.astore_n 2) 1 11 := by decide +kernel
theorem d_63_11 : m_dn M_63 11 (.aload_n 2) 1 12 := by decide +kernel
theorem d_63_12 : m_dn M_63 12 (.iload_n 3) 1 13 := by decide +kernel
theorem d_63_13 : m_dn M_63 13 (.aload_n 1) 1 14 := by decide +kernel
theorem d_63_14 : m_dn M_63 14 (.aastore) 1 15 := by decide +kernel
theorem d_63_15 : m_dn M_63 15 (.aload_n 0) 1 16 := by decide +kernel
theorem d_63_16 : m_dn M_63 16 (.iload_n 3) 1 17 := by decide +kernel
theorem d_63_17 : m_dn M_63 17 (.iconst 1) 1 18 := by decide +kernel
theorem d_63_18 : m_dn M_63 18 (.iadd) 1 19 := by decide +kernel
theorem d_63_19 : m_dn M_63 19 (.putfield 48) 3 22 := by decide +kernel
theorem d_63_2 : m_dn M_63 2 (.arraylength) 1 3 := by decide +kernel
theorem d_63_22 : m_dn M_63 22 (.return_) 1 23 := by decide +kernel
theorem d_63_3 : m_dn M_63 3 (.if_icmp .ne 8) 3 6 := by decide +kernel
theorem d_63_6 : m_dn M_63 6 (.aload_n 0) 1 7 := by decide +kernel
theorem d_63_7 : m_dn M_63 7 (.invokevirtual 129) 3 10 := by decide +kernel
theorem d_64_0 : m_dn M_64 0 (.aload_n 0) 1 1 := by decide +kernel
theorem d_64_1 : m_dn M_64 1 (.aload_n 0) 1 2 := by decide +kernel
theorem d_64_10 : m_dn M_64 10 (.areturn) 1 11 := by decide +kernel
theorem d_64_2 : m_dn M_64 2 (.getfield 48) 3 5 := by decide +kernel
theorem d_64_5 : m_dn M_64 5 (.iconst 1) 1 6 := by decide +kernel
theorem d_64_6 : m_dn M_64 6 (.iadd) 1 7 := by decide +kernel
theorem d_64_7 : m_dn M_64 7 (.invokevirtual 69) 3 10 := by decide +kernel
theorem c_growv1 {l : Launch} {w : List mM} {a r N : Nat} {mc : Int32} {els : List (Nat × Value)} (ha : m_at w a = some (.inr (2, [.ref r, .int (Int32.ofNat N), .int mc]))) (he : m_at w r = some (.inl (8, N, els))) (hL : m_Elq w els N) (h10 : 10 ≤ N) (hN : N < 400) : m_Rs l M_64 (m_ent M_64 [.ref a] w) (fun v w' => ∃ n1, v = some (.ref n1) ∧ n1 = 512 + w.length ∧ w'.length = w.length + 1 ∧ m_Fr w w' [a] ∧ m_at w' a = some (.inr (2, [.ref n1, .int (Int32.ofNat N), .int mc])) ∧ m_at w' n1 = some (.inl (8, N + N / 2, m_cpl 8 els [] 0 0 N))) (1 + 0 + 0 + 0 + 0) (N + N / 2 + 0 + 0 + 0 + 0) 5 800 := by
  show m_Rs l M_64 (0, [(0, .ref a)], [], w) _ (1 + 0 + 0 + 0 + 0) (N + N / 2 + 0 + 0 + 0 + 0) 5 800
  refine m_Rs.n0 b_64 (x_aload_n d_64_0 rfl) ?_
  refine m_Rs.n0 b_64 (x_aload_n d_64_1 rfl) ?_
  refine m_Rs.n0 b_64 (x_getf d_64_2 rfl ha rfl) ?_
  refine m_Rs.n0 b_64 (x_iconst (z := 1) d_64_5 (by decide)) ?_
  refine m_Rs.n0 b_64 (x_iadd (z := Int32.ofNat (N + 1)) d_64_6 (m_n_add _ _)) ?_
  refine m_Rs.callP (c := 0) (s := 0) b_64 (y_cv d_64_7 rfl q_65 (m_isRecv_of rfl ha) (show m_takeI _ _ = some (_, [_, _], []) from rfl) (by simp only [m_okf, List.all_cons, List.all_nil, Bool.and_true, Bool.and_self, m_okv_i, m_okv_l, m_okv_0, m_okv_t, m_okv_at ha]) rfl) (c_grow1 ha he hL h10 hN) rfl (fun v w1 hv => ?_) (by decide) (by decide)
  obtain ⟨n1, rfl, e1, e2, e3, e4, e5⟩ := hv
  refine m_Rs.ret b_64 (m_rt_aa d_64_10 rfl) ?_
  exact ⟨n1, rfl, e1, e2, e3, e4, e5⟩
theorem c_growv0 {l : Launch} {w : List mM} {a : Nat} {mc : Int32} (ha : m_at w a = some (.inr (2, [.ref 0, .int 0, .int mc]))) : m_Rs l M_64 (m_ent M_64 [.ref a] w) (fun v w' => ∃ n1, v = some (.ref n1) ∧ n1 = 512 + w.length ∧ w'.length = w.length + 1 ∧ m_Fr w w' [a] ∧ m_at w' a = some (.inr (2, [.ref n1, .int 0, .int mc])) ∧ m_at w' n1 = some (.inl (8, 10, []))) (1 + 0 + 0) (10 + 0 + 0) 5 800 := by
  show m_Rs l M_64 (0, [(0, .ref a)], [], w) _ (1 + 0 + 0) (10 + 0 + 0) 5 800
  refine m_Rs.n0 b_64 (x_aload_n d_64_0 rfl) ?_
  refine m_Rs.n0 b_64 (x_aload_n d_64_1 rfl) ?_
  refine m_Rs.n0 b_64 (x_getf d_64_2 rfl ha rfl) ?_
  refine m_Rs.n0 b_64 (x_iconst (z := 1) d_64_5 (by decide)) ?_
  refine m_Rs.n0 b_64 (x_iadd (z := 1) d_64_6 (by decide)) ?_
  refine m_Rs.callP (c := 0) (s := 0) b_64 (y_cv d_64_7 rfl q_65 (m_isRecv_of rfl ha) (show m_takeI _ _ = some (_, [_, _], []) from rfl) (by simp only [m_okf, List.all_cons, List.all_nil, Bool.and_true, Bool.and_self, m_okv_i, m_okv_l, m_okv_0, m_okv_t, m_okv_at ha]) rfl) (c_grow0 ha) rfl (fun v w1 hv => ?_) (by decide) (by decide)
  obtain ⟨n1, rfl, e1, e2, e3, e4, e5⟩ := hv
  refine m_Rs.ret b_64 (m_rt_aa d_64_10 rfl) ?_
  exact ⟨n1, rfl, e1, e2, e3, e4, e5⟩
theorem c_add3a {l : Launch} {w : List mM} {a r n N : Nat} {mc : Int32} {els : List (Nat × Value)} (ha : m_at w a = some (.inr (2, [.ref r, .int (Int32.ofNat n), .int mc]))) (he : m_at w r = some (.inl (8, N, els))) {b ci : Nat} {gs : List Value} (hb : m_at w b = some (.inr (ci, gs))) (hc : (ci, 8) ∈ m_ass ∨ (ci, 8) ∈ m_asl) (hba : ¬ b = a) (hn : n < N) (hN : N < 400) : m_Rs l M_63 (m_ent M_63 [.ref a, .ref b, .ref r, .int (Int32.ofNat n)] w) (fun v w' => v = none ∧ w'.length = w.length ∧ m_Fr w w' [a, r] ∧ m_at w' a = some (.inr (2, [.ref r, .int (Int32.ofNat (n + 1)), .int mc])) ∧ m_at w' r = some (.inl (8, N, m_sel els n (.ref b)))) 0 0 6 1000 := by
  show m_Rs l M_63 (0, [(0, .ref a), (1, .ref b), (2, .ref r), (3, .int (Int32.ofNat n))], [], w) _ 0 0 6 1000
  refine m_Rs.n0 b_63 (x_iload_n d_63_0 rfl) ?_
  refine m_Rs.n0 b_63 (x_aload_n d_63_1 rfl) ?_
  refine m_Rs.n0 b_63 (x_alen d_63_2 he rfl rfl) ?_
  refine m_Rs.n0 b_63 (x_ict d_63_3 rfl (m_c2n (a := n) (b := N) (by omega) (by omega) (decide_eq_true (p := ¬ n = N) (by omega)))) ?_
  refine m_Rs.n0 b_63 (x_aload_n d_63_11 rfl) ?_
  refine m_Rs.n0 b_63 (x_iload_n d_63_12 rfl) ?_
  refine m_Rs.n0 b_63 (x_aload_n d_63_13 rfl) ?_
  refine m_Rs.wast (j := n) b_63 d_63_14 he rfl rfl (m_n_neg (by omega)) (m_n_cl (by omega)) (by omega) hb hc (fun w2 h2 => ?_)
  replace ha := h2.2.2 _ _ ha (m_ne_ao he ha)
  replace he := h2.2.1
  refine m_Rs.n0 b_63 (x_aload_n d_63_15 rfl) ?_
  refine m_Rs.n0 b_63 (x_iload_n d_63_16 rfl) ?_
  refine m_Rs.n0 b_63 (x_iconst (z := 1) d_63_17 (by decide)) ?_
  refine m_Rs.n0 b_63 (x_iadd (z := Int32.ofNat (n + 1)) d_63_18 (m_n_add _ _)) ?_
  refine m_Rs.wput (fs' := [.ref r, .int (Int32.ofNat (n + 1)), .int mc]) b_63 d_63_19 rfl ha rfl (by decide) rfl rfl rfl rfl rfl (fun w3 h3 => ?_)
  have hq := h3.2.2 _ _ he (m_ne_oa ha he)
  refine m_Rs.ret b_63 (m_rt_vr d_63_22 rfl) ?_
  exact ⟨rfl, by rw [h3.1, h2.1], ((m_Fr.refl (w := w) (S := [a, r])).w1 h2 (by simp)).w1 h3 (by simp), h3.2.1, hq⟩
theorem c_add3b {l : Launch} {w : List mM} {a r N : Nat} {mc : Int32} {els : List (Nat × Value)} (ha : m_at w a = some (.inr (2, [.ref r, .int (Int32.ofNat N), .int mc]))) (he : m_at w r = some (.inl (8, N, els))) {b ci : Nat} {gs : List Value} (hb : m_at w b = some (.inr (ci, gs))) (hc : (ci, 8) ∈ m_ass ∨ (ci, 8) ∈ m_asl) (hba : ¬ b = a) (hL : m_Elq w els N) (h10 : 10 ≤ N) (hN : N < 400) : m_Rs l M_63 (m_ent M_63 [.ref a, .ref b, .ref r, .int (Int32.ofNat N)] w) (fun v w' => v = none ∧ ∃ n1, n1 = 512 + w.length ∧ w'.length = w.length + 1 ∧ m_Fr w w' [a] ∧ m_at w' a = some (.inr (2, [.ref n1, .int (Int32.ofNat (N + 1)), .int mc])) ∧ m_at w' n1 = some (.inl (8, N + N / 2, m_sel (m_cpl 8 els [] 0 0 N) N (.ref b)))) (1 + 0 + 0 + 0 + 0 + 0) (N + N / 2 + 0 + 0 + 0 + 0 + 0) 6 1000 := by
  show m_Rs l M_63 (0, [(0, .ref a), (1, .ref b), (2, .ref r), (3, .int (Int32.ofNat N))], [], w) _ (1 + 0 + 0 + 0 + 0 + 0) (N + N / 2 + 0 + 0 + 0 + 0 + 0) 6 1000
  refine m_Rs.n0 b_63 (x_iload_n d_63_0 rfl) ?_
  refine m_Rs.n0 b_63 (x_aload_n d_63_1 rfl) ?_
  refine m_Rs.n0 b_63 (x_alen d_63_2 he rfl rfl) ?_
  refine m_Rs.n0 b_63 (x_icf d_63_3 rfl (m_c2n (a := N) (b := N) (by omega) (by omega) (decide_eq_false (p := ¬ N = N) (by omega)))) ?_
  refine m_Rs.n0 b_63 (x_aload_n d_63_6 rfl) ?_
  refine m_Rs.callP (c := 0) (s := 0) b_63 (y_cv d_63_7 rfl q_64 (m_isRecv_of rfl ha) (show m_takeI _ _ = some (_, [_], []) from rfl) (by simp only [m_okf, List.all_cons, List.all_nil, Bool.and_true, Bool.and_self, m_okv_i, m_okv_l, m_okv_0, m_okv_t, m_okv_at ha, m_okv_at hb, m_okv_at he]) rfl) (c_growv1 ha he hL h10 hN) rfl (fun v w1 hv => ?_) (by decide) (by decide)
  obtain ⟨n1, rfl, e1, e2, e3, e4, e5⟩ := hv
  replace hb := e3.2 _ _ hb (by simp [hba])
  replace ha := e4
  have hn1 := e5
  have hnw := e1
  refine m_Rs.n0 b_63 (x_astore_n d_63_10 rfl (show m_put1 _ _ _ = [(2, _), (0, _), (1, _), (3, _)] from rfl)) ?_
  refine m_Rs.n0 b_63 (x_aload_n d_63_11 rfl) ?_
  refine m_Rs.n0 b_63 (x_iload_n d_63_12 rfl) ?_
  refine m_Rs.n0 b_63 (x_aload_n d_63_13 rfl) ?_
  refine m_Rs.wast (j := N) b_63 d_63_14 hn1 rfl rfl (m_n_neg (by omega)) (m_n_cl (by omega)) (by omega) hb hc (fun w2 h2 => ?_)
  replace ha := h2.2.2 _ _ ha (m_ne_ao hn1 ha)
  replace hn1 := h2.2.1
  refine m_Rs.n0 b_63 (x_aload_n d_63_15 rfl) ?_
  refine m_Rs.n0 b_63 (x_iload_n d_63_16 rfl) ?_
  refine m_Rs.n0 b_63 (x_iconst (z := 1) d_63_17 (by decide)) ?_
  refine m_Rs.n0 b_63 (x_iadd (z := Int32.ofNat (N + 1)) d_63_18 (m_n_add _ _)) ?_
  refine m_Rs.wput (fs' := [.ref n1, .int (Int32.ofNat (N + 1)), .int mc]) b_63 d_63_19 rfl ha rfl (by decide) rfl rfl rfl rfl rfl (fun w3 h3 => ?_)
  have hq := h3.2.2 _ _ hn1 (m_ne_oa ha hn1)
  refine m_Rs.ret b_63 (m_rt_vr d_63_22 rfl) ?_
  exact ⟨rfl, n1, hnw, by rw [h3.1, h2.1, e2], (e3.w1n h2 (by rw [hnw]; exact Nat.le_refl _)).w1 h3 (by simp), h3.2.1, hq⟩
theorem c_add3c {l : Launch} {w : List mM} {a : Nat} {mc : Int32} (ha : m_at w a = some (.inr (2, [.ref 0, .int 0, .int mc]))) {b ci : Nat} {gs : List Value} (hb : m_at w b = some (.inr (ci, gs))) (hc : (ci, 8) ∈ m_ass ∨ (ci, 8) ∈ m_asl) (hba : ¬ b = a) : m_Rs l M_63 (m_ent M_63 [.ref a, .ref b, .ref 0, .int 0] w) (fun v w' => v = none ∧ ∃ n1, n1 = 512 + w.length ∧ w'.length = w.length + 1 ∧ m_Fr w w' [a] ∧ m_at w' a = some (.inr (2, [.ref n1, .int 1, .int mc])) ∧ m_at w' n1 = some (.inl (8, 10, m_sel ([]) 0 (.ref b)))) (1 + 0 + 0 + 0) (10 + 0 + 0 + 0) 6 1000 := by
  show m_Rs l M_63 (0, [(0, .ref a), (1, .ref b), (2, .ref 0), (3, .int 0)], [], w) _ (1 + 0 + 0 + 0) (10 + 0 + 0 + 0) 6 1000
  refine m_Rs.n0 b_63 (x_iload_n d_63_0 rfl) ?_
  refine m_Rs.n0 b_63 (x_aload_n d_63_1 rfl) ?_
  refine m_Rs.n0 b_63 (x_alenE d_63_2) ?_
  refine m_Rs.n0 b_63 (x_icf d_63_3 rfl (by decide)) ?_
  refine m_Rs.n0 b_63 (x_aload_n d_63_6 rfl) ?_
  refine m_Rs.callP (c := 0) (s := 0) b_63 (y_cv d_63_7 rfl q_64 (m_isRecv_of rfl ha) (show m_takeI _ _ = some (_, [_], []) from rfl) (by simp only [m_okf, List.all_cons, List.all_nil, Bool.and_true, Bool.and_self, m_okv_i, m_okv_l, m_okv_0, m_okv_t, m_okv_at ha, m_okv_at hb, m_okv_z]) rfl) (c_growv0 ha) rfl (fun v w1 hv => ?_) (by decide) (by decide)
  obtain ⟨n1, rfl, e1, e2, e3, e4, e5⟩ := hv
  replace hb := e3.2 _ _ hb (by simp [hba])
  replace ha := e4
  have hn1 := e5
  have hnw := e1
  refine m_Rs.n0 b_63 (x_astore_n d_63_10 rfl (show m_put1 _ _ _ = [(2, _), (0, _), (1, _), (3, _)] from rfl)) ?_
  refine m_Rs.n0 b_63 (x_aload_n d_63_11 rfl) ?_
  refine m_Rs.n0 b_63 (x_iload_n d_63_12 rfl) ?_
  refine m_Rs.n0 b_63 (x_aload_n d_63_13 rfl) ?_
  refine m_Rs.wast (j := 0) b_63 d_63_14 hn1 rfl rfl (by decide) (by decide) (by omega) hb hc (fun w2 h2 => ?_)
  replace ha := h2.2.2 _ _ ha (m_ne_ao hn1 ha)
  replace hn1 := h2.2.1
  refine m_Rs.n0 b_63 (x_aload_n d_63_15 rfl) ?_
  refine m_Rs.n0 b_63 (x_iload_n d_63_16 rfl) ?_
  refine m_Rs.n0 b_63 (x_iconst (z := 1) d_63_17 (by decide)) ?_
  refine m_Rs.n0 b_63 (x_iadd (z := 1) d_63_18 (by decide)) ?_
  refine m_Rs.wput (fs' := [.ref n1, .int 1, .int mc]) b_63 d_63_19 rfl ha rfl (by decide) rfl rfl rfl rfl rfl (fun w3 h3 => ?_)
  have hq := h3.2.2 _ _ hn1 (m_ne_oa ha hn1)
  refine m_Rs.ret b_63 (m_rt_vr d_63_22 rfl) ?_
  exact ⟨rfl, n1, hnw, by rw [h3.1, h2.1, e2], (e3.w1n h2 (by rw [hnw]; exact Nat.le_refl _)).w1 h3 (by simp), h3.2.1, hq⟩
def m_chn : List Nat := [10, 15, 22, 33, 49, 73, 109, 163, 244, 366]
theorem m_chn_ok : ∀ N ∈ m_chn, 10 ≤ N ∧ N < 400 ∧ (N < 366 → N + N / 2 ∈ m_chn) := by decide
theorem m_Elq.of {w : List mM} {els : List (Nat × Value)} {n a : Nat} (h : m_Els w els n a) : m_Elq w els n := by
  intro i hi
  rw [Nat.zero_add]
  obtain ⟨b, ci, fs, g1, g2, g3, g4⟩ := h i hi
  exact Or.inr ⟨b, ci, fs, g1, g2, g3⟩
theorem c_addA {l : Launch} {w : List mM} {a r n N : Nat} {mc : Int32} {els : List (Nat × Value)} (ha : m_at w a = some (.inr (2, [.ref r, .int (Int32.ofNat n), .int mc]))) (he : m_at w r = some (.inl (8, N, els))) {b ci : Nat} {gs : List Value} (hb : m_at w b = some (.inr (ci, gs))) (hc : (ci, 8) ∈ m_ass ∨ (ci, 8) ∈ m_asl) (hba : ¬ b = a) (hnN : n < N) (hN : N ∈ m_chn) : m_Rs l M_62 (m_ent M_62 [.ref a, .ref b] w) (fun v w' => v = some (.int 1) ∧ ∃ els', m_at w' a = some (.inr (2, [.ref r, .int (Int32.ofNat (n + 1)), .int (mc + 1)])) ∧ m_at w' r = some (.inl (8, N, els')) ∧ (∀ i, i < n → m_el 8 els' i = m_el 8 els i) ∧ m_el 8 els' n = .ref b ∧ w'.length = w.length ∧ m_Fr w w' [a, r]) 0 0 7 1200 := by
  show m_Rs l M_62 (0, [(0, .ref a), (1, .ref b)], [], w) _ 0 0 7 1200
  obtain ⟨k1, k2, k3⟩ := m_chn_ok N hN
  refine m_Rs.n0 b_62 (x_aload_n d_62_0 rfl) ?_
  refine m_Rs.n0 b_62 (x_dup d_62_1 rfl) ?_
  refine m_Rs.n0 b_62 (x_getf d_62_2 rfl ha rfl) ?_
  refine m_Rs.n0 b_62 (x_iconst (z := 1) d_62_5 (by decide)) ?_
  refine m_Rs.n0 b_62 (x_iadd d_62_6 rfl) ?_
  refine m_Rs.wput (fs' := [.ref r, .int (Int32.ofNat n), .int (mc + 1)]) b_62 d_62_7 rfl ha rfl (by decide) rfl rfl rfl rfl rfl (fun w0 h0 => ?_)
  have hF0 := (m_Fr.refl (w := w) (S := [a, r])).w1 h0 (by simp)
  replace he := h0.2.2 _ _ he (m_ne_oa ha he)
  replace hb := h0.2.2 _ _ hb hba
  replace ha := h0.2.1
  refine m_Rs.n0 b_62 (x_aload_n d_62_10 rfl) ?_
  refine m_Rs.n0 b_62 (x_aload_n d_62_11 rfl) ?_
  refine m_Rs.n0 b_62 (x_aload_n d_62_12 rfl) ?_
  refine m_Rs.n0 b_62 (x_getf d_62_13 rfl ha rfl) ?_
  refine m_Rs.n0 b_62 (x_aload_n d_62_16 rfl) ?_
  refine m_Rs.n0 b_62 (x_getf d_62_17 rfl ha rfl) ?_
  refine m_Rs.mono (m_Rs.callP (c := 0) (s := 0) b_62 (y_cv d_62_20 rfl q_63 (m_isRecv_of rfl ha) (show m_takeI _ _ = some (_, [_, _, _, _], []) from rfl) (by simp only [m_okf, List.all_cons, List.all_nil, Bool.and_true, Bool.and_self, m_okv_i, m_okv_l, m_okv_0, m_okv_t, m_okv_at ha, m_okv_at hb, m_okv_at he]) rfl) (c_add3a ha he hb hc hba hnN (by omega)) rfl (fun v w1 hv => ?_) (by decide) (by decide)) (fun _ _ h => h) (by omega) (by omega) (Nat.le_refl _) (Nat.le_refl _)
  obtain ⟨rfl, g1, g2, g3, g4⟩ := hv
  refine m_Rs.n0 b_62 (x_iconst (z := 1) d_62_23 (by decide)) ?_
  refine m_Rs.ret b_62 (m_rt_ir d_62_24 rfl rfl) ?_
  refine ⟨rfl, _, g3, g4, fun i hi => by rw [m_el_set, if_neg (by omega)], by rw [m_el_set, if_pos rfl], by rw [g1, h0.1], hF0.trans g2 (fun b hb => Or.inl hb)⟩
theorem c_addB {l : Launch} {w : List mM} {a r n : Nat} {mc : Int32} {els : List (Nat × Value)} (ha : m_at w a = some (.inr (2, [.ref r, .int (Int32.ofNat n), .int mc]))) (he : m_at w r = some (.inl (8, n, els))) {b ci : Nat} {gs : List Value} (hb : m_at w b = some (.inr (ci, gs))) (hc : (ci, 8) ∈ m_ass ∨ (ci, 8) ∈ m_asl) (hba : ¬ b = a) (hL : m_Els w els n a) (hN : n ∈ m_chn) : m_Rs l M_62 (m_ent M_62 [.ref a, .ref b] w) (fun v w' => v = some (.int 1) ∧ ∃ els', m_at w' a = some (.inr (2, [.ref (512 + w.length), .int (Int32.ofNat (n + 1)), .int (mc + 1)])) ∧ m_at w' (512 + w.length) = some (.inl (8, n + n / 2, els')) ∧ (∀ i, i < n → m_el 8 els' i = m_el 8 els i) ∧ m_el 8 els' n = .ref b ∧ w'.length = w.length + 1 ∧ m_Fr w w' [a, r]) 1 (n + n / 2) 7 1200 := by
  show m_Rs l M_62 (0, [(0, .ref a), (1, .ref b)], [], w) _ 1 (n + n / 2) 7 1200
  obtain ⟨k1, k2, k3⟩ := m_chn_ok n hN
  refine m_Rs.n0 b_62 (x_aload_n d_62_0 rfl) ?_
  refine m_Rs.n0 b_62 (x_dup d_62_1 rfl) ?_
  refine m_Rs.n0 b_62 (x_getf d_62_2 rfl ha rfl) ?_
  refine m_Rs.n0 b_62 (x_iconst (z := 1) d_62_5 (by decide)) ?_
  refine m_Rs.n0 b_62 (x_iadd d_62_6 rfl) ?_
  refine m_Rs.wput (fs' := [.ref r, .int (Int32.ofNat n), .int (mc + 1)]) b_62 d_62_7 rfl ha rfl (by decide) rfl rfl rfl rfl rfl (fun w0 h0 => ?_)
  have hF0 := (m_Fr.refl (w := w) (S := [a, r])).w1 h0 (by simp)
  replace hL := hL.w1 h0 (Or.inl rfl)
  replace he := h0.2.2 _ _ he (m_ne_oa ha he)
  replace hb := h0.2.2 _ _ hb hba
  replace ha := h0.2.1
  refine m_Rs.n0 b_62 (x_aload_n d_62_10 rfl) ?_
  refine m_Rs.n0 b_62 (x_aload_n d_62_11 rfl) ?_
  refine m_Rs.n0 b_62 (x_aload_n d_62_12 rfl) ?_
  refine m_Rs.n0 b_62 (x_getf d_62_13 rfl ha rfl) ?_
  refine m_Rs.n0 b_62 (x_aload_n d_62_16 rfl) ?_
  refine m_Rs.n0 b_62 (x_getf d_62_17 rfl ha rfl) ?_
  refine m_Rs.mono (m_Rs.callP (c := 0) (s := 0) b_62 (y_cv d_62_20 rfl q_63 (m_isRecv_of rfl ha) (show m_takeI _ _ = some (_, [_, _, _, _], []) from rfl) (by simp only [m_okf, List.all_cons, List.all_nil, Bool.and_true, Bool.and_self, m_okv_i, m_okv_l, m_okv_0, m_okv_t, m_okv_at ha, m_okv_at hb, m_okv_at he]) rfl) (c_add3b ha he hb hc hba (m_Elq.of hL) k1 k2) rfl (fun v w1 hv => ?_) (by decide) (by decide)) (fun _ _ h => h) (by omega) (by omega) (Nat.le_refl _) (Nat.le_refl _)
  obtain ⟨rfl, n1, g0, g1, g2, g3, g4⟩ := hv
  refine m_Rs.n0 b_62 (x_iconst (z := 1) d_62_23 (by decide)) ?_
  refine m_Rs.ret b_62 (m_rt_ir d_62_24 rfl rfl) ?_
  rw [h0.1] at g0 g1
  subst g0
  refine ⟨rfl, _, g3, g4, fun i hi => by rw [m_el_set, if_neg (by omega), m_el_cpl, if_pos (by omega)]; congr 1; omega, by rw [m_el_set, if_pos rfl], g1, hF0.trans g2 (fun b hb => Or.inl (by simp at hb ⊢; exact Or.inl hb))⟩
theorem c_addz {l : Launch} {w : List mM} {a : Nat} {mc : Int32} (ha : m_at w a = some (.inr (2, [.ref 0, .int 0, .int mc]))) {b ci : Nat} {gs : List Value} (hb : m_at w b = some (.inr (ci, gs))) (hc : (ci, 8) ∈ m_ass ∨ (ci, 8) ∈ m_asl) (hba : ¬ b = a) : m_Rs l M_62 (m_ent M_62 [.ref a, .ref b] w) (fun v w' => v = some (.int 1) ∧ ∃ els', m_at w' a = some (.inr (2, [.ref (512 + w.length), .int 1, .int (mc + 1)])) ∧ m_at w' (512 + w.length) = some (.inl (8, 10, els')) ∧ m_el 8 els' 0 = .ref b ∧ w'.length = w.length + 1 ∧ m_Fr w w' [a, 0]) 1 10 7 1200 := by
  show m_Rs l M_62 (0, [(0, .ref a), (1, .ref b)], [], w) _ 1 10 7 1200
  refine m_Rs.n0 b_62 (x_aload_n d_62_0 rfl) ?_
  refine m_Rs.n0 b_62 (x_dup d_62_1 rfl) ?_
  refine m_Rs.n0 b_62 (x_getf d_62_2 rfl ha rfl) ?_
  refine m_Rs.n0 b_62 (x_iconst (z := 1) d_62_5 (by decide)) ?_
  refine m_Rs.n0 b_62 (x_iadd d_62_6 rfl) ?_
  refine m_Rs.wput (fs' := [.ref 0, .int 0, .int (mc + 1)]) b_62 d_62_7 rfl ha rfl (by decide) rfl rfl rfl rfl rfl (fun w0 h0 => ?_)
  have hF0 := (m_Fr.refl (w := w) (S := [a, 0])).w1 h0 (by simp)
  replace hb := h0.2.2 _ _ hb hba
  replace ha := h0.2.1
  refine m_Rs.n0 b_62 (x_aload_n d_62_10 rfl) ?_
  refine m_Rs.n0 b_62 (x_aload_n d_62_11 rfl) ?_
  refine m_Rs.n0 b_62 (x_aload_n d_62_12 rfl) ?_
  refine m_Rs.n0 b_62 (x_getf d_62_13 rfl ha rfl) ?_
  refine m_Rs.n0 b_62 (x_aload_n d_62_16 rfl) ?_
  refine m_Rs.n0 b_62 (x_getf d_62_17 rfl ha rfl) ?_
  refine m_Rs.mono (m_Rs.callP (c := 0) (s := 0) b_62 (y_cv d_62_20 rfl q_63 (m_isRecv_of rfl ha) (show m_takeI _ _ = some (_, [_, _, _, _], []) from rfl) (by simp only [m_okf, List.all_cons, List.all_nil, Bool.and_true, Bool.and_self, m_okv_i, m_okv_l, m_okv_0, m_okv_t, m_okv_at ha, m_okv_at hb, m_okv_z]) rfl) (c_add3c ha hb hc hba) rfl (fun v w1 hv => ?_) (by decide) (by decide)) (fun _ _ h => h) (by omega) (by omega) (Nat.le_refl _) (Nat.le_refl _)
  obtain ⟨rfl, n1, g0, g1, g2, g3, g4⟩ := hv
  refine m_Rs.n0 b_62 (x_iconst (z := 1) d_62_23 (by decide)) ?_
  refine m_Rs.ret b_62 (m_rt_ir d_62_24 rfl rfl) ?_
  rw [h0.1] at g0 g1
  subst g0
  exact ⟨rfl, _, g3, g4, by rw [m_el_set, if_pos rfl], g1, hF0.trans g2 (fun b hb => Or.inl (by simp at hb ⊢; exact Or.inl hb))⟩
