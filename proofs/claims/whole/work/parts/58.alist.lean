/-! Arrays.copyOf; ArrayList.add, grow, clear: contracts. Written by wip/tool/alist2.py. -/
theorem q_69 : m_mt[69]? = some M_69 := by rfl
theorem q_68 : m_mt[68]? = some M_68 := by rfl
theorem b_69 : m_bOk M_69 := (m_mt_ok M_69 (List.mem_of_getElem? q_69)).body
theorem b_68 : m_bOk M_68 := (m_mt_ok M_68 (List.mem_of_getElem? q_68)).body
theorem d_68_0 : m_dn M_68 0 (.aload_n 0) 1 1 := by decide +kernel
theorem d_68_1 : m_dn M_68 1 (.iload_n 1) 1 2 := by decide +kernel
theorem d_68_2 : m_dn M_68 2 (.aload_n 0) 1 3 := by decide +kernel
theorem d_68_3 : m_dn M_68 3 (.invokevirtual 86) 3 6 := by decide +kernel
theorem d_68_6 : m_dn M_68 6 (.invokestatic 300) 3 9 := by decide +kernel
theorem d_68_9 : m_dn M_68 9 (.areturn) 1 10 := by decide +kernel
theorem d_69_0 : m_dn M_69 0 (.aload_n 2) 1 1 := by decide +kernel
theorem d_69_1 : m_dn M_69 1 (.ldc 110) 2 3 := by decide +kernel
theorem d_69_10 : m_dn M_69 10 (.goto 14) 3 13 := by decide +kernel
theorem d_69_24 : m_dn M_69 24 (.astore_n 3) 1 25 := by decide +kernel
theorem d_69_25 : m_dn M_69 25 (.aload_n 0) 1 26 := by decide +kernel
theorem d_69_26 : m_dn M_69 26 (.iconst 0) 1 27 := by decide +kernel
theorem d_69_27 : m_dn M_69 27 (.aload_n 3) 1 28 := by decide +kernel
theorem d_69_28 : m_dn M_69 28 (.iconst 0) 1 29 := by decide +kernel
theorem d_69_29 : m_dn M_69 29 (.aload_n 0) 1 30 := by decide +kernel
theorem d_69_3 : m_dn M_69 3 (.if_acmp .ne 10) 3 6 := by decide +kernel
theorem d_69_30 : m_dn M_69 30 (.arraylength) 1 31 := by decide +kernel
theorem d_69_31 : m_dn M_69 31 (.iload_n 1) 1 32 := by decide +kernel
theorem d_69_32 : m_dn M_69 32 (.invokestatic 304) 3 35 := by decide +kernel
theorem d_69_35 : m_dn M_69 35 (.invokestatic 150) 3 38 := by decide +kernel
theorem d_69_38 : m_dn M_69 38 (.aload_n 3) 1 39 := by decide +kernel
theorem d_69_39 : m_dn M_69 39 (.areturn) 1 40 := by decide +kernel
theorem d_69_6 : m_dn M_69 6 (.iload_n 1) 1 7 := by decide +kernel
theorem d_69_7 : m_dn M_69 7 (.anewarray 2) 3 10 := by decide +kernel
theorem m_min_n {N M : Nat} (h : N ≤ M) (hM : M < 2147483648) (hN : N < 2147483648) : (if Int32.ofNat M < Int32.ofNat N then Int32.ofNat M else Int32.ofNat N) = Int32.ofNat N := by
  rw [if_neg (by rw [m_n_lt hM hN]; omega)]
/-- what stands in an array: null, or objects that a list may hold -/
def m_Elq (w : List mM) (els : List (Nat × Value)) (n : Nat) : Prop := ∀ i, i < n → m_el 8 els (0 + i) = .null ∨ ∃ b ci fs, m_el 8 els (0 + i) = .ref b ∧ m_at w b = some (.inr (ci, fs)) ∧ (ci, 8) ∈ m_asl
theorem m_Elq.wa {w w1 : List mM} {els : List (Nat × Value)} {n a : Nat} {c : mM} (h : m_Elq w els n) (h1 : m_WA w w1 a c) : m_Elq w1 els n := by
  intro i hi
  rcases h i hi with g | ⟨b, ci, fs, g1, g2, g3⟩
  · exact Or.inl g
  · exact Or.inr ⟨b, ci, fs, g1, h1.2.2.2 b _ g2, g3⟩
theorem m_Elq.w1 {w w1 : List mM} {els : List (Nat × Value)} {n x : Nat} {c : mM} (h : m_Elq w els n) (h1 : m_W1 w w1 x c) (hx : ∀ b, (∃ i, m_el 8 els i = .ref b) → ¬ b = x) : m_Elq w1 els n := by
  intro i hi
  rcases h i hi with g | ⟨b, ci, fs, g1, g2, g3⟩
  · exact Or.inl g
  · exact Or.inr ⟨b, ci, fs, g1, h1.2.2 b _ g2 (hx b ⟨_, g1⟩), g3⟩
theorem c_cp3 {l : Launch} {w : List mM} {r N M : Nat} {els : List (Nat × Value)} (he : m_at w r = some (.inl (8, N, els))) (hL : m_Elq w els N) (hNM : N ≤ M) (hM : M ≤ 65536) : m_Rs l M_69 (m_ent M_69 [.ref r, .int (Int32.ofNat M), .retAddr 1] w) (fun v w' => ∃ n1, v = some (.ref n1) ∧ n1 = 512 + w.length ∧ w'.length = w.length + 1 ∧ m_Fr w w' [] ∧ m_at w' n1 = some (.inl (8, M, m_cpl 8 els [] 0 0 N))) (1 + 0) (M + 0) 2 200 := by
  show m_Rs l M_69 (0, [(0, .ref r), (1, .int (Int32.ofNat M)), (2, .retAddr 1)], [], w) _ (1 + 0) (M + 0) 2 200
  refine m_Rs.n0 b_69 (x_aload_nt d_69_0 rfl) ?_
  refine m_Rs.ldcM b_69 d_69_1 (m_gi4 37 rfl rfl) ?_
  refine m_Rs.acmpM b_69 d_69_3 rfl ?_
  refine m_Rs.n0 b_69 (x_iload_n d_69_6 rfl) ?_
  refine m_Rs.walloc (c := 0) (s := 0) b_69 (x_anew (N := M) d_69_7 rfl (m_n_neg (by omega)) (m_n_cl (by omega)) (by omega) (by simp only [m_okf, List.all_cons, List.all_nil, Bool.and_true, Bool.and_self, m_okv_i, m_okv_l, m_okv_0, m_okv_t, m_okv_at he])) (fun w1 n1 h1 => ?_)
  have hF := m_Fr.wa (m_Fr.refl (w := w) (S := [])) h1
  replace hL := hL.wa h1
  replace he := h1.2.2.2 _ _ he
  have hn := h1.2.2.1
  refine m_Rs.n0 b_69 (x_goto d_69_10 rfl) ?_
  refine m_Rs.n0 b_69 (x_astore_n d_69_24 rfl (show m_put1 _ _ _ = [(3, _), (0, _), (1, _), (2, _)] from rfl)) ?_
  refine m_Rs.n0 b_69 (x_aload_n d_69_25 rfl) ?_
  refine m_Rs.n0 b_69 (x_iconst (z := 0) d_69_26 (by decide)) ?_
  refine m_Rs.n0 b_69 (x_aload_n d_69_27 rfl) ?_
  refine m_Rs.n0 b_69 (x_iconst (z := 0) d_69_28 (by decide)) ?_
  refine m_Rs.n0 b_69 (x_aload_n d_69_29 rfl) ?_
  refine m_Rs.n0 b_69 (x_alen d_69_30 he rfl rfl) ?_
  refine m_Rs.n0 b_69 (x_iload_n d_69_31 rfl) ?_
  refine m_Rs.nz b_69 (x_min (z := Int32.ofNat N) d_69_32 rfl (Nat.le_of_ble_eq_true rfl) (m_min_n (by omega) (by omega) (by omega))) ?_ (by decide) (by decide)
  refine m_Rs.wcpq (sn := 0) (dn := 0) (nn := N) b_69 d_69_35 (m_gi4 41 rfl rfl) he hn (by decide) (by decide) (m_n_neg (by omega)) (by decide) (by decide) (m_n_cl (by omega)) (by omega) (by omega) hL (by decide) (fun w2 h2 => ?_) (by decide) (by decide)
  refine m_Rs.n0 b_69 (x_aload_n d_69_38 rfl) ?_
  refine m_Rs.ret b_69 (m_rt_aa d_69_39 rfl) ?_
  exact ⟨n1, rfl, h1.1, by rw [h2.1, h1.2.1], hF.w1n h2 (by rw [h1.1]; exact Nat.le_refl _), h2.2.1⟩
theorem c_cp2 {l : Launch} {w : List mM} {r N M : Nat} {els : List (Nat × Value)} (he : m_at w r = some (.inl (8, N, els))) (hL : m_Elq w els N) (hNM : N ≤ M) (hM : M ≤ 65536) : m_Rs l M_68 (m_ent M_68 [.ref r, .int (Int32.ofNat M)] w) (fun v w' => ∃ n1, v = some (.ref n1) ∧ n1 = 512 + w.length ∧ w'.length = w.length + 1 ∧ m_Fr w w' [] ∧ m_at w' n1 = some (.inl (8, M, m_cpl 8 els [] 0 0 N))) (1 + 0 + 0) (M + 0 + 0) 3 400 := by
  show m_Rs l M_68 (0, [(0, .ref r), (1, .int (Int32.ofNat M))], [], w) _ (1 + 0 + 0) (M + 0 + 0) 3 400
  refine m_Rs.n0 b_68 (x_aload_n d_68_0 rfl) ?_
  refine m_Rs.n0 b_68 (x_iload_n d_68_1 rfl) ?_
  refine m_Rs.n0 b_68 (x_aload_n d_68_2 rfl) ?_
  refine m_Rs.getC b_68 d_68_3 (m_gi4 10 rfl rfl) he (Nat.le_of_ble_eq_true rfl) ?_ (by decide) (by decide)
  refine m_Rs.mono (m_Rs.callP (c := 0) (s := 0) b_68 (y_cs d_68_6 rfl q_69 (show m_takeS _ _ = some (_, [_, _, _], []) from rfl) (by simp only [m_okf, List.all_cons, List.all_nil, Bool.and_true, Bool.and_self, m_okv_i, m_okv_l, m_okv_0, m_okv_t, m_okv_at he]) rfl) (c_cp3 he hL hNM hM) rfl (fun v w1 hv => ?_) (by decide) (by decide)) (fun _ _ h => h) (Nat.le_refl _) (Nat.le_refl _) (Nat.le_refl _) (Nat.le_refl _)
  obtain ⟨n1, rfl, g1, g2, g3, g4⟩ := hv
  refine m_Rs.ret b_68 (m_rt_aa d_68_9 rfl) ?_
  exact ⟨n1, rfl, g1, g2, g3, g4⟩
