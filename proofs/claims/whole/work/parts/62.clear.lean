/-! ArrayList.clear; lists as lists of addresses. Written by wip/tool/alist5.py. -/
theorem q_154 : m_mt[154]? = some M_154 := by rfl
theorem b_154 : m_bOk M_154 := (m_mt_ok M_154 (List.mem_of_getElem? q_154)).body
theorem d_154_0 : m_dn M_154 0 (.aload_n 0) 1 1 := by decide +kernel
theorem d_154_1 : m_dn M_154 1 (.dup) 1 2 := by decide +kernel
theorem d_154_10 : m_dn M_154 10 (.aload_n 0) 1 11 := by decide +kernel
theorem d_154_11 : m_dn M_154 11 (.getfield 9) 3 14 := by decide +kernel
theorem d_154_14 : m_dn M_154 14 (.astore_n 1) 1 15 := by decide +kernel
theorem d_154_15 : m_dn M_154 15 (.aload_n 0) 1 16 := by decide +kernel
theorem d_154_16 : m_dn M_154 16 (.getfield 48) 3 19 := by decide +kernel
theorem d_154_19 : m_dn M_154 19 (.istore_n 2) 1 20 := by decide +kernel
theorem d_154_2 : m_dn M_154 2 (.getfield 63) 3 5 := by decide +kernel
theorem d_154_20 : m_dn M_154 20 (.aload_n 0) 1 21 := by decide +kernel
theorem d_154_21 : m_dn M_154 21 (.iconst 0) 1 22 := by decide +kernel
theorem d_154_22 : m_dn M_154 22 (.dup_x1) 1 23 := by decide +kernel
theorem d_154_23 : m_dn M_154 23 (.putfield 48) 3 26 := by decide +kernel
theorem d_154_26 : m_dn M_154 26 (.istore_n 3) 1 27 := by decide +kernel
theorem d_154_27 : m_dn M_154 27 (.iload_n 3) 1 28 := by decide +kernel
theorem d_154_28 : m_dn M_154 28 (.iload_n 2) 1 29 := by decide +kernel
theorem d_154_29 : m_dn M_154 29 (.if_icmp .ge 13) 3 32 := by decide +kernel
theorem d_154_32 : m_dn M_154 32 (.aload_n 1) 1 33 := by decide +kernel
theorem d_154_33 : m_dn M_154 33 (.iload_n 3) 1 34 := by decide +kernel
theorem d_154_34 : m_dn M_154 34 (.aconst_null) 1 35 := by decide +kernel
theorem d_154_35 : m_dn M_154 35 (.aastore) 1 36 := by decide +kernel
theorem d_154_36 : m_dn M_154 36 (.iinc 3 1) 3 39 := by decide +kernel
theorem d_154_39 : m_dn M_154 39 (.goto (-12)) 3 42 := by decide +kernel
theorem d_154_42 : m_dn M_154 42 (.return_) 1 43 := by decide +kernel
theorem d_154_5 : m_dn M_154 5 (.iconst 1) 1 6 := by decide +kernel
theorem d_154_6 : m_dn M_154 6 (.iadd) 1 7 := by decide +kernel
theorem d_154_7 : m_dn M_154 7 (.putfield 63) 3 10 := by decide +kernel
theorem l_clear {l : Launch} {w9 : List mM} {a r n N : Nat} {mc : Int32} (hnN : n ≤ N) (hN : N < 2147483648) : ∀ (d e : Nat) (w : List mM) (els : List (Nat × Value)), m_at w a = some (.inr (2, [.ref r, .int 0, .int (mc + 1)])) → m_at w r = some (.inl (8, N, els)) → m_Fr w9 w [a, r] → w.length = w9.length → e + d = n → m_Rs l M_154 (27, [(3, .int (Int32.ofNat e)), (2, .int (Int32.ofNat n)), (1, .ref r), (0, .ref a)], [], w) (fun v w' => v = none ∧ m_Fr w9 w' [a, r] ∧ w'.length = w9.length ∧ m_at w' a = some (.inr (2, [.ref r, .int 0, .int (mc + 1)])) ∧ ∃ els', m_at w' r = some (.inl (8, N, els'))) 0 0 1 100 := by
  intro d
  induction d with
  | zero =>
    intro e w els ha he hF hlen hd
    refine m_Rs.n0 b_154 (x_iload_n d_154_27 rfl) ?_
    refine m_Rs.n0 b_154 (x_iload_n d_154_28 rfl) ?_
    refine m_Rs.n0 b_154 (x_ict d_154_29 rfl (m_c2n (a := e) (b := n) (by omega) (by omega) (decide_eq_true (p := n ≤ e) (by omega)))) ?_
    refine m_Rs.ret b_154 (m_rt_vr d_154_42 rfl) ?_
    exact ⟨rfl, hF, hlen, ha, _, he⟩
  | succ d ih =>
    intro e w els ha he hF hlen hd
    refine m_Rs.n0 b_154 (x_iload_n d_154_27 rfl) ?_
    refine m_Rs.n0 b_154 (x_iload_n d_154_28 rfl) ?_
    refine m_Rs.n0 b_154 (x_icf d_154_29 rfl (m_c2n (a := e) (b := n) (by omega) (by omega) (decide_eq_false (p := n ≤ e) (by omega)))) ?_
    refine m_Rs.n0 b_154 (x_aload_n d_154_32 rfl) ?_
    refine m_Rs.n0 b_154 (x_iload_n d_154_33 rfl) ?_
    refine m_Rs.n0 b_154 (x_null d_154_34) ?_
    refine m_Rs.wast0 (j := e) b_154 d_154_35 he rfl rfl (m_n_neg (by omega)) (m_n_cl (by omega)) (by omega) (fun w2 h2 => ?_)
    replace ha := h2.2.2 _ _ ha (m_ne_ao he ha)
    replace hF := hF.w1 h2 (by simp)
    replace hlen := h2.1.trans hlen
    replace he := h2.2.1
    refine m_Rs.n0 b_154 (x_iinc (z := Int32.ofNat (e + 1)) d_154_36 rfl rfl (m_n_inc _) (show m_put1 _ _ _ = [(3, _), (2, _), (1, _), (0, _)] from rfl)) ?_
    refine m_Rs.n0 b_154 (x_goto d_154_39 rfl) ?_
    exact ih (e + 1) w2 _ ha he hF hlen (by omega)
theorem c_clear {l : Launch} {w : List mM} {a r n N : Nat} {mc : Int32} {els : List (Nat × Value)} (ha : m_at w a = some (.inr (2, [.ref r, .int (Int32.ofNat n), .int mc]))) (he : m_at w r = some (.inl (8, N, els))) (hnN : n ≤ N) (hN : N < 2147483648) : m_Rs l M_154 (m_ent M_154 [.ref a] w) (fun v w' => v = none ∧ m_Fr w w' [a, r] ∧ w'.length = w.length ∧ m_at w' a = some (.inr (2, [.ref r, .int 0, .int (mc + 1)])) ∧ ∃ els', m_at w' r = some (.inl (8, N, els'))) 0 0 1 100 := by
  show m_Rs l M_154 (0, [(0, .ref a)], [], w) _ 0 0 1 100
  have hF : m_Fr w w [a, r] := m_Fr.refl
  have hlen : w.length = w.length := rfl
  refine m_Rs.n0 b_154 (x_aload_n d_154_0 rfl) ?_
  refine m_Rs.n0 b_154 (x_dup d_154_1 rfl) ?_
  refine m_Rs.n0 b_154 (x_getf d_154_2 rfl ha rfl) ?_
  refine m_Rs.n0 b_154 (x_iconst (z := 1) d_154_5 (by decide)) ?_
  refine m_Rs.n0 b_154 (x_iadd d_154_6 rfl) ?_
  refine m_Rs.wput (fs' := [.ref r, .int (Int32.ofNat n), .int (mc + 1)]) b_154 d_154_7 rfl ha rfl (by decide) rfl rfl rfl rfl rfl (fun w1 h1 => ?_)
  replace he := h1.2.2 _ _ he (m_ne_oa ha he)
  replace hF := hF.w1 h1 (by simp)
  replace hlen := h1.1.trans hlen
  replace ha := h1.2.1
  refine m_Rs.n0 b_154 (x_aload_n d_154_10 rfl) ?_
  refine m_Rs.n0 b_154 (x_getf d_154_11 rfl ha rfl) ?_
  refine m_Rs.n0 b_154 (x_astore_n d_154_14 rfl (show m_put1 _ _ _ = [(1, _), (0, _)] from rfl)) ?_
  refine m_Rs.n0 b_154 (x_aload_n d_154_15 rfl) ?_
  refine m_Rs.n0 b_154 (x_getf d_154_16 rfl ha rfl) ?_
  refine m_Rs.n0 b_154 (x_istore_n d_154_19 rfl (show m_put1 _ _ _ = [(2, _), (1, _), (0, _)] from rfl)) ?_
  refine m_Rs.n0 b_154 (x_aload_n d_154_20 rfl) ?_
  refine m_Rs.n0 b_154 (x_iconst (z := 0) d_154_21 (by decide)) ?_
  refine m_Rs.n0 b_154 (x_dup_x1 d_154_22 rfl rfl) ?_
  refine m_Rs.wput (fs' := [.ref r, .int 0, .int (mc + 1)]) b_154 d_154_23 rfl ha rfl (by decide) rfl rfl rfl rfl rfl (fun w2 h1 => ?_)
  replace he := h1.2.2 _ _ he (m_ne_oa ha he)
  replace hF := hF.w1 h1 (by simp)
  replace hlen := h1.1.trans hlen
  replace ha := h1.2.1
  refine m_Rs.n0 b_154 (x_istore_n d_154_26 rfl (show m_put1 _ _ _ = [(3, _), (2, _), (1, _), (0, _)] from rfl)) ?_
  exact l_clear hnN hN n 0 w2 _ ha he hF hlen (by omega)
theorem c_clearz {l : Launch} {w : List mM} {a : Nat} {mc : Int32} (ha : m_at w a = some (.inr (2, [.ref 0, .int 0, .int mc]))) : m_Rs l M_154 (m_ent M_154 [.ref a] w) (fun v w' => v = none ∧ m_Fr w w' [a, 0] ∧ w'.length = w.length ∧ m_at w' a = some (.inr (2, [.ref 0, .int 0, .int (mc + 1)]))) 0 0 1 100 := by
  show m_Rs l M_154 (0, [(0, .ref a)], [], w) _ 0 0 1 100
  have hF : m_Fr w w [a, 0] := m_Fr.refl
  have hlen : w.length = w.length := rfl
  refine m_Rs.n0 b_154 (x_aload_n d_154_0 rfl) ?_
  refine m_Rs.n0 b_154 (x_dup d_154_1 rfl) ?_
  refine m_Rs.n0 b_154 (x_getf d_154_2 rfl ha rfl) ?_
  refine m_Rs.n0 b_154 (x_iconst (z := 1) d_154_5 (by decide)) ?_
  refine m_Rs.n0 b_154 (x_iadd d_154_6 rfl) ?_
  refine m_Rs.wput (fs' := [.ref 0, .int 0, .int (mc + 1)]) b_154 d_154_7 rfl ha rfl (by decide) rfl rfl rfl rfl rfl (fun w1 h1 => ?_)
  replace hF := hF.w1 h1 (by simp)
  replace hlen := h1.1.trans hlen
  replace ha := h1.2.1
  refine m_Rs.n0 b_154 (x_aload_n d_154_10 rfl) ?_
  refine m_Rs.n0 b_154 (x_getf d_154_11 rfl ha rfl) ?_
  refine m_Rs.n0 b_154 (x_astore_n d_154_14 rfl (show m_put1 _ _ _ = [(1, _), (0, _)] from rfl)) ?_
  refine m_Rs.n0 b_154 (x_aload_n d_154_15 rfl) ?_
  refine m_Rs.n0 b_154 (x_getf d_154_16 rfl ha rfl) ?_
  refine m_Rs.n0 b_154 (x_istore_n d_154_19 rfl (show m_put1 _ _ _ = [(2, _), (1, _), (0, _)] from rfl)) ?_
  refine m_Rs.n0 b_154 (x_aload_n d_154_20 rfl) ?_
  refine m_Rs.n0 b_154 (x_iconst (z := 0) d_154_21 (by decide)) ?_
  refine m_Rs.n0 b_154 (x_dup_x1 d_154_22 rfl rfl) ?_
  refine m_Rs.wput (fs' := [.ref 0, .int 0, .int (mc + 1)]) b_154 d_154_23 rfl ha rfl (by decide) rfl rfl rfl rfl rfl (fun w2 h1 => ?_)
  replace hF := hF.w1 h1 (by simp)
  replace hlen := h1.1.trans hlen
  replace ha := h1.2.1
  refine m_Rs.n0 b_154 (x_istore_n d_154_26 rfl (show m_put1 _ _ _ = [(3, _), (2, _), (1, _), (0, _)] from rfl)) ?_
  refine m_Rs.n0 b_154 (x_iload_n d_154_27 rfl) ?_
  refine m_Rs.n0 b_154 (x_iload_n d_154_28 rfl) ?_
  refine m_Rs.n0 b_154 (x_ict d_154_29 rfl (by decide)) ?_
  refine m_Rs.ret b_154 (m_rt_vr d_154_42 rfl) ?_
  exact ⟨rfl, hF, hlen, ha⟩
/-- a list at a holds the addresses xs, in its array of n places at r (0: none yet) -/
def m_AL (w : List mM) (a r n : Nat) (xs : List Nat) : Prop := ∃ mc : Int32, m_at w a = some (.inr (2, [.ref r, .int (Int32.ofNat xs.length), .int mc])) ∧ ((r = 0 ∧ n = 0 ∧ xs = []) ∨ ∃ els, m_at w r = some (.inl (8, n, els)) ∧ n ∈ m_chn ∧ xs.length ≤ n ∧ ∀ i b, xs[i]? = some b → m_el 8 els i = .ref b)
/-- what the list holds are objects of classes that a list may hold, none of them the list -/
def m_ALo (w : List mM) (a : Nat) (xs : List Nat) : Prop := ∀ b ∈ xs, ∃ ci fs, m_at w b = some (.inr (ci, fs)) ∧ (ci, 8) ∈ m_asl ∧ ¬ b = a
theorem m_ALo.els {w : List mM} {a : Nat} {xs : List Nat} {els : List (Nat × Value)} (h : m_ALo w a xs) (he : ∀ i b, xs[i]? = some b → m_el 8 els i = .ref b) : m_Els w els xs.length a := by
  intro i hi
  obtain ⟨ci, fs, g1, g2, g3⟩ := h xs[i] (List.getElem_mem hi)
  exact ⟨xs[i], ci, fs, he i _ (List.getElem?_eq_getElem hi), g1, g2, g3⟩
section
variable {l : Launch} {w : List mM} {a r n : Nat} {xs : List Nat}
theorem A_size (h : m_AL w a r n xs) : m_Rs l M_17 (m_ent M_17 [.ref a] w) (fun v w' => v = some (.int (Int32.ofNat xs.length)) ∧ w' = w) 0 0 0 0 := by
  obtain ⟨mc, ha, -⟩ := h
  exact c_size ha
theorem m_AL_len (h : m_AL w a r n xs) : xs.length < 400 := by
  obtain ⟨mc, ha, ⟨-, -, rfl⟩ | ⟨els, -, hN, hl, -⟩⟩ := h
  · decide
  · have := (m_chn_ok n hN).2.1
    omega
theorem A_empty (h : m_AL w a r n xs) : m_Rs l M_101 (m_ent M_101 [.ref a] w) (fun v w' => v = some (.int (if xs = [] then 1 else 0)) ∧ w' = w) 0 0 0 0 := by
  have hl := m_AL_len h
  obtain ⟨mc, ha, -⟩ := h
  by_cases h0 : xs = []
  · rw [if_pos h0]
    exact c_empty1 ha (by rw [h0]; rfl)
  · rw [if_neg h0]
    exact c_empty0 ha (fun e => h0 (List.eq_nil_of_length_eq_zero e)) (by omega)
theorem A_get (h : m_AL w a r n xs) {i b : Nat} (hb : xs[i]? = some b) : m_Rs l M_77 (m_ent M_77 [.ref a, .int (Int32.ofNat i)] w) (fun v w' => v = some (.ref b) ∧ w' = w) 0 0 2 200 := by
  have hi : i < xs.length := (List.getElem?_eq_some_iff.mp hb).1
  obtain ⟨mc, ha, ⟨-, -, rfl⟩ | ⟨els, he, hN, hl, hx⟩⟩ := h
  · cases hi
  · have := (m_chn_ok n hN).2.1
    exact c_get ha he hi hl (by omega) (hx i b hb)
/-- the room of the array behind one more -/
def l_cap (n k : Nat) : Nat := if k < n then n else if n = 0 then 10 else n + n / 2
theorem A_add (h : m_AL w a r n xs) (ho : m_ALo w a xs) (h366 : xs.length < 366) {b ci : Nat} {gs : List Value} (hb : m_at w b = some (.inr (ci, gs))) (hc : (ci, 8) ∈ m_asl) (hba : ¬ b = a) : m_Rs l M_62 (m_ent M_62 [.ref a, .ref b] w) (fun v w' => v = some (.int 1) ∧ m_AL w' a (if xs.length < n then r else 512 + w.length) (l_cap n xs.length) (xs ++ [b]) ∧ w'.length = w.length + (if xs.length < n then 0 else 1) ∧ m_Fr w w' [a, r]) (if xs.length < n then 0 else 1) (if xs.length < n then 0 else l_cap n xs.length) 7 1200 := by
  obtain ⟨mc, ha, ⟨rfl, rfl, rfl⟩ | ⟨els, he, hN, hl, hx⟩⟩ := h
  · refine (c_addz ha hb (Or.inr hc) hba).mono (fun v w' g => ?_) (Nat.le_refl _) (Nat.le_refl _) (Nat.le_refl _) (Nat.le_refl _)
    obtain ⟨g0, els', g1, g2, g5, g7, g8⟩ := g
    refine ⟨g0, ⟨mc + 1, g1, Or.inr ⟨els', g2, by decide, Nat.le_of_ble_eq_true rfl, fun i c hi => ?_⟩⟩, g7, g8⟩
    match i, hi with
    | 0, hi => cases hi; exact g5
    | i + 1, hi => cases hi
  · have fin : ∀ (els' : List (Nat × Value)), (∀ i, i < xs.length → m_el 8 els' i = m_el 8 els i) → m_el 8 els' xs.length = .ref b → ∀ i c, (xs ++ [b])[i]? = some c → m_el 8 els' i = .ref c := by
      intro els' g5 g6 i c hi
      by_cases h1 : i < xs.length
      · rw [List.getElem?_append_left h1] at hi
        rw [g5 i h1]
        exact hx i c hi
      · have h2 : i = xs.length := by
          have := (List.getElem?_eq_some_iff.mp hi).1
          rw [List.length_append] at this
          simp at this
          omega
        subst h2
        rw [List.getElem?_append_right (Nat.le_refl _), Nat.sub_self] at hi
        cases hi
        exact g6
    have hn := m_chn_ok n hN
    by_cases h9 : xs.length < n
    · simp only [l_cap, if_pos h9]
      refine (c_addA ha he hb (Or.inr hc) hba h9 hN).mono (fun v w' g => ?_) (Nat.le_refl _) (Nat.le_refl _) (Nat.le_refl _) (Nat.le_refl _)
      obtain ⟨g0, els', g1, g2, g5, g6, g7, g8⟩ := g
      exact ⟨g0, ⟨mc + 1, by rw [List.length_append]; exact g1, Or.inr ⟨els', g2, hN, by rw [List.length_append]; exact h9, fin els' g5 g6⟩⟩, g7, g8⟩
    · simp only [l_cap, if_neg h9]
      have e9 : xs.length = n := by omega
      subst e9
      rw [if_neg (by omega)]
      refine (c_addB ha he hb (Or.inr hc) hba (ho.els hx) hN).mono (fun v w' g => ?_) (Nat.le_refl _) (Nat.le_refl _) (Nat.le_refl _) (Nat.le_refl _)
      obtain ⟨g0, els', g1, g2, g5, g6, g7, g8⟩ := g
      exact ⟨g0, ⟨mc + 1, by rw [List.length_append]; exact g1, Or.inr ⟨els', g2, hn.2.2 h366, by rw [List.length_append]; show xs.length + 1 ≤ _; omega, fin els' g5 g6⟩⟩, g7, g8⟩
theorem A_rem (h : m_AL w a r n xs) (ho : m_ALo w a xs) {i b : Nat} (hb : xs[i]? = some b) : m_Rs l M_95 (m_ent M_95 [.ref a, .int (Int32.ofNat i)] w) (fun v w' => v = some (.ref b) ∧ m_AL w' a r n (xs.eraseIdx i) ∧ w'.length = w.length ∧ m_Fr w w' [a, r]) 0 0 3 400 := by
  have hi : i < xs.length := (List.getElem?_eq_some_iff.mp hb).1
  obtain ⟨mc, ha, ⟨-, -, rfl⟩ | ⟨els, he, hN, hl, hx⟩⟩ := h
  · cases hi
  · have hN2 := (m_chn_ok n hN).2.1
    refine (c_rem ha he (ho.els hx) hi hl (by omega) (hx i b hb)).mono (fun v w' g => ?_) (Nat.le_refl _) (Nat.le_refl _) (Nat.le_refl _) (Nat.le_refl _)
    obtain ⟨g0, g1, g2, els', g3, g4⟩ := g
    have hlen : (xs.eraseIdx i).length = xs.length - 1 := List.length_eraseIdx_of_lt hi
    refine ⟨g0, ⟨mc + 1, by rw [hlen]; exact g2, Or.inr ⟨els', g3, hN, by rw [hlen]; omega, fun j c hj => ?_⟩⟩, g1.2, g1.1⟩
    have hj2 : j < xs.length - 1 := by
      have := (List.getElem?_eq_some_iff.mp hj).1
      omega
    rw [g4 j hj2]
    rw [List.getElem?_eraseIdx] at hj
    by_cases h9 : j < i
    · rw [if_pos h9] at hj ⊢
      exact hx j c hj
    · rw [if_neg h9] at hj ⊢
      exact hx (j + 1) c hj
theorem A_clear (h : m_AL w a r n xs) : m_Rs l M_154 (m_ent M_154 [.ref a] w) (fun v w' => v = none ∧ m_AL w' a r n [] ∧ w'.length = w.length ∧ m_Fr w w' [a, r]) 0 0 1 100 := by
  obtain ⟨mc, ha, ⟨rfl, rfl, rfl⟩ | ⟨els, he, hN, hl, hx⟩⟩ := h
  · refine (c_clearz ha).mono (fun v w' g => ?_) (Nat.le_refl _) (Nat.le_refl _) (Nat.le_refl _) (Nat.le_refl _)
    exact ⟨g.1, ⟨mc + 1, g.2.2.2, Or.inl ⟨rfl, rfl, rfl⟩⟩, g.2.2.1, g.2.1⟩
  · have hN2 := (m_chn_ok n hN).2.1
    refine (c_clear ha he hl (by omega)).mono (fun v w' g => ?_) (Nat.le_refl _) (Nat.le_refl _) (Nat.le_refl _) (Nat.le_refl _)
    obtain ⟨g0, g1, g2, g3, els', g4⟩ := g
    exact ⟨g0, ⟨mc + 1, g3, Or.inr ⟨els', g4, hN, Nat.zero_le _, fun i b hi => by cases hi⟩⟩, g2, g1⟩
end
