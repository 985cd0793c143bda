/-! Fetches that are out; a request waits behind one. -/
theorem nodup_len : ∀ (m lo : Nat) (L : List Nat), L.Nodup → (∀ x ∈ L, lo ≤ x ∧ x < lo + m) → L.length ≤ m := by
  intro m
  induction m with
  | zero =>
    intro lo L _ h
    cases L with
    | nil => exact Nat.le_refl _
    | cons x L => have := h x List.mem_cons_self; omega
  | succ m ih =>
    intro lo L hn h
    have h1 := ih lo (L.erase (lo + m)) (hn.erase _) (fun x hx => by
      have a := (List.Nodup.mem_erase_iff hn).mp hx
      have b := h x a.2
      have c : ¬ x = lo + m := a.1
      omega)
    have h2 : L.length ≤ (L.erase (lo + m)).length + 1 := by
      rw [List.length_erase]
      split <;> omega
    omega
section
variable {T : tT} {S : mS} {Z : Nat → List Fz} {C : Nat → List Nat} {F n : Nat}
theorem isFe.num {z : Fz} {L : List Nat} (h : isFe T S n z L) : rd S 611 z.2.1 = Int32.ofNat (nmb z) ∧ nmb z < 1000000000 := by
  obtain ⟨_, _, _, _, _, _, _, _, _, h1, ⟨k, k1, k2⟩, _⟩ := h
  have : nmb z = k := by unfold nmb; rw [k2]; exact m_n_cl (by omega)
  rw [h1, this, ← k2]
  exact ⟨rfl, by omega⟩
theorem RF.inj (h : RF T S Z C) (h1 : 1 ≤ n) (h2 : n < 7) : ((Z n).map (fun z => z.2.1)).Nodup := by
  obtain ⟨_, a2, a3, _⟩ := h.1 n h1 h2
  refine List.pairwise_map.mpr ?_
  have : (Z n).Pairwise (fun a b => a ∈ Z n ∧ b ∈ Z n ∧ nmb a < nmb b) := by
    refine List.Pairwise.imp_of_mem ?_ a3
    intro a b ha hb hab
    exact ⟨ha, hb, hab⟩
  refine this.imp ?_
  rintro a b ⟨ha, hb, hab⟩ e
  have na := (a2 a ha).num
  have nb := (a2 b hb).num
  rw [e, nb.1] at na
  have := congrArg Int32.toNatClampNeg na.1
  rw [m_n_cl (by omega), m_n_cl (by omega)] at this
  omega
theorem RF.len (h : RF T S Z C) (h1 : 1 ≤ n) (h2 : n < 7) : (Z n).length ≤ 128 := by
  have := nodup_len 128 (128 * n) ((Z n).map (fun z => z.2.1)) (h.inj h1 h2) (fun x hx => by
    obtain ⟨z, hz, e⟩ := List.mem_map.mp hx
    obtain ⟨_, ⟨p, v, p1, p2, p3, _⟩, _⟩ := (h.1 n h1 h2).2.1 z hz
    omega)
  rw [List.length_map] at this
  exact this
theorem RF.same (h : RF T S Z C) (h1 : 1 ≤ n) (h2 : n < 7) {a b : Fz} (ha : a ∈ Z n) (hb : b ∈ Z n) (e : a.2.1 = b.2.1) : a = b := by
  have hn := h.inj h1 h2
  obtain ⟨i, hi⟩ := List.mem_iff_getElem?.mp ha
  obtain ⟨j, hj⟩ := List.mem_iff_getElem?.mp hb
  have hij : i = j := by
    obtain ⟨i1, i2⟩ := List.getElem?_eq_some_iff.mp hi
    obtain ⟨j1, j2⟩ := List.getElem?_eq_some_iff.mp hj
    have : ((Z n).map (fun z => z.2.1))[i]'(by rw [List.length_map]; exact i1) = ((Z n).map (fun z => z.2.1))[j]'(by rw [List.length_map]; exact j1) := by
      rw [List.getElem_map, List.getElem_map, i2, j2, e]
    exact (List.getElem_inj hn).mp this
  rw [hij, hj] at hi
  cases hi
  rfl
theorem c_fetchOf_loop (h : RF T S Z C) (h1 : 1 ≤ n) (h2 : n < 7) (hnode : T.1 (527 + 8 * n) = some (nodeC S n)) {p v : Nat} (hp : p < 32) (hv : v < 4) : ∀ (m i : Nat), i + m = (Z n).length → (∀ j z, j < i → (Z n)[j]? = some z → ¬ z.2.1 = 128 * n + (4 * p + v)) → ∀ f, m < f → ((∀ z ∈ Z n, ¬ z.2.1 = 128 * n + (4 * p + v)) ∧ D_c_Node_fetchOf_2 F f (527 + 8 * n) (Int32.ofNat p) (Int32.ofNat v) (Int32.ofNat i) T = some none) ∨ ∃ z ∈ Z n, z.2.1 = 128 * n + (4 * p + v) ∧ D_c_Node_fetchOf_2 F f (527 + 8 * n) (Int32.ofNat p) (Int32.ofNat v) (Int32.ofNat i) T = some (some z.1) := by
  obtain ⟨⟨cp, l1⟩, a2, _⟩ := h.1 n h1 h2
  have len := h.len h1 h2
  have e1 : tgr T (527 + 8 * n) 4 2 = some (some (531 + 8 * n)) := tgr_o (x := some (531 + 8 * n)) hnode rfl
  have e2 : tls T (531 + 8 * n) = some (Int32.ofNat (Z n).length) := by simp only [tls, tl, l1, Option.map_some, List.length_map]
  intro m
  induction m with
  | zero =>
    intro i hi hno f hf
    obtain ⟨f, rfl⟩ : ∃ g, f = g + 1 := ⟨f - 1, by omega⟩
    left
    refine ⟨fun z hz => ?_, ?_⟩
    · obtain ⟨j, hj⟩ := List.mem_iff_getElem?.mp hz
      exact hno j z (by have := (List.getElem?_eq_some_iff.mp hj).1; omega) hj
    · unfold D_c_Node_fetchOf_2
      simp only [e1, e2, Option.bind_some, ge_n (show i < 2147483648 by omega) (show (Z n).length < 2147483648 by omega), decide_eq_true (show (Z n).length ≤ i by omega), cond_true]
  | succ m ih =>
    intro i hi hno f hf
    obtain ⟨f, rfl⟩ : ∃ g, f = g + 1 := ⟨f - 1, by omega⟩
    have hil : i < (Z n).length := by omega
    obtain ⟨z, hz⟩ : ∃ z, (Z n)[i]? = some z := ⟨(Z n)[i], List.getElem?_eq_getElem hil⟩
    have hzm := List.mem_of_getElem? hz
    obtain ⟨c1, ⟨p', v', r1, r2, r3, r4, r5⟩, _⟩ := a2 z hzm
    have e3 : tlg T (531 + 8 * n) (Int32.ofNat i) = some z.1 := by
      simp only [tlg, tl, l1, Option.bind_some]
      rw [if_neg (by have := (@i_lt i 0 (by show i < 2147483648; omega) (by decide)); exact fun w => absurd (this.mp w) (Nat.not_lt_zero _)), m_n_cl (by omega), List.getElem?_map, hz]
      rfl
    have e4 : tcc T (some z.1) 10 = some () := tcl_o c1
    have g0 : tgi T z.1 10 0 = some (Int32.ofNat p') := (Fg0 c1).trans (by show some (z.2.2 0) = _; rw [r4])
    have g1 : tgi T z.1 10 1 = some (Int32.ofNat v') := (Fg1 c1).trans (by show some (z.2.2 1) = _; rw [r5])
    by_cases w : z.2.1 = 128 * n + (4 * p + v)
    · right
      refine ⟨z, hzm, w, ?_⟩
      have wp : p' = p := by omega
      have wv : v' = v := by omega
      subst wp wv
      unfold D_c_Node_fetchOf_2
      simp only [e1, e2, e3, e4, g0, g1, Option.bind_some, ge_n (show i < 2147483648 by omega) (show (Z n).length < 2147483648 by omega), decide_eq_false (show ¬ (Z n).length ≤ i by omega), cond_false, ne_n (show p' < 2147483648 by omega) (show p' < 2147483648 by omega), ne_n (show v' < 2147483648 by omega) (show v' < 2147483648 by omega), not_true_eq_false, decide_false]
    · have step := ih (i + 1) (by omega) (fun j y hj hy => by
        by_cases wj : j = i
        · rw [wj, hz] at hy
          cases hy
          exact w
        · exact hno j y (by omega) hy) f (by omega)
      have go : D_c_Node_fetchOf_2 F (f + 1) (527 + 8 * n) (Int32.ofNat p) (Int32.ofNat v) (Int32.ofNat i) T = D_c_Node_fetchOf_2 F f (527 + 8 * n) (Int32.ofNat p) (Int32.ofNat v) (Int32.ofNat (i + 1)) T := by
        conv => lhs; unfold D_c_Node_fetchOf_2
        simp only [e1, e2, e3, e4, g0, g1, Option.bind_some, ge_n (show i < 2147483648 by omega) (show (Z n).length < 2147483648 by omega), decide_eq_false (show ¬ (Z n).length ≤ i by omega), cond_false, ne_n (show p' < 2147483648 by omega) (show p < 2147483648 by omega), ne_n (show v' < 2147483648 by omega) (show v < 2147483648 by omega), D_c_Node_fetchOf_47, q1 i]
        by_cases wp : p' = p
        · have wv : ¬ v' = v := by omega
          rw [decide_eq_false (by simpa using wp), decide_eq_true wv]
          rfl
        · rw [decide_eq_true wp]
          rfl
      rw [go]
      exact step
theorem c_fetchOf (hF : 400 ≤ F) (h : RF T S Z C) (h1 : 1 ≤ n) (h2 : n < 7) (hnode : T.1 (527 + 8 * n) = some (nodeC S n)) {p v : Nat} (hp : p < 32) (hv : v < 4) : (rd S 609 (128 * n + (4 * p + v)) = 0 ∧ (∀ z ∈ Z n, ¬ z.2.1 = 128 * n + (4 * p + v)) ∧ D_c_Node_fetchOf F (527 + 8 * n) (Int32.ofNat p) (Int32.ofNat v) T = some none) ∨ ∃ z ∈ Z n, z.2.1 = 128 * n + (4 * p + v) ∧ rd S 609 (128 * n + (4 * p + v)) = 1 ∧ D_c_Node_fetchOf F (527 + 8 * n) (Int32.ofNat p) (Int32.ofNat v) T = some (some z.1) := by
  have len := h.len h1 h2
  obtain ⟨_, a2, _, a4⟩ := h.1 n h1 h2
  rcases c_fetchOf_loop (F := F) h h1 h2 hnode hp hv (Z n).length 0 (by omega) (fun j z hj => absurd hj (Nat.not_lt_zero _)) F (by omega) with w | ⟨z, hz, e, w⟩
  · left
    refine ⟨?_, w.1, w.2⟩
    by_cases w0 : rd S 609 (128 * n + (4 * p + v)) = 0
    · exact w0
    · obtain ⟨z, hz, e⟩ := a4 _ (by omega) (by omega) w0
      exact absurd e (w.1 z hz)
  · right
    have : rd S 609 z.2.1 = 1 := (a2 z hz).2.2.2.2.2.2.2.2.2.2.2.2.2.2.2
    rw [e] at this
    exact ⟨z, hz, e, this, w⟩
end
