/-! The version that a FETCH may tell as had. -/
section
variable {T : tT} {S : mS} {F n : Nat} {X Y : List (Nat × Nat)}
theorem c_had {fa e t : Nat} {g d : Nat → Int32} {h9 t9 : Option Nat} {p v wh mk ag cm bl kp q : Int32} (hf : T.1 fa = some (cFetch g h9 t9)) (he : T.1 e = some (cEntry p v t wh mk ag cm bl kp)) (ht : T.1 t = some (cTold q d)) : D_c_Fetch_isHadWith F fa (some e) T = some (b2i (decide (p = g 0 ∧ v = g 1 ∧ wh = v_which (d 8) (g 2) (g 3)) && (decide (g 9 ≤ mk) && decide (v_blocks (d 1) (g 5) (g 6) &&& (bl ^^^ -1) = 0)))) := by
  simp only [D_c_Fetch_isHadWith, Fg0 hf, Fg1 hf, Option.bind_some, tcl_o he, c_isOf he, Eg3 he, Er2 he, Fg2 hf, Fg3 hf, tcl_o ht, c_which ht, Eg4 he, Fg9 hf, Fg5 hf, Fg6 hf, c_blocks ht, Eg7 he]
  generalize v_blocks (d 1) (g 5) (g 6) &&& (bl ^^^ -1) = m
  generalize v_which (d 8) (g 2) (g 3) = w
  by_cases z1 : p = g 0 ∧ v = g 1
  · by_cases z2 : wh = w
    · by_cases z3 : g 9 ≤ mk
      · by_cases z4 : m = 0 <;> simp [m_c1, m_c2, z1, z2, z3, z4, Int32.not_lt.mpr z3, b2i, bret]
      · simp [m_c1, m_c2, z1, z2, z3, Int32.not_le.mp z3, b2i, bret]
    · simp [m_c1, m_c2, z1, z2, b2i]
  · have z5 : ¬ (p = g 0 ∧ v = g 1 ∧ wh = w) := fun h => z1 ⟨h.1, h.2.1⟩
    rw [decide_eq_false z1, decide_eq_false z5]
    rfl
/-- the test of versionHad on an entry -/
def pHad (S : mS) (g : Nat → Int32) (q : Nat × Nat) : Bool := decide (Int32.ofNat (eP q.2) = g 0 ∧ Int32.ofNat (eV q.2) = g 1 ∧ Int32.ofNat (q.2 % 8) = v_which (eT S q.2 8) (g 2) (g 3)) && (decide (g 9 ≤ rd S 604 q.2) && decide (v_blocks (eT S q.2 1) (g 5) (g 6) &&& (rd S 607 q.2 ^^^ -1) = 0))
theorem c_hadV_loop (h : RS T S n X Y) (hl : X.length + Y.length < 399) {fa : Nat} {g : Nat → Int32} {h9 t9 : Option Nat} (hf : T.1 fa = some (cFetch g h9 t9)) : ∀ (m i : Nat), i + m = (X ++ Y).length → ∀ f, m < f → D_c_Store_versionHad_2 F f (528 + 8 * n) (some fa) (Int32.ofNat i) T = some (match ((X ++ Y).drop i).find? (pHad S g) with | none => 0 | some q => eT S q.2 0) := by
  obtain ⟨e1, -⟩ := h.stC
  intro m
  induction m with
  | zero =>
    intro i hm f hf9
    obtain ⟨f, rfl⟩ : ∃ f9, f = f9 + 1 := ⟨f - 1, by omega⟩
    rw [List.length_append] at hm
    rw [D_c_Store_versionHad_2]
    simp only [e1, h.count, Option.bind_some]
    rw [ge_n (by omega) (by omega), decide_eq_true (by omega), cond_true, List.drop_of_length_le (by rw [List.length_append]; omega)]
    rfl
  | succ m ih =>
    intro i hm f hf9
    obtain ⟨f, rfl⟩ : ∃ f9, f = f9 + 1 := ⟨f - 1, by omega⟩
    rw [List.length_append] at hm
    obtain ⟨q, hq2⟩ : ∃ q, (X ++ Y)[i]? = some q := ⟨_, List.getElem?_eq_getElem (by rw [List.length_append]; omega)⟩
    obtain ⟨k, hk⟩ := h.ent (List.mem_of_getElem? hq2)
    obtain ⟨t, c1, c2, -⟩ := hk.full
    rw [D_c_Store_versionHad_2]
    simp only [e1, h.count, Option.bind_some, c_at (F := F) h (by omega) (show i < 400 by omega), hq2, Option.map_some, nc, tcl_o hf, c_had (F := F) hf c1 c2, D_c_Store_versionHad_36, q1, Er2 c1, Tg1 c2]
    rw [ge_n (by omega) (by omega), decide_eq_false (by omega), cond_false, ih (i + 1) (by rw [List.length_append]; omega) f (by omega), find_drop hq2]
    show cond (m_c1 .eq (b2i (pHad S g q))) _ _ = _
    cases pHad S g q <;> rfl
/-- versionHad, by the entry that suits -/
theorem c_hadV (hF : 400 ≤ F) (h : RS T S n X Y) (hV : RV S) (hl : X.length + Y.length < 399) {fa p v la fo : Nat} {g : Nat → Int32} {h9 t9 : Option Nat} (hf : T.1 fa = some (cFetch g h9 t9)) (hp : p < 32) (hv : v < 4) (g0 : g 0 = Int32.ofNat p) (g1 : g 1 = Int32.ofNat v) (g2 : g 2 = Int32.ofNat la) (g3 : g 3 = Int32.ofNat fo) {o : Option Nat} (o1 : ∀ e, o = some e → suitE S (128 * n + (4 * p + v)) la fo e) (o2 : o = none → ∀ e, ¬ suitE S (128 * n + (4 * p + v)) la fo e) : D_c_Store_versionHad F (528 + 8 * n) (some fa) T = some (match o with | none => 0 | some e => if g 9 ≤ rd S 604 e ∧ v_blocks (eT S e 1) (g 5) (g 6) &&& (rd S 607 e ^^^ -1) = 0 then eT S e 0 else 0) := by
  have hn := h.1
  have key : ∀ q, q ∈ X ++ Y → (pHad S g q = true ↔ suitE S (128 * n + (4 * p + v)) la fo q.2 ∧ g 9 ≤ rd S 604 q.2 ∧ v_blocks (eT S q.2 1) (g 5) (g 6) &&& (rd S 607 q.2 ^^^ -1) = 0) := by
    intro q hq
    obtain ⟨k, hk⟩ := h.ent hq
    have hr := hk.rng hn.2
    have ht := hk.there.1
    unfold pHad
    rw [g0, g1, g2, g3]
    simp only [Bool.and_eq_true, decide_eq_true_eq]
    unfold eP eV suitE
    rw [m_n_eq (by omega) (by omega), m_n_eq (by omega) (by omega)]
    constructor
    · rintro ⟨⟨z1, z2, z3⟩, z4⟩
      exact ⟨⟨by omega, ht, z3⟩, z4⟩
    · rintro ⟨⟨z1, z2, z3⟩, z4⟩
      exact ⟨⟨by omega, by omega, z3⟩, z4⟩
  have hc : D_c_Store_versionHad F (528 + 8 * n) (some fa) T = some (match (X ++ Y).find? (pHad S g) with | none => 0 | some q => eT S q.2 0) := by
    have := c_hadV_loop (F := F) h hl hf (X ++ Y).length 0 (by omega) F (by rw [List.length_append]; omega)
    rw [List.drop_zero] at this
    exact this
  rw [hc]
  cases o with
  | none =>
    cases hfd : (X ++ Y).find? (pHad S g) with
    | none => rfl
    | some q =>
      have := (key q (List.mem_of_find?_eq_some hfd)).mp (List.find?_some hfd)
      exact absurd this.1 (o2 rfl q.2)
  | some e =>
    have hs := o1 e rfl
    have hd := hs.1
    obtain ⟨q, hq, hz⟩ := h.2.2.2.2.2.2.2.2.1 e (by omega) (by omega) hs.2.1
    have hq' : q ∈ X ++ Y := List.mem_append.mpr hq
    have he7 : e < 7168 := by omega
    cases hfd : (X ++ Y).find? (pHad S g) with
    | none =>
      have hno := List.find?_eq_none.mp hfd q hq'
      have : ¬ (g 9 ≤ rd S 604 e ∧ v_blocks (eT S e 1) (g 5) (g 6) &&& (rd S 607 e ^^^ -1) = 0) := by
        intro w
        apply hno
        exact (key q hq').mpr (by rw [hz]; exact ⟨hs, w⟩)
      simp only [if_neg this]
    | some r =>
      have hr := (key r (List.mem_of_find?_eq_some hfd)).mp (List.find?_some hfd)
      obtain ⟨k, hk⟩ := h.ent (List.mem_of_find?_eq_some hfd)
      have hre : r.2 = e := suitE.uniq hV (hk.rng hn.2).2.2 he7 hr.1 hs
      rw [hre] at hr
      simp only [if_pos hr.2, hre]
end
