/-! Looking for entries. -/
def eP (e : Nat) : Nat := e / 32 % 32
def eV (e : Nat) : Nat := e / 8 % 4
section
variable {T : tT} {S : mS} {F n : Nat} {X Y : List (Nat × Nat)} {q : Nat × Nat} {k : Int32}
theorem isEnt.full (h : isEnt T S n q k) : ∃ t, T.1 q.1 = some (cEntry (Int32.ofNat (eP q.2)) (Int32.ofNat (eV q.2)) t (Int32.ofNat (q.2 % 8)) (rd S 604 q.2) (rd S 605 q.2) (rd S 606 q.2) (rd S 607 q.2) k) ∧ T.1 t = some (cTold (Int32.ofNat (eP q.2)) (eT S q.2)) ∧ okT (eT S q.2) := by
  obtain ⟨p, v, hh, t, g1, g2, g3, g4, g5, g6, g7, -⟩ := h
  have e1 : eP q.2 = p := by unfold eP; omega
  have e2 : eV q.2 = v := by unfold eV; omega
  have e3 : q.2 % 8 = hh := by omega
  rw [e1, e2, e3]
  exact ⟨t, g5, g6, g7⟩
theorem RS.ent (h : RS T S n X Y) {q : Nat × Nat} (hq : q ∈ X ++ Y) : ∃ k, isEnt T S n q k := by
  rcases List.mem_append.mp hq with hq | hq
  · exact ⟨0, h.2.2.2.2.1 q hq⟩
  · exact ⟨1, h.2.2.2.2.2.1 q hq⟩
theorem c_at (h : RS T S n X Y) (hl : X.length + Y.length < 400) {i : Nat} (hi : i < 400) : D_c_Store_at F (528 + 8 * n) (Int32.ofNat i) T = some (((X ++ Y)[i]?).map Prod.fst) := by
  obtain ⟨e1, e2, e3, e4, e5, e6, e7, e8⟩ := h.stC
  have hX := fun q hq => h.ent (q := q) hq
  obtain ⟨-, -, ⟨cX, h3⟩, ⟨cY, h4⟩, -⟩ := id h
  unfold D_c_Store_at
  rw [m_c1_ltf (by omega), cond_false]
  simp only [e1, e2, e3, e5, h.count, Option.bind_some, D_c_Store_at_12, D_c_Store_at_58]
  rw [lt_n (by omega) (by omega)]
  by_cases hc : i < X.length + Y.length
  · rw [decide_eq_true hc, cond_true, ge_n (by omega) (by omega)]
    obtain ⟨q, hq⟩ : ∃ q, (X ++ Y)[i]? = some q := ⟨_, List.getElem?_eq_getElem (by rw [List.length_append]; exact hc)⟩
    obtain ⟨k, hk⟩ := hX q (List.mem_of_getElem? hq)
    obtain ⟨fs, hcell⟩ := hk.cell
    rw [hq]
    by_cases hx : X.length ≤ i
    · rw [decide_eq_true hx, cond_true, m_n_sub hx]
      rw [List.getElem?_append_right hx] at hq
      have : tlg T (530 + 8 * n) (Int32.ofNat (i - X.length)) = some q.1 := by
        simp only [tlg, tl, h4, Option.bind_some]
        rw [if_neg (m_n_neg (by omega)), m_n_cl (by omega), List.getElem?_map, hq]
        rfl
      simp only [this, Option.bind_some, tcc, tcl_o hcell]
      rfl
    · rw [decide_eq_false hx, cond_false]
      rw [List.getElem?_append_left (by omega)] at hq
      have : tlg T (529 + 8 * n) (Int32.ofNat i) = some q.1 := by
        simp only [tlg, tl, h3, Option.bind_some]
        rw [if_neg (m_n_neg (by omega)), m_n_cl (by omega), List.getElem?_map, hq]
        rfl
      simp only [this, Option.bind_some, tcc, tcl_o hcell]
      rfl
  · rw [decide_eq_false hc, cond_false, List.getElem?_eq_none (by rw [List.length_append]; omega)]
    rfl
/-- the first of a list, as a loop finds it -/
theorem find_drop {p : Nat × Nat → Bool} {L : List (Nat × Nat)} {i : Nat} {q : Nat × Nat} (h : L[i]? = some q) : (L.drop i).find? p = if p q then some q else (L.drop (i + 1)).find? p := by
  have hi := (List.getElem?_eq_some_iff.mp h)
  rw [List.drop_eq_getElem_cons hi.1, hi.2, List.find?_cons]
  cases p q <;> rfl
theorem c_find_loop (h : RS T S n X Y) (hl : X.length + Y.length < 399) (x y z : Int32) : ∀ (m i : Nat), i + m = (X ++ Y).length → ∀ f, m < f → D_c_Store_find_3 F f (528 + 8 * n) x y z (Int32.ofNat i) T = some ((((X ++ Y).drop i).find? (fun q => decide (Int32.ofNat (eP q.2) = x ∧ Int32.ofNat (eV q.2) = y ∧ Int32.ofNat (q.2 % 8) = z))).map Prod.fst) := by
  obtain ⟨e1, -⟩ := h.stC
  intro m
  induction m with
  | zero =>
    intro i hm f hf
    obtain ⟨f, rfl⟩ : ∃ f9, f = f9 + 1 := ⟨f - 1, by omega⟩
    rw [List.length_append] at hm
    rw [D_c_Store_find_3]
    simp only [e1, h.count, Option.bind_some]
    rw [ge_n (by omega) (by omega), decide_eq_true (by omega), cond_true, List.drop_of_length_le (by rw [List.length_append]; omega)]
    rfl
  | succ m ih =>
    intro i hm f hf
    obtain ⟨f, rfl⟩ : ∃ f9, f = f9 + 1 := ⟨f - 1, by omega⟩
    rw [List.length_append] at hm
    obtain ⟨q, hq⟩ : ∃ q, (X ++ Y)[i]? = some q := ⟨_, List.getElem?_eq_getElem (by rw [List.length_append]; omega)⟩
    obtain ⟨k, hk⟩ := h.ent (List.mem_of_getElem? hq)
    obtain ⟨t, c1, c2, -⟩ := hk.full
    rw [D_c_Store_find_3]
    simp only [e1, h.count, Option.bind_some, c_at (F := F) h (by omega) (show i < 400 by omega), hq, Option.map_some, nc, tcl_o c1, c_isOf c1, D_c_Store_find_47, q1, tgi_o (k := 3) c1 rfl]
    rw [ge_n (by omega) (by omega), decide_eq_false (by omega), cond_false, ih (i + 1) (by rw [List.length_append]; omega) f (by omega), find_drop hq]
    by_cases z1 : Int32.ofNat (eP q.2) = x ∧ Int32.ofNat (eV q.2) = y
    · by_cases z2 : Int32.ofNat (q.2 % 8) = z
      · have z3 : Int32.ofNat (eP q.2) = x ∧ Int32.ofNat (eV q.2) = y ∧ Int32.ofNat (q.2 % 8) = z := ⟨z1.1, z1.2, z2⟩
        rw [decide_eq_true z1, decide_eq_true z3, show m_c2 .ne (Int32.ofNat (q.2 % 8)) z = false from decide_eq_false (fun w => w z2)]
        rfl
      · have z3 : ¬ (Int32.ofNat (eP q.2) = x ∧ Int32.ofNat (eV q.2) = y ∧ Int32.ofNat (q.2 % 8) = z) := fun w => z2 w.2.2
        rw [decide_eq_true z1, decide_eq_false z3, show m_c2 .ne (Int32.ofNat (q.2 % 8)) z = true from decide_eq_true z2]
        rfl
    · have z3 : ¬ (Int32.ofNat (eP q.2) = x ∧ Int32.ofNat (eV q.2) = y ∧ Int32.ofNat (q.2 % 8) = z) := fun w => z1 ⟨w.1, w.2.1⟩
      rw [decide_eq_false z1, decide_eq_false z3]
      rfl
theorem c_find (hF : 400 ≤ F) (h : RS T S n X Y) (hl : X.length + Y.length < 399) (x y z : Int32) : D_c_Store_find F (528 + 8 * n) x y z T = some (((X ++ Y).find? (fun q => decide (Int32.ofNat (eP q.2) = x ∧ Int32.ofNat (eV q.2) = y ∧ Int32.ofNat (q.2 % 8) = z))).map Prod.fst) := by
  have := c_find_loop (F := F) h hl x y z (X ++ Y).length 0 (by omega) F (by rw [List.length_append]; omega)
  rw [List.drop_zero] at this
  exact this
/-- find at a place -/
theorem c_findE (hF : 400 ≤ F) (h : RS T S n X Y) (hl : X.length + Y.length < 399) {p v w : Nat} (hp : p < 32) (hv : v < 4) (hw : w < 8) : (rd S 601 (8 * (128 * n + (4 * p + v)) + w) = 0 ∧ D_c_Store_find F (528 + 8 * n) (Int32.ofNat p) (Int32.ofNat v) (Int32.ofNat w) T = some none) ∨ ∃ q, q ∈ X ++ Y ∧ q.2 = 8 * (128 * n + (4 * p + v)) + w ∧ D_c_Store_find F (528 + 8 * n) (Int32.ofNat p) (Int32.ofNat v) (Int32.ofNat w) T = some (some q.1) := by
  rw [c_find hF h hl]
  have hpv : ∀ q, q ∈ X ++ Y → (Int32.ofNat (eP q.2) = Int32.ofNat p ∧ Int32.ofNat (eV q.2) = Int32.ofNat v ∧ Int32.ofNat (q.2 % 8) = Int32.ofNat w ↔ q.2 = 8 * (128 * n + (4 * p + v)) + w) := by
    intro q hq
    obtain ⟨k, hk⟩ := h.ent hq
    have := hk.rng h.1.2
    unfold eP eV
    rw [m_n_eq (by omega) (by omega), m_n_eq (by omega) (by omega), m_n_eq (by omega) (by omega)]
    omega
  cases hf : (X ++ Y).find? (fun q => decide (Int32.ofNat (eP q.2) = Int32.ofNat p ∧ Int32.ofNat (eV q.2) = Int32.ofNat v ∧ Int32.ofNat (q.2 % 8) = Int32.ofNat w)) with
  | none =>
    refine Or.inl ⟨?_, rfl⟩
    apply Classical.byContradiction
    intro hne
    obtain ⟨q, hq, e⟩ := h.2.2.2.2.2.2.2.2.1 _ (by have := h.1; omega) (by omega) hne
    have hq' : q ∈ X ++ Y := List.mem_append.mpr hq
    have := List.find?_eq_none.mp hf q hq'
    exact this (decide_eq_true ((hpv q hq').mpr e))
  | some q =>
    have hq := List.mem_of_find?_eq_some hf
    exact Or.inr ⟨q, hq, (hpv q hq).mp (by have hz := List.find?_some hf; exact of_decide_eq_true hz), rfl⟩
/-- an entry that suits wants: form fo, language la -/
def suitE (S : mS) (f la fo e : Nat) : Prop := e / 8 = f ∧ ¬ rd S 601 e = 0 ∧ Int32.ofNat (e % 8) = v_which (eT S e 8) (Int32.ofNat la) (Int32.ofNat fo)
/-- entries of one key have one vary -/
def RV (S : mS) : Prop := ∀ e e', e < 7168 → e' < 7168 → ¬ rd S 601 e = 0 → ¬ rd S 601 e' = 0 → e / 8 = e' / 8 → eT S e 8 = eT S e' 8
theorem suitE.uniq (hV : RV S) {f la fo e e' : Nat} (he : e < 7168) (he' : e' < 7168) (h : suitE S f la fo e) (h' : suitE S f la fo e') : e = e' := by
  have h1 := hV e e' he he' h.2.1 h'.2.1 (by rw [h.1, h'.1])
  have h2 := h.2.2
  rw [h1, ← h'.2.2] at h2
  have h3 := (m_n_eq (i := e % 8) (j := e' % 8) (by omega) (by omega)).mp h2
  have := h.1
  have := h'.1
  omega
theorem m_suits_loop {f la fo : Nat} (hf : f < 896) (hla : la < 4) (hfo : fo < 2) (hk : ∀ e, e / 8 = f → ¬ rd S 601 e = 0 → few 4 (eT S e 8)) : ∀ (m w : Nat), w + m = 8 → (∀ j, j < w → ¬ suitE S f la fo (8 * f + j)) → ∀ g, m < g → ∃ o, D_m_suits_2 F g (Int32.ofNat f) (Int32.ofNat (la + 4 * fo)) (Int32.ofNat w) S = some (oI o) ∧ (∀ e, o = some e → suitE S f la fo e) ∧ (o = none → ∀ e, ¬ suitE S f la fo e) := by
  intro m
  induction m with
  | zero =>
    intro w h1 h2 g hg
    obtain ⟨g, rfl⟩ : ∃ f9, g = f9 + 1 := ⟨g - 1, by omega⟩
    rw [D_m_suits_2, show (8 : Int32) = Int32.ofNat 8 from rfl, ge_n (by omega) (by omega), decide_eq_true (by omega), cond_true]
    refine ⟨none, rfl, fun e he => (by cases he), fun _ e he => ?_⟩
    have hd := he.1
    have := h2 (e % 8) (by omega)
    rw [show 8 * f + e % 8 = e by omega] at this
    exact this he
  | succ m ih =>
    intro w h1 h2 g hg
    obtain ⟨g, rfl⟩ : ∃ f9, g = f9 + 1 := ⟨g - 1, by omega⟩
    have hd : (8 * f + w) / 8 = f := by omega
    have hr : (8 * f + w) % 8 = w := by omega
    rw [D_m_suits_2, k8, m_n_add, show (8 : Int32) = Int32.ofNat 8 from rfl, ge_n (by omega) (by omega), decide_eq_false (by omega), cond_false, aget_n (Or.inr rfl) (by omega) (by decide), Option.bind_some]
    simp only [D_m_suits_49, q1]
    have next : ¬ suitE S f la fo (8 * f + w) → ∃ o, D_m_suits_2 F g (Int32.ofNat f) (Int32.ofNat (la + 4 * fo)) (Int32.ofNat (w + 1)) S = some (oI o) ∧ (∀ e, o = some e → suitE S f la fo e) ∧ (o = none → ∀ e, ¬ suitE S f la fo e) := by
      intro hn
      refine ih (w + 1) (by omega) (fun j hj => ?_) g (by omega)
      by_cases hj2 : j = w
      · subst hj2; exact hn
      · exact h2 j (by omega)
    by_cases z1 : rd S 601 (8 * f + w) = 0
    · rw [show m_c1 .eq (rd S 601 (8 * f + w)) = true from decide_eq_true z1, cond_true]
      exact next (fun z => z.2.1 z1)
    · rw [show m_c1 .eq (rd S 601 (8 * f + w)) = false from decide_eq_false z1, cond_false]
      obtain ⟨vy, v1, v2⟩ := hk (8 * f + w) hd z1
      have v2' : rd S 603 (9 * (8 * f + w) + 8) = Int32.ofNat vy := v2
      rw [show D_m_told F (Int32.ofNat (8 * f + w)) (Int32.ofNat 8) S = _ from told8 (by omega), Option.bind_some, v2', m_which v1 hla hfo, Option.bind_some]
      by_cases z2 : Int32.ofNat w = v_which (Int32.ofNat vy) (Int32.ofNat la) (Int32.ofNat fo)
      · rw [show m_c2 .ne (v_which (Int32.ofNat vy) (Int32.ofNat la) (Int32.ofNat fo)) (Int32.ofNat w) = false from decide_eq_false (fun z => z z2.symm), cond_false]
        refine ⟨some (8 * f + w), rfl, fun e he => ?_, fun he => by cases he⟩
        cases he
        exact ⟨hd, z1, by rw [hr, v2]; exact z2⟩
      · rw [show m_c2 .ne (v_which (Int32.ofNat vy) (Int32.ofNat la) (Int32.ofNat fo)) (Int32.ofNat w) = true from decide_eq_true (fun z => z2 z.symm), cond_true]
        exact next (fun z => by
          have := z.2.2
          rw [hr, v2] at this
          exact z2 this)
theorem c_suiting_loop (h : RS T S n X Y) (hl : X.length + Y.length < 399) {a : Nat} {g : Nat → Int32} {c r b : Option Nat} (hq : T.1 a = some (cReq g c r b)) : ∀ (m i : Nat), i + m = (X ++ Y).length → ∀ f, m < f → D_c_Store_suiting_2 F f (528 + 8 * n) (some a) (Int32.ofNat i) T = some ((((X ++ Y).drop i).find? (fun q => decide (Int32.ofNat (eP q.2) = g 0 ∧ Int32.ofNat (eV q.2) = g 1 ∧ Int32.ofNat (q.2 % 8) = v_which (eT S q.2 8) (g 2) (g 3)))).map Prod.fst) := by
  obtain ⟨e1, -⟩ := h.stC
  intro m
  induction m with
  | zero =>
    intro i hm f hf
    obtain ⟨f, rfl⟩ : ∃ f9, f = f9 + 1 := ⟨f - 1, by omega⟩
    rw [List.length_append] at hm
    rw [D_c_Store_suiting_2]
    simp only [e1, h.count, Option.bind_some]
    rw [ge_n (by omega) (by omega), decide_eq_true (by omega), cond_true, List.drop_of_length_le (by rw [List.length_append]; omega)]
    rfl
  | succ m ih =>
    intro i hm f hf
    obtain ⟨f, rfl⟩ : ∃ f9, f = f9 + 1 := ⟨f - 1, by omega⟩
    rw [List.length_append] at hm
    obtain ⟨q, hq2⟩ : ∃ q, (X ++ Y)[i]? = some q := ⟨_, List.getElem?_eq_getElem (by rw [List.length_append]; omega)⟩
    obtain ⟨k, hk⟩ := h.ent (List.mem_of_getElem? hq2)
    obtain ⟨t, c1, c2, -⟩ := hk.full
    rw [D_c_Store_suiting_2]
    simp only [e1, h.count, Option.bind_some, c_at (F := F) h (by omega) (show i < 400 by omega), hq2, Option.map_some, nc, tcl_o c1, c_suits (F := F) hq c1 c2, D_c_Store_suiting_30, q1]
    rw [ge_n (by omega) (by omega), decide_eq_false (by omega), cond_false, ih (i + 1) (by rw [List.length_append]; omega) f (by omega), find_drop hq2]
    cases decide (Int32.ofNat (eP q.2) = g 0 ∧ Int32.ofNat (eV q.2) = g 1 ∧ Int32.ofNat (q.2 % 8) = v_which (eT S q.2 8) (g 2) (g 3)) <;> rfl
/-- suiting beside suits -/
theorem suit (hF : 400 ≤ F) (h : RS T S n X Y) (hV : RV S) (hl : X.length + Y.length < 399) {a p v la fo : Nat} {g : Nat → Int32} {c r b : Option Nat} (hq : T.1 a = some (cReq g c r b)) (hp : p < 32) (hv : v < 4) (hla : la < 4) (hfo : fo < 2) (g0 : g 0 = Int32.ofNat p) (g1 : g 1 = Int32.ofNat v) (g2 : g 2 = Int32.ofNat la) (g3 : g 3 = Int32.ofNat fo) : ∃ o : Option (Nat × Nat), D_c_Store_suiting F (528 + 8 * n) (some a) T = some (o.map Prod.fst) ∧ D_m_suits F (Int32.ofNat (128 * n + (4 * p + v))) (Int32.ofNat (la + 4 * fo)) S = some (oI (o.map Prod.snd)) ∧ (∀ q, o = some q → q ∈ X ++ Y ∧ suitE S (128 * n + (4 * p + v)) la fo q.2) ∧ (o = none → ∀ e, ¬ suitE S (128 * n + (4 * p + v)) la fo e) := by
  have hn := h.1
  have hk : ∀ e, e / 8 = 128 * n + (4 * p + v) → ¬ rd S 601 e = 0 → ∃ q, q ∈ X ++ Y ∧ q.2 = e := by
    intro e he ht
    obtain ⟨q, hq, hz⟩ := h.2.2.2.2.2.2.2.2.1 e (by omega) (by omega) ht
    exact ⟨q, List.mem_append.mpr hq, hz⟩
  obtain ⟨o, o1, o2, o3⟩ := m_suits_loop (S := S) (F := F) (f := 128 * n + (4 * p + v)) (by omega) hla hfo (fun e he ht => by
    obtain ⟨q, hq, rfl⟩ := hk e he ht
    obtain ⟨k, hk⟩ := h.ent hq
    obtain ⟨t, -, -, hT⟩ := hk.full
    exact hT.2.2.2.2.2.2.2.2.2) 8 0 rfl (fun j hj => by omega) F (by omega)
  have key : ∀ q, q ∈ X ++ Y → ((Int32.ofNat (eP q.2) = g 0 ∧ Int32.ofNat (eV q.2) = g 1 ∧ Int32.ofNat (q.2 % 8) = v_which (eT S q.2 8) (g 2) (g 3)) ↔ suitE S (128 * n + (4 * p + v)) la fo q.2) := by
    intro q hq
    obtain ⟨k, hk⟩ := h.ent hq
    have hr := hk.rng hn.2
    rw [g0, g1, g2, g3]
    unfold eP eV suitE
    rw [m_n_eq (by omega) (by omega), m_n_eq (by omega) (by omega)]
    have ht := hk.there.1
    constructor
    · rintro ⟨z1, z2, z3⟩
      exact ⟨by omega, ht, z3⟩
    · rintro ⟨z1, z2, z3⟩
      exact ⟨by omega, by omega, z3⟩
  have hc : D_c_Store_suiting F (528 + 8 * n) (some a) T = some (((X ++ Y).find? (fun q => decide (Int32.ofNat (eP q.2) = g 0 ∧ Int32.ofNat (eV q.2) = g 1 ∧ Int32.ofNat (q.2 % 8) = v_which (eT S q.2 8) (g 2) (g 3)))).map Prod.fst) := by
    have := c_suiting_loop (F := F) h hl hq (X ++ Y).length 0 (by omega) F (by rw [List.length_append]; omega)
    rw [List.drop_zero] at this
    exact this
  rw [hc]
  cases hf : (X ++ Y).find? (fun q => decide (Int32.ofNat (eP q.2) = g 0 ∧ Int32.ofNat (eV q.2) = g 1 ∧ Int32.ofNat (q.2 % 8) = v_which (eT S q.2 8) (g 2) (g 3))) with
  | none =>
    have no : ∀ e, ¬ suitE S (128 * n + (4 * p + v)) la fo e := by
      intro e he
      obtain ⟨q, hq, rfl⟩ := hk e he.1 he.2.1
      exact List.find?_eq_none.mp hf q hq (decide_eq_true ((key q hq).mpr he))
    refine ⟨none, rfl, ?_, fun q hq => (by cases hq), fun _ => no⟩
    cases o with
    | none => exact o1
    | some e => exact absurd (o2 e rfl) (no e)
  | some q =>
    have hq := List.mem_of_find?_eq_some hf
    have hs := (key q hq).mp (by have hz := List.find?_some hf; exact of_decide_eq_true hz)
    refine ⟨some q, rfl, ?_, fun r hr => (by cases hr; exact ⟨hq, hs⟩), fun hz => by cases hz⟩
    cases o with
    | none => exact absurd hs (o3 rfl q.2)
    | some e =>
      have h2 := o2 e rfl
      obtain ⟨k, hk'⟩ := h.ent hq
      have hr := hk'.rng hn.2
      have h3 := h2.1
      have : e = q.2 := suitE.uniq hV (by omega) hr.2.2 h2 hs
      rw [this] at o1
      exact o1
end
