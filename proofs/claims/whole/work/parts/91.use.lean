/-! An entry is used: it becomes the newest of KEPT. -/
section
variable {T : tT} {S : mS} {F n U : Nat} {X Y : List (Nat × Nat)} {q : Nat × Nat}
theorem pw_inj {L : List (Nat × Nat)} (h : L.Pairwise (fun a b => tn S a.2 < tn S b.2)) {i j : Nat} {q r : Nat × Nat} (hi : L[i]? = some q) (hj : L[j]? = some r) (e : q.2 = r.2) : i = j := by
  obtain ⟨i1, i2⟩ := List.getElem?_eq_some_iff.mp hi
  obtain ⟨j1, j2⟩ := List.getElem?_eq_some_iff.mp hj
  rw [List.pairwise_iff_getElem] at h
  rcases Nat.lt_trichotomy i j with z | z | z
  · have := h i j i1 j1 z
    rw [i2, j2, e] at this
    omega
  · exact z
  · have := h j i j1 i1 z
    rw [i2, j2, e] at this
    omega
theorem mem_erase {L : List (Nat × Nat)} (h : L.Pairwise (fun a b => tn S a.2 < tn S b.2)) {i : Nat} {q : Nat × Nat} (hi : L[i]? = some q) (r : Nat × Nat) : r ∈ L.eraseIdx i ↔ r ∈ L ∧ ¬ r.2 = q.2 := by
  rw [List.mem_eraseIdx_iff_getElem?]
  constructor
  · rintro ⟨j, z1, z2⟩
    exact ⟨List.mem_of_getElem? z2, fun e => z1 (pw_inj h z2 hi e)⟩
  · rintro ⟨z1, z2⟩
    obtain ⟨j, hj⟩ := List.mem_iff_getElem?.mp z1
    refine ⟨j, ?_, hj⟩
    rintro rfl
    rw [hi] at hj
    cases hj
    exact z2 rfl
/-- the place of an entry in its list -/
theorem c_place_loop {l c a : Nat} {L : List (Nat × Nat)} (hl : T.1 l = some (.inr (.inr (c, L.map Prod.fst)))) (hlen : L.length < 400) {i : Nat} (hi : L[i]? = some q) (hne : ∀ j r, L[j]? = some r → j < i → ¬ r.1 = q.1) (h5 : 512 ≤ q.1) : ∀ (m j : Nat), j + m = i → ∀ f, m < f → D_c_Store_placeOf_21 F f a (some q.1) (some l) (Int32.ofNat j) T = some (Int32.ofNat i) := by
  have hi9 := (List.getElem?_eq_some_iff.mp hi).1
  intro m
  induction m with
  | zero =>
    intro j hj f hf
    obtain ⟨f, rfl⟩ : ∃ f9, f = f9 + 1 := ⟨f - 1, by omega⟩
    have : j = i := by omega
    subst this
    have e1 : tlg T l (Int32.ofNat j) = some q.1 := by
      simp only [tlg, tl, hl, Option.bind_some]
      rw [if_neg (m_n_neg (by omega)), m_n_cl (by omega), List.getElem?_map, hi]
      rfl
    rw [D_c_Store_placeOf_21]
    simp only [Option.bind_some, tls, tl, hl, Option.map_some, List.length_map, e1, tao]
    rw [ge_n (by omega) (by omega), decide_eq_false (by omega), cond_false, if_pos (Or.inl h5)]
    simp
  | succ m ih =>
    intro j hj f hf
    obtain ⟨f, rfl⟩ : ∃ f9, f = f9 + 1 := ⟨f - 1, by omega⟩
    obtain ⟨r, hr⟩ : ∃ r, L[j]? = some r := ⟨_, List.getElem?_eq_getElem (by omega)⟩
    have e1 : tlg T l (Int32.ofNat j) = some r.1 := by
      simp only [tlg, tl, hl, Option.bind_some]
      rw [if_neg (m_n_neg (by omega)), m_n_cl (by omega), List.getElem?_map, hr]
      rfl
    rw [D_c_Store_placeOf_21]
    simp only [Option.bind_some, tls, tl, hl, Option.map_some, List.length_map, e1, tao, q1]
    rw [ge_n (by omega) (by omega), decide_eq_false (by omega), cond_false, if_pos (Or.inr h5), Option.bind_some, decide_eq_false (hne j r hr (by omega)), cond_false]
    exact ih (j + 1) (by omega) f (by omega)
theorem c_placeX (hF : 400 ≤ F) (h : RS T S n X Y) (hlen : X.length < 400) {i : Nat} (hi : X[i]? = some q) (h5 : 512 ≤ q.1) : D_c_Store_placeOf F (528 + 8 * n) (some q.1) T = some (Int32.ofNat i) := by
  obtain ⟨e1, e2, e3, -⟩ := h.stC
  have hq := List.mem_of_getElem? hi
  obtain ⟨t, c1, -⟩ := (h.2.2.2.2.1 q hq).full
  obtain ⟨-, -, ⟨cX, h3⟩, -⟩ := id h
  have hi9 := (List.getElem?_eq_some_iff.mp hi).1
  simp only [D_c_Store_placeOf, Option.bind_some, tgi_o (k := 8) c1 rfl, e2, show m_c1 .eq (0 : Int32) = true from rfl, cond_true, D_c_Store_placeOf_18]
  refine c_place_loop h3 hlen hi (fun j r hr hj => ?_) h5 i 0 (by omega) F (by omega)
  exact h.adr_ne (Or.inl (List.mem_of_getElem? hr)) (Or.inl hq) (fun e => by have := pw_inj h.2.2.2.2.2.2.1 hr hi e; omega)
theorem c_placeY (hF : 400 ≤ F) (h : RS T S n X Y) (hlen : Y.length < 400) {i : Nat} (hi : Y[i]? = some q) (h5 : 512 ≤ q.1) : D_c_Store_placeOf F (528 + 8 * n) (some q.1) T = some (Int32.ofNat i) := by
  obtain ⟨e1, e2, e3, -⟩ := h.stC
  have hq := List.mem_of_getElem? hi
  obtain ⟨t, c1, -⟩ := (h.2.2.2.2.2.1 q hq).full
  obtain ⟨-, -, -, ⟨cY, h4⟩, -⟩ := id h
  have hi9 := (List.getElem?_eq_some_iff.mp hi).1
  simp only [D_c_Store_placeOf, Option.bind_some, tgi_o (k := 8) c1 rfl, e3, show m_c1 .eq (1 : Int32) = false from rfl, cond_false, D_c_Store_placeOf_18]
  refine c_place_loop h4 hlen hi (fun j r hr hj => ?_) h5 i 0 (by omega) F (by omega)
  exact h.adr_ne (Or.inr (List.mem_of_getElem? hr)) (Or.inr hq) (fun e => by have := pw_inj h.2.2.2.2.2.2.2.1 hr hi e; omega)
/-- one entry gets another flag and the newest turn; the lists are told -/
theorem RS.rebuild (h : RS T S n X Y) (hU : RTn S U) (hU2 : U + 1 < 2147483648) {q : Nat × Nat} (hq : q ∈ X ∨ q ∈ Y) {k' : Int32} {X' Y' : List (Nat × Nat)} {cX cY t : Nat} {T' : tT} {S' : mS}
    (ht : ∃ k, T.1 q.1 = some (cEntry (Int32.ofNat (eP q.2)) (Int32.ofNat (eV q.2)) t (Int32.ofNat (q.2 % 8)) (rd S 604 q.2) (rd S 605 q.2) (rd S 606 q.2) (rd S 607 q.2) k))
    (hT : ∀ b, T'.1 b = if b = 529 + 8 * n then some (.inr (.inr (cX, X'.map Prod.fst))) else if b = 530 + 8 * n then some (.inr (.inr (cY, Y'.map Prod.fst))) else if b = q.1 then some (cEntry (Int32.ofNat (eP q.2)) (Int32.ofNat (eV q.2)) t (Int32.ofNat (q.2 % 8)) (rd S 604 q.2) (rd S 605 q.2) (rd S 606 q.2) (rd S 607 q.2) k') else T.1 b) (hTn : T.2.1 ≤ T'.2.1 ∧ T.2.2 ≤ T'.2.2)
    (hS : ∀ a k, rd S' a k = if a = 608 ∧ k = q.2 then Int32.ofNat (U + 1) else if a = 602 ∧ k = q.2 then k' else rd S a k) (hS1 : ∀ i, S'.1 i = if i = 58 then Int32.ofNat (U + 1) else S.1 i)
    (hX : ∀ r ∈ X', (r = q ∧ k' = 0) ∨ (¬ r.2 = q.2 ∧ r ∈ X)) (hY : ∀ r ∈ Y', (r = q ∧ k' = 1) ∨ (¬ r.2 = q.2 ∧ r ∈ Y)) (hA : ∀ r, r ∈ X ∨ r ∈ Y → r ∈ X' ∨ r ∈ Y')
    (hpX : X'.Pairwise (fun a b => ¬ a.2 = q.2 ∧ (b = q ∨ (¬ b.2 = q.2 ∧ tn S a.2 < tn S b.2)))) (hpY : Y'.Pairwise (fun a b => ¬ a.2 = q.2 ∧ (b = q ∨ (¬ b.2 = q.2 ∧ tn S a.2 < tn S b.2)))) : RS T' S' n X' Y' ∧ RTn S' (U + 1) ∧ FrT n [q.1] T T' ∧ FrS n S S' := by
  obtain ⟨a8, a9, a10⟩ := h.addr hq
  obtain ⟨kq, hkq⟩ := h.ent (List.mem_append.mpr hq)
  obtain ⟨hn, h2, ⟨dX, h3⟩, ⟨dY, h4⟩, h5, h6, h7, h8, h9, hb⟩ := id h
  have hq7 := hkq.rng hn.2
  obtain ⟨k0, ht⟩ := ht
  have sm13 : Same [13] T T' := by
    intro x c hx hk
    have k1 : ¬ x = 529 + 8 * n := kd_ne hx h3 (by intro e; rw [e] at hk; exact absurd hk (show (21 : Nat) ∉ [13] by decide))
    have k2 : ¬ x = q.1 := kd_ne hx ht (by intro e; rw [e] at hk; exact absurd hk (show (11 : Nat) ∉ [13] by decide))
    have k3 : ¬ x = 530 + 8 * n := kd_ne hx h4 (by intro e; rw [e] at hk; exact absurd hk (show (21 : Nat) ∉ [13] by decide))
    rw [hT, if_neg k1, if_neg k3, if_neg k2]
    exact hx
  have r603 : ∀ j, rd S' 603 j = rd S 603 j := fun j => by rw [hS, if_neg (by omega), if_neg (by omega)]
  have ent : ∀ r k, (r ∈ X ∨ r ∈ Y) → ¬ r.2 = q.2 → isEnt T S n r k → isEnt T' S' n r k := by
    intro r k hr r2 he
    obtain ⟨-, r9, r10⟩ := h.addr hr
    refine he.fr ?_ sm13 r603 (fun a ha1 ha2 => ?_)
    · rw [hT, if_neg r9, if_neg r10, if_neg (h.adr_ne hr hq r2)]
    · rw [hS, if_neg (by omega), if_neg (fun z => r2 z.2)]
  have entq : isEnt T' S' n q k' := by
    obtain ⟨p, v, hh, t', g1, g2, g3, g4, g5, g6, g7, g8, g9⟩ := hkq
    have e1 : eP q.2 = p := by unfold eP; omega
    have e2 : eV q.2 = v := by unfold eV; omega
    have e3 : q.2 % 8 = hh := by omega
    rw [e1, e2, e3] at ht
    have et : t' = t := by
      rw [g5] at ht
      have := Sum.inl.inj (Option.some.inj ht)
      simp only [Prod.mk.injEq, List.cons.injEq, true_and] at this
      exact Value.ref.inj this.1
    subst et
    refine ⟨p, v, hh, t', g1, g2, g3, g4, ?_, ?_, ?_, ?_, ?_⟩
    · rw [hT, if_neg a9, if_neg a10, if_pos rfl, e1, e2, e3, hS 604, if_neg (by omega), if_neg (by omega), hS 605, if_neg (by omega), if_neg (by omega), hS 606, if_neg (by omega), if_neg (by omega), hS 607, if_neg (by omega), if_neg (by omega)]
    · rw [eT_ext r603]
      exact sm13 t' _ g6 (show (13 : Nat) ∈ [13] by decide)
    · rw [eT_ext r603]
      exact g7
    · rw [hS, if_neg (by omega), if_neg (by omega)]
      exact g8
    · rw [hS, if_neg (by omega), if_pos ⟨rfl, rfl⟩]
  have tnq : tn S' q.2 = U + 1 := by
    unfold tn
    rw [hS, if_pos ⟨rfl, rfl⟩]
    exact m_n_cl hU2
  have tnr : ∀ e, ¬ e = q.2 → tn S' e = tn S e := by
    intro e he
    unfold tn
    rw [hS, if_neg (fun z => he z.2), if_neg (by omega)]
  have tle : ∀ r, (r ∈ X ∨ r ∈ Y) → tn S r.2 ≤ U := by
    intro r hr
    obtain ⟨k, hk⟩ := h.ent (List.mem_append.mpr hr)
    have := hk.rng hn.2
    obtain ⟨t9, z1, z2⟩ := hU.2 r.2 this.2.2 hk.there.1
    unfold tn
    rw [z2, m_n_cl (by omega)]
    exact z1
  have pw : ∀ L : List (Nat × Nat), (∀ r ∈ L, ¬ r.2 = q.2 → r ∈ X ∨ r ∈ Y) → L.Pairwise (fun a b => ¬ a.2 = q.2 ∧ (b = q ∨ (¬ b.2 = q.2 ∧ tn S a.2 < tn S b.2))) → L.Pairwise (fun a b => tn S' a.2 < tn S' b.2) := by
    intro L hL hp
    refine List.Pairwise.imp_of_mem (fun {a b} ha hb2 z => ?_) hp
    obtain ⟨z1, z2 | ⟨z2, z3⟩⟩ := z
    · rw [z2, tnq, tnr _ z1]
      have := tle a (hL a ha z1)
      omega
    · rw [tnr _ z1, tnr _ z2]
      exact z3
  refine ⟨⟨hn, ?_, ⟨cX, ?_⟩, ⟨cY, ?_⟩, ?_, ?_, ?_, ?_, ?_, ?_⟩, ?_, ?_, ?_⟩
  · rw [hT, if_neg (by omega), if_neg (by omega), if_neg (fun z => a8 z.symm), hS, if_neg (by omega), if_neg (by omega)]
    exact h2
  · rw [hT, if_pos rfl]
  · rw [hT, if_neg (by omega), if_pos rfl]
  · intro r hr
    rcases hX r hr with ⟨rfl, rfl⟩ | ⟨z1, z2⟩
    · exact entq
    · exact ent r 0 (Or.inl z2) z1 (h5 r z2)
  · intro r hr
    rcases hY r hr with ⟨rfl, rfl⟩ | ⟨z1, z2⟩
    · exact entq
    · exact ent r 1 (Or.inr z2) z1 (h6 r z2)
  · refine pw X' (fun r hr hne => ?_) hpX
    rcases hX r hr with ⟨rfl, -⟩ | ⟨-, z⟩
    · exact absurd rfl hne
    · exact Or.inl z
  · refine pw Y' (fun r hr hne => ?_) hpY
    rcases hY r hr with ⟨rfl, -⟩ | ⟨-, z⟩
    · exact absurd rfl hne
    · exact Or.inr z
  · intro e e1 e2 e3
    rw [hS, if_neg (by omega), if_neg (by omega)] at e3
    obtain ⟨r, hr, z⟩ := h9 e e1 e2 e3
    exact ⟨r, hA r hr, z⟩
  · obtain ⟨b, b1, b2, b3⟩ := hb
    exact ⟨b, b1, b2, by rw [hS, if_neg (by omega), if_neg (by omega)]; exact b3⟩
  · refine ⟨by rw [hS1, if_pos rfl], fun e he hthere => ?_⟩
    rw [hS, if_neg (by omega), if_neg (by omega)] at hthere
    by_cases z : e = q.2
    · subst z
      exact ⟨U + 1, Nat.le_refl _, by rw [hS, if_pos ⟨rfl, rfl⟩]⟩
    · obtain ⟨t9, z1, z2⟩ := hU.2 e he hthere
      exact ⟨t9, by omega, by rw [hS, if_neg (fun w => z w.2), if_neg (by omega)]; exact z2⟩
  · refine ⟨fun b c k1 k2 k3 k4 => ?_, fun a ha p' v' t' wh mk ag cm bl kp k1 => ?_, fun hN b c k1 => ?_, hTn.1, hTn.2⟩
    · rw [hT, if_neg k2, if_neg k3, if_neg (fun z => k4 (List.mem_singleton.mpr z))]
      exact k1
    · have z := List.mem_singleton.mp ha
      subst z
      rw [ht] at k1
      cases k1
      exact ⟨k', by rw [hT, if_neg a9, if_neg a10, if_pos rfl]⟩
    · have : b < T.2.1 := by
        rw [hT] at k1
        by_cases z1 : b = 529 + 8 * n
        · rw [z1]; exact hN _ _ h3
        · by_cases z3 : b = 530 + 8 * n
          · rw [z3]; exact hN _ _ h4
          · by_cases z2 : b = q.1
            · rw [z2]; exact hN _ _ ht
            · rw [if_neg z1, if_neg z3, if_neg z2] at k1
              exact hN _ _ k1
      exact Nat.lt_of_lt_of_le this hTn.1
  · refine ⟨fun i hi => by rw [hS1, if_neg hi], fun a k ha => ?_, fun a k hk => ?_⟩
    · rw [hS, if_neg (fun z => ha (Or.inr (Or.inr z.1))), if_neg (fun z => ha (Or.inr (Or.inl z.1)))]
    · rw [hS, if_neg (by omega), if_neg (by omega)]
end
