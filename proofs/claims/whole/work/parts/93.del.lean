/-! Entries that go. -/
section
variable {T : tT} {S : mS} {F n U : Nat} {X Y : List (Nat × Nat)} {q : Nat × Nat}
/-- what stays when one goes -/
theorem RS.del (h : RS T S n X Y) (hq : q ∈ X ∨ q ∈ Y) {X1 Y1 : List (Nat × Nat)} {cX cY : Nat} {T1 : tT} (hT : ∀ b, T1.1 b = if b = 529 + 8 * n then some (.inr (.inr (cX, X1.map Prod.fst))) else if b = 530 + 8 * n then some (.inr (.inr (cY, Y1.map Prod.fst))) else T.1 b) (hT2 : T1.2 = T.2) (hX : X1.Sublist X) (hY : Y1.Sublist Y) (hX2 : ∀ r ∈ X1, ¬ r.2 = q.2) (hY2 : ∀ r ∈ Y1, ¬ r.2 = q.2) (hA : ∀ r, r ∈ X ∨ r ∈ Y → ¬ r.2 = q.2 → r ∈ X1 ∨ r ∈ Y1) : RS T1 (up2 S 601 q.2 0) n X1 Y1 ∧ (∀ U, RTn S U → RTn (up2 S 601 q.2 0) U) ∧ FrT n [] T T1 ∧ FrS n S (up2 S 601 q.2 0) := by
  obtain ⟨kq, hkq⟩ := h.ent (List.mem_append.mpr hq)
  obtain ⟨hn, h2, ⟨dX, h3⟩, ⟨dY, h4⟩, h5, h6, h7, h8, h9, hb⟩ := id h
  have hq7 := hkq.rng hn.2
  have s3 : ∀ a k, rd (up2 S 601 q.2 0) a k = if a = 601 ∧ k = q.2 then 0 else rd S a k := fun a k => rd_up2
  have sm13 : Same [13] T T1 := by
    intro x c hx hk
    have k1 : ¬ x = 529 + 8 * n := kd_ne hx h3 (by intro e; rw [e] at hk; exact absurd hk (show (21 : Nat) ∉ [13] by decide))
    have k3 : ¬ x = 530 + 8 * n := kd_ne hx h4 (by intro e; rw [e] at hk; exact absurd hk (show (21 : Nat) ∉ [13] by decide))
    rw [hT, if_neg k1, if_neg k3]
    exact hx
  have ent : ∀ r k, (r ∈ X ∨ r ∈ Y) → ¬ r.2 = q.2 → isEnt T S n r k → isEnt T1 (up2 S 601 q.2 0) n r k := by
    intro r k hr hne he
    obtain ⟨-, r9, r10⟩ := h.addr hr
    refine he.fr ?_ sm13 (fun j => ?_) (fun a ha1 ha2 => ?_)
    · rw [hT, if_neg r9, if_neg r10]
    · rw [s3, if_neg (by omega)]
    · rw [s3, if_neg (fun z => hne z.2)]
  have tnr : ∀ r, tn (up2 S 601 q.2 0) r = tn S r := by
    intro r
    unfold tn
    rw [s3, if_neg (by omega)]
  refine ⟨⟨hn, ?_, ⟨cX, ?_⟩, ⟨cY, ?_⟩, ?_, ?_, ?_, ?_, ?_, ?_⟩, ?_, ?_, ?_⟩
  · rw [hT, if_neg (by omega), if_neg (by omega), s3, if_neg (by omega)]
    exact h2
  · rw [hT, if_pos rfl]
  · rw [hT, if_neg (by omega), if_pos rfl]
  · exact fun r hr => ent r 0 (Or.inl (hX.subset hr)) (hX2 r hr) (h5 r (hX.subset hr))
  · exact fun r hr => ent r 1 (Or.inr (hY.subset hr)) (hY2 r hr) (h6 r (hY.subset hr))
  · simp only [tnr]
    exact h7.sublist hX
  · simp only [tnr]
    exact h8.sublist hY
  · intro e e1 e2 e3'
    rw [s3] at e3'
    split at e3'
    · exact absurd rfl e3'
    · rename_i z9
      obtain ⟨r, hr, z⟩ := h9 e e1 e2 e3'
      exact ⟨r, hA r hr (fun w => z9 ⟨rfl, by rw [← z]; exact w⟩), z⟩
  · obtain ⟨b, b1, b2, b3⟩ := hb
    exact ⟨b, b1, b2, by rw [s3, if_neg (by omega)]; exact b3⟩
  · intro U hU
    refine ⟨hU.1, fun e he ht => ?_⟩
    rw [s3] at ht
    split at ht
    · exact absurd rfl ht
    · obtain ⟨t9, z1, z2⟩ := hU.2 e he ht
      exact ⟨t9, z1, by rw [s3, if_neg (by omega)]; exact z2⟩
  · refine ⟨fun b c k1 k2 k3 k4 => by rw [hT, if_neg k2, if_neg k3]; exact k1, fun a ha => (by cases ha), fun hN b c k1 => ?_, by rw [hT2]; exact Nat.le_refl _, by rw [hT2]; exact Nat.le_refl _⟩
    rw [hT] at k1
    rw [hT2]
    by_cases z1 : b = 529 + 8 * n
    · rw [z1]; exact hN _ _ h3
    · by_cases z3 : b = 530 + 8 * n
      · rw [z3]; exact hN _ _ h4
      · rw [if_neg z1, if_neg z3] at k1
        exact hN _ _ k1
  · refine ⟨fun i hi => up2_1, fun a k ha => ?_, fun a k hk => ?_⟩
    · rw [s3, if_neg (fun z => ha (Or.inl z.1))]
    · rw [s3, if_neg (by omega)]
/-- removeAt -/
theorem RS.delAt (h : RS T S n X Y) (hl : X.length + Y.length < 400) {i : Nat} (hi : (X ++ Y)[i]? = some q) : ∃ T1 X1 Y1, D_c_Store_removeAt F (528 + 8 * n) (Int32.ofNat i) T = some T1 ∧ RS T1 (up2 S 601 q.2 0) n X1 Y1 ∧ X1 ++ Y1 = (X ++ Y).eraseIdx i ∧ X1.Sublist X ∧ Y1.Sublist Y ∧ (∀ U, RTn S U → RTn (up2 S 601 q.2 0) U) ∧ FrT n [] T T1 ∧ FrS n S (up2 S 601 q.2 0) := by
  obtain ⟨e1, e2, e3, e4, e5, e6, e7, e8⟩ := h.stC
  obtain ⟨n1, n2, n3⟩ := h.nodup
  have hpX := h.2.2.2.2.2.2.1
  have hpY := h.2.2.2.2.2.2.2.1
  obtain ⟨hn, h2, ⟨cX, h3⟩, ⟨cY, h4⟩, -⟩ := id h
  have hi9 : i < X.length + Y.length := by
    have := (List.getElem?_eq_some_iff.mp hi).1
    rw [List.length_append] at this
    exact this
  by_cases hx : i < X.length
  · rw [List.getElem?_append_left hx] at hi
    have me := mem_erase hpX hi
    have hq := List.mem_of_getElem? hi
    obtain ⟨r1, r2, r3, r4⟩ := h.del (q := q) (X1 := X.eraseIdx i) (Y1 := Y) (cX := cX) (cY := cY) (T1 := tset T (529 + 8 * n) (.inr (.inr (cX, (X.eraseIdx i).map Prod.fst)))) (Or.inl hq) (fun b => by
      rw [tset_1]
      by_cases w1 : b = 529 + 8 * n
      · simp only [if_pos w1]
      · by_cases w2 : b = 530 + 8 * n
        · simp only [if_neg w1, if_pos w2]
          rw [w2]
          exact h4
        · simp only [if_neg w1, if_neg w2]) rfl (List.eraseIdx_sublist _ _) (List.Sublist.refl _) (fun r hr => ((me r).mp hr).2) (fun r hr e => n3 q hq r hr e.symm) (fun r hr hne => hr.imp (fun z => (me r).mpr ⟨z, hne⟩) id)
    refine ⟨_, X.eraseIdx i, Y, ?_, r1, (List.eraseIdx_append_of_lt_length hx Y).symm, List.eraseIdx_sublist _ _, List.Sublist.refl _, r2, r3, r4⟩
    simp only [D_c_Store_removeAt, m_c1_ltf (show i < 2147483648 by omega), cond_false, e2, e5, Option.bind_some, ge_n (show i < 2147483648 by omega) (show X.length < 2147483648 by omega), decide_eq_false (show ¬ X.length ≤ i by omega), bd2, tlr_i h3 hi (by omega)]
  · rw [List.getElem?_append_right (by omega)] at hi
    have me := mem_erase hpY hi
    have hq := List.mem_of_getElem? hi
    obtain ⟨r1, r2, r3, r4⟩ := h.del (q := q) (X1 := X) (Y1 := Y.eraseIdx (i - X.length)) (cX := cX) (cY := cY) (T1 := tset T (530 + 8 * n) (.inr (.inr (cY, (Y.eraseIdx (i - X.length)).map Prod.fst)))) (Or.inr hq) (fun b => by
      rw [tset_1]
      by_cases w1 : b = 529 + 8 * n
      · simp only [if_pos w1, if_neg (show ¬ b = 530 + 8 * n by omega)]
        rw [w1]
        exact h3
      · by_cases w2 : b = 530 + 8 * n
        · simp only [if_neg w1, if_pos w2]
        · simp only [if_neg w1, if_neg w2]) rfl (List.Sublist.refl _) (List.eraseIdx_sublist _ _) (fun r hr e => n3 r hr q hq e) (fun r hr => ((me r).mp hr).2) (fun r hr hne => hr.imp id (fun z => (me r).mpr ⟨z, hne⟩))
    refine ⟨_, X, Y.eraseIdx (i - X.length), ?_, r1, (List.eraseIdx_append_of_length_le (by omega) Y).symm, List.Sublist.refl _, List.eraseIdx_sublist _ _, r2, r3, r4⟩
    simp only [D_c_Store_removeAt, D_c_Store_removeAt_27, m_c1_ltf (show i < 2147483648 by omega), cond_false, cond_true, e1, e2, e3, e5, h.count, Option.bind_some, ge_n (show i < 2147483648 by omega) (show X.length < 2147483648 by omega), decide_eq_true (show X.length ≤ i by omega), lt_n (show i < 2147483648 by omega) (show X.length < 2147483648 by omega), decide_eq_false (show ¬ i < X.length by omega), ge_n (show i < 2147483648 by omega) (show X.length + Y.length < 2147483648 by omega), decide_eq_false (show ¬ X.length + Y.length ≤ i by omega), m_n_sub (show X.length ≤ i by omega), bd2, tlr_i h4 hi (by omega)]
/-- what a removal by a test leaves: p says which places go -/
def Del (T : tT) (S : mS) (n : Nat) (X Y : List (Nat × Nat)) (p : Nat → Bool) (T' : tT) (S' : mS) (X' Y' : List (Nat × Nat)) : Prop := RS T' S' n X' Y' ∧ X'.Sublist X ∧ Y'.Sublist Y ∧ (∀ r ∈ X' ++ Y', p r.2 = false) ∧ (∀ U, RTn S U → RTn S' U) ∧ FrT n [] T T' ∧ (∀ i, S'.1 i = S.1 i) ∧ ∀ a k, rd S' a k = if a = 601 ∧ p k = true ∧ (∃ r ∈ X ++ Y, r.2 = k) then 0 else rd S a k
theorem erase_last {L : List (Nat × Nat)} {i : Nat} {q : Nat × Nat} (h : L[i]? = some q) (j : Nat) (hj : j < i) : (L.eraseIdx i)[j]? = L[j]? := by
  rw [List.getElem?_eraseIdx, if_pos hj]
end
theorem Del.step {X Y X1 Y1 : List (Nat × Nat)} {q : Nat × Nat} {i : Nat} {S S' : mS} {p : Nat → Bool} (hq : (X ++ Y)[i]? = some q) (hp : p q.2 = true) (d3 : X1 ++ Y1 = (X ++ Y).eraseIdx i) (g9 : ∀ a k, rd S' a k = if a = 601 ∧ p k = true ∧ (∃ r ∈ X1 ++ Y1, r.2 = k) then 0 else rd (up2 S 601 q.2 0) a k) : ∀ a k, rd S' a k = if a = 601 ∧ p k = true ∧ (∃ r ∈ X ++ Y, r.2 = k) then 0 else rd S a k := by
  intro a k
  rw [g9, rd_up2, d3]
  by_cases hA : a = 601 ∧ p k = true ∧ (∃ r ∈ X ++ Y, r.2 = k)
  · rw [if_pos hA]
    by_cases hB : a = 601 ∧ p k = true ∧ (∃ r ∈ (X ++ Y).eraseIdx i, r.2 = k)
    · rw [if_pos hB]
    · rw [if_neg hB, if_pos]
      refine ⟨hA.1, ?_⟩
      obtain ⟨h1, h2, r, hr, h3⟩ := hA
      obtain ⟨j, hj⟩ := List.mem_iff_getElem?.mp hr
      by_cases hji : j = i
      · subst hji
        rw [hq] at hj
        cases hj
        exact h3.symm
      · exact absurd ⟨h1, h2, r, List.mem_eraseIdx_iff_getElem?.mpr ⟨j, hji, hj⟩, h3⟩ hB
  · rw [if_neg hA, if_neg, if_neg]
    · rintro ⟨h1, h2⟩
      exact hA ⟨h1, by rw [h2]; exact hp, q, List.mem_of_getElem? hq, h2.symm⟩
    · rintro ⟨h1, h2, r, hr, h3⟩
      exact hA ⟨h1, h2, r, (List.eraseIdx_sublist _ _).subset hr, h3⟩
section
variable {F n : Nat}
/-- removeKey -/
theorem removeKey_loop {p0 v0 : Nat} (hp0 : p0 < 32) (hv0 : v0 < 4) : ∀ (i : Nat) (X Y : List (Nat × Nat)) (T : tT) (S : mS), X.length + Y.length < 399 → i ≤ X.length + Y.length → RS T S n X Y → (∀ j r, i ≤ j → (X ++ Y)[j]? = some r → (fun e => decide (eP e = p0 ∧ eV e = v0)) r.2 = false) → ∀ f, i < f → ∃ T' S' X' Y', D_c_Store_removeKey_7 F f (528 + 8 * n) (Int32.ofNat p0) (Int32.ofNat v0) (Int32.ofNat i - 1) T = some T' ∧ Del T S n X Y (fun e => decide (eP e = p0 ∧ eV e = v0)) T' S' X' Y' := by
  intro i
  induction i with
  | zero =>
    intro X Y T S hl hi h hdone f hf
    obtain ⟨f, rfl⟩ : ∃ f9, f = f9 + 1 := ⟨f - 1, by omega⟩
    refine ⟨T, S, X, Y, ?_, h, List.Sublist.refl _, List.Sublist.refl _, fun r hr => ?_, fun U hU => hU, FrT.refl, fun _ => rfl, fun a k => ?_⟩
    · rw [D_c_Store_removeKey_7, show m_c1 .lt (Int32.ofNat 0 - 1) = true from by decide, cond_true]
    · obtain ⟨j, hj⟩ := List.mem_iff_getElem?.mp hr
      exact hdone j r (by omega) hj
    · rw [if_neg]
      rintro ⟨-, z2, r, hr, rfl⟩
      obtain ⟨j, hj⟩ := List.mem_iff_getElem?.mp hr
      rw [hdone j r (by omega) hj] at z2
      cases z2
  | succ i ih =>
    intro X Y T S hl hi h hdone f hf
    obtain ⟨f, rfl⟩ : ∃ f9, f = f9 + 1 := ⟨f - 1, by omega⟩
    obtain ⟨q, hq⟩ : ∃ q, (X ++ Y)[i]? = some q := ⟨_, List.getElem?_eq_getElem (by rw [List.length_append]; omega)⟩
    obtain ⟨k, hk⟩ := h.ent (List.mem_of_getElem? hq)
    obtain ⟨t, c1, c2, c3⟩ := hk.full
    have hr7 := hk.rng h.1.2
    obtain ⟨e1, -⟩ := h.stC
    have ei : Int32.ofNat (i + 1) - 1 = Int32.ofNat i := m_n_sub (a := i + 1) (b := 1) (by omega)
    have ed : Int32.ofNat i + Int32.ofInt (-1) = Int32.ofNat i - 1 := by
      rw [show Int32.ofInt (-1) = (-1 : Int32) from rfl, Int32.sub_eq_add_neg]
    have hdec : decide (Int32.ofNat (eP q.2) = Int32.ofNat p0 ∧ Int32.ofNat (eV q.2) = Int32.ofNat v0) = (fun e => decide (eP e = p0 ∧ eV e = v0)) q.2 := by
      exact decide_eq_decide.mpr (and_congr (m_n_eq (show eP q.2 < 2147483648 by unfold eP; omega) (by omega)) (m_n_eq (show eV q.2 < 2147483648 by unfold eV; omega) (by omega)))
    rw [ei, D_c_Store_removeKey_7, m_c1_ltf (by omega), cond_false]
    simp only [e1, Option.bind_some, c_at (F := F) h (by omega) (show i < 400 by omega), hq, Option.map_some, nc, tcl_o c1, D_c_Store_removeKey_38, ed]
    cases hp : (fun e => decide (eP e = p0 ∧ eV e = v0)) q.2 with
    | false =>
      obtain ⟨T', S', X', Y', g1, g2⟩ := ih X Y T S hl (by omega) h (fun j r hj hr => by
        by_cases hji : j = i
        · subst hji
          rw [hq] at hr
          cases hr
          exact hp
        · exact hdone j r (by omega) hr) f (by omega)
      refine ⟨T', S', X', Y', ?_, g2⟩
      simp only [c_isOf c1, Option.bind_some, hdec, hp, b2i]
      exact g1
    | true =>
      obtain ⟨T1, X1, Y1, d1, d2, d3, d4, d5, d6, d7, d8⟩ := RS.delAt (F := F) h (by omega) hq
      have hlen : X1.length + Y1.length + 1 = X.length + Y.length := by
        have := congrArg List.length d3
        rw [List.length_append, List.length_eraseIdx_of_lt (by rw [List.length_append]; omega), List.length_append] at this
        omega
      obtain ⟨T', S', X', Y', g1, g2, g3, g4, g5, g6, g7, g8, g9⟩ := ih X1 Y1 T1 (up2 S 601 q.2 0) (by omega) (by omega) d2 (fun j r hj hr => by
        rw [d3, List.getElem?_eraseIdx, if_neg (by omega)] at hr
        exact hdone (j + 1) r (by omega) hr) f (by omega)
      refine ⟨T', S', X', Y', ?_, g2, g3.trans d4, g4.trans d5, g5, fun U hU => g6 U (d6 U hU), d7.trans g7, fun i => g8 i, fun a k => ?_⟩
      · simp only [c_isOf c1, Option.bind_some, hdec, hp, b2i]
        show ((D_c_Store_removeAt F (528 + 8 * n) (Int32.ofNat i) T).bind fun T35 => _) = _
        simp only [d1, Option.bind_some]
        exact g1
      · exact Del.step hq hp d3 g9 a k
end
