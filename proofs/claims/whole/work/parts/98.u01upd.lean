/-! update(): the text is read, the tape is empty. -/
section
variable {I : Iv} {T T' : tT} {S S' : mS} {X Y : Nat → List (Nat × Nat)} {Z : Nat → List Fz} {Q cz Pd : List Rq} {c F n j0 k1 k2 : Nat} {rs : List Nat}
theorem noKt {i : Nat} (h1 : 36 ≤ i) (h2 : ¬ (80 ≤ i ∧ i ≤ 83)) : ¬ i ∈ Kt := fun q => by
  have := List.all_eq_true.mp (show Kt.all (fun i => decide (i < 36) || (decide (80 ≤ i) && decide (i ≤ 83))) = true by decide) i q
  rw [Bool.or_eq_true, Bool.and_eq_true, decide_eq_true_eq, decide_eq_true_eq, decide_eq_true_eq] at this
  omega
theorem noAt {a : Nat} (h : ¬ (584 ≤ a ∧ a ≤ 588)) : ¬ a ∈ [585, 586, 587, 588] := fun q => by
  have := List.all_eq_true.mp (show [585, 586, 587, 588].all (fun i => decide (584 ≤ i) && decide (i ≤ 588)) = true by decide) a q
  rw [Bool.and_eq_true, decide_eq_true_eq, decide_eq_true_eq] at this
  exact h this
/-- what a reading leaves keeps the whole, once the tape is empty -/
theorem RB.rest {L A k u v : Nat} {a b d : Option Nat} (h : RB T S X Y Z Q cz Pd j0 rs c) (hA : T.2.1 = A) (hR : Rest T T' S S' L A k a b d) (hcs : Cs T T' u v) : ∃ T2, D_c_Reader_empty F 513 T' = some T2 ∧ RB T2 S' X Y Z Q cz Pd j0 rs c ∧ Cs T T2 u v ∧ (∀ b, ¬ b = 513 → T2.1 b = T'.1 b) ∧ T2.2 = T'.2 ∧ vM S' = vM S ∧ vE S' = vE S ∧ vS S' = vS S ∧ ∀ y z, T'.1 A = some z → lsC z = false → lsC y = false → RB (tset T2 A y) S' X Y Z Q cz Pd j0 rs c := by
  obtain ⟨g, f2, f3, e1, e2, e3, e4, e5, e6, e7⟩ := hR
  obtain ⟨f1, _, _, L', x2, x5, x6, x7, x8, x9, x10, x11, y13, y14, y15, q1', q2', q3', q4', q5', q6', q7'⟩ := id h.2.2.2.2.2.2.2.2.2.2.2.2.1
  have hN : okN T := h.1.1
  have hi : ∀ i, 36 ≤ i → ¬ (80 ≤ i ∧ i ≤ 83) → S'.1 i = S.1 i := fun i w1 w2 => e7.1 i (noKt w1 w2)
  have hr : ∀ a k, ¬ (584 ≤ a ∧ a ≤ 588) → rd S' a k = rd S a k := fun a k w => e7.2 a k (noAt w)
  obtain ⟨T2, hT2⟩ : ∃ z, z = tset T' 513 (cRd (Int32.ofNat 0) g a b d) := ⟨_, rfl⟩
  have c1 : D_c_Reader_empty F 513 T' = some T2 := by
    unfold D_c_Reader_empty
    rw [show tpi T' 513 1 1 (0 : Int32) = some T2 from (tp_o e1 (show 1 < 16 by decide)).trans (by rw [hT2]; rfl)]
    rfl
  have cs2 : Cs T T2 u v := (hcs.trans (by rw [hT2]; exact Cs.cell e1 rfl rfl)).mono (Nat.le_refl _) (Nat.le_refl _)
  have T2b : ∀ b, ¬ b = 513 → T2.1 b = T'.1 b := fun b n => by rw [hT2]; exact tset_ne n
  have A3 := hN _ _ q1'
  have A4 := hN _ _ q4'
  have A5 := hN _ _ q5'
  have A6 := hN _ _ q6'
  rw [hA] at A3 A4 A5 A6
  have u514 : T'.1 514 = T.1 514 := e6 514 (by decide) (by decide) (by decide) (by omega)
  have key : ∀ T3, okL T3 → (∀ b, b < A → T3.1 b = T2.1 b) → RB T3 S' X Y Z Q cz Pd j0 rs c := by
    intro T3 hL3 hb3
    have st : ∀ b x, T.1 b = some x → ¬ (513 ≤ b ∧ b ≤ 516) → T3.1 b = some x := fun b x hb w => by
      have lt := hN b x hb
      rw [hb3 b (by omega), T2b b (by omega), e6 b (by omega) (by omega) (by omega) (by omega)]
      exact hb
    refine h.rdr hL3 st hi hr ⟨f1, f2, f3, 0, g 2, g 5, g 6, g 7, g 8, g 9, g 10, g 11, a, b, d, ?_, by omega, e3, ?_, ?_, ?_, fun i hi' => absurd hi' (Nat.not_lt_zero i)⟩
    · rw [hb3 513 A3, hT2, tset_at, ← e2]; rfl
    · rw [hb3 514 A4, T2b 514 (by decide), u514]; exact q4'
    · rw [hb3 515 A5, T2b 515 (by decide)]; exact e4
    · rw [hb3 516 A6, T2b 516 (by decide)]; exact e5
  obtain ⟨u1, u2, u3⟩ := rdr_views hi hr
  refine ⟨T2, c1, key T2 (cs2 h.1).1 (fun _ _ => rfl), cs2, T2b, by rw [hT2]; rfl, u1, u2, u3, fun y z hz lz ly => key _ ?_ (fun b hb => tset_ne (by omega))⟩
  exact (Cs.cell (T := T2) (a := A) (d := y) ((T2b A (by omega)).trans hz) lz ly (cs2 h.1).1).1
/-- what the reader holds, as a tape -/
theorem RRd.tape (h : RRd T S) : ∃ t L g a b d f2 f3, T.1 513 = some (cRd (Int32.ofNat L) g a b d) ∧ T.1 515 = some (.inr (.inl (0, 300, f2))) ∧ T.1 516 = some (.inr (.inl (0, 4, f3))) ∧ Tc t L T ∧ Tp t L S := by
  obtain ⟨f1, f2, f3, L, x2, x5, x6, x7, x8, x9, x10, x11, y13, y14, y15, q1', q2', q3', q4', q5', q6', q7'⟩ := h
  have hk : ∃ t : Nat → Nat, ∀ i, i < L → t i < 127 ∧ rd S 584 i = Int32.ofNat (t i) := by
    refine ⟨fun i => (rd S 584 i).toNatClampNeg, fun i hi => ?_⟩
    obtain ⟨_, k, k1', k2'⟩ := q7' i hi
    have : (Int32.ofNat k).toNatClampNeg = k := Int32.toNatClampNeg_ofNat_of_lt (by omega)
    show (rd S 584 i).toNatClampNeg < 127 ∧ rd S 584 i = Int32.ofNat (rd S 584 i).toNatClampNeg
    rw [k2', this]
    exact ⟨k1', rfl⟩
  obtain ⟨t, ht⟩ := hk
  refine ⟨t, L, fun i => if i = 2 then x2 else if i = 3 then S.1 3 else if i = 5 then x5 else if i = 6 then x6 else if i = 7 then x7 else if i = 8 then x8 else if i = 9 then x9 else if i = 10 then x10 else x11, y13, y14, y15, f2, f3, by rw [q1']; rfl, q5', q6', ⟨q2', f1, q4', fun i hi => ⟨(ht i hi).1, by rw [(q7' i hi).1]; exact (ht i hi).2⟩⟩, ⟨q2', q3', ht⟩⟩
/-- update, up to where the text is good or not -/
theorem up_read (hF : 400 < F) (h : RB T S X Y Z Q cz Pd j0 rs c) :
    (∃ T1 T2 S' pa, D_c_Reader_readThing F 513 T = some (some T.2.1, T1) ∧ D_c_Reader_empty F 513 T1 = some T2 ∧ T1.1 512 = T2.1 512 ∧ D_m_readText F 0 S = some (1, S') ∧ RB T2 S' X Y Z Q cz Pd j0 rs c ∧ Cs T T2 1 10 ∧ vM S' = vM S ∧ vE S' = vE S ∧ vS S' = vS S ∧ pa ≤ 31 ∧ S'.1 7 = Int32.ofNat pa ∧ T2.1 T.2.1 = some (cTold (Int32.ofNat pa) (tdv S')) ∧ okD S' ∧ ∀ y, lsC y = false → RB (tset T2 T.2.1 y) S' X Y Z Q cz Pd j0 rs c) ∨
    (∃ T1 T2 S', D_c_Reader_readThing F 513 T = some (none, T1) ∧ D_c_Reader_empty F 513 T1 = some T2 ∧ T1.1 512 = T2.1 512 ∧ D_m_readText F 0 S = some (0, S') ∧ RB T2 S' X Y Z Q cz Pd j0 rs c ∧ Cs T T2 1 10 ∧ vM S' = vM S ∧ vE S' = vE S ∧ vS S' = vS S) := by
  obtain ⟨t, L, g, a, b, d, f2, f3, q1', q2', q3', q4', q5'⟩ := RRd.tape h.2.2.2.2.2.2.2.2.2.2.2.2.1
  have lt := h.1.1 _ _ q1'
  rcases P_thing (F := F) q1' q2' q3' q4' q5' h.1.1 hF with ⟨T1, S', pa, y1, y2, y3, y4, y5, y6, y7, y8⟩ | ⟨T1, S', y1, y2, y3, y4⟩
  · left
    obtain ⟨T2, z1, z2, z3, z4, z5, z6, z7, z8, z9⟩ := h.rest (F := F) rfl y7 y8
    exact ⟨T1, T2, S', pa, y1, z1, (z4 512 (by decide)).symm, y2, z2, z3, z6, z7, z8, y3, y4, (z4 _ (by omega)).trans y5, y6, fun y ly => z9 y _ y5 rfl ly⟩
  · right
    obtain ⟨T2, z1, z2, z3, z4, z5, z6, z7, z8, _⟩ := h.rest (F := F) rfl y3 y4
    exact ⟨T1, T2, S', y1, z1, (z4 512 (by decide)).symm, y2, z2, z3, z6, z7, z8⟩
end
