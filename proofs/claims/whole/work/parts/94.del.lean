/-! Other forms, purged ones: written by the text of removeKey. -/
section
variable {F n : Nat}
/-- removeOtherVary -/
theorem removeOtherVary_loop {p0 v0 c tc : Nat} (hp0 : p0 < 32) (hv0 : v0 < 4) {S0 : mS} {vy wh mk ag cm bl kp pc : Int32} {dc : Nat → Int32} (hvy : dc 8 = vy) : ∀ (i : Nat) (X Y : List (Nat × Nat)) (T : tT) (S : mS), X.length + Y.length < 399 → i ≤ X.length + Y.length → RS T S n X Y → (∀ j, rd S 603 j = rd S0 603 j) → T.1 c = some (cEntry (Int32.ofNat p0) (Int32.ofNat v0) tc wh mk ag cm bl kp) → T.1 tc = some (cTold pc dc) → (∀ j r, i ≤ j → (X ++ Y)[j]? = some r → (fun e => decide (eP e = p0 ∧ eV e = v0 ∧ ¬ eT S0 e 8 = vy)) r.2 = false) → ∀ f, i < f → ∃ T' S' X' Y', D_c_Store_removeOtherVary_7 F f (528 + 8 * n) (some c) (Int32.ofNat i - 1) T = some T' ∧ Del T S n X Y (fun e => decide (eP e = p0 ∧ eV e = v0 ∧ ¬ eT S0 e 8 = vy)) T' S' X' Y' := by
  intro i
  induction i with
  | zero =>
    intro X Y T S hl hi h h603 hc htc hdone f hf
    obtain ⟨f, rfl⟩ : ∃ f9, f = f9 + 1 := ⟨f - 1, by omega⟩
    refine ⟨T, S, X, Y, ?_, h, List.Sublist.refl _, List.Sublist.refl _, fun r hr => ?_, fun U hU => hU, FrT.refl, fun _ => rfl, fun a k => ?_⟩
    · rw [D_c_Store_removeOtherVary_7, show m_c1 .lt (Int32.ofNat 0 - 1) = true from by decide, cond_true]
    · obtain ⟨j, hj⟩ := List.mem_iff_getElem?.mp hr
      exact hdone j r (by omega) hj
    · rw [if_neg]
      rintro ⟨-, z2, r, hr, rfl⟩
      obtain ⟨j, hj⟩ := List.mem_iff_getElem?.mp hr
      rw [hdone j r (by omega) hj] at z2
      cases z2
  | succ i ih =>
    intro X Y T S hl hi h h603 hc htc hdone f hf
    obtain ⟨f, rfl⟩ : ∃ f9, f = f9 + 1 := ⟨f - 1, by omega⟩
    obtain ⟨q, hq⟩ : ∃ q, (X ++ Y)[i]? = some q := ⟨_, List.getElem?_eq_getElem (by rw [List.length_append]; omega)⟩
    obtain ⟨k, hk⟩ := h.ent (List.mem_of_getElem? hq)
    obtain ⟨t, c1, c2, c3⟩ := hk.full
    have hr7 := hk.rng h.1.2
    obtain ⟨e1, -⟩ := h.stC
    have ei : Int32.ofNat (i + 1) - 1 = Int32.ofNat i := m_n_sub (a := i + 1) (b := 1) (by omega)
    have ed : Int32.ofNat i + Int32.ofInt (-1) = Int32.ofNat i - 1 := by
      rw [show Int32.ofInt (-1) = (-1 : Int32) from rfl, Int32.sub_eq_add_neg]
    have hdec : decide (Int32.ofNat (eP q.2) = Int32.ofNat p0 ∧ Int32.ofNat (eV q.2) = Int32.ofNat v0) = decide (eP q.2 = p0 ∧ eV q.2 = v0) := by
      exact decide_eq_decide.mpr (and_congr (m_n_eq (show eP q.2 < 2147483648 by unfold eP; omega) (by omega)) (m_n_eq (show eV q.2 < 2147483648 by unfold eV; omega) (by omega)))
    have h8 : eT S q.2 8 = eT S0 q.2 8 := h603 _
    rw [ei, D_c_Store_removeOtherVary_7, m_c1_ltf (by omega), cond_false]
    simp only [e1, Option.bind_some, c_at (F := F) h (by omega) (show i < 400 by omega), hq, Option.map_some, nc, tcl_o c1, D_c_Store_removeOtherVary_58, ed]
    cases hp : (fun e => decide (eP e = p0 ∧ eV e = v0 ∧ ¬ eT S0 e 8 = vy)) q.2 with
    | false =>
      obtain ⟨T', S', X', Y', g1, g2⟩ := ih X Y T S hl (by omega) h h603 hc htc (fun j r hj hr => by
        by_cases hji : j = i
        · subst hji
          rw [hq] at hr
          cases hr
          exact hp
        · exact hdone j r (by omega) hr) f (by omega)
      refine ⟨T', S', X', Y', ?_, g2⟩
      by_cases z1 : eP q.2 = p0 ∧ eV q.2 = v0
      · have z2 : eT S q.2 8 = vy := by
          rw [h8]
          apply Classical.byContradiction
          intro w
          have hp' := of_decide_eq_false hp
          exact hp' ⟨z1.1, z1.2, w⟩
        simp only [Option.bind_some, tgi_o (k := 0) hc rfl, tgi_o (k := 1) hc rfl, tcl_o c1, c_isOf c1, hdec, decide_eq_true z1, b2i, if_true, show m_c1 .eq (1 : Int32) = false from rfl, cond_false, tgr_o (k := 2) (x := some t) c1 rfl, tgi_o (k := 9) c2 rfl, tgr_o (k := 2) (x := some tc) hc rfl, tgi_o (k := 9) htc rfl, z2, hvy, m_c2, decide_true, cond_true]
        exact g1
      · simp only [Option.bind_some, tgi_o (k := 0) hc rfl, tgi_o (k := 1) hc rfl, tcl_o c1, c_isOf c1, hdec, decide_eq_false z1, b2i, Bool.false_eq_true, if_false, show m_c1 .eq (0 : Int32) = true from rfl, cond_true]
        exact g1
    | true =>
      obtain ⟨T1, X1, Y1, d1, d2, d3, d4, d5, d6, d7, d8⟩ := RS.delAt (F := F) h (by omega) hq
      have hlen : X1.length + Y1.length + 1 = X.length + Y.length := by
        have := congrArg List.length d3
        rw [List.length_append, List.length_eraseIdx_of_lt (by rw [List.length_append]; omega), List.length_append] at this
        omega
      obtain ⟨T', S', X', Y', g1, g2, g3, g4, g5, g6, g7, g8, g9⟩ := ih X1 Y1 T1 (up2 S 601 q.2 0) (by omega) (by omega) d2 (fun j => by rw [rd_up2, if_neg (by omega)]; exact h603 j) (d7.1 c _ hc (kd_ne hc h.2.2.1.choose_spec (show ¬ (11 : Nat) = 21 by decide)) (kd_ne hc h.2.2.2.1.choose_spec (show ¬ (11 : Nat) = 21 by decide)) (by simp)) (d7.1 tc _ htc (kd_ne htc h.2.2.1.choose_spec (show ¬ (13 : Nat) = 21 by decide)) (kd_ne htc h.2.2.2.1.choose_spec (show ¬ (13 : Nat) = 21 by decide)) (by simp)) (fun j r hj hr => by
        rw [d3, List.getElem?_eraseIdx, if_neg (by omega)] at hr
        exact hdone (j + 1) r (by omega) hr) f (by omega)
      refine ⟨T', S', X', Y', ?_, g2, g3.trans d4, g4.trans d5, g5, fun U hU => g6 U (d6 U hU), d7.trans g7, fun i => g8 i, fun a k => ?_⟩
      · have hp' := of_decide_eq_true hp
        have z2 : ¬ eT S q.2 8 = vy := by rw [h8]; exact hp'.2.2
        simp only [Option.bind_some, tgi_o (k := 0) hc rfl, tgi_o (k := 1) hc rfl, tcl_o c1, c_isOf c1, hdec, decide_eq_true (show eP q.2 = p0 ∧ eV q.2 = v0 from ⟨hp'.1, hp'.2.1⟩), b2i, if_true, show m_c1 .eq (1 : Int32) = false from rfl, cond_false, tgr_o (k := 2) (x := some t) c1 rfl, tgi_o (k := 9) c2 rfl, tgr_o (k := 2) (x := some tc) hc rfl, tgi_o (k := 9) htc rfl, hvy, m_c2, decide_eq_false z2, d1]
        exact g1
      · exact Del.step hq hp d3 g9 a k
end
section
variable {F n : Nat}
/-- removePurged -/
theorem removePurged_loop {S0 : mS} {x y : Int32} : ∀ (i : Nat) (X Y : List (Nat × Nat)) (T : tT) (S : mS), X.length + Y.length < 399 → i ≤ X.length + Y.length → RS T S n X Y → (∀ j, rd S 603 j = rd S0 603 j) → (∀ j r, i ≤ j → (X ++ Y)[j]? = some r → (fun e => v_purged (Int32.ofNat (eP e)) (eT S0 e 7) x y) r.2 = false) → ∀ f, i < f → ∃ T' S' X' Y', D_c_Store_removePurged_7 F f (528 + 8 * n) x y (Int32.ofNat i - 1) T = some T' ∧ Del T S n X Y (fun e => v_purged (Int32.ofNat (eP e)) (eT S0 e 7) x y) T' S' X' Y' := by
  intro i
  induction i with
  | zero =>
    intro X Y T S hl hi h h603 hdone f hf
    obtain ⟨f, rfl⟩ : ∃ f9, f = f9 + 1 := ⟨f - 1, by omega⟩
    refine ⟨T, S, X, Y, ?_, h, List.Sublist.refl _, List.Sublist.refl _, fun r hr => ?_, fun U hU => hU, FrT.refl, fun _ => rfl, fun a k => ?_⟩
    · rw [D_c_Store_removePurged_7, show m_c1 .lt (Int32.ofNat 0 - 1) = true from by decide, cond_true]
    · obtain ⟨j, hj⟩ := List.mem_iff_getElem?.mp hr
      exact hdone j r (by omega) hj
    · rw [if_neg]
      rintro ⟨-, z2, r, hr, rfl⟩
      obtain ⟨j, hj⟩ := List.mem_iff_getElem?.mp hr
      rw [hdone j r (by omega) hj] at z2
      cases z2
  | succ i ih =>
    intro X Y T S hl hi h h603 hdone f hf
    obtain ⟨f, rfl⟩ : ∃ f9, f = f9 + 1 := ⟨f - 1, by omega⟩
    obtain ⟨q, hq⟩ : ∃ q, (X ++ Y)[i]? = some q := ⟨_, List.getElem?_eq_getElem (by rw [List.length_append]; omega)⟩
    obtain ⟨k, hk⟩ := h.ent (List.mem_of_getElem? hq)
    obtain ⟨t, c1, c2, c3⟩ := hk.full
    have hr7 := hk.rng h.1.2
    obtain ⟨e1, -⟩ := h.stC
    have ei : Int32.ofNat (i + 1) - 1 = Int32.ofNat i := m_n_sub (a := i + 1) (b := 1) (by omega)
    have ed : Int32.ofNat i + Int32.ofInt (-1) = Int32.ofNat i - 1 := by
      rw [show Int32.ofInt (-1) = (-1 : Int32) from rfl, Int32.sub_eq_add_neg]
    have h7 : eT S q.2 7 = eT S0 q.2 7 := h603 _
    have hpp : v_purged (Int32.ofNat (eP q.2)) (eT S q.2 7) x y = (fun e => v_purged (Int32.ofNat (eP e)) (eT S0 e 7) x y) q.2 := by rw [h7]
    rw [ei, D_c_Store_removePurged_7, m_c1_ltf (by omega), cond_false]
    simp only [e1, Option.bind_some, c_at (F := F) h (by omega) (show i < 400 by omega), hq, Option.map_some, nc, tcl_o c1, D_c_Store_removePurged_41, ed]
    cases hp : (fun e => v_purged (Int32.ofNat (eP e)) (eT S0 e 7) x y) q.2 with
    | false =>
      obtain ⟨T', S', X', Y', g1, g2⟩ := ih X Y T S hl (by omega) h h603 (fun j r hj hr => by
        by_cases hji : j = i
        · subst hji
          rw [hq] at hr
          cases hr
          exact hp
        · exact hdone j r (by omega) hr) f (by omega)
      refine ⟨T', S', X', Y', ?_, g2⟩
      simp only [Option.bind_some, tgr_o (k := 2) (x := some t) c1 rfl, tcl_o c2, c_purged c2, hpp, hp, b2i]
      exact g1
    | true =>
      obtain ⟨T1, X1, Y1, d1, d2, d3, d4, d5, d6, d7, d8⟩ := RS.delAt (F := F) h (by omega) hq
      have hlen : X1.length + Y1.length + 1 = X.length + Y.length := by
        have := congrArg List.length d3
        rw [List.length_append, List.length_eraseIdx_of_lt (by rw [List.length_append]; omega), List.length_append] at this
        omega
      obtain ⟨T', S', X', Y', g1, g2, g3, g4, g5, g6, g7, g8, g9⟩ := ih X1 Y1 T1 (up2 S 601 q.2 0) (by omega) (by omega) d2 (fun j => by rw [rd_up2, if_neg (by omega)]; exact h603 j) (fun j r hj hr => by
        rw [d3, List.getElem?_eraseIdx, if_neg (by omega)] at hr
        exact hdone (j + 1) r (by omega) hr) f (by omega)
      refine ⟨T', S', X', Y', ?_, g2, g3.trans d4, g4.trans d5, g5, fun U hU => g6 U (d6 U hU), d7.trans g7, fun i => g8 i, fun a k => ?_⟩
      · simp only [Option.bind_some, tgr_o (k := 2) (x := some t) c1 rfl, tcl_o c2, c_purged c2, hpp, hp, b2i]
        show ((D_c_Store_removeAt F (528 + 8 * n) (Int32.ofNat i) T).bind fun T42 => _) = _
        simp only [d1, Option.bind_some]
        exact g1
      · exact Del.step hq hp d3 g9 a k
end
