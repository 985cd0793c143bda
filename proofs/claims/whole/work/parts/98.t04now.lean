/-! What the reference lays out before it gives: serve. -/
section
variable {F : Nat}
theorem m_serve_loop {w : Int32} {how : Int32} {e : Nat} (he : e < 7168) : ∀ (m i : Nat) (S : mS), i + m = 9 → ∀ f, m < f → ∃ S2, D_m_serve_3 F f w (Int32.ofNat e) how (Int32.ofNat i) S = (D_m_give F w how S2).bind (fun S16 => some S16) ∧ (∀ j, S2.1 j = if j = 86 then rd S 607 e else if j = 85 then (rd S 605 e + S.1 36) - rd S 606 e else if j = 84 then rd S 604 e else if j = 87 then Int32.ofNat (e % 8) else S.1 j) ∧ ∀ a k, rd S2 a k = if a = 626 ∧ i ≤ k ∧ k < 9 then rd S 603 (9 * e + k) else rd S a k := by
  intro m
  induction m with
  | zero =>
    intro i S h f hf
    obtain ⟨f, rfl⟩ : ∃ f9, f = f9 + 1 := ⟨f - 1, by omega⟩
    rw [D_m_serve_3, show (9 : Int32) = Int32.ofNat 9 from rfl, ge_n (by omega) (by omega), decide_eq_true (by omega), cond_true]
    simp only [fput, Option.bind_some, aget_n (Or.inl rfl) he (by decide), m_ageOf he, rem8 (show sm e by unfold sm; omega), rd_up1, up1_1, show ¬ (36 = 84) by decide, show ¬ (36 = 87) by decide, if_false]
    refine ⟨_, rfl, fun j => ?_, fun a k => ?_⟩
    · simp only [up1_1]
    · rw [if_neg (by omega)]
      rfl
  | succ m ih =>
    intro i S h f hf
    obtain ⟨f, rfl⟩ : ∃ f9, f = f9 + 1 := ⟨f - 1, by omega⟩
    have e1 : D_m_told F (Int32.ofNat e) (Int32.ofNat i) S = some (rd S 603 (9 * e + i)) := by
      unfold D_m_told
      rw [k9, m_n_add, aget_n (by decide) (by omega) (by decide)]
      rfl
    rw [D_m_serve_3, show (9 : Int32) = Int32.ofNat 9 from rfl, ge_n (by omega) (by omega), decide_eq_false (by omega), cond_false, e1, Option.bind_some, aput_n (by omega) (by decide), Option.bind_some, q1]
    obtain ⟨S2, g1, g2, g3⟩ := ih (i + 1) (up2 S 626 i (rd S 603 (9 * e + i))) (by omega) f (by omega)
    refine ⟨S2, g1, fun j => ?_, fun a k => ?_⟩
    · rw [g2]
      simp only [rd_up2, up2_1, show ¬ (607 = 626) by decide, show ¬ (605 = 626) by decide, show ¬ (606 = 626) by decide, show ¬ (604 = 626) by decide, false_and, if_false]
    · rw [g3]
      simp only [rd_up2, show ¬ (603 = 626) by decide, false_and, if_false]
      by_cases e9 : a = 626
      · subst e9
        by_cases e2 : k = i
        · subst e2
          simp only [true_and, if_neg (show ¬ (k + 1 ≤ k ∧ k < 9) by omega), if_true, if_pos (show k ≤ k ∧ k < 9 by omega)]
        · by_cases e3 : i + 1 ≤ k ∧ k < 9
          · simp only [true_and, if_pos e3, if_pos (show i ≤ k ∧ k < 9 by omega)]
          · simp only [true_and, if_neg e3, if_neg e2, if_neg (show ¬ (i ≤ k ∧ k < 9) by omega)]
      · simp only [e9, false_and, if_false]
theorem m_serveS {S : mS} {w : Int32} {how : Int32} {e : Nat} (hF : 10 ≤ F) (he : e < 7168) : ∃ S2, D_m_serve F w (Int32.ofNat e) how S = (D_m_give F w how S2).bind (fun S16 => some S16) ∧ isNow S2 (eT S e) (Int32.ofNat (e % 8)) (rd S 604 e) ((rd S 605 e + S.1 36) - rd S 606 e) (rd S 607 e) ∧ (∀ j, ¬ (84 ≤ j ∧ j ≤ 87) → S2.1 j = S.1 j) ∧ ∀ a k, ¬ a = 626 → rd S2 a k = rd S a k := by
  obtain ⟨S2, g1, g2, g3⟩ := m_serve_loop (F := F) (w := w) (how := how) he 9 0 S rfl F (by omega)
  refine ⟨S2, g1, ⟨fun i hi => ?_, ?_, ?_, ?_, ?_⟩, fun j hj => ?_, fun a k ha => ?_⟩
  · rw [g3, if_pos ⟨rfl, by omega, hi⟩]
    rfl
  · rw [g2]; simp
  · rw [g2]; simp
  · rw [g2]; simp
  · rw [g2]; simp
  · rw [g2, if_neg (by omega), if_neg (by omega), if_neg (by omega), if_neg (by omega)]
  · rw [g3, if_neg (fun z => ha z.1)]
end
