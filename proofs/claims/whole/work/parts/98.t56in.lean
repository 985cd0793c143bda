/-! The taking in: what is now. -/
section
variable {F e : Nat}
theorem m_in285 {x4 x5 : Int32} (he : e < 7168) : ∀ (m w : Nat) (S : mS), w + m = 9 → ∀ g, m < g → ∃ S3, D_m_takeIn_285 F g (Int32.ofNat e) x4 x5 (Int32.ofNat w) S = D_m_takeIn_359 F F x4 x5 0 S3 ∧ (∀ i, S3.1 i = if i = 86 then x4 else if i = 85 then came S 10 + S.1 36 else if i = 84 then came S 8 else if i = 87 then Int32.ofNat (e % 8) else S.1 i) ∧ ∀ a k, rd S3 a k = if a = 626 ∧ w ≤ k ∧ k < 9 then came S (12 + k) else rd S a k := by
  intro m
  induction m with
  | zero =>
    intro w S hw g hg
    obtain ⟨g, rfl⟩ : ∃ x, g = x + 1 := ⟨g - 1, by omega⟩
    have : w = 9 := by omega
    subst this
    have md : Int32.ofNat e - Int32.ofNat e / (8 : Int32) * (8 : Int32) = Int32.ofNat (e % 8) := by
      rw [show Int32.ofNat e / (8 : Int32) = Int32.ofNat (e / 8) from m_n_div (b := 8) (by omega) (by omega), Int32.mul_comm, k8, m_n_sub (by omega)]
      congr 1
      omega
    have c8 : ∀ x, aget 0 22 (up1 S 87 x) 628 (8 : Int32) = some (came S 8) := fun x => (aget_n (k := 8) (Or.inl rfl) (by decide) (by decide)).trans (by rw [rd_up1]; rfl)
    have c10 : ∀ x y, aget 0 22 (up1 (up1 S 87 x) 84 y) 628 (10 : Int32) = some (came S 10) := fun x y => (aget_n (k := 10) (Or.inl rfl) (by decide) (by decide)).trans (by rw [rd_up1, rd_up1]; rfl)
    refine ⟨up1 (up1 (up1 (up1 S 87 (Int32.ofNat (e % 8))) 84 (came S 8)) 85 (came S 10 + S.1 36)) 86 x4, ?_, fun i => ?_, fun a k => ?_⟩
    · unfold D_m_takeIn_285
      rw [show m_c2 .ge (Int32.ofNat 9) (9 : Int32) = true from rfl, cond_true, md]
      simp only [fput, Option.bind_some, c8, c10]
      rfl
    · rw [up1_1, up1_1, up1_1, up1_1]
    · rw [rd_up1, rd_up1, rd_up1, rd_up1, if_neg (by omega)]
  | succ m ih =>
    intro w S hw g hg
    obtain ⟨g, rfl⟩ : ∃ x, g = x + 1 := ⟨g - 1, by omega⟩
    have cw : aget 0 22 S 628 (Int32.ofNat (12 + w)) = some (came S (12 + w)) := aget_n (Or.inl rfl) (by omega) (by decide)
    have ap : aput 9 S 626 (Int32.ofNat w) (came S (12 + w)) = some (up2 S 626 w (came S (12 + w))) := aput_n (by omega) (by decide)
    obtain ⟨S3, e1, e2, e3⟩ := ih (w + 1) (up2 S 626 w (came S (12 + w))) (by omega) g (by omega)
    have c9 : ∀ i, came (up2 S 626 w (came S (12 + w))) i = came S i := fun i => by unfold came; rw [rd_up2, if_neg (by omega)]
    refine ⟨S3, ?_, fun i => ?_, fun a k => ?_⟩
    · rw [← e1]
      conv => lhs; unfold D_m_takeIn_285
      rw [show m_c2 .ge (Int32.ofNat w) (9 : Int32) = decide (9 ≤ w) from ge_n (by omega) (by decide), decide_eq_false (by omega), cond_false, show (12 : Int32) + Int32.ofNat w = Int32.ofNat (12 + w) from i_add (a := 12), cw, Option.bind_some, ap, Option.bind_some, q1]
    · rw [e2, c9, c9, up2_1]
      by_cases z : i = 36
      · rw [z]
        rfl
      · rw [up2_1]
    · rw [e3, c9, rd_up2]
      by_cases q1' : a = 626 ∧ w + 1 ≤ k ∧ k < 9
      · rw [if_pos q1', if_pos (show a = 626 ∧ w ≤ k ∧ k < 9 by omega)]
      · rw [if_neg q1']
        by_cases q2' : a = 626 ∧ k = w
        · rw [if_pos q2', if_pos (show a = 626 ∧ w ≤ k ∧ k < 9 by omega), q2'.2]
        · rw [if_neg q2', if_neg (show ¬ (a = 626 ∧ w ≤ k ∧ k < 9) by omega)]
end
