/-! The taking in: the reference. -/
section
variable {S : mS} {F n f e : Nat}
theorem nz_c {x : Int32} : m_c1 .eq x = decide (x = 0) := by
  by_cases h : x = 0
  · rw [h]; rfl
  · simp [m_c1, h]
theorem m_in13 {x1 : Int32} (hf : f < 896) : ∀ (m w : Nat) (S : mS), w + m = 8 → ∀ g, m < g → ∃ S2 g', D_m_takeIn_13 F g x1 (Int32.ofNat f) (Int32.ofNat e) (Int32.ofNat (8 * f + w)) S = D_m_takeIn_13 F (g' + 1) x1 (Int32.ofNat f) (Int32.ofNat e) (Int32.ofNat (8 * f + 8)) S2 ∧ (∀ i, S2.1 i = S.1 i) ∧ ∀ a k, rd S2 a k = if a = 601 ∧ 8 * f + w ≤ k ∧ k < 8 * f + 8 then (if ¬ rd S 601 k = 0 ∧ eT S k 8 = came S 20 then 1 else 0) else rd S a k := by
  intro m
  induction m with
  | zero =>
    intro w S hw g hg
    obtain ⟨g, rfl⟩ : ∃ x, g = x + 1 := ⟨g - 1, by omega⟩
    have : w = 8 := by omega
    subst this
    exact ⟨S, g, rfl, fun _ => rfl, fun a k => by rw [if_neg (by omega)]⟩
  | succ m ih =>
    intro w S hw g hg
    obtain ⟨g, rfl⟩ : ∃ x, g = x + 1 := ⟨g - 1, by omega⟩
    have c20 : aget 0 22 S 628 (20 : Int32) = some (came S 20) := aget_n (k := 20) (Or.inl rfl) (by decide) (by decide)
    have a601 : aget 4 7168 S 601 (Int32.ofNat (8 * f + w)) = some (rd S 601 (8 * f + w)) := aget_n (Or.inr rfl) (by omega) (by decide)
    have t8 : D_m_told F (Int32.ofNat (8 * f + w)) 8 S = some (eT S (8 * f + w) 8) := told8 (by omega)
    let x : Int32 := if ¬ rd S 601 (8 * f + w) = 0 ∧ eT S (8 * f + w) 8 = came S 20 then 1 else 0
    have fx : x = 0 ∨ x = 1 := by
      show (if ¬ rd S 601 (8 * f + w) = 0 ∧ eT S (8 * f + w) 8 = came S 20 then (1 : Int32) else 0) = 0 ∨ (if ¬ rd S 601 (8 * f + w) = 0 ∧ eT S (8 * f + w) 8 = came S 20 then (1 : Int32) else 0) = 1
      by_cases q : ¬ rd S 601 (8 * f + w) = 0 ∧ eT S (8 * f + w) 8 = came S 20
      · rw [if_pos q]; exact Or.inr rfl
      · rw [if_neg q]; exact Or.inl rfl
    have bp : bput 7168 S 601 (Int32.ofNat (8 * f + w)) x = some (up2 S 601 (8 * f + w) x) := bput_n (by omega) (by decide) fx
    obtain ⟨S2, g', e1, e2, e3⟩ := ih (w + 1) (up2 S 601 (8 * f + w) x) (by omega) g (by omega)
    refine ⟨S2, g', ?_, fun i => (e2 i).trans (by rw [up2_1]), fun a k => ?_⟩
    · rw [← e1]
      conv => lhs; unfold D_m_takeIn_13
      have ge9 : m_c2 .ge (Int32.ofNat (8 * f + w)) ((8 : Int32) * Int32.ofNat f + (8 : Int32)) = false := by
        rw [k8, show Int32.ofNat (8 * f) + (8 : Int32) = Int32.ofNat (8 * f + 8) from m_n_add _ 8, ge_n (by omega) (by omega)]
        exact decide_eq_false (by omega)
      have val : (cond (m_c1 .eq (rd S 601 (8 * f + w))) (some (0 : Int32)) ((D_m_told F (Int32.ofNat (8 * f + w)) (8 : Int32) S).bind fun v42 => (aget 0 22 S 628 (20 : Int32)).bind fun v44 => cond (m_c2 .ne v42 v44) (some (0 : Int32)) (some (1 : Int32)))) = some x := by
        show _ = some (if ¬ rd S 601 (8 * f + w) = 0 ∧ eT S (8 * f + w) 8 = came S 20 then (1 : Int32) else 0)
        rw [nz_c, t8, c20]
        by_cases q1' : rd S 601 (8 * f + w) = 0
        · rw [decide_eq_true q1', if_neg (fun z => z.1 q1')]; rfl
        · rw [decide_eq_false q1', cond_false, Option.bind_some, Option.bind_some]
          by_cases q2' : eT S (8 * f + w) 8 = came S 20
          · rw [if_pos ⟨q1', q2'⟩, show m_c2 .ne (eT S (8 * f + w) 8) (came S 20) = false by simp [m_c2, q2']]; rfl
          · rw [if_neg (fun z => q2' z.2), show m_c2 .ne (eT S (8 * f + w) 8) (came S 20) = true by simp [m_c2, q2']]; rfl
      rw [ge9, cond_false, a601, Option.bind_some, val, Option.bind_some, bp, Option.bind_some, show Int32.ofNat (8 * f + w) + Int32.ofInt 1 = Int32.ofNat (8 * f + (w + 1)) from m_n_add _ 1]
    · rw [e3]
      have c9 : came (up2 S 601 (8 * f + w) x) 20 = came S 20 := by unfold came; rw [rd_up2, if_neg (by omega)]
      have t9 : ∀ k, eT (up2 S 601 (8 * f + w) x) k 8 = eT S k 8 := fun k => by unfold eT; rw [rd_up2, if_neg (by omega)]
      by_cases q : a = 601 ∧ 8 * f + (w + 1) ≤ k ∧ k < 8 * f + 8
      · rw [if_pos q, c9, t9, rd_up2, if_neg (show ¬ (601 = 601 ∧ k = 8 * f + w) by omega), if_pos (show a = 601 ∧ 8 * f + w ≤ k ∧ k < 8 * f + 8 from ⟨q.1, by omega, q.2.2⟩)]
      · rw [if_neg q, rd_up2]
        by_cases q2 : a = 601 ∧ k = 8 * f + w
        · rw [if_pos q2, if_pos ⟨q2.1, by omega, by omega⟩, q2.2]
        · rw [if_neg q2, if_neg (by omega)]
/-- the blocks and the flag of the new entry -/
def inBl (S : mS) (e : Nat) : Int32 := came S 11 ||| (if ¬ rd S 601 e = 0 ∧ eT S e 0 = came S 12 then rd S 607 e else 0)
def inKp (S : mS) (e : Nat) : Int32 := if ¬ rd S 601 e = 0 ∧ ¬ rd S 602 e = 0 then 1 else 0
theorem inKp_flag : flag (inKp S e) := by
  unfold inKp
  by_cases w : ¬ rd S 601 e = 0 ∧ ¬ rd S 602 e = 0
  · rw [if_pos w]; exact Or.inr rfl
  · rw [if_neg w]; exact Or.inl rfl
theorem m_in13e {x1 : Int32} {g : Nat} (hf : f < 896) (he : e < 7168) : D_m_takeIn_13 F (g + 1) x1 (Int32.ofNat f) (Int32.ofNat e) (Int32.ofNat (8 * f + 8)) S = if came S 17 = 1 then D_m_takeIn_270 F x1 (Int32.ofNat f) (Int32.ofNat e) (inBl S e) (up2 S 601 e 0) else D_m_takeIn_176 F F x1 (Int32.ofNat f) (Int32.ofNat e) (inBl S e) 0 (up2 (up2 S 602 e (inKp S e)) 601 e 1) := by
  have ge9 : m_c2 .ge (Int32.ofNat (8 * f + 8)) ((8 : Int32) * Int32.ofNat f + (8 : Int32)) = true := by
    rw [k8, show Int32.ofNat (8 * f) + (8 : Int32) = Int32.ofNat (8 * f + 8) from m_n_add _ 8, ge_n (by omega) (by omega)]
    exact decide_eq_true (Nat.le_refl _)
  have c11 : aget 0 22 S 628 (11 : Int32) = some (came S 11) := aget_n (k := 11) (Or.inl rfl) (by decide) (by decide)
  have c12 : aget 0 22 S 628 (12 : Int32) = some (came S 12) := aget_n (k := 12) (Or.inl rfl) (by decide) (by decide)
  have c17 : aget 0 22 S 628 (17 : Int32) = some (came S 17) := aget_n (k := 17) (Or.inl rfl) (by decide) (by decide)
  have a601 : aget 4 7168 S 601 (Int32.ofNat e) = some (rd S 601 e) := aget_n (Or.inr rfl) he (by decide)
  have a602 : aget 4 7168 S 602 (Int32.ofNat e) = some (rd S 602 e) := aget_n (Or.inr rfl) he (by decide)
  have a607 : aget 0 7168 S 607 (Int32.ofNat e) = some (rd S 607 e) := aget_n (Or.inl rfl) he (by decide)
  have t0 : D_m_told F (Int32.ofNat e) 0 S = some (eT S e 0) := told0 he
  have v18 : (cond (m_c1 .eq (rd S 601 e)) (some (0 : Int32)) ((some (eT S e 0)).bind fun v11 => (some (came S 12)).bind fun v13 => cond (m_c2 .ne v11 v13) (some (0 : Int32)) ((some (rd S 607 e)).bind fun v16 => some v16))) = some (if ¬ rd S 601 e = 0 ∧ eT S e 0 = came S 12 then rd S 607 e else 0) := by
    rw [nz_c]
    by_cases q1' : rd S 601 e = 0
    · rw [decide_eq_true q1', if_neg (fun z => z.1 q1')]; rfl
    · rw [decide_eq_false q1', cond_false, Option.bind_some, Option.bind_some]
      by_cases q2' : eT S e 0 = came S 12
      · rw [if_pos ⟨q1', q2'⟩, show m_c2 .ne (eT S e 0) (came S 12) = false by simp [m_c2, q2']]; rfl
      · rw [if_neg (fun z => q2' z.2), show m_c2 .ne (eT S e 0) (came S 12) = true by simp [m_c2, q2']]; rfl
  have v30 : (cond (m_c1 .eq (rd S 601 e)) (some (0 : Int32)) ((some (rd S 602 e)).bind fun v27 => cond (m_c1 .eq v27) (some (0 : Int32)) (some (1 : Int32)))) = some (inKp S e) := by
    unfold inKp
    rw [nz_c]
    by_cases q1' : rd S 601 e = 0
    · rw [decide_eq_true q1', if_neg (fun z => z.1 q1')]; rfl
    · rw [decide_eq_false q1', cond_false, Option.bind_some, nz_c]
      by_cases q2' : rd S 602 e = 0
      · rw [decide_eq_true q2', if_neg (fun z => z.2 q2')]; rfl
      · rw [decide_eq_false q2', if_pos ⟨q1', q2'⟩]; rfl
  have b2 : bput 7168 S 602 (Int32.ofNat e) (inKp S e) = some (up2 S 602 e (inKp S e)) := bput_n he (by decide) inKp_flag
  have b1 : bput 7168 (up2 S 602 e (inKp S e)) 601 (Int32.ofNat e) (1 : Int32) = some (up2 (up2 S 602 e (inKp S e)) 601 e 1) := bput_n he (by decide) (Or.inr rfl)
  have b0 : bput 7168 S 601 (Int32.ofNat e) (0 : Int32) = some (up2 S 601 e 0) := bput_n he (by decide) (Or.inl rfl)
  unfold D_m_takeIn_13
  rw [ge9, cond_true, c11, Option.bind_some, a601, Option.bind_some, t0, c12, a607, v18, Option.bind_some, c17, Option.bind_some, Option.bind_some, a602, v30, Option.bind_some, b2, Option.bind_some, b1, Option.bind_some, b0, Option.bind_some]
  by_cases w : came S 17 = 1
  · rw [if_pos w, show m_c2 .ne (came S 17) (1 : Int32) = false by simp [m_c2, w], cond_false]
    rfl
  · rw [if_neg w, show m_c2 .ne (came S 17) (1 : Int32) = true by simp [m_c2, w], cond_true]
    rfl
theorem m_in176 {x1 x2 bl : Int32} {U : Nat} (he : e < 7168) : ∀ (m w : Nat) (S : mS), w + m = 9 → S.1 58 = Int32.ofNat U → ∀ g, m < g → ∃ S3, D_m_takeIn_176 F g x1 x2 (Int32.ofNat e) bl (Int32.ofNat w) S = (D_m_trim F x1 S3).bind (fun S122 => D_m_takeIn_270 F x1 x2 (Int32.ofNat e) bl S122) ∧ (∀ i, S3.1 i = if i = 58 then Int32.ofNat (U + 1) else S.1 i) ∧ ∀ a k, rd S3 a k = if a = 603 ∧ 9 * e + w ≤ k ∧ k < 9 * e + 9 then came S (12 + (k - 9 * e)) else if a = 604 ∧ k = e then came S 8 else if a = 605 ∧ k = e then came S 10 + S.1 36 else if a = 606 ∧ k = e then S.1 36 else if a = 607 ∧ k = e then bl else if a = 608 ∧ k = e then Int32.ofNat (U + 1) else rd S a k := by
  intro m
  induction m with
  | zero =>
    intro w S hw hU g hg
    obtain ⟨g, rfl⟩ : ∃ x, g = x + 1 := ⟨g - 1, by omega⟩
    have : w = 9 := by omega
    subst this
    have c8 : aget 0 22 S 628 (8 : Int32) = some (came S 8) := aget_n (k := 8) (Or.inl rfl) (by decide) (by decide)
    let S1 := up2 S 604 e (came S 8)
    have c10 : aget 0 22 S1 628 (10 : Int32) = some (came S 10) := (aget_n (k := 10) (Or.inl rfl) (by decide) (by decide)).trans (by show some (rd (up2 S 604 e (came S 8)) 628 10) = some (rd S 628 10); rw [rd_up2, if_neg (by omega)])
    let S2 := up2 S1 605 e (came S 10 + S.1 36)
    let S4 := up2 S2 606 e (S.1 36)
    let S5 := up2 S4 607 e bl
    let S6 := up2 (up1 S5 58 (Int32.ofNat (U + 1))) 608 e (Int32.ofNat (U + 1))
    have n1 : D_m_newest F (Int32.ofNat e) S5 = some S6 := by
      unfold D_m_newest
      have i5 : S5.1 58 = Int32.ofNat U := by show (up2 (up2 (up2 (up2 S 604 e (came S 8)) 605 e (came S 10 + S.1 36)) 606 e (S.1 36)) 607 e bl).1 58 = _; rw [up2_1, up2_1, up2_1, up2_1, hU]
      simp only [fput, Option.bind_some, i5, p1]
      rw [aput_n he (by decide), up1_1, if_pos rfl]
      rfl
    refine ⟨S6, ?_, fun i => ?_, fun a k => ?_⟩
    · unfold D_m_takeIn_176
      rw [show m_c2 .ge (Int32.ofNat 9) (9 : Int32) = true from rfl, cond_true, c8, Option.bind_some, aput_n he (by decide), Option.bind_some]
      show ((aget 0 22 S1 628 (10 : Int32)).bind fun v112 => _) = _
      rw [c10, Option.bind_some]
      show ((aput 7168 S1 605 (Int32.ofNat e) (came S 10 + S1.1 36)).bind fun S114 => _) = _
      rw [aput_n he (by decide), Option.bind_some]
      show ((aput 7168 S2 606 (Int32.ofNat e) (S2.1 36)).bind fun S116 => _) = _
      rw [aput_n he (by decide), Option.bind_some]
      show ((aput 7168 S4 607 (Int32.ofNat e) bl).bind fun S118 => _) = _
      rw [aput_n he (by decide), Option.bind_some]
      show ((D_m_newest F (Int32.ofNat e) S5).bind fun S120 => _) = _
      rw [n1, Option.bind_some]
    · show (up2 (up1 S5 58 (Int32.ofNat (U + 1))) 608 e (Int32.ofNat (U + 1))).1 i = _
      rw [up2_1, up1_1]
      by_cases w : i = 58
      · rw [if_pos w, if_pos w]
      · rw [if_neg w, if_neg w]
        show (up2 (up2 (up2 (up2 S 604 e (came S 8)) 605 e (came S 10 + S.1 36)) 606 e (S.1 36)) 607 e bl).1 i = _
        rw [up2_1, up2_1, up2_1, up2_1]
    · show rd (up2 (up1 (up2 (up2 (up2 (up2 S 604 e (came S 8)) 605 e (came S 10 + S.1 36)) 606 e (S.1 36)) 607 e bl) 58 (Int32.ofNat (U + 1))) 608 e (Int32.ofNat (U + 1))) a k = _
      rw [rd_up2, rd_up1, rd_up2, rd_up2, rd_up2, rd_up2, if_neg (show ¬ (a = 603 ∧ 9 * e + 9 ≤ k ∧ k < 9 * e + 9) by omega)]
      by_cases w4 : a = 604 ∧ k = e
      · rw [if_neg (by omega), if_neg (by omega), if_neg (by omega), if_neg (by omega), if_pos w4, if_pos w4]
      · rw [if_neg w4, if_neg w4]
        by_cases w5 : a = 605 ∧ k = e
        · rw [if_neg (by omega), if_neg (by omega), if_neg (by omega), if_pos w5, if_pos w5]
        · rw [if_neg w5, if_neg w5]
          by_cases w6 : a = 606 ∧ k = e
          · rw [if_neg (by omega), if_neg (by omega), if_pos w6, if_pos w6]
          · rw [if_neg w6, if_neg w6]
            by_cases w7 : a = 607 ∧ k = e
            · rw [if_neg (by omega), if_pos w7, if_pos w7]
            · rw [if_neg w7, if_neg w7]
  | succ m ih =>
    intro w S hw hU g hg
    obtain ⟨g, rfl⟩ : ∃ x, g = x + 1 := ⟨g - 1, by omega⟩
    have cw : aget 0 22 S 628 (Int32.ofNat (12 + w)) = some (came S (12 + w)) := aget_n (Or.inl rfl) (by omega) (by decide)
    have ap : aput 64512 S 603 (Int32.ofNat (9 * e + w)) (came S (12 + w)) = some (up2 S 603 (9 * e + w) (came S (12 + w))) := aput_n (by omega) (by decide)
    obtain ⟨S3, e1, e2, e3⟩ := ih (w + 1) (up2 S 603 (9 * e + w) (came S (12 + w))) (by omega) (by rw [up2_1]; exact hU) g (by omega)
    refine ⟨S3, ?_, fun i => (e2 i).trans (by rw [up2_1]), fun a k => ?_⟩
    · rw [← e1]
      conv => lhs; unfold D_m_takeIn_176
      rw [show m_c2 .ge (Int32.ofNat w) (9 : Int32) = decide (9 ≤ w) from ge_n (by omega) (by decide), decide_eq_false (by omega), cond_false, show (12 : Int32) + Int32.ofNat w = Int32.ofNat (12 + w) from i_add (a := 12), cw, Option.bind_some, k9, i_add, ap, Option.bind_some, q1]
    · rw [e3]
      have c9 : ∀ i, came (up2 S 603 (9 * e + w) (came S (12 + w))) i = came S i := fun i => by unfold came; rw [rd_up2, if_neg (by omega)]
      rw [c9, c9, c9, up2_1, rd_up2]
      by_cases q1' : a = 603 ∧ 9 * e + (w + 1) ≤ k ∧ k < 9 * e + 9
      · rw [if_pos q1', if_pos (show a = 603 ∧ 9 * e + w ≤ k ∧ k < 9 * e + 9 by omega)]
      · rw [if_neg q1']
        by_cases q2' : a = 603 ∧ k = 9 * e + w
        · rw [if_neg (by omega), if_neg (by omega), if_neg (by omega), if_neg (by omega), if_neg (by omega), if_pos q2', if_pos (show a = 603 ∧ 9 * e + w ≤ k ∧ k < 9 * e + 9 by omega), q2'.2, show 9 * e + w - 9 * e = w by omega]
        · rw [if_neg q2', if_neg (show ¬ (a = 603 ∧ 9 * e + w ≤ k ∧ k < 9 * e + 9) by omega)]
end
