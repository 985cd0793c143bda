/-! The taking in: what is now. -/
section
variable {F e : Nat}
theorem m_in285 {x4 x5 : Int32} (he : e < 7168) : ∀ (m w : Nat) (S : mS), w + m = 9 → ∀ g, m < g → ∃ S3, D_m_takeIn_285 F g (Int32.ofNat e) x4 x5 (Int32.ofNat w) S = D_m_takeIn_359 F F x4 x5 0 S3 ∧ (∀ i, S3.1 i = if i = 86 then x4 else if i = 85 then came S 10 + S.1 36 else if i = 84 then came S 8 else if i = 87 then Int32.ofNat (e % 8) else S.1 i) ∧ ∀ a k, rd S3 a k = if a = 626 ∧ w ≤ k ∧ k < 9 then came S (12 + k) else rd S a k := by
  intro m
  induction m with
  | zero =>
    intro w S hw g hg
    obtain ⟨g, rfl⟩ : ∃ x, g = x + 1 := ⟨g - 1, by omega⟩
    have : w = 9 := by omega
    subst this
    have md : Int32.ofNat e - Int32.ofNat e / (8 : Int32) * (8 : Int32) = Int32.ofNat (e % 8) := by
      rw [show Int32.ofNat e / (8 : Int32) = Int32.ofNat (e / 8) from m_n_div (b := 8) (by omega) (by omega), Int32.mul_comm, k8, m_n_sub (by omega)]
      congr 1
      omega
    have c8 : ∀ x, aget 0 22 (up1 S 87 x) 628 (8 : Int32) = some (came S 8) := fun x => (aget_n (k := 8) (Or.inl rfl) (by decide) (by decide)).trans (by rw [rd_up1]; rfl)
    have c10 : ∀ x y, aget 0 22 (up1 (up1 S 87 x) 84 y) 628 (10 : Int32) = some (came S 10) := fun x y => (aget_n (k := 10) (Or.inl rfl) (by decide) (by decide)).trans (by rw [rd_up1, rd_up1]; rfl)
    refine ⟨up1 (up1 (up1 (up1 S 87 (Int32.ofNat (e % 8))) 84 (came S 8)) 85 (came S 10 + S.1 36)) 86 x4, ?_, fun i => ?_, fun a k => ?_⟩
    · unfold D_m_takeIn_285
      rw [show m_c2 .ge (Int32.ofNat 9) (9 : Int32) = true from rfl, cond_true, md]
      simp only [fput, Option.bind_some, c8, c10]
      rfl
    · rw [up1_1, up1_1, up1_1, up1_1]
    · rw [rd_up1, rd_up1, rd_up1, rd_up1, if_neg (by omega)]
  | succ m ih =>
    intro w S hw g hg
    obtain ⟨g, rfl⟩ : ∃ x, g = x + 1 := ⟨g - 1, by omega⟩
    have cw : aget 0 22 S 628 (Int32.ofNat (12 + w)) = some (came S (12 + w)) := aget_n (Or.inl rfl) (by omega) (by decide)
    have ap : aput 9 S 626 (Int32.ofNat w) (came S (12 + w)) = some (up2 S 626 w (came S (12 + w))) := aput_n (by omega) (by decide)
    obtain ⟨S3, e1, e2, e3⟩ := ih (w + 1) (up2 S 626 w (came S (12 + w))) (by omega) g (by omega)
    have c9 : ∀ i, came (up2 S 626 w (came S (12 + w))) i = came S i := fun i => by unfold came; rw [rd_up2, if_neg (by omega)]
    refine ⟨S3, ?_, fun i => ?_, fun a k => ?_⟩
    · rw [← e1]
      conv => lhs; unfold D_m_takeIn_285
      rw [show m_c2 .ge (Int32.ofNat w) (9 : Int32) = decide (9 ≤ w) from ge_n (by omega) (by decide), decide_eq_false (by omega), cond_false, show (12 : Int32) + Int32.ofNat w = Int32.ofNat (12 + w) from i_add (a := 12), cw, Option.bind_some, ap, Option.bind_some, q1]
    · rw [e2, c9, c9, up2_1]
      by_cases z : i = 36
      · rw [z]
        rfl
      · rw [up2_1]
    · rw [e3, c9, rd_up2]
      by_cases q1' : a = 626 ∧ w + 1 ≤ k ∧ k < 9
      · rw [if_pos q1', if_pos (show a = 626 ∧ w ≤ k ∧ k < 9 by omega)]
      · rw [if_neg q1']
        by_cases q2' : a = 626 ∧ k = w
        · rw [if_pos q2', if_pos (show a = 626 ∧ w ≤ k ∧ k < 9 by omega), q2'.2]
        · rw [if_neg q2', if_neg (show ¬ (a = 626 ∧ w ≤ k ∧ k < 9) by omega)]
end
section
variable {T : tT} {S : mS} {X Y : Nat → List (Nat × Nat)} {Z : Nat → List Fz} {Q : List Rq} {c F n f : Nat} {rs : List Nat}
theorem in_270 (hF : 4001 ≤ F) {pp v wh : Nat} {bl : Int32} (hp : pp < 32) (hv : v < 4) (hw : wh < 8) (h1 : 1 ≤ n) (h2 : n < 7) (hf : f = 128 * n + (4 * pp + v)) (h : RBx T S X Y Z Q rs c f) (h0 : rd S 609 f = 0) (hno : ∀ m, 1 ≤ m → m < 7 → ∀ x ∈ Z m, ¬ x.2.1 = f) (h13 : few 256 (came S 13)) : ∃ S3, D_m_takeIn_270 F (Int32.ofNat n) (Int32.ofNat f) (Int32.ofNat (8 * f + wh)) bl S = D_m_takeIn_359 F F bl (Int32.ofNat (qIn Q f).length) 0 S3 ∧ RB T S3 X Y Z (qOut Q f) [] (qIn Q f) 0 rs c ∧ vM S3 = vM S ∧ vE S3 = vE S ∧ vS S3 = vS S ∧ came S3 = came S ∧ (∀ i, i < 9 → rd S3 626 i = came S (12 + i)) ∧ S3.1 87 = Int32.ofNat wh ∧ S3.1 84 = came S 8 ∧ S3.1 85 = came S 10 + S.1 36 ∧ S3.1 86 = bl ∧ S3.1 36 = S.1 36 := by
  have h' := h
  have h0' := h0
  rw [hf] at h' h0'
  obtain ⟨S1, t1, t2, t3, t4, t5, t6, t7⟩ := h'.take (F := F) hF hp hv h1 h2 h0' (fun m m1 m2 x hx => by rw [← hf]; exact hno m m1 m2 x hx)
  rw [← hf] at t1 t2
  obtain ⟨S3, e1, e2, e3⟩ := m_in285 (F := F) (e := 8 * f + wh) (x4 := bl) (x5 := Int32.ofNat (qIn Q f).length) (by omega) 9 0 S1 rfl F (by omega)
  have ca1 : came S1 = came S := funext fun i => t7 628 i (by decide) (by decide)
  have i36 : S1.1 36 = S.1 36 := t6 36 (by decide)
  have hi : ∀ i, ¬ (84 ≤ i ∧ i ≤ 87) → ¬ i = 0 → S3.1 i = S1.1 i := fun i w _ => by rw [e2, if_neg (by omega), if_neg (by omega), if_neg (by omega), if_neg (by omega)]
  have hr : ∀ b k, ¬ b = 625 → ¬ b = 626 → ¬ b = 628 → rd S3 b k = rd S1 b k := fun b k _ w _ => by rw [e3, if_neg (fun z => w z.1)]
  have r626 : ∀ i, i < 9 → rd S3 626 i = came S (12 + i) := fun i hi9 => by rw [e3, if_pos ⟨rfl, Nat.zero_le _, hi9⟩, ca1]
  obtain ⟨u1, u2, u3⟩ := now_views (S := S1) (S' := S3) hi hr
  have md : Int32.ofNat f - Int32.ofNat f / (128 : Int32) * (128 : Int32) = Int32.ofNat (4 * pp + v) := by
    rw [show Int32.ofNat f / (128 : Int32) = Int32.ofNat (f / 128) from m_n_div (b := 128) (by omega) (by omega), Int32.mul_comm, k128, m_n_sub (by omega)]
    congr 1
    omega
  refine ⟨S3, ?_, t2.now hi hr (by rw [r626 1 (by decide)]; exact h13), u1.trans t3, u2.trans t4, u3.trans t5, ?_, r626, ?_, ?_, ?_, ?_, ?_⟩
  · unfold D_m_takeIn_270
    rw [md, t1, Option.bind_some]
    exact e1
  · rw [← ca1]
    exact funext fun i => by show rd S3 628 i = rd S1 628 i; rw [e3, if_neg (by omega)]
  · rw [e2, if_neg (by decide), if_neg (by decide), if_neg (by decide), if_pos rfl, show (8 * f + wh) % 8 = wh by omega]
  · rw [e2, if_neg (by decide), if_neg (by decide), if_pos rfl, ca1]
  · rw [e2, if_neg (by decide), if_pos rfl, ca1, i36]
  · rw [e2, if_pos rfl]
  · rw [e2, if_neg (by decide), if_neg (by decide), if_neg (by decide), if_neg (by decide), i36]
end
