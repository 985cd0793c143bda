/-! The taking in: the new entry is placed. -/
section
variable {T T2 : tT} {S S2 : mS} {X Y : Nat → List (Nat × Nat)} {Z : Nat → List Fz} {Q : List Rq} {c F n f : Nat} {rs : List Nat}
theorem in_place (hF : 4001 ≤ F) {pp v wh a t U : Nat} {bl kp : Int32} (hp : pp < 32) (hv : v < 4) (hw : wh < 8) (h1 : 1 ≤ n) (h2 : n < 7) (hf : f = 128 * n + (4 * pp + v)) (hc : c + 200 < 2147483648) (a5 : 512 ≤ a) (h : RBx T2 (up2 S2 601 (8 * f + wh) 0) X Y Z Q rs c f) (hcell : T2.1 a = some (cEntry (Int32.ofNat pp) (Int32.ofNat v) t (Int32.ofNat wh) (came S2 8) (came S2 10 + S2.1 36) (S2.1 36) bl kp)) (hk : flag kp) (ht : T2.1 t = some (cTold (Int32.ofNat pp) (fun i => came S2 (12 + i)))) (hok : okT (fun i => came S2 (12 + i))) (hfr : ∀ m, 1 ≤ m → m < 7 → ∀ r ∈ X m ++ Y m, ¬ r.1 = a) (hne : ∀ r ∈ X n ++ Y n, ¬ r.2 = 8 * f + wh) (hvy : ∀ k, 8 * f ≤ k → k < 8 * f + 8 → ¬ rd S2 601 k = 0 → eT S2 k 8 = came S2 20) :
    ∃ T' S' A B, D_c_Store_place F (528 + 8 * n) (some a) T2 = some T' ∧ D_m_takeIn_176 F F (Int32.ofNat n) (Int32.ofNat f) (Int32.ofNat (8 * f + wh)) bl 0 (up2 (up2 S2 602 (8 * f + wh) kp) 601 (8 * f + wh) 1) = D_m_takeIn_270 F (Int32.ofNat n) (Int32.ofNat f) (Int32.ofNat (8 * f + wh)) bl S' ∧ RBx T' S' (upL X n A) (upL Y n B) Z Q rs (c + 2) f := by
  obtain ⟨hR, hl, h5⟩ := h.1.2.2.2.2.2.1.1 n h1 h2
  obtain ⟨hs1, hs2, hs3, U, hU, hU2⟩ := h.1.2.2.2.2.2.1
  obtain ⟨e, he⟩ : ∃ e, e = 8 * f + wh := ⟨_, rfl⟩
  rw [← he] at h hR hne hU hs3 ⊢
  have e7 : e < 7168 := by omega
  have sY : (Y n).length ≤ sumY Y := by
    have : n = 1 ∨ n = 2 ∨ n = 3 ∨ n = 4 ∨ n = 5 ∨ n = 6 := by omega
    unfold sumY
    rcases this with z | z | z | z | z | z <;> subst z <;> omega
  have i58 : (up2 (up2 S2 602 e kp) 601 e 1).1 58 = Int32.ofNat U := by rw [up2_1, up2_1]; have := hU.1; rw [up2_1] at this; exact this
  obtain ⟨S3, m1, m2, m3⟩ := m_in176 (F := F) (x1 := Int32.ofNat n) (x2 := Int32.ofNat f) (bl := bl) e7 9 0 (up2 (up2 S2 602 e kp) 601 e 1) rfl i58 F (by omega)
  have caU : ∀ i, came (up2 (up2 S2 602 e kp) 601 e 1) i = came S2 i := fun i => by unfold came; rw [rd_up2, if_neg (by omega), rd_up2, if_neg (by omega)]
  have inU : ∀ i, (up2 (up2 S2 602 e kp) 601 e 1).1 i = S2.1 i := fun i => by rw [up2_1, up2_1]
  simp only [caU, inU] at m2 m3
  have rdU : ∀ b k, rd (up2 (up2 S2 602 e kp) 601 e 1) b k = if b = 601 ∧ k = e then 1 else if b = 602 ∧ k = e then kp else rd S2 b k := fun b k => by rw [rd_up2, rd_up2]
  -- the places of the new entry
  have s03 : ∀ i, i < 9 → rd S3 603 (9 * e + i) = came S2 (12 + i) := fun i hi => by rw [m3, if_pos ⟨rfl, by omega, by omega⟩, show 9 * e + i - 9 * e = i by omega]
  have s04 : rd S3 604 e = came S2 8 := by rw [m3, if_neg (by omega), if_pos ⟨rfl, rfl⟩]
  have s05 : rd S3 605 e = came S2 10 + S2.1 36 := by rw [m3, if_neg (by omega), if_neg (by omega), if_pos ⟨rfl, rfl⟩]
  have s06 : rd S3 606 e = S2.1 36 := by rw [m3, if_neg (by omega), if_neg (by omega), if_neg (by omega), if_pos ⟨rfl, rfl⟩]
  have s07 : rd S3 607 e = bl := by rw [m3, if_neg (by omega), if_neg (by omega), if_neg (by omega), if_neg (by omega), if_pos ⟨rfl, rfl⟩]
  have s08 : rd S3 608 e = Int32.ofNat (U + 1) := by rw [m3, if_neg (by omega), if_neg (by omega), if_neg (by omega), if_neg (by omega), if_neg (by omega), if_pos ⟨rfl, rfl⟩]
  have s01 : rd S3 601 e = 1 := by rw [m3, if_neg (by omega), if_neg (by omega), if_neg (by omega), if_neg (by omega), if_neg (by omega), if_neg (by omega), rdU, if_pos ⟨rfl, rfl⟩]
  have s02 : rd S3 602 e = kp := by rw [m3, if_neg (by omega), if_neg (by omega), if_neg (by omega), if_neg (by omega), if_neg (by omega), if_neg (by omega), rdU, if_neg (by omega), if_pos ⟨rfl, rfl⟩]
  have soth : ∀ b k, ¬ ((601 ≤ b ∧ b ≤ 608) ∧ ¬ b = 603 ∧ k = e) → ¬ (b = 603 ∧ 9 * e ≤ k ∧ k < 9 * e + 9) → rd S3 b k = rd (up2 S2 601 e 0) b k := fun b k w1 w2 => by
    rw [m3, if_neg (by omega), if_neg (by omega), if_neg (by omega), if_neg (by omega), if_neg (by omega), if_neg (by omega), rdU, if_neg (by omega), if_neg (by omega), rd_up2, if_neg (by omega)]
  have i3 : ∀ i, S3.1 i = if i = 58 then Int32.ofNat (U + 1) else S2.1 i := m2
  have ent : isEnt T2 S3 n (a, e) kp := by
    refine ⟨pp, v, wh, t, hp, hv, hw, by show e = _; rw [he, hf], ?_, ?_, okT9 (d' := eT S3 e) s03 hok, by show ¬ rd S3 601 e = 0; rw [s01]; decide, s02⟩
    · show T2.1 a = _
      rw [show rd S3 604 (a, e).2 = came S2 8 from s04, show rd S3 605 (a, e).2 = _ from s05, show rd S3 606 (a, e).2 = _ from s06, show rd S3 607 (a, e).2 = _ from s07]
      exact hcell
    · exact ht.trans (congrArg some (cTold9 (p := Int32.ofNat pp) (d' := eT S3 e) s03).symm)
  obtain ⟨_, hst, ⟨cX, lX⟩, ⟨cY, lY⟩, _⟩ := id hR
  sorry
end
