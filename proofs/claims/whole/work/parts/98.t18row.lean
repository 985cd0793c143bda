/-! What the reference asks of the row that is looked at. -/
/-- a row of the reference beside a request -/
def Rw (S : mS) (w0 : Nat) (z : Rq) : Prop := w0 < 47988 ∧ ∃ n, isQa z.2.1 z.2.2.2.1 (fun i => rd S 622 (w0 + i)) n ∧ isQs S z (fun i => rd S 622 (w0 + i)) n
section
variable {T : tT} {S S' : mS} {X Y : Nat → List (Nat × Nat)} {Z : Nat → List Fz} {Q Pd : List Rq} {j0 c F w0 : Nat} {rs : List Nat} {z : Rq}
theorem RB.rw (h : RB T S X Y Z Q [z] Pd j0 rs c) : Rw S (wOf Q) z := ⟨h.w.1, h.cur.2⟩
theorem Rw.ag (h : Rw S w0 z) (hS : ∀ a k, a = 620 ∨ a = 622 → rd S' a k = rd S a k) : Rw S' w0 z := by
  obtain ⟨h1, n, h2, h3⟩ := h
  refine ⟨h1, n, ?_, h3.fr (fun j => hS _ _ (Or.inl rfl)) (fun i _ => hS _ _ (Or.inr rfl))⟩
  unfold isQa at h2 ⊢
  simp only [hS 622 _ (Or.inr rfl)]
  exact h2
theorem Rw.client {r : Nat} (h : Rw S w0 z) (hz : z.2.2.1 = some r) : ∃ k n, z.2.2.2.2 = some k ∧ isQa z.2.1 z.2.2.2.1 (fun i => rd S 622 (w0 + i)) n ∧ isQc S r z.2.2.2.1 k (fun i => rd S 622 (w0 + i)) n := by
  obtain ⟨q, f, ro, g, cd⟩ := z
  obtain ⟨_, n, h2, h3⟩ := h
  cases hz
  cases cd with
  | none => exact absurd h3 (fun w => w)
  | some k => exact ⟨k, n, rfl, h2, h3⟩
theorem Rw.fetch (h : Rw S w0 z) (hz : z.2.2.1 = none) : ∃ n, z.2.2.2.2 = none ∧ isQa z.2.1 z.2.2.2.1 (fun i => rd S 622 (w0 + i)) n ∧ isQf z.2.2.2.1 (fun i => rd S 622 (w0 + i)) n := by
  obtain ⟨q, f, ro, g, cd⟩ := z
  obtain ⟨_, n, h2, h3⟩ := h
  cases hz
  cases cd with
  | none => exact ⟨n, rfl, h2, h3⟩
  | some k => exact absurd h3 (fun w => w)
theorem b2i_not {p : Prop} [Decidable p] : (if p then (0 : Int32) else 1) = b2i (decide (¬ p)) := by
  by_cases h : p <;> simp [h, b2i]
/-- row 7, 8 of both kinds -/
theorem Rw.row7 (h : Rw S w0 z) : rd S 622 (w0 + 7) = z.2.2.2.1 11 := by
  cases hz : z.2.2.1 with
  | none =>
    obtain ⟨n, _, _, a3⟩ := h.fetch hz
    exact a3.2.2.2.2.2.2.2.1
  | some r =>
    obtain ⟨k, n, _, _, a7⟩ := h.client hz
    exact a7.2.2.2.2.1.trans a7.2.2.2.2.2.1.symm
theorem r_marked (h : Rw S w0 z) {o : Option Nat} (ho : ∀ e, o = some e → e < 7168) : D_m_isMarked F (Int32.ofNat w0) (oI o) S = some (b2i (match o with | none => false | some e => decide (z.2.2.2.1 11 ≤ rd S 604 e))) := by
  unfold D_m_isMarked
  cases o with
  | none => rfl
  | some e =>
    have he := ho e rfl
    have a1 : aget 0 7168 S 604 (Int32.ofNat e) = some (rd S 604 e) := aget_n (Or.inl rfl) he (by decide)
    have a2 := wait7 (S := S) h.1
    rw [h.row7] at a2
    simp only [oI, show m_c2 .eq (Int32.ofNat e) (-1) = false from decide_eq_false (oI_ne he), cond_false, a1, a2, Option.bind_some]
    by_cases w : rd S 604 e < z.2.2.2.1 11
    · have : ¬ z.2.2.2.1 11 ≤ rd S 604 e := by rw [Int32.not_le]; exact w
      simp [m_c2, w, this, b2i, bret]
    · have : z.2.2.2.1 11 ≤ rd S 604 e := by rw [← Int32.not_lt]; exact w
      simp [m_c2, w, this, b2i, bret]
theorem ofNat_ne_m1 {r : Nat} (h : r < 2147483648) : m_c2 .eq (Int32.ofNat r) (-1) = false := by
  have := ne_m1 h
  simp only [m_c2] at this ⊢
  simpa using this
theorem r_forced (h : Rw S w0 z) : D_m_isForced F (Int32.ofNat w0) S = some (z.2.2.2.1 6) := by
  unfold D_m_isForced
  have a8 := wait8 (S := S) h.1
  have a2 := wait2 (S := S) h.1
  have hf : flag (z.2.2.2.1 6) := by
    obtain ⟨_, n, h2, _⟩ := h
    exact h2.2.2.2.2.2.1
  cases hz : z.2.2.1 with
  | none =>
    obtain ⟨n, _, _, a3⟩ := h.fetch hz
    have e8 : rd S 622 (w0 + 8) = z.2.2.2.1 6 := a3.2.2.2.2.2.2.2.2.1
    have e2 : rd S 622 (w0 + 2) = -1 := a3.2.1
    rw [e8] at a8
    rw [e2] at a2
    rw [a8, a2]
    rcases hf with w | w <;> rw [w] <;> rfl
  | some r =>
    obtain ⟨k, n, _, _, a7⟩ := h.client hz
    have e8 : rd S 622 (w0 + 8) = 0 := a7.2.2.2.2.2.2.1
    have e2 : rd S 622 (w0 + 2) = Int32.ofNat r := a7.2.2.2.1
    have hr : r < 300 := a7.2.1.1
    have e6 : rd S 620 (23 * r + 16) = z.2.2.2.1 6 := a7.2.2.2.2.2.2.2.1.symm
    rw [e8] at a8
    rw [e2] at a2
    have a16 := asks16 (F := F) (S := S) hr
    rw [e6] at a16
    simp only [a8, a2, a16, Option.bind_some, show m_c2 .eq (0 : Int32) 1 = false from rfl, cond_false, ofNat_ne_m1 (show r < 2147483648 by omega)]
    rcases hf with w | w <;> rw [w] <;> rfl
theorem Rw.isRow (h : Rw S w0 z) : isRow S (w0) z.2.2.2.1 z.2.2.2.2 := by
  refine ⟨h.1, ?_⟩
  cases hz : z.2.2.1 with
  | none =>
    obtain ⟨n, hk, a2, a3⟩ := h.fetch hz
    rw [hk]
    obtain ⟨f1, f2, f3⟩ := a2.2.2.2.2.2.2.1
    obtain ⟨l1, l2, l3⟩ := a2.2.2.2.2.2.2.2
    exact ⟨a3.2.1, f1, l1, f2, l2, a3.2.2.2.2.2.1.trans f3, a3.2.2.2.2.2.2.1.trans l3, f3, l3⟩
  | some r =>
    obtain ⟨k, n, hk, _, a7⟩ := h.client hz
    rw [hk]
    exact ⟨r, a7.2.2.2.1, a7.2.1⟩
theorem r_whole (hF : 17 ≤ F) (h : Rw S w0 z) {e : Nat} (he : e < 7168) (hd : few 256 (eT S e 1)) : D_m_isWhole F (Int32.ofNat w0) (Int32.ofNat e) S = some (b2i (decide (v_missing z.2.2.2.1 z.2.2.2.2 (eT S e) (Int32.ofNat (e % 8)) (rd S 607 e) = 0))) := by
  unfold D_m_isWhole
  obtain ⟨zl, z1, z2⟩ := hd
  have a1 : aget 0 7168 S 607 (Int32.ofNat e) = some (rd S 607 e) := aget_n (Or.inl rfl) he (by decide)
  have n1 := m_needs (F := F) (tag := 8 * eT S e 0 + Int32.ofNat (e % 8)) hF h.isRow z1
  rw [← z2] at n1
  have t1 : D_m_told F (Int32.ofNat e) 1 S = some (eT S e 1) := told1 he
  simp only [t1, m_tagOf he, Option.bind_some, n1, a1]
  rw [v_miss_need]
  by_cases w : rd S 607 e &&& v_need z.2.2.2.1 z.2.2.2.2 (eT S e 1) (8 * eT S e 0 + Int32.ofNat (e % 8)) = v_need z.2.2.2.1 z.2.2.2.2 (eT S e 1) (8 * eT S e 0 + Int32.ofNat (e % 8))
  · rw [decide_eq_true (and_bits.mp w)]
    simp [m_c2, w, b2i, bret]
  · rw [decide_eq_false (fun q => w (and_bits.mpr q))]
    simp [m_c2, w, b2i, bret]
theorem life_few {d : Nat → Int32} (hd : okT d) : few 100000 (v_life d) := by
  unfold v_life
  split
  · exact hd.2.2.2.1
  · exact ⟨0, by decide, rfl⟩
theorem i_add {a b : Nat} : Int32.ofNat a + Int32.ofNat b = Int32.ofNat (a + b) := (Int32.ofNat_add a b).symm
theorem r_fresh (h : Rw S w0 z) {e : Nat} (he : e < 7168) (hd : okT (eT S e)) (ha : few 100000 ((rd S 605 e + S.1 36) - rd S 606 e)) : D_m_isFresh F (Int32.ofNat w0) (Int32.ofNat e) S = some (b2i (v_fresh z.2.2.2.1 (eT S e) ((rd S 605 e + S.1 36) - rd S 606 e))) := by
  obtain ⟨A, A1, A2⟩ := ha
  obtain ⟨L, L1, L2⟩ := life_few hd
  have a2 := wait2 (S := S) h.1
  have lf := m_life (F := F) he hd.2.2.2.2.2.2.2.1
  unfold D_m_isFresh
  cases hz : z.2.2.1 with
  | none =>
    obtain ⟨n, _, _, a3⟩ := h.fetch hz
    have e2 : rd S 622 (w0 + 2) = -1 := a3.2.1
    obtain ⟨_, _, _, _, _, _, _, _, _, _, g7, g8, g9, g10⟩ := a3
    rw [e2] at a2
    simp only [a2, m_ageOf he, lf, Option.bind_some, show m_c2 .eq (-1 : Int32) (-1) = true from rfl, cond_true, D_m_isFresh_73]
    rw [A2, L2]
    unfold v_fresh
    rw [g8, g9, L2]
    have i := @i_lt A L (by show A < 2147483648; omega) (by show L < 2147483648; omega)
    by_cases w : A < L
    · have w2 : Int32.ofNat A < Int32.ofNat L := i.mpr w
      have w3 : ¬ Int32.ofNat L ≤ Int32.ofNat A := by rw [Int32.not_le]; exact w2
      simp [m_c2, w2, w3, b2i, bret]
    · have w2 : ¬ Int32.ofNat A < Int32.ofNat L := fun q => w (i.mp q)
      have w3 : Int32.ofNat L ≤ Int32.ofNat A := by rw [← Int32.not_lt]; exact w2
      simp [m_c2, w2, w3, b2i, bret]
  | some r =>
    obtain ⟨k, n, _, _, a7⟩ := h.client hz
    have e2 : rd S 622 (w0 + 2) = Int32.ofNat r := a7.2.2.2.1
    have hr : r < 300 := a7.2.1.1
    obtain ⟨_, _, _, _, _, _, _, _, _, _, g8, m8, g9, m9, _⟩ := a7
    rw [e2] at a2
    have s18 := asks18 (F := F) (S := S) hr
    have s20 := asks20 (F := F) (S := S) hr
    rw [← g8] at s18
    rw [← g9] at s20
    simp only [a2, m_ageOf he, lf, Option.bind_some, ofNat_ne_m1 (show r < 2147483648 by omega), cond_false, D_m_isFresh_73, s18, s20]
    rw [A2, L2]
    unfold v_fresh
    rw [L2]
    have i := @i_lt A L (by show A < 2147483648; omega) (by show L < 2147483648; omega)
    have nn : ∀ C : Nat, C < 100000 → (Int32.ofNat C < 0 ↔ False) := fun C hC => by
      have := @i_lt C 0 (by show C < 2147483648; omega) (by decide)
      exact ⟨fun q => absurd (this.mp q) (Nat.not_lt_zero _), False.elim⟩
    have il := @i_le L A (by show L < 2147483648; omega) (by show A < 2147483648; omega)
    have ge1 : m_c2 .ge (Int32.ofNat A) (Int32.ofNat L) = decide (L ≤ A) := ge_n (by omega) (by omega)
    rcases m8 with m8 | ⟨B, B1, B2⟩
    · rw [m8]
      rcases m9 with m9 | ⟨C, C1, C2⟩
      · rw [m9]
        simp only [ge1, i, show m_c2 .eq (-1 : Int32) (-1) = true from rfl, cond_true]
        by_cases w : A < L
        · simp [w, show ¬ L ≤ A by omega, b2i, bret, i, il, ge1]
        · simp [w, show L ≤ A by omega, b2i, bret, i, il, ge1]
      · rw [C2]
        have ge2 : m_c2 .ge (Int32.ofNat A + Int32.ofNat C) (Int32.ofNat L) = decide (L ≤ A + C) := by rw [i_add]; exact ge_n (by omega) (by omega)
        have i2 := @i_lt (A + C) L (by show A + C < 2147483648; omega) (by show L < 2147483648; omega)
        simp only [ge1, i, ge2, nn C C1, if_false, i_add, i2, show m_c2 .eq (-1 : Int32) (-1) = true from rfl, cond_true, ofNat_ne_m1 (show C < 2147483648 by omega), cond_false]
        by_cases w : A < L
        · by_cases w' : A + C < L
          · simp [w, w', show ¬ L ≤ A by omega, show ¬ L ≤ A + C by omega, b2i, bret, i, il, ge1, ge2, i2, m_c1]
          · simp [w, w', show ¬ L ≤ A by omega, show L ≤ A + C by omega, b2i, bret, i, il, ge1, ge2, i2, m_c1]
        · simp [w, show L ≤ A by omega, show ¬ A + C < L by omega, b2i, bret, i, il, ge1, ge2, i2, m_c1]
    · rw [B2]
      have gt3 : m_c2 .gt (Int32.ofNat A) (Int32.ofNat B) = decide (B < A) := gt_n (by omega) (by omega)
      have i3 := @i_le A B (by show A < 2147483648; omega) (by show B < 2147483648; omega)
      have nB : ¬ Int32.ofNat B = -1 := fun q => by have := ofNat_ne_m1 (show B < 2147483648 by omega); rw [q] at this; exact absurd this (by decide)
      rcases m9 with m9 | ⟨C, C1, C2⟩
      · rw [m9]
        simp only [ge1, i, gt3, i3, nB, show m_c2 .eq (-1 : Int32) (-1) = true from rfl, cond_true, ofNat_ne_m1 (show B < 2147483648 by omega), cond_false]
        by_cases w : A < L
        · by_cases w' : A ≤ B
          · simp [w, w', show ¬ L ≤ A by omega, show ¬ B < A by omega, b2i, bret, i, il, ge1, m_c1]
          · simp [w, w', show ¬ L ≤ A by omega, show B < A by omega, b2i, bret, i, il, ge1, m_c1]
        · simp [w, show L ≤ A by omega, b2i, bret, i, il, ge1, m_c1]
      · rw [C2]
        have ge2 : m_c2 .ge (Int32.ofNat A + Int32.ofNat C) (Int32.ofNat L) = decide (L ≤ A + C) := by rw [i_add]; exact ge_n (by omega) (by omega)
        have i2 := @i_lt (A + C) L (by show A + C < 2147483648; omega) (by show L < 2147483648; omega)
        simp only [ge1, i, gt3, i3, nB, ge2, nn C C1, if_false, i_add, i2, ofNat_ne_m1 (show C < 2147483648 by omega), ofNat_ne_m1 (show B < 2147483648 by omega), cond_false]
        by_cases w : A < L
        · by_cases w' : A ≤ B
          · by_cases w2 : A + C < L
            · simp [w, w', w2, show ¬ L ≤ A by omega, show ¬ B < A by omega, show ¬ L ≤ A + C by omega, b2i, bret, i, il, ge1, ge2, i2, m_c1]
            · simp [w, w', w2, show ¬ L ≤ A by omega, show ¬ B < A by omega, show L ≤ A + C by omega, b2i, bret, i, il, ge1, ge2, i2, m_c1]
          · simp [w, w', show ¬ L ≤ A by omega, show B < A by omega, b2i, bret, i, il, ge1, ge2, i2, m_c1]
        · simp [w, show L ≤ A by omega, show ¬ A + C < L by omega, b2i, bret, i, il, ge1, ge2, i2, m_c1]
theorem r_stale (h : Rw S w0 z) {e : Nat} (he : e < 7168) (hd : okT (eT S e)) (ha : few 100000 ((rd S 605 e + S.1 36) - rd S 606 e)) : D_m_isStaleEnough F (Int32.ofNat w0) (Int32.ofNat e) S = some (b2i (v_stale z.2.2.2.1 (eT S e) ((rd S 605 e + S.1 36) - rd S 606 e))) := by
  obtain ⟨A, A1, A2⟩ := ha
  obtain ⟨L, L1, L2⟩ := life_few hd
  obtain ⟨W, W1, W2⟩ := hd.2.2.2.2.2.1
  have a2 := wait2 (S := S) h.1
  have lf := m_life (F := F) he hd.2.2.2.2.2.2.2.1
  have t4 : D_m_told F (Int32.ofNat e) 4 S = some (eT S e 4) := told4 he
  have geW : m_c2 .ge (Int32.ofNat A) (Int32.ofNat L + Int32.ofNat W) = decide (L + W ≤ A) := by rw [i_add]; exact ge_n (by omega) (by omega)
  have iW := @i_lt A (L + W) (by show A < 2147483648; omega) (by show L + W < 2147483648; omega)
  unfold D_m_isStaleEnough
  cases hz : z.2.2.1 with
  | none =>
    obtain ⟨n, _, _, a3⟩ := h.fetch hz
    have e2 : rd S 622 (w0 + 2) = -1 := a3.2.1
    obtain ⟨_, _, _, _, _, _, _, _, _, _, g7, g8, g9, g10⟩ := a3
    rw [e2] at a2
    simp only [a2, m_ageOf he, lf, t4, Option.bind_some, show m_c2 .eq (-1 : Int32) (-1) = true from rfl, cond_true, D_m_isStaleEnough_52]
    rw [A2, L2, W2]
    unfold v_stale
    rw [g8, g9, g10, L2, W2]
    simp only [geW, i_add, iW]
    by_cases w : A < L + W
    · simp [w, geW, iW, show ¬ L + W ≤ A by omega, b2i, bret, m_c1]
    · simp [w, geW, iW, show L + W ≤ A by omega, b2i, bret, m_c1]
  | some r =>
    obtain ⟨k, n, _, _, a7⟩ := h.client hz
    have e2 : rd S 622 (w0 + 2) = Int32.ofNat r := a7.2.2.2.1
    have hr : r < 300 := a7.2.1.1
    obtain ⟨_, _, _, _, _, _, _, _, _, _, g8, m8, g9, m9, g10, _⟩ := a7
    rw [e2] at a2
    have s18 := asks18 (F := F) (S := S) hr
    have s19 := asks19 (F := F) (S := S) hr
    have s20 := asks20 (F := F) (S := S) hr
    rw [← g8] at s18
    rw [← g9] at s20
    have n8 : m_c2 .ne (z.2.2.2.1 8) (-1) = !decide (z.2.2.2.1 8 = -1) := by simp [m_c2]
    have n9 : m_c2 .ne (z.2.2.2.1 9) (-1) = !decide (z.2.2.2.1 9 = -1) := by simp [m_c2]
    have tail : D_m_isStaleEnough_52 F (Int32.ofNat e) (Int32.ofNat r) (Int32.ofNat A) S = some (b2i (decide (z.2.2.2.1 8 = -1) && decide (z.2.2.2.1 9 = -1) && decide (A < L + W))) := by
      simp only [D_m_isStaleEnough_52, ofNat_ne_m1 (show r < 2147483648 by omega), cond_false, s18, s20, Option.bind_some, n8, n9, lf, t4, L2, W2, geW]
      by_cases q8 : z.2.2.2.1 8 = -1
      · by_cases q9 : z.2.2.2.1 9 = -1
        · by_cases w : A < L + W
          · simp [q8, q9, w, show ¬ L + W ≤ A by omega, b2i, bret, m_c1]
          · simp [q8, q9, w, show L + W ≤ A by omega, b2i, bret, m_c1]
        · simp [q8, q9, b2i, bret, m_c1]
      · simp [q8, b2i, bret, m_c1]
    rw [a2, Option.bind_some, m_ageOf he, Option.bind_some, ofNat_ne_m1 (show r < 2147483648 by omega), cond_false, s19, Option.bind_some, A2, tail, lf, Option.bind_some, Option.bind_some]
    unfold v_stale
    rw [L2, W2]
    simp only [i_add, iW]
    rcases g10 with ⟨g10, m10 | ⟨B, B1, B2⟩⟩ | ⟨g10, m10⟩
    · rw [← g10, m10]
      simp [m_c2]
    · rw [← g10, B2]
      have geB : m_c2 .ge (Int32.ofNat A) (Int32.ofNat (L + B)) = decide (L + B ≤ A) := ge_n (by omega) (by omega)
      have iB := @i_lt A (L + B) (by show A < 2147483648; omega) (by show L + B < 2147483648; omega)
      have nB : ¬ Int32.ofNat B = -1 := fun q => by have := ofNat_ne_m1 (show B < 2147483648 by omega); rw [q] at this; exact absurd this (by decide)
      simp only [ofNat_ne_m1 (show B < 2147483648 by omega), cond_false, geB, i_add, iB, nB]
      by_cases w : A < L + B
      · rw [decide_eq_false (show ¬ L + B ≤ A by omega), decide_eq_true w]
        simp [b2i]
      · rw [decide_eq_true (show L + B ≤ A by omega), decide_eq_false w]
        simp
    · rw [m10, g10]
      have geB : m_c2 .ge (Int32.ofNat A) (Int32.ofNat L + Int32.ofNat 1000000000) = false := by
        rw [i_add, ge_n (by omega) (by omega)]
        exact decide_eq_false (by omega)
      have iB : Int32.ofNat A < Int32.ofNat L + Int32.ofNat 1000000 := by
        rw [i_add]
        exact (i_lt (by show A < 2147483648; omega) (by show L + 1000000 < 2147483648; omega)).mpr (by omega)
      have n1 : m_c2 .eq (Int32.ofNat 1000000000) (-1) = false := ofNat_ne_m1 (by decide)
      have n2 : ¬ Int32.ofNat 1000000 = -1 := fun q => by have := ofNat_ne_m1 (show 1000000 < 2147483648 by decide); rw [q] at this; exact absurd this (by decide)
      rw [show (1000000000 : Int32) = Int32.ofNat 1000000000 from rfl, show (1000000 : Int32) = Int32.ofNat 1000000 from rfl, n1, cond_false, geB, cond_false, decide_eq_true iB, decide_eq_false n2]
      rfl
end
