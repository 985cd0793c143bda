/-! The ledger: a row makes a fetch. -/
section
variable {κ : Ko} {G : Gh} {τ ν lam b1 b2 k1 k2 n J to0 la fo fa : Nat} {M : List (Nat → Int32)} {Q Pd : List Rq} {Z : Nat → List Fz} {E : Nat → Option (Nat → Int32)} {N : Nat → Nat → Int32} {z : Rq} {had mi : Int32}
theorem LR.node (h : LR G Z N z) (hz : z.2.1 < 1024) : pl z = z.2.1 ∧ z.2.1 < 896 ∧ 1 ≤ z.2.1 / 128 ∧ z.2.1 / 128 < 7 ∧ ((z.2.2.1 = none ∧ z.2.1 / 128 ≤ 2) ∨ ((∃ r, z.2.2.1 = some r) ∧ 3 ≤ z.2.1 / 128)) := by
  have e : pl z = z.2.1 := by unfold pl; omega
  obtain ⟨q, f, ro, g, cd⟩ := z
  obtain ⟨⟨a1, a2, a3⟩, hr⟩ := h
  rw [e] at a1
  cases ro with
  | none =>
    cases cd with
    | none =>
      have h1 := hr.1
      rw [e] at h1
      exact ⟨e, a1, h1.1, by omega, Or.inl ⟨rfl, h1.2⟩⟩
    | some k => exact hr.elim
  | some r =>
    cases cd with
    | none => exact hr.elim
    | some k =>
      have h1 := hr.1
      rw [e] at h1
      exact ⟨e, a1, by omega, by omega, Or.inr ⟨⟨r, rfl⟩, h1.1⟩⟩
/-- what making a fetch weighs -/
theorem mk_pot {c : Bool} (hc1 : c = true) (h : LZs G Z E N) (n1 : 1 ≤ n) (n2 : n < 7) (hn : z.2.1 / 128 = n) (hJ : N 1 n = Int32.ofNat J) (hl : J < 1000000000) (h0 : upto 60 (N 0 n)) (hk : (z.2.2.1 = none ∧ n ≤ 2) ∨ ((∃ r, z.2.2.1 = some r) ∧ 3 ≤ n)) (hno : ∀ y ∈ Z n, ¬ y.2.1 = z.2.1) (ht : toOK n to0) {G0 : Nat → Int32} {wants : Int32} : sM κ (psh M (mkM N n to0 G0 wants had)) + sZ κ (gNew G n (J + 1) had c (cN (N 2 0))).2.1 (mkN N n) (zAdd Z n (mkY N fa z.2.1 n to0 G0)) + κ.2.2.2 ≤ sM κ M + sZ κ G.2.1 N Z + wMk κ z + purse κ Z N z.2.1 := by
  have w1 := sM_psh (κ := κ) (M := M) (m := mkM N n to0 G0 wants had)
  have w2 := sZ_new (κ := κ) (y := mkY N fa z.2.1 n to0 G0) (hv := had) (c := c) (o := cN (N 2 0)) n1 n2 h hJ hl
  have wm : wM κ (mkM N n to0 G0 wants had) = if n ≤ 2 then κ.1 else w348 κ := by
    show (if (0 : Int32) = 0 then (if Int32.ofNat to0 = 0 then κ.1 else w348 κ) else _) = _
    rw [if_pos rfl]
    rcases ht with ⟨t1, t2⟩ | ⟨t1, t2, t3⟩
    · rw [if_pos t1, t2]
      rfl
    · rw [if_neg (show ¬ Int32.ofNat to0 = 0 from fun q => by
        have := ofNat_in (show to0 < 2147483648 by omega) (show 0 < 2147483648 by decide) q
        omega), if_neg (show ¬ n ≤ 2 by omega)]
  have ls : lst (mkY N fa z.2.1 n to0 G0) = seenN N n := by unfold lst seenN; rw [mk9]
  have hcv : (gNew G n (J + 1) had c (cN (N 2 0))).2.1 n (nmb (mkY N fa z.2.1 n to0 G0)) = true := by
    rw [mk_nmb hJ hl]
    exact (if_pos ⟨rfl, rfl⟩).trans hc1
  have wz : wZ κ (gNew G n (J + 1) had c (cN (N 2 0))).2.1 N n (mkY N fa z.2.1 n to0 G0) = κ.2.1 + (if 3 ≤ n then w367 κ + w367 κ * (60 - seenN N n) else w66 κ) := by
    unfold wZ
    rw [hcv, ls]
    by_cases q : 3 ≤ n
    · rw [if_pos q, if_pos q, if_pos rfl]
    · rw [if_neg q, if_neg q, if_pos rfl, if_neg (Nat.lt_irrefl _)]
      rfl
  rw [w2, wz]
  rcases hk with ⟨q1, q2⟩ | ⟨⟨r, q1⟩, q2⟩
  · have e1 : wMk κ z = w155 κ := by unfold wMk; rw [q1]
    rw [if_pos q2] at wm
    rw [if_neg (by omega), e1]
    have e2 : w155 κ = κ.2.2.2 + κ.1 + κ.2.1 + w66 κ := rfl
    omega
  · have e1 : wMk κ z = w757 κ := by unfold wMk; rw [q1]
    have e3 : purse κ Z N z.2.1 = w367 κ * (60 - seenN N n) := by
      unfold purse
      rw [hn]
      exact cif_pos ⟨q2, hno⟩
    rw [if_neg (by omega)] at wm
    rw [if_pos q2, e1, e3]
    have e2 : w757 κ = κ.2.2.2 + w348 κ + κ.2.1 + w367 κ := rfl
    omega
end
