/-! The ledger: purges go out. -/
section
variable {κ : Ko} {G : Gh} {τ ν lam b1 b2 k1 k2 n : Nat} {M M1 M2 : List (Nat → Int32)} {Q R Pd : List Rq} {Z : Nat → List Fz} {E E' : Nat → Option (Nat → Int32)} {N N' : Nat → Nat → Int32} {m : Nat → Int32}
theorem pCnt_le : pCnt (psh M m) n ≤ pCnt M n + (if m 2 = Int32.ofNat n then 1 else 0) := by
  unfold psh
  split
  · unfold pCnt
    rw [List.filter_append, List.length_append]
    refine Nat.add_le_add_left ?_ _
    rw [List.filter_cons]
    by_cases w : m 0 = 2 ∧ m 2 = Int32.ofNat n
    · rw [if_pos (decide_eq_true w), if_pos w.2]
      exact Nat.le_refl _
    · rw [if_neg (fun q => w (of_decide_eq_true q))]
      exact Nat.zero_le _
  · exact Nat.le_add_right _ _
theorem pu_all {u : Nat → Bool} {j b w : Int32} (hj : upto (cN (N 2 0)) j) : ∀ (c x : Nat) (M : List (Nat → Int32)), 1 ≤ x → x + c ≤ 7 → LM G M Z N → LM G (puM u j b w c x M) Z N ∧ tCnt (puM u j b w c x M) ≤ tCnt M ∧ (∀ n, n < 7 → pCnt (puM u j b w c x M) n ≤ pCnt M n + (if x ≤ n then 1 else 0)) ∧ ∀ κ, sM κ (puM u j b w c x M) ≤ sM κ M + c * κ.2.2.1 + (3 - x) * (128 * w66 κ) := by
  intro c
  induction c with
  | zero => intro x M _ _ hM; exact ⟨hM, Nat.le_refl _, fun n _ => Nat.le_add_right _ _, fun κ => by show sM κ M ≤ sM κ M + 0 * κ.2.2.1 + _; omega⟩
  | succ c ih =>
    intro x M hx hc hM
    show LM G (puM u j b w c (x + 1) (if u x = true then psh M (cut (puRow x j b w)) else M)) Z N ∧ tCnt (puM u j b w c (x + 1) (if u x = true then psh M (cut (puRow x j b w)) else M)) ≤ tCnt M ∧ (∀ n, n < 7 → pCnt (puM u j b w c (x + 1) (if u x = true then psh M (cut (puRow x j b w)) else M)) n ≤ pCnt M n + (if x ≤ n then 1 else 0)) ∧ ∀ κ, sM κ (puM u j b w c (x + 1) (if u x = true then psh M (cut (puRow x j b w)) else M)) ≤ sM κ M + (c + 1) * κ.2.2.1 + (3 - x) * (128 * w66 κ)
    obtain ⟨m, hm⟩ : ∃ m, m = cut (puRow x j b w) := ⟨_, rfl⟩
    rw [← hm]
    have m0 : m 0 = 2 := by rw [hm]; rfl
    have m2 : m 2 = Int32.ofNat x := by rw [hm]; rfl
    have m3 : m 3 = j := by rw [hm]; rfl
    obtain ⟨M', hM'⟩ : ∃ M', M' = if u x = true then psh M m else M := ⟨_, rfl⟩
    rw [← hM']
    have one : LM G M' Z N ∧ tCnt M' ≤ tCnt M ∧ (∀ n, n < 7 → pCnt M' n ≤ pCnt M n + (if n = x then 1 else 0)) ∧ ∀ κ, sM κ M' ≤ sM κ M + κ.2.2.1 + (if x ≤ 2 then 128 * w66 κ else 0) := by
      rw [hM']
      by_cases q : u x = true
      · rw [if_pos q]
        refine ⟨hM.psh (fun e => by rw [m0] at e; exact absurd e (by decide)) (fun e => by rw [m0] at e; exact absurd e (by decide)) (fun _ => by rw [m3]; exact hj), ?_, fun n hn => ?_, fun κ => ?_⟩
        · have t := tCnt_psh (M := M) (m := m)
          rw [if_neg (fun w => by
            rw [m0] at w
            rcases w with w | w
            · exact absurd w.1 (by decide)
            · exact absurd w.1 (by decide))] at t
          exact t
        · refine Nat.le_trans pCnt_le (Nat.add_le_add_left ?_ _)
          by_cases e : n = x
          · rw [if_pos e]
            split <;> omega
          · rw [if_neg e, if_neg (fun w => e (ofNat_in (by omega) (by omega) (w.symm.trans m2)))]
            exact Nat.le_refl _
        · refine Nat.le_trans sM_psh ?_
          have : wM κ m ≤ κ.2.2.1 + (if x ≤ 2 then 128 * w66 κ else 0) := by
            unfold wM
            rw [if_neg (by rw [m0]; decide), if_pos m0]
            by_cases e : x ≤ 2
            · rw [if_pos e]
              split <;> omega
            · rw [if_neg e, if_neg (fun z => by
                rcases z with z | z
                · have := ofNat_in (show x < 2147483648 by omega) (show 1 < 2147483648 by decide) (m2.symm.trans z); omega
                · have := ofNat_in (show x < 2147483648 by omega) (show 2 < 2147483648 by decide) (m2.symm.trans z); omega)]
              exact Nat.le_refl _
          omega
      · rw [if_neg q]
        exact ⟨hM, Nat.le_refl _, fun n _ => Nat.le_add_right _ _, fun κ => by omega⟩
    obtain ⟨q1, q2, q3, q4⟩ := one
    obtain ⟨g1, g2, g3, g4⟩ := ih (x + 1) M' (by omega) (by omega) q1
    refine ⟨g1, Nat.le_trans g2 q2, fun n hn => ?_, fun κ => ?_⟩
    · have h1 := g3 n hn
      have h2 := q3 n hn
      by_cases e : n = x
      · rw [if_neg (by omega)] at h1
        rw [if_pos e] at h2
        rw [if_pos (by omega)]
        omega
      · rw [if_neg e] at h2
        by_cases e2 : x ≤ n
        · rw [if_pos (by omega)] at h1
          rw [if_pos e2]
          omega
        · rw [if_neg (by omega)] at h1
          rw [if_neg e2]
          omega
    · have h1 := g4 κ
      have h2 := q4 κ
      obtain ⟨W, hW⟩ : ∃ W, W = 128 * w66 κ := ⟨_, rfl⟩
      rw [← hW] at h1 h2 ⊢
      rw [Nat.add_mul, Nat.one_mul]
      by_cases e : x ≤ 2
      · rw [if_pos e] at h2
        have : (3 - x) * W = (3 - (x + 1)) * W + W := by
          rw [show 3 - x = (3 - (x + 1)) + 1 by omega, Nat.add_mul, Nat.one_mul]
        omega
      · rw [if_neg e] at h2
        have : 3 - (x + 1) = 0 := by omega
        rw [this, Nat.zero_mul] at h1
        omega
theorem Led.clPg (hb : b2 + 17124 ≤ 100000000) : ClPg (Led τ ν lam b1 b2) (Led τ ν lam (b1 + 1036) (b2 + 17124)) := by
  intro M Q Z E N k1 k2 o b w u h ho ho6 hbw
  obtain ⟨hpp, G, ⟨⟨x1, x2, x3, x4⟩, a2, a3, a4, a5, a6, a7, a8, c1, c2⟩, p1', p2'⟩ := h
  obtain ⟨N', hN'⟩ : ∃ x, x = fun j k => if j = 2 then Int32.ofNat (o + 1) else N j k := ⟨_, rfl⟩
  rw [← hN']
  have e : ∀ j k, ¬ j = 2 → N' j k = N j k := fun j k w => by rw [hN']; exact if_neg w
  have e2 : N' 2 0 = Int32.ofNat (o + 1) := by rw [hN']; rfl
  have co : cN (N 2 0) = o := by rw [ho]; exact m_n_cl (by omega)
  have co' : cN (N' 2 0) = o + 1 := by rw [e2]; exact m_n_cl (by omega)
  have hN : NLe N N' := ⟨fun k _ _ => by rw [e 1 k (by decide)]; exact Nat.le_refl _, by rw [e 7 0 (by decide)]; exact Nat.le_refl _, by omega, fun p _ => by rw [e 5 p (by decide)]; exact Nat.le_refl _⟩
  have so : ∀ k, seenN N' k = seenN N k := seen_e (fun k => e 0 k (by decide))
  obtain ⟨q1, q2, q3, q4⟩ := pu_all (G := G) (Z := Z) (N := N') (u := u) (j := Int32.ofNat (o + 1)) (b := b) (w := w) ⟨o + 1, by omega, rfl⟩ 6 1 M (by decide) (by decide) (a3.le hN (fun _ h => h) (fun _ _ h => h))
  obtain ⟨M', hM'⟩ : ∃ x, x = puM u (Int32.ofNat (o + 1)) b w 6 1 M := ⟨_, rfl⟩
  rw [← hM'] at q1 q2 q3 q4 ⊢
  have key : ∀ κ, Pot κ G.2.2.1 G.2.1 M' Q [] Z N' ≤ Pot κ G.2.2.1 G.2.1 M Q [] Z N + (6 * κ.2.2.1 + 2 * (128 * w66 κ)) := fun κ => by
    rw [Pot_N so]
    unfold Pot
    have g := q4 κ
    have g' : sM κ M' ≤ sM κ M + 6 * κ.2.2.1 + 2 * (128 * w66 κ) := g
    omega
  have ks := key κs
  have kc := key κc
  have es : 6 * κs.2.2.1 + 2 * (128 * w66 κs) = 17010 := rfl
  have ec : 6 * κc.2.2.1 + 2 * (128 * w66 κc) = 1030 := rfl
  rw [es] at ks
  rw [ec] at kc
  refine ⟨⟨hpp.1, hpp.2.1, hpp.2.2.1, hb⟩, G, ⟨⟨by rw [e 7 0 (by decide)]; exact x1, by rw [e2]; exact ⟨o + 1, by omega, rfl⟩, fun k k1' k2' => ?_, fun p hp => by rw [e 5 p (by decide)]; exact x4 p hp⟩, a2.le hN (fun k _ _ _ => by rw [so]; exact Nat.le_refl _) vShr.refl (fun _ => List.Sublist.refl _), q1, fun z hz => (a4 z hz).le hN (fun _ _ h => h), a5, a6, a7.le hN vShr.refl, a8.le hN (fun k => e 4 k (by decide)), c1, by omega⟩, by omega, by omega⟩
  obtain ⟨y1, y2, y3, y4⟩ := x3 k k1' k2'
  rw [co', e 0 k (by decide), e 1 k (by decide), e 6 k (by decide)]
  have g := q3 k k2'
  rw [if_pos k1'] at g
  exact ⟨y1.le (by omega), y2.le (by omega), y3, by omega⟩
end
