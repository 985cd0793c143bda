/-! The ledger: the origin answers, purges arrive. -/
section
variable {κ : Ko} {G : Gh} {hc : Nat → Nat → Bool} {mo : Nat → Nat → Nat} {τ ν lam b1 b2 k1 k2 n i f : Nat} {M M1 M2 : List (Nat → Int32)} {Q R Pd : List Rq} {Z : Nat → List Fz} {E E' : Nat → Option (Nat → Int32)} {N N' : Nat → Nat → Int32} {y : Fz} {z : Rq} {m : Nat → Int32}
theorem mem_rem {x : Nat → Int32} (hx : x ∈ M1 ++ M2) : x ∈ M1 ++ m :: M2 := by
  rcases List.mem_append.mp hx with w | w
  · exact List.mem_append_left _ w
  · exact List.mem_append_right _ (List.mem_cons_of_mem _ w)
theorem Led.clPur : ClPur (Led τ ν lam b1 b2) := by
  intro M1 m M2 Q Z E E' N k1 k2 n h m0 m2 n1 n2 hE
  obtain ⟨hpp, G, ⟨⟨x1, x2, x3, x4⟩, a2, a3, a4, a5, a6, a7, a8, c1, c2⟩, p1', p2'⟩ := h
  have hs : vShr E E' := fun e => (hE e).1
  obtain ⟨j, hj⟩ : ∃ j, j = m 3 := ⟨_, rfl⟩
  obtain ⟨N', hN'⟩ : ∃ x, x = puN N n (m 3) := ⟨_, rfl⟩
  rw [← hN']
  have e : ∀ a k, ¬ a = 0 → ¬ a = 6 → N' a k = N a k := fun a k w w' => by
    rw [hN']
    unfold puN
    rw [if_neg (fun q => w q.1), if_neg (fun q => w' q.1)]
  have e0 : ∀ k, ¬ k = n → N' 0 k = N 0 k := fun k w => by
    rw [hN']
    unfold puN
    rw [if_neg (fun q => w q.2), if_neg (fun q => w q.2)]
  have e6 : ∀ k, ¬ k = n → N' 6 k = N 6 k := fun k w => by
    rw [hN']
    unfold puN
    rw [if_neg (fun q => w q.2), if_neg (fun q => w q.2)]
  have en : N' 0 n = if N 0 n < m 3 then m 3 else N 0 n := by
    rw [hN']
    unfold puN
    rw [if_pos ⟨rfl, rfl⟩]
  have e6n : N' 6 n = N 6 n + 1 := by
    rw [hN']
    unfold puN
    rw [if_neg (fun q => absurd q.1 (by decide)), if_pos ⟨rfl, rfl⟩]
  obtain ⟨_, l2⟩ := x2.cN (by decide)
  have u3 := (a3 m (by simp)).2.2 m0
  obtain ⟨u0, _, u6, cn6⟩ := x3 n n1 n2
  obtain ⟨q3, l3⟩ := u3.cN (by omega)
  obtain ⟨q0, l0⟩ := u0.cN (by omega)
  obtain ⟨q6, l6⟩ := u6.cN (by decide)
  have sn : upto (cN (N 2 0)) (N' 0 n) ∧ cN (N 0 n) ≤ cN (N' 0 n) := by
    rw [en]
    by_cases w : N 0 n < m 3
    · rw [if_pos w]
      rw [q0, q3] at w
      have := (i_lt (by show cN (N 0 n) < 2147483648; omega) (by show cN (m 3) < 2147483648; omega)).mp w
      exact ⟨u3, by omega⟩
    · rw [if_neg w]
      exact ⟨u0, Nat.le_refl _⟩
  have n6 : N' 6 n = Int32.ofNat (cN (N 6 n) + 1) := by rw [e6n, q6]; rw [← q6]; exact (congrArg (· + (1 : Int32)) q6).trans (m_n_add _ 1)
  have c6 : cN (N' 6 n) = cN (N 6 n) + 1 := by rw [n6]; exact m_n_cl (by omega)
  have hN : NLe N N' := ⟨fun k _ _ => by rw [e 1 k (by decide) (by decide)]; exact Nat.le_refl _, by rw [e 7 0 (by decide) (by decide)]; exact Nat.le_refl _, by rw [e 2 0 (by decide) (by decide)]; exact Nat.le_refl _, fun p _ => by rw [e 5 p (by decide) (by decide)]; exact Nat.le_refl _⟩
  have so : ∀ k, ¬ k = n → seenN N' k = seenN N k := fun k w => by unfold seenN; rw [e0 k w]
  have hsn : ∀ k, 1 ≤ k → k < 7 → (∃ y, y ∈ Z k) → seenN N k ≤ seenN N' k := fun k _ _ _ => by
    by_cases w : k = n
    · rw [w]
      exact sn.2
    · rw [so k w]
      exact Nat.le_refl _
  have ac0 : cut (acRow n (m 3)) 0 = 3 := rfl
  have pe : pCnt (M1 ++ m :: M2) n = pCnt (M1 ++ M2) n + 1 := by
    unfold pCnt
    rw [filt_rem, if_pos (decide_eq_true ⟨m0, m2⟩)]
  have key : ∀ κ, Pot κ G.2.2.1 G.2.1 (psh (M1 ++ M2) (cut (acRow n (m 3)))) Q [] Z N' + κ.2.2.1 ≤ Pot κ G.2.2.1 G.2.1 (M1 ++ m :: M2) Q [] Z N := fun κ => by
    unfold Pot
    have q := sZ_seen (κ := κ) (hc := G.2.1) (N' := N') a2 n1 n2 so
    have w1 : wM κ m = if n ≤ 2 then κ.2.2.1 + 128 * w66 κ else κ.2.2.1 := by
      unfold wM
      rw [if_neg (by rw [m0]; decide), if_pos m0]
      by_cases w : n ≤ 2
      · rw [if_pos w, if_pos (by
          have : n = 1 ∨ n = 2 := by omega
          rcases this with w | w
          · left; rw [m2, w]; rfl
          · right; rw [m2, w]; rfl)]
      · rw [if_neg w, if_neg (fun z => by
          rcases z with z | z
          · have := ofNat_in (show n < 2147483648 by omega) (show 1 < 2147483648 by decide) (m2.symm.trans z); omega
          · have := ofNat_in (show n < 2147483648 by omega) (show 2 < 2147483648 by decide) (m2.symm.trans z); omega)]
    have w2 : wM κ (cut (acRow n (m 3))) = 0 := by
      unfold wM
      rw [ac0]
      rfl
    have w3 := sM_psh (κ := κ) (M := M1 ++ M2) (m := cut (acRow n (m 3)))
    rw [sM_rem (m := m), w1]
    have w6 : rw0 κ Z N [] = 0 := rfl
    have w7 : rw0 κ Z N' [] = 0 := rfl
    by_cases w : n ≤ 2
    · rw [if_pos w] at q ⊢
      omega
    · rw [if_neg w] at q ⊢
      omega
  have ks := key κs
  have kc := key κc
  have es : κs.2.2.1 = 19 := rfl
  have ec : κc.2.2.1 = 1 := rfl
  have t1 := tCnt_rem (M1 := M1) (M2 := M2) (m := m)
  have t2 := tCnt_psh (M := M1 ++ M2) (m := cut (acRow n (m 3)))
  rw [if_neg (fun w => by
    rw [ac0] at w
    rcases w with w | w
    · exact absurd w.1 (by decide)
    · exact absurd w.1 (by decide))] at t2
  refine ⟨hpp, G, ⟨⟨by rw [e 7 0 (by decide) (by decide)]; exact x1, by rw [e 2 0 (by decide) (by decide)]; exact x2, fun k k1' k2' => ?_, fun p hp => by rw [e 5 p (by decide) (by decide)]; exact x4 p hp⟩, a2.le hN hsn hs (fun _ => List.Sublist.refl _), LM.psh (a3.le hN (fun _ h => mem_rem h) (fun _ _ h => h)) (fun w => by rw [ac0] at w; exact absurd w (by decide)) (fun w => by rw [ac0] at w; exact absurd w (by decide)) (fun w => by rw [ac0] at w; exact absurd w (by decide)), fun z hz => (a4 z hz).le hN (fun _ _ h => h), a5, a6, a7.le hN hs, a8.le hN (fun k => e 4 k (by decide) (by decide)), c1, by omega⟩, by omega, by omega⟩
  obtain ⟨y1, y2, y3, y4⟩ := x3 k k1' k2'
  rw [e 2 0 (by decide) (by decide), e 1 k (by decide) (by decide), pCnt_psh (by rw [ac0]; decide)]
  by_cases w : k = n
  · subst w
    rw [pe] at y4
    refine ⟨sn.1, y2.le (by omega), ⟨cN (N 6 k) + 1, by omega, n6⟩, by omega⟩
  · rw [e0 k w, e6 k w]
    have := pCnt_rem (M1 := M1) (M2 := M2) (m := m) (n := k)
    exact ⟨y1, y2.le (by omega), y3, by omega⟩
end
