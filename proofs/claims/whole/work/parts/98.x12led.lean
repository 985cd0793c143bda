/-! The ledger: a new fetch, links. -/
def gNew (G : Gh) (n k : Nat) (h : Int32) (c : Bool) (o : Nat) : Gh := (fun a b => if a = n ∧ b = k then h else G.1 a b, fun a b => if a = n ∧ b = k then c else G.2.1 a b, fun a b => if a = n ∧ b = k then o else G.2.2.1 a b, G.2.2.2)
section
variable {κ : Ko} {G G' : Gh} {τ ν lam b1 b2 k1 k2 n a J o : Nat} {M : List (Nat → Int32)} {Q R Pd : List Rq} {Z Z' : Nat → List Fz} {E E' : Nat → Option (Nat → Int32)} {N N' : Nat → Nat → Int32} {y : Fz} {z : Rq} {m : Nat → Int32} {hv : Int32} {c : Bool}
/-- the ghosts of the fetches that were out stand; tokens of before speak of none but those -/
def Gs2 (G G' : Gh) (Z Z' : Nat → List Fz) (N : Nat → Nat → Int32) : Prop := G'.2.2.2 = G.2.2.2 ∧ (∀ a, 1 ≤ a → a < 7 → ∀ y ∈ Z a, G'.1 a (nmb y) = G.1 a (nmb y) ∧ G'.2.1 a (nmb y) = G.2.1 a (nmb y) ∧ G'.2.2.1 a (nmb y) = G.2.2.1 a (nmb y)) ∧ ∀ a x, 1 ≤ a → a < 7 → upto (cN (N 1 a)) x → ∀ y ∈ Z' a, y.2.2 7 = x → y ∈ Z a
theorem toldH.g {p : Nat} {d : Nat → Int32} (h : toldH G N p d) (e : G'.2.2.2 = G.2.2.2) : toldH G' N p d := ⟨by rw [e]; exact h.1, h.2⟩
theorem LF.g (h : LF G Z N m) (hN : NLe N N') (hG : Gs2 G G' Z Z' N) : LF G' Z' N' m := by
  obtain ⟨n, h1, h2, h3, h4, h5⟩ := h
  have nn : 1 ≤ n ∧ n < 7 := by omega
  refine ⟨n, h1, h2, h3.le (hN.1 n nn.1 nn.2), ⟨h4.1.le hN.2.2.1, h4.2⟩, fun y hy y7 => ?_⟩
  have hy' := hG.2.2 n _ nn.1 nn.2 h3 y hy y7
  obtain ⟨x0, x1, x5, x6, x9, x10, x⟩ := h5 y hy' y7
  exact ⟨x0, x1, x5, x6, x9, by rw [(hG.2.1 n nn.1 nn.2 y hy').1]; exact x10, x⟩
theorem LI.g (h : LI G Z N m) (hN : NLe N N') (hG : Gs2 G G' Z Z' N) : LI G' Z' N' m := by
  obtain ⟨n, h1, h2, h3, h4, h5, h6, h7⟩ := h
  refine ⟨n, h1, h2, h3, h4.le (hN.1 n h2 h3), h5.le hN.2.2.1, fun y hy y7 => h6 y (hG.2.2 n _ h2 h3 h4 y hy y7) y7, ?_⟩
  rcases h7 with w | ⟨w1, w2, ⟨p, p1', p2', p3'⟩, w4⟩
  · exact Or.inl w
  · refine Or.inr ⟨w1, w2.le hN, ⟨p, p1', p2', (p3'.le p1' hN).g hG.1⟩, fun y hy y7 => ?_⟩
    have hy' := hG.2.2 n _ h2 h3 h4 y hy y7
    obtain ⟨q1, q2, q3⟩ := hG.2.1 n h2 h3 y hy'
    rw [q1, q3]
    exact w4 y hy' y7
theorem LR.g (h : LR G Z N z) (hN : NLe N N') (hG : Gs2 G G' Z Z' N) : LR G' Z' N' z := by
  obtain ⟨q, f, ro, g, cd⟩ := z
  obtain ⟨⟨a1, a2, a3⟩, h⟩ := h
  refine ⟨⟨a1, a2, a3.le hN.2.2.1⟩, ?_⟩
  cases ro with
  | none =>
    cases cd with
    | none =>
      obtain ⟨b1, n, b2, b3, b4, b5, b6⟩ := h
      refine ⟨b1, n, b2, b3, b4, b5.le (hN.1 n (by omega) (by omega)), fun y hy y7 => ?_⟩
      have hy' := hG.2.2 n _ (by omega) (by omega) b5 y hy y7
      obtain ⟨x0, x1, x5, x6, x9, x2, x3, x17⟩ := b6 y hy' y7
      exact ⟨x0, x1, x5, x6, x9, x2, x3, by rw [(hG.2.1 n (by omega) (by omega) y hy').1]; exact x17⟩
    | some k => exact h
  | some r =>
    cases cd with
    | none => exact h
    | some k => exact h
theorem LM.g (h : LM G M Z N) (hN : NLe N N') (hG : Gs2 G G' Z Z' N) : LM G' M Z' N' := fun m hm => by
  obtain ⟨h1, h2, h3⟩ := h m hm
  exact ⟨fun e => (h1 e).g hN hG, fun e => (h2 e).g hN hG, fun e => (h3 e).le hN.2.2.1⟩
theorem LE.g (h : LE G E N) (e : G'.2.2.2 = G.2.2.2) : LE G' E N := ⟨fun k g hk => ⟨(h.1 k g hk).1, (h.1 k g hk).2.1, (h.1 k g hk).2.2.g e⟩, h.2⟩
theorem LT.g (h : LT G N) (e : G'.2.2.2 = G.2.2.2) : LT G' N := fun p hp => by
  rcases h p hp with w | w
  · exact Or.inl w
  · exact Or.inr (w.g e)
theorem LZ.g (h : LZ G E N a y) (e1 : G'.1 a (nmb y) = G.1 a (nmb y)) (e2 : G'.2.1 a (nmb y) = G.2.1 a (nmb y)) (e3 : G'.2.2.1 a (nmb y) = G.2.2.1 a (nmb y)) : LZ G' E N a y := by
  unfold LZ at h ⊢
  rw [e1, e2, e3]
  exact h
theorem nmb_le (h : LZ G E N n y) (hJ : N 1 n = Int32.ofNat J) (hl : J < 1000000000) : nmb y ≤ J := by
  obtain ⟨_, ⟨k, q1, q2⟩, _⟩ := h
  have e : cN (N 1 n) = J := by rw [hJ]; exact m_n_cl (by omega)
  rw [e] at q1
  unfold nmb
  rw [q2, m_n_cl (by omega)]
  exact q1
theorem mkN_le (hJ : N 1 n = Int32.ofNat J) (hl : J < 1000000000) : NLe N (mkN N n) ∧ (mkN N n) 1 n = Int32.ofNat (J + 1) ∧ (∀ j k, ¬ j = 1 → mkN N n j k = N j k) ∧ ∀ k, ¬ k = n → mkN N n 1 k = N 1 k := by
  have e1 : (mkN N n) 1 n = Int32.ofNat (J + 1) := by
    unfold mkN
    rw [if_pos ⟨rfl, rfl⟩, hJ]
    exact m_n_add J 1
  have e : ∀ j k, ¬ j = 1 → mkN N n j k = N j k := fun j k w => if_neg (fun q => w q.1)
  have eo : ∀ k, ¬ k = n → mkN N n 1 k = N 1 k := fun k w => if_neg (fun q => w q.2)
  refine ⟨⟨fun k _ _ => ?_, by rw [e 7 0 (by decide)]; exact Nat.le_refl _, by rw [e 2 0 (by decide)]; exact Nat.le_refl _, fun p _ => by rw [e 5 p (by decide)]; exact Nat.le_refl _⟩, e1, e, eo⟩
  by_cases w : k = n
  · rw [w, e1, hJ]
    have h1 : cN (Int32.ofNat J) = J := m_n_cl (by omega)
    have h2 : cN (Int32.ofNat (J + 1)) = J + 1 := m_n_cl (by omega)
    omega
  · rw [eo k w]
    exact Nat.le_refl _
/-- a new fetch with the next number -/
theorem gs_new (h : LZs G Z E N) (hJ : N 1 n = Int32.ofNat J) (hl : J < 1000000000) (y7 : y.2.2 7 = Int32.ofNat (J + 1)) : Gs2 G (gNew G n (J + 1) hv c o) Z (zAdd Z n y) N := by
  refine ⟨rfl, fun a a1 a2 x hx => ?_, fun a x a1 a2 hu w hw w7 => ?_⟩
  · have ne : ¬ (a = n ∧ nmb x = J + 1) := fun q => by
      obtain ⟨q1, q2⟩ := q
      subst q1
      have := nmb_le ((h a a1 a2).1 x hx) hJ hl
      omega
    exact ⟨if_neg ne, if_neg ne, if_neg ne⟩
  · unfold zAdd at hw
    by_cases e : a = n
    · subst e
      rw [if_pos rfl] at hw
      rcases List.mem_append.mp hw with q | q
      · exact q
      · exfalso
        rw [List.mem_singleton.mp q, y7] at w7
        have e : cN (N 1 a) = J := by rw [hJ]; exact m_n_cl (by omega)
        obtain ⟨k, k1', k2'⟩ := hu
        rw [e] at k1'
        have := ofNat_in (by omega) (by omega) (w7.trans k2')
        omega
    · rw [if_neg e] at hw
      exact hw
theorem sZ_new (n1 : 1 ≤ n) (n2 : n < 7) (h : LZs G Z E N) (hJ : N 1 n = Int32.ofNat J) (hl : J < 1000000000) : sZ κ (gNew G n (J + 1) hv c o).2.1 (mkN N n) (zAdd Z n y) = sZ κ G.2.1 N Z + wZ κ (gNew G n (J + 1) hv c o).2.1 N n y := by
  obtain ⟨_, _, e, _⟩ := mkN_le hJ hl
  have hs : ∀ k, seenN (mkN N n) k = seenN N k := seen_e (fun k => e 0 k (by decide))
  rw [sZ_N hs]
  have old : ∀ a, 1 ≤ a → a < 7 → ((Z a).map (wZ κ (gNew G n (J + 1) hv c o).2.1 N a)).sum = ((Z a).map (wZ κ G.2.1 N a)).sum := fun a a1 a2 => by
    congr 1
    refine List.map_congr_left (fun x hx => ?_)
    have ne : ¬ (a = n ∧ nmb x = J + 1) := fun q => by
      obtain ⟨q1, q2⟩ := q
      subst q1
      have := nmb_le ((h a a1 a2).1 x hx) hJ hl
      omega
    unfold wZ
    rw [show (gNew G n (J + 1) hv c o).2.1 a (nmb x) = G.2.1 a (nmb x) from if_neg ne]
  have oo : ∀ a, 1 ≤ a → a < 7 → ¬ a = n → sZn κ (gNew G n (J + 1) hv c o).2.1 N (zAdd Z n y) a = sZn κ G.2.1 N Z a := fun a a1 a2 w => by
    unfold sZn
    rw [show zAdd Z n y a = Z a from if_neg w]
    exact old a a1 a2
  have s : sZn κ (gNew G n (J + 1) hv c o).2.1 N (zAdd Z n y) n = sZn κ G.2.1 N Z n + wZ κ (gNew G n (J + 1) hv c o).2.1 N n y := by
    unfold sZn
    rw [show zAdd Z n y n = Z n ++ [y] from if_pos rfl, List.map_append, List.sum_append, old n n1 n2]
    rfl
  unfold sZ
  have : n = 1 ∨ n = 2 ∨ n = 3 ∨ n = 4 ∨ n = 5 ∨ n = 6 := by omega
  rcases this with q | q | q | q | q | q
  · subst q; rw [oo 2 (by decide) (by decide) (by decide), oo 3 (by decide) (by decide) (by decide), oo 4 (by decide) (by decide) (by decide), oo 5 (by decide) (by decide) (by decide), oo 6 (by decide) (by decide) (by decide)]; omega
  · subst q; rw [oo 1 (by decide) (by decide) (by decide), oo 3 (by decide) (by decide) (by decide), oo 4 (by decide) (by decide) (by decide), oo 5 (by decide) (by decide) (by decide), oo 6 (by decide) (by decide) (by decide)]; omega
  · subst q; rw [oo 1 (by decide) (by decide) (by decide), oo 2 (by decide) (by decide) (by decide), oo 4 (by decide) (by decide) (by decide), oo 5 (by decide) (by decide) (by decide), oo 6 (by decide) (by decide) (by decide)]; omega
  · subst q; rw [oo 1 (by decide) (by decide) (by decide), oo 2 (by decide) (by decide) (by decide), oo 3 (by decide) (by decide) (by decide), oo 5 (by decide) (by decide) (by decide), oo 6 (by decide) (by decide) (by decide)]; omega
  · subst q; rw [oo 1 (by decide) (by decide) (by decide), oo 2 (by decide) (by decide) (by decide), oo 3 (by decide) (by decide) (by decide), oo 4 (by decide) (by decide) (by decide), oo 6 (by decide) (by decide) (by decide)]; omega
  · subst q; rw [oo 1 (by decide) (by decide) (by decide), oo 2 (by decide) (by decide) (by decide), oo 3 (by decide) (by decide) (by decide), oo 4 (by decide) (by decide) (by decide), oo 5 (by decide) (by decide) (by decide)]; omega
end
