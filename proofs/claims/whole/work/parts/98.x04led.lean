/-! The ledger: clock, things, asks, texts. -/
section
variable {κ : Ko} {G G' : Gh} {hc : Nat → Nat → Bool} {mo : Nat → Nat → Nat} {τ ν τ' ν' lam b1 b2 k1 k2 k2' n : Nat} {M M' M1 M2 : List (Nat → Int32)} {Q Q' R R' Pd : List Rq} {Z Z' : Nat → List Fz} {E E' : Nat → Option (Nat → Int32)} {N N' : Nat → Nat → Int32} {y : Fz} {z : Rq} {m : Nat → Int32}
theorem sZ_N (h : ∀ n, seenN N' n = seenN N n) : sZ κ hc N' Z = sZ κ hc N Z := by
  have e : wZ κ hc N' = wZ κ hc N := by
    funext n y
    unfold wZ
    rw [h]
  unfold sZ sZn
  rw [e]
theorem Pot_N (h : ∀ n, seenN N' n = seenN N n) : Pot κ mo hc M Q [] Z N' = Pot κ mo hc M Q [] Z N := by
  unfold Pot
  rw [sZ_N h]
  rfl
theorem seen_e (h : ∀ n, N' 0 n = N 0 n) : ∀ n, seenN N' n = seenN N n := fun n => by unfold seenN; rw [h]
theorem LN.nn (h : LN τ ν M N k2) (e0 : ∀ k, N' 0 k = N 0 k) (e1 : ∀ k, N' 1 k = N 1 k) (e2 : N' 2 0 = N 2 0) (e6 : ∀ k, N' 6 k = N 6 k) (h7 : upto τ' (N' 7 0)) (h5 : ∀ p, p < 32 → upto ν' (N' 5 p)) (hk : k2 ≤ k2') : LN τ' ν' M N' k2' := by
  obtain ⟨h1, h2, h3, h4⟩ := h
  refine ⟨h7, by rw [e2]; exact h2, fun n n1 n2 => ?_, h5⟩
  obtain ⟨a1, a2, a3, a4⟩ := h3 n n1 n2
  rw [e0, e1, e2, e6]
  exact ⟨a1, a2.le hk, a3, a4⟩
/-- the clock, the things, the count of asks: all else stands -/
theorem Led.nchg {b1' b2' k1' : Nat} (h : Led τ ν lam b1 b2 M Q [] Z E N k1 k2) (hp : τ' ≤ 60000 ∧ ν' ≤ 600 ∧ lam ≤ 300 ∧ b2' ≤ 100000000) (e0 : ∀ k, N' 0 k = N 0 k) (e1 : ∀ k, N' 1 k = N 1 k) (e2 : N' 2 0 = N 2 0) (e6 : ∀ k, N' 6 k = N 6 k) (h7 : upto τ (N 7 0) → upto τ' (N' 7 0) ∧ cN (N 7 0) ≤ cN (N' 7 0)) (h5 : (∀ p, p < 32 → upto ν (N 5 p)) → ∀ p, p < 32 → upto ν' (N' 5 p) ∧ cN (N 5 p) ≤ cN (N' 5 p)) (hk : k2 ≤ k2') (c1 : k1' + b1 ≤ k1 + b1') (c2 : k2' + b2 ≤ k2 + b2') (hH : ∀ G, LT G N → (∀ p, p < 32 → upto ν (N 5 p)) → ∃ H', (∀ p d, p < 32 → toldH G N p d → toldH (G.1, G.2.1, G.2.2.1, H') N' p d) ∧ LT (G.1, G.2.1, G.2.2.1, H') N') : Led τ' ν' lam b1' b2' M Q [] Z E N' k1' k2' := by
  obtain ⟨_, G, ⟨a1, a2, a3, a4, a5, a6, a7, a8, a9⟩, p1', p2'⟩ := h
  obtain ⟨H', hh, hT⟩ := hH G a8 a1.2.2.2
  obtain ⟨u7, l7⟩ := h7 a1.1
  have u5 := h5 a1.2.2.2
  have hs := seen_e e0
  have hN : NLe N N' := ⟨fun n _ _ => by rw [e1]; exact Nat.le_refl _, l7, by rw [e2]; exact Nat.le_refl _, fun p hp => (u5 p hp).2⟩
  refine ⟨hp, (G.1, G.2.1, G.2.2.1, H'), ⟨a1.nn e0 e1 e2 e6 u7 (fun p hp => (u5 p hp).1) hk, ?_, fun m hm => ?_, fun z hz => ?_, a5, a6, ⟨fun e g he => ?_, a7.2⟩, hT, a9⟩, ?_, ?_⟩
  · exact a2.le hN (fun n _ _ _ => by rw [hs]; exact Nat.le_refl _) vShr.refl (fun _ => List.Sublist.refl _)
  · obtain ⟨q1, q2, q3⟩ := a3 m hm
    refine ⟨fun e => (q1 e).le hN (fun _ _ h => h), fun e => ?_, fun e => (q3 e).le hN.2.2.1⟩
    obtain ⟨n, g1, g2, g3, g4, g5, g6, g7⟩ := q2 e
    refine ⟨n, g1, g2, g3, g4.le (hN.1 n g2 g3), g5.le hN.2.2.1, g6, ?_⟩
    rcases g7 with w | ⟨w1, w2, ⟨p, x1, x2, x3⟩, w4⟩
    · exact Or.inl w
    · exact Or.inr ⟨w1, w2.le hN, ⟨p, x1, x2, hh p _ x1 x3⟩, w4⟩
  · exact (a4 z hz).le hN (fun _ _ h => h)
  · obtain ⟨q1, q2, q3⟩ := a7.1 e g he
    exact ⟨q1.le hN.2.2.1, q2.le hN, hh _ _ (by unfold eP; omega) q3⟩
  · show Pot κc G.2.2.1 G.2.1 M Q [] Z N' + k1' ≤ b1'
    rw [Pot_N hs]
    omega
  · show Pot κs G.2.2.1 G.2.1 M Q [] Z N' + k2' ≤ b2'
    rw [Pot_N hs]
    omega
theorem told_same (h : ∀ p, p < 32 → cN (N 5 p) ≤ cN (N' 5 p)) {p : Nat} {d : Nat → Int32} (hp : p < 32) (q : toldH G N p d) : toldH (G.1, G.2.1, G.2.2.1, G.2.2.2) N' p d := ⟨q.1, q.2.1.le (h p hp), q.2.2⟩
theorem Led.clDrop : ClDrop (Led τ ν lam b1 b2) := by
  intro M Q Z E N k1 k2 p h hp
  obtain ⟨N', hN'⟩ : ∃ x, x = fun j k => if j = 4 ∧ k = 9 * p then (0 : Int32) else N j k := ⟨_, rfl⟩
  have e : ∀ j k, ¬ j = 4 → N' j k = N j k := fun j k w => by rw [hN']; exact if_neg (fun q => w q.1)
  rw [← hN']
  refine Led.nchg h h.1 (fun k => e 0 k (by decide)) (fun k => e 1 k (by decide)) (e 2 0 (by decide)) (fun k => e 6 k (by decide)) (fun w => by rw [e 7 0 (by decide)]; exact ⟨w, Nat.le_refl _⟩) (fun w q hq => by rw [e 5 q (by decide)]; exact ⟨w q hq, Nat.le_refl _⟩) (Nat.le_refl _) (by omega) (by omega) (fun G hT _ => ⟨G.2.2.2, fun q d hq w => told_same (fun r _ => by rw [e 5 r (by decide)]; exact Nat.le_refl _) hq w, fun q hq => ?_⟩)
  by_cases w : q = p
  · left
    rw [hN', w]
    exact if_pos ⟨rfl, rfl⟩
  · have e4 : ∀ i, i < 9 → N' 4 (9 * q + i) = N 4 (9 * q + i) := fun i hi => by rw [hN']; exact if_neg (fun z => by omega)
    have e40 : N' 4 (9 * q) = N 4 (9 * q) := e4 0 (by decide)
    rcases hT q hq with z | ⟨z1, z2, z3, z4⟩
    · exact Or.inl (by rw [e40]; exact z)
    · right
      refine ⟨fun i hi => ?_, ?_, ?_, ?_⟩
      · show N' 4 (9 * q + i) = G.2.2.2 q (N' 4 (9 * q + 0)) i
        rw [e4 i hi, e4 0 (by decide)]
        exact z1 i hi
      · show upto (cN (N' 5 q)) (N' 4 (9 * q + 0))
        rw [e4 0 (by decide), e 5 q (by decide)]
        exact z2
      · show ¬ N' 4 (9 * q + 0) = 0
        rw [e4 0 (by decide)]
        exact z3
      · show few 256 (N' 4 (9 * q + 1))
        rw [e4 1 (by decide)]
        exact z4
theorem LT.same (h4 : ∀ k, N' 4 k = N 4 k) (h5 : ∀ p, p < 32 → cN (N 5 p) ≤ cN (N' 5 p)) (h : LT G N) : LT (G.1, G.2.1, G.2.2.1, G.2.2.2) N' := fun q hq => by
  rw [h4]
  rcases h q hq with w | w
  · exact Or.inl w
  · right
    have : (fun i => N' 4 (9 * q + i)) = fun i => N 4 (9 * q + i) := funext fun i => h4 _
    rw [this]
    exact told_same h5 hq w
theorem Led.clTick (ht : τ + 1 ≤ 60000) : ClTick (Led τ ν lam b1 b2) (Led (τ + 1) ν lam b1 b2) := by
  intro M Q Z E N k1 k2 h
  obtain ⟨N', hN'⟩ : ∃ x, x = fun (j k : Nat) => if 7 ≤ j then N 7 0 + 1 else N j k := ⟨_, rfl⟩
  have e : ∀ j k, j < 7 → N' j k = N j k := fun j k w => by rw [hN']; exact if_neg (by omega)
  rw [← hN']
  refine Led.nchg h ⟨ht, h.1.2⟩ (fun k => e 0 k (by decide)) (fun k => e 1 k (by decide)) (e 2 0 (by decide)) (fun k => e 6 k (by decide)) (fun w => ?_) (fun w q hq => by rw [e 5 q (by decide)]; exact ⟨w q hq, Nat.le_refl _⟩) (Nat.le_refl _) (by omega) (by omega) (fun G hT _ => ⟨G.2.2.2, fun q d hq w => told_same (fun r _ => by rw [e 5 r (by decide)]; exact Nat.le_refl _) hq w, LT.same (fun k => e 4 k (by decide)) (fun r _ => by rw [e 5 r (by decide)]; exact Nat.le_refl _) hT⟩)
  obtain ⟨t, t1, t2⟩ := w
  have e7 : N' 7 0 = Int32.ofNat (t + 1) := by
    rw [hN']
    show N 7 0 + 1 = _
    rw [t2]
    exact m_n_add t 1
  have c0 : cN (N 7 0) = t := by rw [t2]; exact m_n_cl (by omega)
  have c1 : cN (N' 7 0) = t + 1 := by rw [e7]; exact m_n_cl (by omega)
  exact ⟨⟨t + 1, by omega, e7⟩, by omega⟩
/-- only costs, and the count of asks -/
theorem Led.ask {b1' b2' k1' : Nat} (h : Led τ ν lam b1 b2 M Q [] Z E N k1 k2) (hb : b2' ≤ 100000000) (hk : k2 ≤ k2') (c1 : k1' + b1 ≤ k1 + b1') (c2 : k2' + b2 ≤ k2 + b2') : Led τ ν lam b1' b2' M Q [] Z E (vAsk N) k1' k2' := by
  have e : ∀ j k, ¬ j = 3 → vAsk N j k = N j k := fun j k w => if_neg w
  exact Led.nchg h ⟨h.1.1, h.1.2.1, h.1.2.2.1, hb⟩ (fun k => e 0 k (by decide)) (fun k => e 1 k (by decide)) (e 2 0 (by decide)) (fun k => e 6 k (by decide)) (fun w => by rw [e 7 0 (by decide)]; exact ⟨w, Nat.le_refl _⟩) (fun w q hq => by rw [e 5 q (by decide)]; exact ⟨w q hq, Nat.le_refl _⟩) hk c1 c2 (fun G hT _ => ⟨G.2.2.2, fun q d hq w => told_same (fun r _ => by rw [e 5 r (by decide)]; exact Nat.le_refl _) hq w, LT.same (fun k => e 4 k (by decide)) (fun r _ => by rw [e 5 r (by decide)]; exact Nat.le_refl _) hT⟩)
theorem Led.cost {b1' b2' k1' : Nat} (h : Led τ ν lam b1 b2 M Q [] Z E N k1 k2) (hb : b2' ≤ 100000000) (hk : k2 ≤ k2') (c1 : k1' + b1 ≤ k1 + b1') (c2 : k2' + b2 ≤ k2 + b2') : Led τ ν lam b1' b2' M Q [] Z E N k1' k2' := by
  obtain ⟨hp, G, ⟨a1, a2, a3, a4, a5, a6, a7, a8, a9⟩, p1', p2'⟩ := h
  exact ⟨⟨hp.1, hp.2.1, hp.2.2.1, hb⟩, G, ⟨a1.le hk (fun _ => Nat.le_refl _), a2, a3, a4, a5, a6, a7, a8, a9⟩, by omega, by omega⟩
theorem Led.clAsk (hb : b2 + 49 ≤ 100000000) : ClAsk (Led τ ν lam b1 b2) (Led τ ν lam (b1 + 4) (b2 + 49)) := fun M Q Z E N k1 k2 h => ⟨Led.cost h hb (Nat.le_refl _) (by omega) (by omega), Led.ask h hb (by omega) (by omega) (by omega)⟩
theorem tx_ar {b d : Nat} (h : d ≤ 1400) (hb : b + 3300 ≤ 100000000) : b + (2 * d + 500) ≤ 100000000 := Nat.le_trans (Nat.add_le_add_left (Nat.add_le_add_right (Nat.mul_le_mul_left 2 h) 500) b) hb
theorem tx_a2 {a b d : Nat} : a + (d + 2) + b ≤ a + (b + (d + 2)) := by omega
theorem tx_a3 {a b d : Nat} : a + (2 * d + 500) + b ≤ a + (b + (2 * d + 500)) := by omega
theorem Led.clTx {m : Nat} (hb : b2 + 3300 ≤ 100000000) : ClTx (Led τ ν lam b1 b2) (fun m' => Led τ ν lam (b1 + ((m' - m) + 2)) (b2 + (2 * (m' - m) + 500))) m := by
  intro m' h1 h2 M Q Z E N k1 k2 h
  obtain ⟨d, hd⟩ : ∃ d, d = m' - m := ⟨_, rfl⟩
  show Led τ ν lam (b1 + ((m' - m) + 2)) (b2 + (2 * (m' - m) + 500)) M Q [] Z E N (k1 + ((m' - m) + 2)) (k2 + (2 * (m' - m) + 500))
  rw [← hd]
  have hd2 : d ≤ 1400 := by rw [hd]; exact Nat.le_trans (Nat.sub_le _ _) h2
  exact Led.cost h (tx_ar hd2 hb) (Nat.le_add_right _ _) tx_a2 tx_a3
theorem Led.clUp (hν : ν + 1 ≤ 600) (hb : b2 + 10 ≤ 100000000) : ClUp (Led τ ν lam b1 b2) (Led τ (ν + 1) lam (b1 + 1) (b2 + 10)) := by
  intro M Q Z E N k1 k2 h
  refine ⟨Led.mono (Nat.le_refl _) (Nat.le_succ _) (Nat.le_refl _) (Nat.le_refl _) (Nat.le_refl _) ⟨h.1.1, hν, h.1.2.2.1, hb⟩ _ _ _ _ _ _ _ _ (Led.cost h hb (by omega) (by omega) (by omega)), fun p d hp hd h0 => ?_⟩
  obtain ⟨N', hN'⟩ : ∃ x, x = fun j k => if j = 4 ∧ 9 * p ≤ k ∧ k < 9 * p + 9 then d (k - 9 * p) else if j = 5 ∧ k = p then N 5 p + 1 else N j k := ⟨_, rfl⟩
  have e : ∀ j k, ¬ j = 4 → ¬ j = 5 → N' j k = N j k := fun j k w w' => by
    rw [hN']
    show (if j = 4 ∧ 9 * p ≤ k ∧ k < 9 * p + 9 then d (k - 9 * p) else if j = 5 ∧ k = p then N 5 p + 1 else N j k) = N j k
    rw [if_neg (fun q => w q.1), if_neg (fun q => w' q.1)]
  have e5 : ∀ q, N' 5 q = if q = p then N 5 p + 1 else N 5 q := fun q => by
    rw [hN']
    show (if 5 = 4 ∧ 9 * p ≤ q ∧ q < 9 * p + 9 then d (q - 9 * p) else if 5 = 5 ∧ q = p then N 5 p + 1 else N 5 q) = _
    rw [if_neg (fun w => absurd w.1 (by decide))]
    by_cases w : q = p
    · rw [if_pos ⟨rfl, w⟩, if_pos w]
    · rw [if_neg (fun z => w z.2), if_neg w]
  have e4 : ∀ k, N' 4 k = if 9 * p ≤ k ∧ k < 9 * p + 9 then d (k - 9 * p) else N 4 k := fun k => by
    rw [hN']
    show (if 4 = 4 ∧ 9 * p ≤ k ∧ k < 9 * p + 9 then d (k - 9 * p) else if 4 = 5 ∧ k = p then N 5 p + 1 else N 4 k) = _
    by_cases w : 9 * p ≤ k ∧ k < 9 * p + 9
    · rw [if_pos ⟨rfl, w⟩, if_pos w]
    · rw [if_neg (fun z => w z.2), if_neg w, if_neg (fun z => absurd z.1 (by decide))]
  rw [← hN']
  have up : ∀ {ν : Nat}, (∀ p, p < 32 → upto ν (N 5 p)) → ν < 1000 → ∀ q, q < 32 → upto (ν + 1) (N' 5 q) ∧ cN (N 5 q) ≤ cN (N' 5 q) := fun w wn q hq => by
    rw [e5]
    obtain ⟨v, v1, v2⟩ := w q hq
    have c : cN (N 5 q) = v := by rw [v2]; exact m_n_cl (by omega)
    by_cases z : q = p
    · subst z
      have en : N 5 q + 1 = Int32.ofNat (v + 1) := by rw [v2]; exact m_n_add v 1
      rw [if_pos rfl, en]
      have c' : cN (Int32.ofNat (v + 1)) = v + 1 := m_n_cl (by omega)
      exact ⟨⟨v + 1, by omega, rfl⟩, by omega⟩
    · rw [if_neg z]
      exact ⟨⟨v, by omega, v2⟩, Nat.le_refl _⟩
  refine Led.nchg h ⟨h.1.1, hν, h.1.2.2.1, hb⟩ (fun k => e 0 k (by decide) (by decide)) (fun k => e 1 k (by decide) (by decide)) (e 2 0 (by decide) (by decide)) (fun k => e 6 k (by decide) (by decide)) (fun w => by rw [e 7 0 (by decide) (by decide)]; exact ⟨w, Nat.le_refl _⟩) (fun w => up w (by omega)) (by omega) (by omega) (by omega) (fun G hT h5 => ⟨fun q v i => if q = p ∧ v = d 0 then d i else G.2.2.2 q v i, ?_, ?_⟩)
  · intro q x hq ⟨x1, x2, x3, x4⟩
    refine ⟨fun i hi => ?_, x2.le (up h5 (by omega) q hq).2, x3, x4⟩
    show x i = if q = p ∧ x 0 = d 0 then d i else G.2.2.2 q (x 0) i
    rw [if_neg (fun w => ?_)]
    · exact x1 i hi
    · obtain ⟨w1, w2⟩ := w
      subst w1
      obtain ⟨v, v1, v2⟩ := h5 q hq
      obtain ⟨u, u1, u2⟩ := x2
      have c : cN (N 5 q) = v := by rw [v2]; exact m_n_cl (by omega)
      rw [u2, h0, v2, show Int32.ofNat v + 1 = Int32.ofNat (v + 1) from m_n_add v 1] at w2
      have := ofNat_in (by omega) (by omega) w2
      omega
  · intro q hq
    by_cases w : q = p
    · subst w
      right
      have f4 : ∀ i, i < 9 → N' 4 (9 * q + i) = d i := fun i hi => by rw [e4, if_pos ⟨by omega, by omega⟩, show 9 * q + i - 9 * q = i by omega]
      refine ⟨fun i hi => ?_, ?_, ?_, ?_⟩
      · show N' 4 (9 * q + i) = if q = q ∧ N' 4 (9 * q + 0) = d 0 then d i else _
        rw [f4 i hi, f4 0 (by decide), if_pos ⟨rfl, rfl⟩]
      · show upto (cN (N' 5 q)) (N' 4 (9 * q + 0))
        rw [f4 0 (by decide), e5, if_pos rfl, h0]
        obtain ⟨v, v1, v2⟩ := h5 q hq
        have en : N 5 q + 1 = Int32.ofNat (v + 1) := by rw [v2]; exact m_n_add v 1
        rw [en]
        have c' : cN (Int32.ofNat (v + 1)) = v + 1 := m_n_cl (by omega)
        exact ⟨v + 1, by omega, rfl⟩
      · show ¬ N' 4 (9 * q + 0) = 0
        rw [f4 0 (by decide)]
        exact hd.2.1
      · show few 256 (N' 4 (9 * q + 1))
        rw [f4 1 (by decide)]
        exact hd.2.2.1
    · have f4 : ∀ i, i < 9 → N' 4 (9 * q + i) = N 4 (9 * q + i) := fun i hi => by rw [e4, if_neg (by omega)]
      have f0 : N' 4 (9 * q) = N 4 (9 * q) := f4 0 (by decide)
      rcases hT q hq with z | ⟨z1, z2, z3, z4⟩
      · exact Or.inl (by rw [f0]; exact z)
      · right
        refine ⟨fun i hi => ?_, ?_, ?_, ?_⟩
        · show N' 4 (9 * q + i) = if q = p ∧ N' 4 (9 * q + 0) = d 0 then d i else G.2.2.2 q (N' 4 (9 * q + 0)) i
          rw [f4 i hi, f4 0 (by decide), if_neg (fun z => w z.1)]
          exact z1 i hi
        · show upto (cN (N' 5 q)) (N' 4 (9 * q + 0))
          rw [f4 0 (by decide), e5, if_neg w]
          exact z2
        · show ¬ N' 4 (9 * q + 0) = 0
          rw [f4 0 (by decide)]
          exact z3
        · show few 256 (N' 4 (9 * q + 1))
          rw [f4 1 (by decide)]
          exact z4
end
