/-! The ledger: rows come; nodes fail and come back. -/
section
variable {κ : Ko} {G : Gh} {hc : Nat → Nat → Bool} {mo : Nat → Nat → Nat} {τ ν lam b1 b2 k1 k2 n i f : Nat} {M : List (Nat → Int32)} {Q R Pd : List Rq} {Z : Nat → List Fz} {E E' : Nat → Option (Nat → Int32)} {N N' : Nat → Nat → Int32} {y : Fz} {z : Rq} {m : Nat → Int32}
theorem w_fet {κ : Ko} : w348 κ = κ.2.2.1 + (κ.2.2.1 + w155 κ + w155 κ) := by unfold w348; omega
theorem Led.clFet : ClFet (Led τ ν lam b1 b2) := by
  intro M1 m M2 Q Z E N k1 k2 n p v l fo a h m0 m2 n1 n2 hp hv m4 m5 hl hfo m21
  obtain ⟨hpp, G, ⟨a1, a2, a3, a4, a5, a6, a7, a8, c1, c2⟩, p1', p2'⟩ := h
  obtain ⟨z, hz⟩ : ∃ z : Rq, z = (a, 128 * n + (4 * p + v), none, qM m l fo, none) := ⟨_, rfl⟩
  rw [← hz]
  have z1 : z.2.1 = 128 * n + (4 * p + v) := by rw [hz]
  have zn : z.2.2.1 = none := by rw [hz]
  have zl : z.2.1 < 1024 := by omega
  have nz : ¬ m 2 = 0 := fun q => by
    rw [m2] at q
    have := ofNat_in (show n < 2147483648 by omega) (show 0 < 2147483648 by decide) q
    omega
  have hsub : ∀ x ∈ M1 ++ M2, x ∈ M1 ++ m :: M2 := fun x hx => by
    rcases List.mem_append.mp hx with w | w
    · exact List.mem_append_left _ w
    · exact List.mem_append_right _ (List.mem_cons_of_mem _ w)
  obtain ⟨n', f1, f2, f3, f4, f5⟩ := (a3 m (by simp)).1 m0
  have f2' : 3 ≤ n' ∧ n' ≤ 6 := by
    rcases f2 with w | w
    · exact absurd w.2.2 nz
    · exact ⟨w.1, w.2.1⟩
  have key : ∀ κ, Pot κ G.2.2.1 G.2.1 (M1 ++ M2) Q [lk1 z] Z N + κ.2.2.1 = Pot κ G.2.2.1 G.2.1 (M1 ++ m :: M2) Q [] Z N := fun κ => by
    unfold Pot
    rw [rw_lk zl, sM_rem (m := m)]
    have w1 : wM κ m = w348 κ := by unfold wM; rw [if_pos m0, if_neg nz]
    have w2 : wFu κ z = κ.2.2.1 + w155 κ := by unfold wFu wBs wMk; rw [zn]
    have w3 : wMk κ z = w155 κ := by unfold wMk; rw [zn]
    have w4 : z.2.2.2.1 12 = 0 := by rw [hz]; rfl
    have w5 : purse κ Z N z.2.1 = 0 := cif_neg (fun q => by have := q.1; omega)
    have w6 : rw0 κ Z N [] = 0 := rfl
    have w7 : sFu κ [] = 0 := rfl
    have w8 := w_fet (κ := κ)
    rw [if_pos w4, w1, w2, w3, w5, w6, w7]
    omega
  have ks := key κs
  have kc := key κc
  have es : κs.2.2.1 = 19 := rfl
  have ec : κc.2.2.1 = 1 := rfl
  have t1 := tCnt_rem (M1 := M1) (M2 := M2) (m := m)
  rw [if_pos (Or.inl ⟨m0, nz⟩)] at t1
  have cc := cnt_cons (A := Q) (B := []) (x := lk1 z)
  have g1 : gvC (lk1 z) = 1 := by show gvC z = 1; unfold gvC; rw [zn]
  have g2 : (if (lk1 z).2.2.1.isSome then 1 else 0) = 0 := by rw [show (lk1 z).2.2.1 = none from zn]; rfl
  rw [g1, g2] at cc
  have o1 : opn Z [lk1 z] = 0 := by
    refine cif_neg (fun q => ?_)
    have := q.1
    have e : pl (lk1 z) = z.2.1 := by show (z.2.1 + 1024) % 1024 = _; omega
    rw [e] at this
    omega
  have o2 : opn Z ([] : List Rq) = 0 := rfl
  refine ⟨hpp, G, ⟨a1.le (by omega) (fun _ => pCnt_rem), a2, a3.le NLe.refl hsub (fun _ _ h => h), fun x hx => ?_, a5, ⟨by show z.2.1 + 1024 < 2048; omega, fun x hx => by cases hx⟩, a7, a8, by omega, by omega⟩, by omega, by omega⟩
  rcases List.mem_append.mp hx with w | w
  · exact a4 x (List.mem_append_left _ w)
  · rw [List.mem_singleton.mp w]
    refine LR.mk1 ?_
    have pz : pl z = 128 * n + (4 * p + v) := by unfold pl; omega
    refine ⟨⟨by omega, ?_, ?_⟩, ?_⟩
    · rw [pz, show (128 * n + (4 * p + v)) / 4 % 32 = p by omega, hz]
      exact m4
    · rw [hz]
      exact f4.1
    · rw [hz] at pz ⊢
      refine ⟨by rw [pz]; omega, n', f2'.1, f2'.2, f1, f3, fun y hy y7 => ?_⟩
      obtain ⟨x0, x1, x5, x6, x9, x10, la, fo', l1, l2, x2, x3, x21⟩ := f5 y hy y7
      have eq := ofNat_in (show la + 4 * fo' < 2147483648 by omega) (show l + 4 * fo < 2147483648 by omega) (x21.symm.trans m21)
      have e1 : la = l := by omega
      have e2 : fo' = fo := by omega
      subst e1 e2
      exact ⟨x0, x1, x5, x6, x9, x2, x3, x10⟩
theorem Led.row_in {r p v a : Nat} {g k : Nat → Int32} (h : Led τ ν lam b1 b2 M Q [] Z E N k1 k2) (hl : lam + 1 ≤ 300) (hb : b2 + 23534 ≤ 100000000) (n1 : 3 ≤ n) (n2 : n ≤ 6) (hp : p < 32) (hv : v < 4) (hg : isAq g p v) (hk : isGk g k) : Led τ ν (lam + 1) (b1 + 1476) (b2 + 23534) M Q [lk1 (a, 128 * n + (4 * p + v), some r, g, some k)] Z E N k1 k2 := by
  obtain ⟨hpp, G, ⟨a1, a2, a3, a4, a5, a6, a7, a8, c1, c2⟩, p1', p2'⟩ := h
  obtain ⟨z, hz⟩ : ∃ z : Rq, z = (a, 128 * n + (4 * p + v), some r, g, some k) := ⟨_, rfl⟩
  rw [← hz]
  have z1 : z.2.1 = 128 * n + (4 * p + v) := by rw [hz]
  have zn : z.2.2.1 = some r := by rw [hz]
  have zl : z.2.1 < 1024 := by omega
  have key : ∀ κ, Pot κ G.2.2.1 G.2.1 M Q [lk1 z] Z N ≤ Pot κ G.2.2.1 G.2.1 M Q [] Z N + (w757 κ + w757 κ + w367 κ * 60) := fun κ => by
    unfold Pot
    rw [rw_lk zl]
    have w2 : wFu κ z = w757 κ := by unfold wFu wBs wMk; rw [zn]; show 0 + w757 κ = _; omega
    have w3 : wMk κ z = w757 κ := by unfold wMk; rw [zn]
    have w5 : purse κ Z N z.2.1 ≤ w367 κ * 60 := by
      unfold purse
      by_cases q : 3 ≤ z.2.1 / 128 ∧ ∀ y ∈ Z (z.2.1 / 128), ¬ y.2.1 = z.2.1
      · rw [cif_pos q]
        exact Nat.mul_le_mul_left _ (Nat.sub_le _ _)
      · rw [cif_neg q]
        exact Nat.zero_le _
    have w6 : rw0 κ Z N [] = 0 := rfl
    have w7 : sFu κ [] = 0 := rfl
    have w8 : (if z.2.2.2.1 12 = 0 then wMk κ z else 0) ≤ w757 κ := by
      split
      · rw [w3]; exact Nat.le_refl _
      · exact Nat.zero_le _
    rw [w2, w6, w7]
    omega
  have ks := key κs
  have kc := key κc
  have es : w757 κs + w757 κs + w367 κs * 60 = 23534 := rfl
  have ec : w757 κc + w757 κc + w367 κc * 60 = 1476 := rfl
  rw [es] at ks
  rw [ec] at kc
  have cc := cnt_cons (A := Q) (B := []) (x := lk1 z)
  have g1 : gvC (lk1 z) = 0 := by show gvC z = 0; unfold gvC; rw [zn]
  have g2 : (if (lk1 z).2.2.1.isSome then 1 else 0) = 1 := by rw [show (lk1 z).2.2.1 = some r from zn]; rfl
  rw [g1, g2] at cc
  have o1 : opn Z [lk1 z] ≤ 1 := by
    show cif (3 ≤ pl (lk1 z) / 128 ∧ ∀ y ∈ Z (pl (lk1 z) / 128), ¬ y.2.1 = pl (lk1 z)) 1 0 ≤ 1
    by_cases q : 3 ≤ pl (lk1 z) / 128 ∧ ∀ y ∈ Z (pl (lk1 z) / 128), ¬ y.2.1 = pl (lk1 z)
    · rw [cif_pos q]; exact Nat.le_refl _
    · rw [cif_neg q]; exact Nat.zero_le _
  refine ⟨⟨hpp.1, hpp.2.1, hl, hb⟩, G, ⟨a1, a2, a3, fun x hx => ?_, a5, ⟨by show z.2.1 + 1024 < 2048; omega, fun x hx => by cases hx⟩, a7, a8, by omega, by omega⟩, by omega, by omega⟩
  rcases List.mem_append.mp hx with w | w
  · exact a4 x (List.mem_append_left _ w)
  · rw [List.mem_singleton.mp w]
    refine LR.mk1 ?_
    have pz : pl z = 128 * n + (4 * p + v) := by unfold pl; omega
    obtain ⟨g0, g1', g11, _⟩ := hg
    refine ⟨⟨by omega, ?_, ?_⟩, ?_⟩
    · rw [pz, show (128 * n + (4 * p + v)) / 4 % 32 = p by omega, hz]
      exact g0
    · rw [hz]
      exact ⟨0, Nat.zero_le _, g11⟩
    · rw [hz] at pz ⊢
      exact ⟨by rw [pz]; omega, g11, hk⟩
theorem ar4 {k b : Nat} : k + 4 + b ≤ k + (b + 4) := by omega
theorem ar49 {k b : Nat} : k + 49 + b ≤ k + (b + 49) := by omega
theorem Led.clLook (hl : lam + 1 ≤ 300) (hb : b2 + 49 + 23534 ≤ 100000000) : ClLook (Led τ ν lam b1 b2) (Led τ ν (lam + 1) (b1 + 4 + 1476) (b2 + 49 + 23534)) := by
  intro M Q Z E N k1 k2 h r hr hN3
  refine ⟨?_, fun a n p v g k n1 n2 hp hv hg hk => Led.row_in (Led.ask h (Nat.le_trans (Nat.le_add_right _ _) hb) (Nat.le_add_right _ _) ar4 ar49) hl hb n1 n2 hp hv hg hk⟩
  obtain ⟨_, G, ⟨_, _, _, _, _, _, _, _, c1, c2⟩, _⟩ := h
  rw [List.append_nil] at c1 c2
  have := cnt_both Q
  omega
theorem LZs.len (h : LZs G Z E N) (n1 : 1 ≤ n) (n2 : n < 7) : (Z n).length ≤ 128 := by
  obtain ⟨h1, h2⟩ := h n n1 n2
  have := nodup_len 128 (128 * n) ((Z n).map (fun z => z.2.1)) (List.pairwise_map.mpr (h2.imp (fun {a b} q => q.1))) (fun x hx => by
    obtain ⟨y, hy, e⟩ := List.mem_map.mp hx
    have := (h1 y hy).1.1
    omega)
  rw [List.length_map] at this
  exact this
theorem sum_up {α : Type} {g g' : α → Nat} {c : Nat} : ∀ (L : List α), (∀ x ∈ L, g' x ≤ g x + c) → (L.map g').sum ≤ (L.map g).sum + L.length * c := by
  intro L
  induction L with
  | nil => intro _; exact Nat.zero_le _
  | cons a L ih =>
    intro h
    have h1 := ih (fun x hx => h x (List.mem_cons_of_mem _ hx))
    have h2 := h a List.mem_cons_self
    show g' a + (L.map g').sum ≤ g a + (L.map g).sum + (L.length + 1) * c
    rw [Nat.add_mul, Nat.one_mul]
    omega
/-- a node learns of purges -/
theorem sZ_seen (h : LZs G Z E N) (n1 : 1 ≤ n) (n2 : n < 7) (hs : ∀ k, ¬ k = n → seenN N' k = seenN N k) : sZ κ hc N' Z ≤ sZ κ hc N Z + (if n ≤ 2 then 128 * w66 κ else 0) := by
  have o : ∀ k, ¬ k = n → sZn κ hc N' Z k = sZn κ hc N Z k := fun k hk => by
    unfold sZn
    have : wZ κ hc N' k = wZ κ hc N k := by
      funext y
      unfold wZ
      rw [hs k hk]
    rw [this]
  have s : sZn κ hc N' Z n ≤ sZn κ hc N Z n + (if n ≤ 2 then 128 * w66 κ else 0) := by
    unfold sZn
    by_cases w : n ≤ 2
    · rw [if_pos w]
      have q := sum_up (g := wZ κ hc N n) (g' := wZ κ hc N' n) (c := w66 κ) (Z n) (fun y _ => by
        unfold wZ
        rw [if_neg (show ¬ 3 ≤ n by omega), if_neg (show ¬ 3 ≤ n by omega)]
        have : (if lst y < seenN N' n then w66 κ else 0) ≤ w66 κ := by
          split
          · exact Nat.le_refl _
          · exact Nat.zero_le _
        omega)
      have l := Nat.mul_le_mul_right (w66 κ) (h.len n1 n2)
      omega
    · rw [if_neg w]
      have : wZ κ hc N' n = wZ κ hc N n := by
        funext y
        unfold wZ
        rw [if_pos (show 3 ≤ n by omega), if_pos (show 3 ≤ n by omega)]
      rw [this]
      exact Nat.le_refl _
  unfold sZ
  have : n = 1 ∨ n = 2 ∨ n = 3 ∨ n = 4 ∨ n = 5 ∨ n = 6 := by omega
  rcases this with q | q | q | q | q | q
  · subst q; rw [o 2 (by decide), o 3 (by decide), o 4 (by decide), o 5 (by decide), o 6 (by decide)]; omega
  · subst q; rw [o 1 (by decide), o 3 (by decide), o 4 (by decide), o 5 (by decide), o 6 (by decide)]; omega
  · subst q; rw [o 1 (by decide), o 2 (by decide), o 4 (by decide), o 5 (by decide), o 6 (by decide)]; omega
  · subst q; rw [o 1 (by decide), o 2 (by decide), o 3 (by decide), o 5 (by decide), o 6 (by decide)]; omega
  · subst q; rw [o 1 (by decide), o 2 (by decide), o 3 (by decide), o 4 (by decide), o 6 (by decide)]; omega
  · subst q; rw [o 1 (by decide), o 2 (by decide), o 3 (by decide), o 4 (by decide), o 5 (by decide)]; omega
theorem Led.clBk (hb : b2 + 8448 ≤ 100000000) : ClBk (Led τ ν lam b1 b2) (Led τ ν lam (b1 + 512) (b2 + 8448)) := by
  intro M Q Z E N k1 k2 n h n1 n2
  obtain ⟨hpp, G, ⟨⟨x1, x2, x3, x4⟩, a2, a3, a4, a5, a6, a7, a8, a9⟩, p1', p2'⟩ := h
  obtain ⟨N', hN'⟩ : ∃ x, x = fun j k => if j = 0 ∧ k = n then N 2 0 else N j k := ⟨_, rfl⟩
  rw [← hN']
  have e : ∀ j k, ¬ j = 0 → N' j k = N j k := fun j k w => by rw [hN']; exact if_neg (fun q => w q.1)
  have e0 : ∀ k, ¬ k = n → N' 0 k = N 0 k := fun k w => by rw [hN']; exact if_neg (fun q => w q.2)
  have en : N' 0 n = N 2 0 := by rw [hN']; exact if_pos ⟨rfl, rfl⟩
  have hN : NLe N N' := ⟨fun k _ _ => by rw [e 1 k (by decide)]; exact Nat.le_refl _, by rw [e 7 0 (by decide)]; exact Nat.le_refl _, by rw [e 2 0 (by decide)]; exact Nat.le_refl _, fun p _ => by rw [e 5 p (by decide)]; exact Nat.le_refl _⟩
  have so : ∀ k, ¬ k = n → seenN N' k = seenN N k := fun k w => by unfold seenN; rw [e0 k w]
  obtain ⟨_, l2⟩ := x2.cN (by decide)
  have sn : seenN N' n = cN (N 2 0) := by unfold seenN; rw [en]; rfl
  have hs : ∀ k, 1 ≤ k → k < 7 → (∃ y, y ∈ Z k) → seenN N k ≤ seenN N' k := fun k k1' k2' _ => by
    by_cases w : k = n
    · rw [w, sn]
      exact ((x3 n n1 n2).1.cN (by omega)).2
    · rw [so k w]
      exact Nat.le_refl _
  have key : ∀ κ, Pot κ G.2.2.1 G.2.1 M Q [] Z N' ≤ Pot κ G.2.2.1 G.2.1 M Q [] Z N + 128 * w66 κ := fun κ => by
    unfold Pot
    have q := sZ_seen (κ := κ) (hc := G.2.1) (N' := N') a2 n1 n2 so
    have q2 : (if n ≤ 2 then 128 * w66 κ else 0) ≤ 128 * w66 κ := by
      split
      · exact Nat.le_refl _
      · exact Nat.zero_le _
    have w6 : rw0 κ Z N [] = 0 := rfl
    have w7 : rw0 κ Z N' [] = 0 := rfl
    omega
  have ks := key κs
  have kc := key κc
  have es : 128 * w66 κs = 8448 := rfl
  have ec : 128 * w66 κc = 512 := rfl
  rw [es] at ks
  rw [ec] at kc
  refine ⟨⟨hpp.1, hpp.2.1, hpp.2.2.1, hb⟩, G, ⟨⟨by rw [e 7 0 (by decide)]; exact x1, by rw [e 2 0 (by decide)]; exact x2, fun k k1' k2' => ?_, fun p hp => by rw [e 5 p (by decide)]; exact x4 p hp⟩, a2.le hN hs vShr.refl (fun _ => List.Sublist.refl _), a3.le hN (fun _ h => h) (fun _ _ h => h), fun z hz => (a4 z hz).le hN (fun _ _ h => h), a5, a6, a7.le hN vShr.refl, a8.le hN (fun k => e 4 k (by decide)), a9⟩, by omega, by omega⟩
  obtain ⟨y1, y2, y3, y4⟩ := x3 k k1' k2'
  rw [e 2 0 (by decide), e 1 k (by decide), e 6 k (by decide)]
  refine ⟨?_, y2, y3, y4⟩
  by_cases w : k = n
  · rw [w, en]
    obtain ⟨q1, q2⟩ := x2.cN (by decide)
    exact ⟨cN (N 2 0), Nat.le_refl _, q1⟩
  · rw [e0 k w]
    exact y1
end
