/-! The taking in: the new entry is placed. -/
section
variable {T T2 : tT} {S S2 : mS} {X Y : Nat → List (Nat × Nat)} {Z : Nat → List Fz} {Q : List Rq} {c F n f : Nat} {rs : List Nat}
theorem in_place (hF : 4001 ≤ F) {pp v wh a t : Nat} {bl kp : Int32} (hp : pp < 32) (hv : v < 4) (hw : wh < 8) (h1 : 1 ≤ n) (h2 : n < 7) (hf : f = 128 * n + (4 * pp + v)) (hc : c + 200 < 2147483648) (a5 : 512 ≤ a) (h : RBx T2 (up2 S2 601 (8 * f + wh) 0) X Y Z Q rs c f) (hcell : T2.1 a = some (cEntry (Int32.ofNat pp) (Int32.ofNat v) t (Int32.ofNat wh) (came S2 8) (came S2 10 + S2.1 36) (S2.1 36) bl kp)) (hk : flag kp) (ht : T2.1 t = some (cTold (Int32.ofNat pp) (fun i => came S2 (12 + i)))) (hok : okT (fun i => came S2 (12 + i))) (hfr : ∀ m, 1 ≤ m → m < 7 → ∀ r ∈ X m ++ Y m, ¬ r.1 = a) (hne : ∀ r ∈ X n ++ Y n, ¬ r.2 = 8 * f + wh) (hvy : ∀ k, 8 * f ≤ k → k < 8 * f + 8 → ¬ rd S2 601 k = 0 → eT S2 k 8 = came S2 20) :
    ∃ T' S' A B, D_c_Store_place F (528 + 8 * n) (some a) T2 = some T' ∧ D_m_takeIn_176 F F (Int32.ofNat n) (Int32.ofNat f) (Int32.ofNat (8 * f + wh)) bl 0 (up2 (up2 S2 602 (8 * f + wh) kp) 601 (8 * f + wh) 1) = D_m_takeIn_270 F (Int32.ofNat n) (Int32.ofNat f) (Int32.ofNat (8 * f + wh)) bl S' ∧ RBx T' S' (upL X n A) (upL Y n B) Z Q rs (c + 2) f ∧ vM S' = vM (up2 S2 601 (8 * f + wh) 0) ∧ vS S' = vS (up2 S2 601 (8 * f + wh) 0) ∧ Kq [539, 547, 555, 563, 571, 579] [0, 1, 4, 6, 7, 8, 9, 10, 13, 20] T2 T' ∧ Cs T2 T' 0 0 ∧ (∃ kp', T'.1 a = some (cEntry (Int32.ofNat pp) (Int32.ofNat v) t (Int32.ofNat wh) (came S2 8) (came S2 10 + S2.1 36) (S2.1 36) bl kp')) ∧ (∀ b k, ¬ (601 ≤ b ∧ b ≤ 608) → rd S' b k = rd S2 b k) ∧ (∀ i, ¬ i = 58 → S'.1 i = S2.1 i) ∧ (∀ k, k < 7168 → ¬ k = 8 * f + wh → ¬ rd S' 601 k = 0 → ¬ rd S2 601 k = 0) ∧ (∀ b k, 604 ≤ b → b ≤ 607 → ¬ k = 8 * f + wh → rd S' b k = rd S2 b k) ∧ (∀ k i, ¬ k = 8 * f + wh → i < 9 → rd S' 603 (9 * k + i) = rd S2 603 (9 * k + i)) ∧ (∀ i, i < 9 → rd S' 603 (9 * (8 * f + wh) + i) = came S2 (12 + i)) ∧ rd S' 604 (8 * f + wh) = came S2 8 ∧ rd S' 605 (8 * f + wh) = came S2 10 + S2.1 36 ∧ rd S' 606 (8 * f + wh) = S2.1 36 ∧ rd S' 607 (8 * f + wh) = bl := by
  obtain ⟨hR, hl, h5⟩ := h.1.2.2.2.2.2.1.1 n h1 h2
  obtain ⟨hs1, hs2, hs3, U, hU, hU2⟩ := h.1.2.2.2.2.2.1
  obtain ⟨e, he⟩ : ∃ e, e = 8 * f + wh := ⟨_, rfl⟩
  rw [← he] at h hR hne hU hs3 ⊢
  have e7 : e < 7168 := by omega
  have sY : (Y n).length ≤ sumY Y := by
    have : n = 1 ∨ n = 2 ∨ n = 3 ∨ n = 4 ∨ n = 5 ∨ n = 6 := by omega
    unfold sumY
    rcases this with z | z | z | z | z | z <;> subst z <;> omega
  have i58 : (up2 (up2 S2 602 e kp) 601 e 1).1 58 = Int32.ofNat U := by rw [up2_1, up2_1]; have := hU.1; rw [up2_1] at this; exact this
  obtain ⟨S3, m1, m2, m3⟩ := m_in176 (F := F) (x1 := Int32.ofNat n) (x2 := Int32.ofNat f) (bl := bl) e7 9 0 (up2 (up2 S2 602 e kp) 601 e 1) rfl i58 F (by omega)
  have caU : ∀ i, came (up2 (up2 S2 602 e kp) 601 e 1) i = came S2 i := fun i => by unfold came; rw [rd_up2, if_neg (by omega), rd_up2, if_neg (by omega)]
  have inU : ∀ i, (up2 (up2 S2 602 e kp) 601 e 1).1 i = S2.1 i := fun i => by rw [up2_1, up2_1]
  simp only [caU, inU] at m2 m3
  have rdU : ∀ b k, rd (up2 (up2 S2 602 e kp) 601 e 1) b k = if b = 601 ∧ k = e then 1 else if b = 602 ∧ k = e then kp else rd S2 b k := fun b k => by rw [rd_up2, rd_up2]
  -- the places of the new entry
  have s03 : ∀ i, i < 9 → rd S3 603 (9 * e + i) = came S2 (12 + i) := fun i hi => by rw [m3, if_pos ⟨rfl, by omega, by omega⟩, show 9 * e + i - 9 * e = i by omega]
  have s04 : rd S3 604 e = came S2 8 := by rw [m3, if_neg (by omega), if_pos ⟨rfl, rfl⟩]
  have s05 : rd S3 605 e = came S2 10 + S2.1 36 := by rw [m3, if_neg (by omega), if_neg (by omega), if_pos ⟨rfl, rfl⟩]
  have s06 : rd S3 606 e = S2.1 36 := by rw [m3, if_neg (by omega), if_neg (by omega), if_neg (by omega), if_pos ⟨rfl, rfl⟩]
  have s07 : rd S3 607 e = bl := by rw [m3, if_neg (by omega), if_neg (by omega), if_neg (by omega), if_neg (by omega), if_pos ⟨rfl, rfl⟩]
  have s08 : rd S3 608 e = Int32.ofNat (U + 1) := by rw [m3, if_neg (by omega), if_neg (by omega), if_neg (by omega), if_neg (by omega), if_neg (by omega), if_pos ⟨rfl, rfl⟩]
  have s01 : rd S3 601 e = 1 := by rw [m3, if_neg (by omega), if_neg (by omega), if_neg (by omega), if_neg (by omega), if_neg (by omega), if_neg (by omega), rdU, if_pos ⟨rfl, rfl⟩]
  have s02 : rd S3 602 e = kp := by rw [m3, if_neg (by omega), if_neg (by omega), if_neg (by omega), if_neg (by omega), if_neg (by omega), if_neg (by omega), rdU, if_neg (by omega), if_pos ⟨rfl, rfl⟩]
  have soth : ∀ b k, ¬ ((601 ≤ b ∧ b ≤ 608) ∧ ¬ b = 603 ∧ k = e) → ¬ (b = 603 ∧ 9 * e ≤ k ∧ k < 9 * e + 9) → rd S3 b k = rd (up2 S2 601 e 0) b k := fun b k w1 w2 => by
    rw [m3, if_neg (by omega), if_neg (by omega), if_neg (by omega), if_neg (by omega), if_neg (by omega), if_neg (by omega), rdU, if_neg (by omega), if_neg (by omega), rd_up2, if_neg (by omega)]
  have i3 : ∀ i, S3.1 i = if i = 58 then Int32.ofNat (U + 1) else S2.1 i := m2
  have ent : isEnt T2 S3 n (a, e) kp := by
    refine ⟨pp, v, wh, t, hp, hv, hw, by show e = _; rw [he, hf], ?_, ?_, okT9 (d' := eT S3 e) s03 hok, by show ¬ rd S3 601 e = 0; rw [s01]; decide, s02⟩
    · show T2.1 a = _
      rw [show rd S3 604 (a, e).2 = came S2 8 from s04, show rd S3 605 (a, e).2 = _ from s05, show rd S3 606 (a, e).2 = _ from s06, show rd S3 607 (a, e).2 = _ from s07]
      exact hcell
    · exact ht.trans (congrArg some (cTold9 (p := Int32.ofNat pp) (d' := eT S3 e) s03).symm)
  obtain ⟨_, hst, ⟨cX, lX⟩, ⟨cY, lY⟩, _⟩ := id hR
  obtain ⟨q1', q2', q3', _⟩ := hR.stC
  have step : ∃ T3 X' Y' cX' cY', D_c_Store_place F (528 + 8 * n) (some a) T2 = (D_c_Store_balance F (528 + 8 * n) T3).bind (fun T49 => some T49) ∧ ((kp = 0 ∧ X' = X n ++ [(a, e)] ∧ Y' = Y n) ∨ (kp = 1 ∧ X' = X n ∧ Y' = Y n ++ [(a, e)])) ∧ (∀ b x, T2.1 b = some x → ¬ b = 529 + 8 * n → ¬ b = 530 + 8 * n → T3.1 b = some x) ∧ T3.1 (529 + 8 * n) = some (.inr (.inr (cX', X'.map Prod.fst))) ∧ T3.1 (530 + 8 * n) = some (.inr (.inr (cY', Y'.map Prod.fst))) := by
    rcases hk with k0 | k0
    · obtain ⟨T3, ta, hT31⟩ : ∃ T3, tla T2 (529 + 8 * n) a = some T3 ∧ ∀ b, T3.1 b = if b = 529 + 8 * n then some (.inr (.inr (l_cap cX ((X n).map Prod.fst).length, (X n).map Prod.fst ++ [a]))) else T2.1 b := ⟨_, tla_e (q := (a, e)) lX hcell (by rw [List.length_map]; omega), fun b => rfl⟩
      refine ⟨T3, X n ++ [(a, e)], Y n, l_cap cX ((X n).map Prod.fst).length, cY, ?_, Or.inl ⟨k0, rfl, rfl⟩, fun b x hb w1 _ => by rw [hT31, if_neg w1]; exact hb, ?_, by rw [hT31, if_neg (by omega)]; exact lY⟩
      · unfold D_c_Store_place
        simp only [Option.bind_some, Eg8 hcell, k0, show m_c1 .eq (0 : Int32) = true from rfl, cond_true, q2']
        rw [ta, Option.bind_some]
        unfold D_c_Store_place_28
        rw [tcl_o (show T3.1 (528 + 8 * n) = some _ by rw [hT31, if_neg (by omega)]; exact hst), Option.bind_some]
      · rw [List.map_append, hT31, if_pos rfl]
        rfl
    · obtain ⟨T3, ta, hT31⟩ : ∃ T3, tla T2 (530 + 8 * n) a = some T3 ∧ ∀ b, T3.1 b = if b = 530 + 8 * n then some (.inr (.inr (l_cap cY ((Y n).map Prod.fst).length, (Y n).map Prod.fst ++ [a]))) else T2.1 b := ⟨_, tla_e (q := (a, e)) lY hcell (by rw [List.length_map]; omega), fun b => rfl⟩
      refine ⟨T3, X n, Y n ++ [(a, e)], cX, l_cap cY ((Y n).map Prod.fst).length, ?_, Or.inr ⟨k0, rfl, rfl⟩, fun b x hb _ w1 => by rw [hT31, if_neg w1]; exact hb, by rw [hT31, if_neg (by omega)]; exact lX, ?_⟩
      · unfold D_c_Store_place
        simp only [Option.bind_some, Eg8 hcell, k0, show m_c1 .eq (1 : Int32) = false from rfl, cond_false, q3']
        rw [ta, Option.bind_some]
        unfold D_c_Store_place_28
        rw [tcl_o (show T3.1 (528 + 8 * n) = some _ by rw [hT31, if_neg (by omega)]; exact hst), Option.bind_some]
      · rw [List.map_append, hT31, if_pos rfl]
        rfl
  obtain ⟨T3, X', Y', cX', cY', p1', p2', p3', p4', p5'⟩ := step
  have memX : ∀ r, r ∈ X' ∨ r ∈ Y' → (r ∈ X n ∨ r ∈ Y n) ∨ r = (a, e) := by
    intro r hr
    rcases p2' with ⟨_, rfl, rfl⟩ | ⟨_, rfl, rfl⟩
    · rcases hr with w | w
      · rcases List.mem_append.mp w with z | z
        · exact Or.inl (Or.inl z)
        · exact Or.inr (List.mem_singleton.mp z)
      · exact Or.inl (Or.inr w)
    · rcases hr with w | w
      · exact Or.inl (Or.inl w)
      · rcases List.mem_append.mp w with z | z
        · exact Or.inl (Or.inr z)
        · exact Or.inr (List.mem_singleton.mp z)
  have lens : X'.length + Y'.length = (X n).length + (Y n).length + 1 ∧ Y'.length ≤ (Y n).length + 1 := by
    rcases p2' with ⟨_, rfl, rfl⟩ | ⟨_, rfl, rfl⟩
    · rw [List.length_append, List.length_singleton]; omega
    · rw [List.length_append, List.length_singleton]; omega
  obtain ⟨r1', r2'⟩ := hR.place (q := (a, e)) (S' := S3) (T' := T3) hU (by omega) (fun r hr => ⟨hne r hr, hfr n h1 h2 r hr⟩) ent p2' p3' p4' p5' soth s08 (by rw [i3, if_pos rfl])
  obtain ⟨T', S', A, B, U', b1, b2, ⟨c1, c2, c3, c4, c5, c6, c7⟩, c8⟩ := balance (F := F) (by omega) (by omega) r1' r2' (by omega)
  have pl : D_c_Store_place F (528 + 8 * n) (some a) T2 = some T' := by rw [p1', b1]; rfl
  have cs : Cs T2 T' 0 0 := K_c_Store_place (F := F) _ pl
  have yc : ∀ b ∈ Y'.map Prod.fst, (∃ fs, T2.1 b = some (.inl (11, fs))) ∧ ((∃ r ∈ X n ++ Y n, r.1 = b) ∨ b = a) := by
    intro b hb
    obtain ⟨r, hr, rfl⟩ := List.mem_map.mp hb
    rcases memX r (Or.inr hr) with w | w
    · have wm := List.mem_append.mpr w
      obtain ⟨k, hk9⟩ := hR.ent wm
      exact ⟨hk9.cell, Or.inl ⟨r, wm, rfl⟩⟩
    · rw [w]
      exact ⟨⟨_, hcell⟩, Or.inr rfl⟩
  have there : ∀ k, k < 7168 → ¬ rd S' 601 k = 0 → ¬ rd S3 601 k = 0 := by
    intro k hk9 hk0
    by_cases w : 1024 * n ≤ k ∧ k < 1024 * n + 1024
    · obtain ⟨r, hr, hr2⟩ := c1.2.2.2.2.2.2.2.2.1 k w.1 w.2 hk0
      obtain ⟨k9, he9⟩ := r1'.ent (List.mem_append.mpr (c6 r hr))
      rw [← hr2]
      exact he9.there.1
    · rw [c5.2.2 601 k w] at hk0
      exact hk0
  have eT3 : ∀ k, eT S' k = eT S3 k := fun k => by funext i; exact c5.2.1 603 _ (by decide)
  have vary : ∀ k, k < 7168 → k / 8 = f → ¬ rd S3 601 k = 0 → eT S3 k 8 = came S2 20 := by
    intro k hk7 hkf hk0
    by_cases w : k = e
    · rw [w]; exact s03 8 (by decide)
    · rw [soth 601 k (by omega) (by omega), rd_up2, if_neg (by omega)] at hk0
      have := hvy k (by omega) (by omega) hk0
      show rd S3 603 (9 * k + 8) = _
      rw [soth 603 _ (by omega) (by omega), rd_up2, if_neg (by omega)]
      exact this
  have hV : RV S' := by
    intro k k' hk hk' t1 t2 e3
    rw [eT3, eT3]
    have u1 := there k hk t1
    have u2 := there k' hk' t2
    by_cases w : k / 8 = f
    · rw [vary k hk w u1, vary k' hk' (by omega) u2]
    · have n1 : ¬ k = e := fun z => w (by omega)
      have n2 : ¬ k' = e := fun z => w (by omega)
      rw [soth 601 k (by omega) (by omega)] at u1
      rw [soth 601 k' (by omega) (by omega)] at u2
      have := hs3 k k' hk hk' u1 u2 e3
      show rd S3 603 (9 * k + 8) = rd S3 603 (9 * k' + 8)
      rw [soth 603 _ (by omega) (by omega), soth 603 _ (by omega) (by omega)]
      exact this
  have fin := h.placed (q := (a, e)) (A := A) (B := B) (d := 2) (T' := T') (S' := S') h1 h2 (cs h.1.1).1 c1 (by omega) (fun U0 hU0 hc0 => ⟨U', c2, by
      have := hU0.1.symm.trans hU.1
      have := congrArg Int32.toNatClampNeg this
      rw [m_n_cl (by omega), m_n_cl (by omega)] at this
      omega⟩) (fun b x hb hk1 w1 w2 => c4.1 b x (p3' b x hb w1 w2) w1 w2 (fun z => by
        obtain ⟨⟨fs, hc9⟩, _⟩ := yc b z
        rw [hc9] at hb
        cases hb
        exact hk1 rfl)) (fun b x hb w0 w9 w1 w2 => c4.1 b x (p3' b x hb w1 w2) w1 w2 (fun z => by
        rcases (yc b z).2 with ⟨r, hr, e9⟩ | e9
        · exact w0 r hr e9
        · exact w9 e9)) (fun i hi => by rw [c5.1 i hi, i3, if_neg hi, up2_1]) (fun b k w => by rw [c5.2.1 b k (by omega), soth b k (by omega) (by omega)]) (fun b k w1 w2 => by rw [c5.2.2 b k w2, soth b k (by omega) (by omega)]) (fun k w => by rw [c5.2.1 603 k (by decide), soth 603 k (by omega) (fun z => w z.2)]) (fun r hr => memX r (c6 r hr)) hfr a5 (show 1024 * n ≤ e ∧ e < 1024 * n + 1024 by omega) hV
  have a3 : T3.1 a = some (cEntry (Int32.ofNat pp) (Int32.ofNat v) t (Int32.ofNat wh) (came S2 8) (came S2 10 + S2.1 36) (S2.1 36) bl kp) := p3' a _ hcell (kd_ne hcell lX (show ¬ (11 : Nat) = 21 by decide)) (kd_ne hcell lY (show ¬ (11 : Nat) = 21 by decide))
  have acell : ∃ kp', T'.1 a = some (cEntry (Int32.ofNat pp) (Int32.ofNat v) t (Int32.ofNat wh) (came S2 8) (came S2 10 + S2.1 36) (S2.1 36) bl kp') := by
    by_cases w : a ∈ Y'.map Prod.fst
    · exact c4.2.1 a w _ _ _ _ _ _ _ _ _ a3
    · exact ⟨kp, c4.1 a _ a3 (kd_ne hcell lX (show ¬ (11 : Nat) = 21 by decide)) (kd_ne hcell lY (show ¬ (11 : Nat) = 21 by decide)) w⟩
  refine ⟨T', S', A, B, pl, ?_, fin.1, fin.2.1, fin.2.2.1, fin.2.2.2, cs, acell, fun b k w => ?_, fun i hi => by rw [c5.1 i hi, i3, if_neg hi], fun k hk7 hke hk0 => ?_, fun b k w1 w2 w3 => ?_, fun k i w3 hi => ?_, fun i hi => (c5.2.1 603 _ (by decide)).trans (s03 i hi), (c5.2.1 604 _ (by decide)).trans s04, (c5.2.1 605 _ (by decide)).trans s05, (c5.2.1 606 _ (by decide)).trans s06, (c5.2.1 607 _ (by decide)).trans s07⟩
  · refine m1.trans ?_
    rw [b2, Option.bind_some]
  · rw [c5.2.1 b k (by omega), soth b k (by omega) (by omega), rd_up2, if_neg (by omega)]
  · have := there k hk7 hk0
    rw [soth 601 k (by omega) (by omega), rd_up2, if_neg (by omega)] at this
    exact this
  · by_cases w : b = 603
    · omega
    · rw [c5.2.1 b k (by omega), soth b k (by omega) (by omega), rd_up2, if_neg (by omega)]
  · rw [c5.2.1 603 _ (by decide), soth 603 _ (by omega) (by omega), rd_up2, if_neg (by omega)]
end
