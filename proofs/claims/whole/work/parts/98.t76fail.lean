/-! fail(node): the call. -/
section
variable {I : Iv} {T T0 : tT} {S S' : mS} {X Y : Nat → List (Nat × Nat)} {Z : Nat → List Fz} {Q : List Rq} {j0 c F n k1 k2 : Nat} {rs R : List Nat}
theorem m_fail (hF : 5000 ≤ F) (h : RB T S X Y Z Q [] [] j0 rs c) (h1 : 1 ≤ n) (h2 : n < 7) : ∃ (S' : mS) (R : List Nat), (bput 7 S 591 (Int32.ofNat n) (0 : Int32)).bind (fun S9 => D_m_fail_36 F F (Int32.ofNat n) ((1024 : Int32) * Int32.ofNat n) S9) = some (1, S') ∧ R.Nodup ∧ (∀ r, r ∈ R ↔ ∃ z ∈ Q, z.2.1 / 128 = n ∧ z.2.2.1 = some r) ∧ S'.1 74 = Int32.ofNat (qNo Q n).length ∧ S'.1 71 = S.1 71 + Int32.ofNat R.length ∧ (∀ i, ¬ i = 71 → ¬ i = 74 → S'.1 i = S.1 i) ∧ (∀ a k, ¬ a ∈ [591, 593, 597, 601, 609, 618, 619, 621, 622, 623, 627] → rd S' a k = rd S a k) ∧ (∀ a k, a = 591 ∨ a = 593 ∨ a = 597 → rd S' a k = if k = n then 0 else rd S a k) ∧ (∀ k, rd S' 601 k = if 1024 * n ≤ k ∧ k < 1024 * n + 1024 then 0 else rd S 601 k) ∧ (∀ k, rd S' 609 k = if 128 * n ≤ k ∧ k < 128 * n + 128 then 0 else rd S 609 k) ∧ (∀ a i, a = 618 ∨ a = 619 → rd S' a i = if i = 2 * n ∨ i = 2 * n + 1 then 0 else rd S a i) ∧ (∀ q, rd S' 621 q = if q ∈ R then 0 else rd S 621 q) ∧ (∀ q, rd S' 627 q = if q / 9 ∈ R then clv (S.1 36) (rd S 627 q) (q % 9) else rd S 627 q) ∧ ∀ k z, (qNo Q n)[k]? = some z → ∃ r, Q[r]? = some z ∧ ∀ i, i < 12 → rd S' 622 (12 * k + i) = rd S 622 (12 * r + i) := by
  obtain ⟨⟨a1, a2, a3, a4⟩, b1, b2, b3, c1, c2, d1, dP, d2⟩ := id h.2.2.2.2.2.2.2.1
  rw [List.nil_append, List.append_nil] at c1 c2 a2
  have bp : bput 7 S 591 (Int32.ofNat n) 0 = some (up2 S 591 n 0) := bput_n h2 (by decide) (Or.inl rfl)
  obtain ⟨S2, p1', p2', p3'⟩ := m_fail36 (F := F) h2 1024 (1024 * n) (up2 S 591 n 0) rfl (Nat.le_refl _) F (by omega)
  obtain ⟨S3, t1, t2, t3⟩ := m_fail68 (F := F) h2 128 (128 * n) S2 rfl (Nat.le_refl _) F (by omega)
  have zz : n ≤ 2 → rd S3 618 (2 * n) = 0 ∧ rd S3 618 (2 * n + 1) = 0 ∧ rd S3 619 (2 * n) = 0 ∧ rd S3 619 (2 * n + 1) = 0 := fun w => by
    obtain ⟨_, _, _, _, _, _, _, _, _, _, q⟩ := h.2.2.2.2.2.2.2.2.2.2.2.1 n h1 h2
    have e : ∀ a i, a = 618 ∨ a = 619 → rd S3 a i = rd S a i := fun a i ha => by rw [t3, if_neg (by omega), p3', if_neg (by omega), rd_up2, if_neg (by omega)]
    rw [e _ _ (Or.inl rfl), e _ _ (Or.inl rfl), e _ _ (Or.inr rfl), e _ _ (Or.inr rfl)]
    exact q w
  obtain ⟨S4, u1, u2, u3⟩ := m_fail96 (F := F) (S := S3) (n := n) (by omega) h2 zz
  obtain ⟨S5, hS5⟩ : ∃ x, x = up2 (up2 S4 597 n 0) 593 n 0 := ⟨_, rfl⟩
  have i5 : ∀ i, S5.1 i = S.1 i := fun i => by rw [hS5, up2_1, up2_1, u2, t2, p2', up2_1]
  have r5 : ∀ a k, rd S5 a k = if (a = 591 ∨ a = 593 ∨ a = 597) ∧ k = n then 0 else if a = 601 ∧ 1024 * n ≤ k ∧ k < 1024 * n + 1024 then 0 else if a = 609 ∧ 128 * n ≤ k ∧ k < 128 * n + 128 then 0 else if (a = 618 ∨ a = 619) ∧ (k = 2 * n ∨ k = 2 * n + 1) then 0 else rd S a k := fun a k => by
    rw [hS5, rd_up2, rd_up2, u3, t3, p3', rd_up2]
    by_cases w1 : a = 593 ∧ k = n
    · rw [if_pos w1, if_pos (by omega)]
    · rw [if_neg w1]
      by_cases w2 : a = 597 ∧ k = n
      · rw [if_pos w2, if_pos (by omega)]
      · rw [if_neg w2]
        by_cases w3 : a = 591 ∧ k = n
        · rw [if_neg (by omega), if_neg (by omega), if_neg (by omega), if_pos w3, if_pos (by omega)]
        · rw [if_neg w3, if_neg (show ¬ ((a = 591 ∨ a = 593 ∨ a = 597) ∧ k = n) by omega)]
          by_cases w4 : (a = 618 ∨ a = 619) ∧ (k = 2 * n ∨ k = 2 * n + 1)
          · rw [if_pos w4, if_neg (by omega), if_neg (by omega), if_pos w4]
          · rw [if_neg w4]
            by_cases w5 : a = 609 ∧ 128 * n ≤ k ∧ k < 128 * n + 128
            · rw [if_pos w5, if_neg (by omega), if_pos w5]
            · rw [if_neg w5, if_neg w5, if_neg w4]
  obtain ⟨S6, s1, s2, s3, s4, s5⟩ := m_take (F := F) (S := S5) (n := Q.length) (x1 := Int32.ofNat n) (x2 := -1) (by omega) ((i5 74).trans a1) (by omega)
  have tk : ∀ k z, Q[k]? = some z → isTk S5 (Int32.ofNat n) (-1) (0 + k) = decide (z.2.1 / 128 = n) := by
    intro k z hk
    obtain ⟨_, m, ⟨m1, ⟨p', v', x1, x2, x3, x4, x5, x6, x7⟩, _⟩, _⟩ := b1 k z hk
    have y0 : rd S 622 (12 * k) = Int32.ofNat m := x6
    unfold isTk
    rw [Nat.zero_add, r5, if_neg (by omega), if_neg (by omega), if_neg (by omega), if_neg (by omega), y0]
    have e1 : (Int32.ofNat m = Int32.ofNat n) ↔ m = n := ⟨fun w => by have := congrArg Int32.toNatClampNeg w; rw [m_n_cl (by omega), m_n_cl (by omega)] at this; exact this, fun w => by rw [w]⟩
    have e2 : z.2.1 / 128 = m := by omega
    simp only [e1, decide_true, Bool.true_or, Bool.and_true, e2]
  obtain ⟨i1, i2⟩ := filter_ix (fun z : Rq => decide (z.2.1 / 128 = n)) Q 0 (fun r => isTk S5 (Int32.ofNat n) (-1) r) tk
  obtain ⟨j1, j2⟩ := filter_ix (fun z : Rq => !decide (z.2.1 / 128 = n)) Q 0 (fun r => !isTk S5 (Int32.ofNat n) (-1) r) (fun k z hk => by rw [tk k z hk])
  rw [← List.range_eq_range'] at i1 i2 j1 j2
  rw [i1] at s1
  have nlen : (qNi Q n).length ≤ Q.length := List.length_filter_le _ _
  have ni : ∀ z ∈ qNi Q n, z ∈ Q ∧ z.2.1 / 128 = n := fun z hz => by
    obtain ⟨w1, w2⟩ := List.mem_filter.mp hz
    exact ⟨w1, of_decide_eq_true w2⟩
  obtain ⟨S7, v1, v2⟩ := m_fl_loop (F := F) (S0 := S6) (qNi Q n) 0 S6 [] SSr.refl (by omega) (fun k z hk => by
    obtain ⟨r, y1, y2⟩ := i2 k z hk
    rw [Nat.zero_add] at y1
    rw [Nat.zero_add, s4 k r y1 2 (by decide), r5, if_neg (by omega), if_neg (by omega), if_neg (by omega), if_neg (by omega)]
    have iq := b1 r z y2
    cases hz : z.2.2.1 with
    | none =>
      obtain ⟨b, m, _, _, _, q3⟩ := iq.fetch hz
      exact q3.2.1
    | some r' =>
      obtain ⟨kc, ca, ra, s, b, m, _, _, _, _, _, _, _, q7⟩ := iq.client hz
      exact q7.2.2.2.1) (fun z hz r hr => by
    obtain ⟨k, hk⟩ := List.mem_iff_getElem?.mp (ni z hz).1
    obtain ⟨kc, ca, ra, s, b, m, _, _, _, _, _, _, _, q7⟩ := (b1 k z hk).client hr
    exact ⟨q7.2.1.1, fun w => by cases w⟩) (c2.sublist (List.Sublist.filterMap _ List.filter_sublist)) F (by omega)
  rw [Nat.zero_add] at v1
  rw [List.nil_append] at v2
  obtain ⟨w1, w2, w3, w4⟩ := v2
  have o6 : ∀ a k, ¬ a = 621 → ¬ a = 622 → ¬ a = 623 → ¬ a = 627 → rd S7 a k = rd S5 a k := fun a k q1' q2' q3' q4' => (w2 a k q1' q4').trans (s3 a k q2' q3')
  have c36 : S6.1 36 = S.1 36 := by rw [s2, if_neg (by decide)]; exact i5 36
  refine ⟨S7, (qNi Q n).filterMap (fun z => z.2.2.1), ?_, c2.sublist (List.Sublist.filterMap _ List.filter_sublist), fun r => ?_, ?_, ?_, fun i q1' q2' => ?_, fun a k ha => ?_, fun a k ha => ?_, fun k => ?_, fun k => ?_, fun a i ha => ?_, fun q => ?_, fun q => ?_, fun k z hz => ?_⟩
  · have f597 : aput 7 S4 597 (Int32.ofNat n) 0 = some (up2 S4 597 n 0) := aput_n h2 (by decide)
    have f593 : aput 7 (up2 S4 597 n 0) 593 (Int32.ofNat n) 0 = some S5 := by rw [hS5]; exact aput_n h2 (by decide)
    have v1' : D_m_fail_141 F F (Int32.ofNat (qNi Q n).length) 0 S6 = some (1, S7) := v1
    have s1' : D_m_take F (Int32.ofNat n) (-1) S5 = some (Int32.ofNat (qNi Q n).length, S6) := s1
    rw [bp, Option.bind_some, k1024, p1', t1, u1]
    unfold D_m_fail_118
    rw [f597, Option.bind_some, f593, Option.bind_some, s1', Option.bind_some]
    exact v1'
  · constructor
    · intro hr
      obtain ⟨z, z1, z2⟩ := List.mem_filterMap.mp hr
      exact ⟨z, (ni z z1).1, (ni z z1).2, z2⟩
    · rintro ⟨z, z1, z2, z3⟩
      exact List.mem_filterMap.mpr ⟨z, List.mem_filter.mpr ⟨z1, decide_eq_true z2⟩, z3⟩
  · rw [w1, if_neg (by decide), s2, if_pos rfl, j1]
    rfl
  · rw [w1, if_pos rfl, s2, if_neg (by decide), i5]
  · rw [w1, if_neg q1', s2, if_neg q2', i5]
  · simp only [List.mem_cons, List.mem_nil_iff, or_false] at ha
    rw [o6 a k (by omega) (by omega) (by omega) (by omega), r5, if_neg (by omega), if_neg (by omega), if_neg (by omega), if_neg (by omega)]
  · rw [o6 a k (by omega) (by omega) (by omega) (by omega), r5]
    by_cases w : k = n
    · rw [if_pos ⟨ha, w⟩, if_pos w]
    · rw [if_neg (fun q => w q.2), if_neg (by omega), if_neg (by omega), if_neg (by omega), if_neg w]
  · rw [o6 601 k (by decide) (by decide) (by decide) (by decide), r5, if_neg (by omega)]
    by_cases w : 1024 * n ≤ k ∧ k < 1024 * n + 1024
    · rw [if_pos ⟨rfl, w⟩, if_pos w]
    · rw [if_neg (fun q => w q.2), if_neg (by omega), if_neg (by omega), if_neg w]
  · rw [o6 609 k (by decide) (by decide) (by decide) (by decide), r5, if_neg (by omega), if_neg (by omega)]
    by_cases w : 128 * n ≤ k ∧ k < 128 * n + 128
    · rw [if_pos ⟨rfl, w⟩, if_pos w]
    · rw [if_neg (fun q => w q.2), if_neg (by omega), if_neg w]
  · rw [o6 a i (by omega) (by omega) (by omega) (by omega), r5, if_neg (by omega), if_neg (by omega), if_neg (by omega)]
    by_cases w : i = 2 * n ∨ i = 2 * n + 1
    · rw [if_pos ⟨ha, w⟩, if_pos w]
    · rw [if_neg (fun q => w q.2), if_neg w]
  · have e : rd S6 621 q = rd S 621 q := by rw [s3 621 q (by decide) (by decide), r5, if_neg (by omega), if_neg (by omega), if_neg (by omega), if_neg (by omega)]
    rw [w3, e]
  · have e : rd S6 627 q = rd S 627 q := by rw [s3 627 q (by decide) (by decide), r5, if_neg (by omega), if_neg (by omega), if_neg (by omega), if_neg (by omega)]
    rw [w4, e, c36]
  · obtain ⟨r, y1, y2⟩ := j2 k z hz
    rw [Nat.zero_add] at y1
    refine ⟨r, y2, fun i hi => ?_⟩
    rw [w2 622 _ (by decide) (by decide), s5 k r y1 i hi, r5, if_neg (by omega), if_neg (by omega), if_neg (by omega), if_neg (by omega)]
theorem op_fail (hF : 5000 ≤ F) (cF : ClFail I) {x : Int32} (h : RA I T S X Y Z Q [] [] 0 rs c k1 k2) : ∃ v T' S' X' Y' Z' Q', D_c_EdgeHouse_fail F 512 x T = some (v, T') ∧ D_m_fail F x S = some (v, S') ∧ RA I T' S' X' Y' Z' Q' [] [] 0 rs c k1 k2 := by
  have h0 := h.zero
  obtain ⟨S0, hS0⟩ : ∃ x, x = up1 S 0 0 := ⟨_, rfl⟩
  rw [← hS0] at h0
  obtain ⟨hR, hcost, hIv⟩ := id h0
  have hH : T.1 512 = some (house S0.1) := hR.2.1
  have stay : ∃ v T' S' X' Y' Z' Q', (some ((0 : Int32), T) : Option (Int32 × tT)) = some (v, T') ∧ (some ((0 : Int32), S0) : Option (Int32 × mS)) = some (v, S') ∧ RA I T' S' X' Y' Z' Q' [] [] 0 rs c k1 k2 := ⟨0, T, S0, X, Y, Z, Q, rfl, rfl, h0⟩
  have mst : D_m_fail F x S = ((D_m_isNode F x S0).bind fun v3 => cond (m_c1 .eq v3) (some ((0 : Int32), S0)) ((aget 4 7 S0 591 x).bind fun v6 => cond (m_c1 .ne v6) ((bput 7 S0 591 x (0 : Int32)).bind fun S9 => D_m_fail_36 F F x ((1024 : Int32) * x) S9) (some ((0 : Int32), S0)))) := by
    unfold D_m_fail
    simp only [fput, Option.bind_some]
    rw [← hS0]
  rw [mst]
  rcases c_isNode (F := F) (T := T) (S := S0) (x := x) with ⟨n, h1, h2, rfl, i1, i2⟩ | ⟨_, i1, i2⟩
  · obtain ⟨u1, u2⟩ := hR.2.2.2.2.1.up h1 h2
    have g5 := hR.2.2.2.2.1.get h2
    have a591 : aget 4 7 S0 591 (Int32.ofNat n) = some (rd S0 591 n) := aget_n (Or.inr rfl) h2 (by decide)
    have hn := (hR.2.2.2.2.1.2.1 n h1 h2).1
    have e42 : tgr T (527 + 8 * n) 4 2 = some (some (531 + 8 * n)) := tgr_o (x := some (531 + 8 * n)) hn rfl
    have cst : D_c_EdgeHouse_fail F 512 (Int32.ofNat n) T = cond (m_c1 .ne (rd S0 591 n)) (D_c_EdgeHouse_fail_33 F F 512 (Int32.ofNat n) (some (531 + 8 * n)) (0 : Int32) T) (some ((0 : Int32), T)) := by
      unfold D_c_EdgeHouse_fail
      simp only [i1, Option.bind_some, show m_c1 .eq (1 : Int32) = false from rfl, cond_false, Hr3 hH, g5, u1, e42]
    rw [i2, Option.bind_some, show m_c1 .eq (1 : Int32) = false from rfl, cond_false, a591, Option.bind_some]
    cases up : m_c1 .ne (rd S0 591 n) with
    | false =>
      rw [up, cond_false] at cst
      rw [cst, cond_false]
      exact stay
    | true =>
      rw [up, cond_true] at cst
      rw [cond_true]
      obtain ⟨S', R, m1, m2, m3, m4, m5, m6, m7, m8, m9, m10, m11, m12, m13, m14⟩ := m_fail (F := F) hF hR h1 h2
      obtain ⟨T1, t1, t2⟩ := c_fl_loop (F := F) (x1 := Int32.ofNat n) hR h1 h2 (by omega) (Z n).length 0 T [] (by omega) (CSr.refl hH) (fun r hr => by cases hr) F (by have := hR.2.2.2.2.2.2.1.len h1 h2; omega)
      rw [List.nil_append, List.drop_zero] at t2
      have hnd := hR.2.2.2.2.2.2.2.2.1.2.2.2.1.1
      have hrep : ∀ (r b : Nat), rs[r]? = some b → ∃ g s, T.1 b = some (cReply g s) := fun r b hb => by
        obtain ⟨g, s, q1', _⟩ := hR.2.2.2.2.2.2.2.2.1.2.2.2.2 r b hb
        exact ⟨g, s, q1'⟩
      have keep : ∀ {b x}, T.1 b = some x → ¬ kd x = 0 → ¬ kd x = 8 → T1.1 b = some x := fun {b x} hb w0 w8 => by
        rw [t2.2.2.1 b (fun w => by rw [w, hH] at hb; cases hb; exact w0 rfl) (fun r _ q => by
          obtain ⟨g, s, q'⟩ := hrep r _ q
          rw [q'] at hb
          cases hb
          exact w8 rfl)]
        exact hb
      obtain ⟨⟨_, hst, ⟨cX, x1⟩, ⟨cY, x2⟩, _⟩, _⟩ := hR.2.2.2.2.2.1.1 n h1 h2
      obtain ⟨⟨cZ, z1⟩, _⟩ := hR.2.2.2.2.2.2.1.1 n h1 h2
      obtain ⟨o, fb, fw, _, _, _, _, _, y6, _⟩ := hR.2.2.2.2.2.2.2.2.2.2.1
      obtain ⟨fk0, K0, kk, _⟩ := y6 n h1 h2
      obtain ⟨g0, l0, sk1, sk2, _⟩ := hR.2.2.2.2.2.2.2.2.2.2.2.1 n h1 h2
      obtain ⟨T', fk', g', k', d1, d2, d3, d4, d5, d6, d7, d8, d9, d10, d11⟩ := c_down (F := F) (T := T1) (S := S0) (S' := S') (n := n) (by omega) (keep hn (show ¬ (4 : Nat) = 0 by decide) (show ¬ (4 : Nat) = 8 by decide)) (fun a k => by
        by_cases w : (a = 591 ∨ a = 593) ∧ k = n
        · rw [if_pos w, m8 a k (by omega), if_pos w.2]
        · rw [if_neg w]
          by_cases w2 : a = 594 ∨ a = 595 ∨ a = 596
          · rw [if_pos w2]
            exact m7 a k (by simp only [List.mem_cons, List.mem_nil_iff, or_false]; omega)
          · rw [if_neg w2]) (keep hst (show ¬ (5 : Nat) = 0 by decide) (show ¬ (5 : Nat) = 8 by decide)) (keep x1 (show ¬ (21 : Nat) = 0 by decide) (show ¬ (21 : Nat) = 8 by decide)) (keep x2 (show ¬ (21 : Nat) = 0 by decide) (show ¬ (21 : Nat) = 8 by decide)) (keep z1 (show ¬ (21 : Nat) = 0 by decide) (show ¬ (21 : Nat) = 8 by decide)) (keep kk (show ¬ (20 : Nat) = 0 by decide) (show ¬ (20 : Nat) = 8 by decide)) (keep sk1 (show ¬ (20 : Nat) = 0 by decide) (show ¬ (20 : Nat) = 8 by decide)) (keep sk2 (show ¬ (20 : Nat) = 0 by decide) (show ¬ (20 : Nat) = 8 by decide))
      have ar1 : tar T1 519 7 (Int32.ofNat n) = some (some (527 + 8 * n)) := by
        obtain ⟨⟨f9, n1, n2⟩, _⟩ := hR.2.2.2.2.1
        unfold tar
        rw [ta_o (keep n1 (show ¬ (20 : Nat) = 0 by decide) (show ¬ (20 : Nat) = 8 by decide)) h2 (by decide), Option.bind_some, n2 n h2]
        rfl
      have hT' : D_c_EdgeHouse_fail F 512 (Int32.ofNat n) T = some (1, T') := by
        rw [cst, show (0 : Int32) = Int32.ofNat 0 from rfl, t1]
        simp only [Hr3 t2.2.1, Option.bind_some, ar1, tcl_o (keep hn (show ¬ (4 : Nat) = 0 by decide) (show ¬ (4 : Nat) = 8 by decide)), d1]
      have cs : Cs T T' 0 0 := K_c_EdgeHouse_fail (F := F) _ hT'
      have memE : ∀ r, r ∈ clZ Q (Z n) ↔ r ∈ R := fun r => (clZ_mem hR h1 h2 r).trans (m3 r).symm
      have lenE : (clZ Q (Z n)).length = R.length := Nat.le_antisymm (len_sub _ _ (clZ_nodup hR h1 h2) (fun x hx => (memE x).mp hx)) (len_sub _ _ m2 (fun x hx => (memE x).mpr hx))
      have n512 : ¬ isDn n 512 := fun q => by unfold isDn at q; omega
      have hRB := hR.down (T' := T') (S' := S') (R := R) h1 h2 (cs hR.1).1 m3 (by
        rw [d11 512 n512, t2.2.1, lenE]
        congr 1
        unfold house
        rw [m5, m6 39 (by decide) (by decide), m6 38 (by decide) (by decide), m6 37 (by decide) (by decide), m6 36 (by decide) (by decide)]
        rfl) d2 (fun c xs hx => by rw [x1] at hx; cases hx; exact d3) (fun c xs hx => by rw [x2] at hx; cases hx; exact d4) ⟨_, d5⟩ ⟨fk', d6, fun j hj => d7 j (by omega)⟩ ⟨g', k', d8, d9, d10⟩ (fun r hr a g hra hg => by
          have nd : ¬ isDn n a := fun q => by
            have := hg
            have q' : a = 527 + 8 * n ∨ a = 529 + 8 * n ∨ a = 530 + 8 * n ∨ a = 531 + 8 * n ∨ a = 532 + 8 * n ∨ a = 533 + 8 * n ∨ a = 534 + 8 * n := by unfold isDn at q; omega
            rcases q' with w | w | w | w | w | w | w
            · rw [w, hn] at this; cases this
            · rw [w, x1] at this; cases this
            · rw [w, x2] at this; cases this
            · rw [w, z1] at this; cases this
            · rw [w, kk] at this; cases this
            · rw [w, sk1] at this; cases this
            · rw [w, sk2] at this; cases this
          rw [d11 a nd]
          exact t2.2.2.2 r ((memE r).mpr hr) a g hra hg) (fun b x hb w1 w2 w3 => by
          rw [d11 b w2, t2.2.2.1 b w1 (fun r hr => w3 r ((memE r).mp hr))]
          exact hb) m4 m6 m7 m8 m9 m10 m11 m12 m13 m14
      refine ⟨1, T', S', _, _, _, _, hT', m1, hRB, (by have := cost_step hcost cs hR.1; exact ⟨by omega, by omega⟩), ?_⟩
      have vM' : vM S' = vM S0 := vM_ag ⟨fun a ha k => m7 a k (by revert a; decide), fun i hi => m6 i (by revert i; decide) (by revert i; decide)⟩
      have vS' : vS S' = fun j k => if (j = 0 ∨ j = 6) ∧ k = n then 0 else vS S0 j k := by
        funext j k
        unfold vS
        rw [m6 37 (by decide) (by decide), m6 70 (by decide) (by decide), m6 36 (by decide) (by decide), m7 596 k (by decide), m7 589 k (by decide), m7 590 k (by decide), m8 593 k (by omega), m8 597 k (by omega)]
        by_cases j0 : j = 0
        · subst j0
          by_cases w : k = n
          · simp [w]
          · simp [w]
        · by_cases j6 : j = 6
          · subst j6
            by_cases w : k = n
            · simp [w]
            · simp [w]
          · simp [j0, j6]
      rw [vM', vS']
      refine cF _ _ _ _ _ _ _ _ n hIv h1 h2 (fun e => ?_)
      unfold vE
      rw [m9]
      by_cases w : 1024 * n ≤ e ∧ e < 1024 * n + 1024
      · rw [if_pos w, if_pos w, if_neg (fun q => q.2 rfl)]
      · rw [if_neg w, if_neg w]
        simp only [m7 603 _ (show ¬ (603 : Nat) ∈ [591, 593, 597, 601, 609, 618, 619, 621, 622, 623, 627] by decide), m7 604 _ (show ¬ (604 : Nat) ∈ [591, 593, 597, 601, 609, 618, 619, 621, 622, 623, 627] by decide), m7 605 _ (show ¬ (605 : Nat) ∈ [591, 593, 597, 601, 609, 618, 619, 621, 622, 623, 627] by decide), m7 606 _ (show ¬ (606 : Nat) ∈ [591, 593, 597, 601, 609, 618, 619, 621, 622, 623, 627] by decide), m7 607 _ (show ¬ (607 : Nat) ∈ [591, 593, 597, 601, 609, 618, 619, 621, 622, 623, 627] by decide)]
  · have cst : D_c_EdgeHouse_fail F 512 x T = some (0, T) := by
      unfold D_c_EdgeHouse_fail
      rw [i1]
      rfl
    rw [cst, i2]
    exact stay
end
