/-! A range, both. -/
section
variable {T T' T1 : tT} {S S' S1 : mS} {t : Nat → Nat} {L p s e F k c m n a aq ac at' : Nat} {g g' : Nat → Int32} {r : Option Nat × Option Nat × Option Nat} {x y : Int32} {w : Option Nat}
theorem P_range (h : St t L T S p g) (hR : Rqs aq ac at' T S) (hA : Ap aq ac at') (h9 : S.1 9 = 0) (hr : r.2.1 = some ac) (hF : 400 < F) : Out t L r [ac] (Rqs aq ac at') T S p g (D_c_Reader_readRange F 513 (kR T L r g)) (D_m_range F S) := by
  have nc' : ¬ ac = 513 := by have := hA.2.1; omega
  have nc4 : ¬ 514 ∈ [ac] := fun q => by have := hA.2.1; have := List.mem_singleton.mp q; omega
  have cs : ∀ g1 y, Cs (kR T L r g) (kR (tset T ac (cCond y at')) L r g1) 0 0 := fun g1 y => ((kR_cs (g' := g1)).trans (up_cs (T1 := T) hR.2.1 nc' rfl rfl)).mono (by decide) (by decide)
  have ft : ∀ y, Ft [ac] T (tset T ac y) := fun y => Ft.set (by simp)
  have mono4 : ∀ {S1}, Fs [4] S S1 → Fs [4, 9, 10, 11] S S1 := fun f => f.mono (by decide)
  unfold D_c_Reader_readRange D_m_range
  rw [Kcl, Option.bind_some]
  rcases P_word (F := F) (r := r) (x := 17) (y := 55) tx_17 tx_55 h (by omega) with ⟨g1, S1, a1, a2, a3, a4, a5⟩ | ⟨f0, g1, S1, a1, a2, a3, a4, a5, a6⟩
  · rw [a1, a2]
    have s15 := a3.2.2.2.2.2
    have hl := a3.1.lt (p := p + z_bytesq.length)
    obtain ⟨p1, hp1⟩ : ∃ z, z = p + z_bytesq.length := ⟨_, rfl⟩
    rw [← hp1] at a3 hl
    simp only [bd2, Option.bind_some, show m_c1 .ne (1 : Int32) = true from rfl, cond_true, Kcl, here_v a3.1 a3.2.2.2.1 a3.2.2.1, s15, show m_c1 .eq (0 : Int32) = true from rfl, see_v a3.2.1 a3.2.2.2.2.1 a3.2.2.1, show (45 : Int32) = Int32.ofNat 45 from rfl, ne_n (show hc t L p1 < 2147483648 by omega) (show 45 < 2147483648 by decide), sv_ne a3.2.1 (show 0 < 45 by decide) (show 45 < 127 by decide)]
    by_cases w45 : hc t L p1 = 45
    · rw [decide_eq_false (show ¬ ¬ hc t L p1 = 45 from fun n => n w45), cond_false, cond_false]
      have pL := hc_lt w45 (by decide)
      have i1 : Int32.ofNat p1 + 1 = Int32.ofNat (p1 + 1) := m_n_add p1 1
      obtain ⟨g2, hg2⟩ : ∃ z, z = fup g1 2 (Int32.ofNat (p1 + 1)) := ⟨_, rfl⟩
      obtain ⟨T2, hT2⟩ : ∃ z, z = tset T ac (cCond (fup (cdv S) 1 2) at') := ⟨_, rfl⟩
      obtain ⟨S2, hS2⟩ : ∃ z, z = up1 (up1 S1 4 (Int32.ofNat (p1 + 1))) 9 3 := ⟨_, rfl⟩
      have G2 : Gs [2] g1 g2 := by rw [hg2]; exact Gs.fup (by decide)
      have F2 : Fs [4, 9] S1 S2 := by rw [hS2]; exact (Fs.up1 (by decide)).trans (Fs.up1 (by decide))
      have ft2 : Ft [ac] T T2 := by rw [hT2]; exact ft _
      have st2 : St t L T2 S2 (p1 + 1) g2 := ⟨a3.1.ft ft2 nc4, a3.2.1.fs F2 (by decide), pL, by rw [hg2]; exact fup_eq, by rw [hS2, up1_no (by decide)]; exact up1_at, (F2.1 5 (by decide)).trans s15⟩
      have s29 : S2.1 9 = 3 := by rw [hS2]; exact up1_at
      have e1 : tpi (kR T L r g2) ac 7 1 2 = some (kR T2 L r g2) := by rw [Cp1 ((kR_ne nc').trans hR.2.1), kR_tset nc', hT2]
      have T2c : T2.1 ac = some (cCond (fup (cdv S) 1 2) at') := by rw [hT2]; exact tset_at
      have e2 : ∀ g3 x, tpi (kR T2 L r g3) ac 7 2 x = some (kR (tset T ac (cCond (fup (fup (cdv S) 1 2) 2 x) at')) L r g3) := fun g3 x => by rw [Cp2 ((kR_ne nc').trans T2c), kR_tset nc', hT2, tset_tset]
      have m1 : (up1 (up1 S1 4 (Int32.ofNat (p1 + 1))) 9 3) = S2 := hS2.symm
      simp only [Kg2, a3.2.2.2.1, i1, Kp2, ← hg2, Kr14, hr, Option.bind_some, e1, Kcl, fput, a3.2.2.2.2.1, m1]
      rw [show (99999 : Int32) = Int32.ofNat 99999 from rfl]
      rcases P_number (F := F) (r := r) (m := 99999) st2.1 st2.2.1 st2.2.2.1 (by decide) st2.2.2.2.1 st2.2.2.2.2.1 st2.2.2.2.2.2 (by omega) with ⟨q, v, g3, S3, b1, b2, b3, b4, b5, b6, b7, b8, b9, b10, b11, b12⟩ | ⟨f, z, g3, S3, b1, b2, b3, b4, b5, b6⟩
      · left
        have F4 : Fs [10] S3 (up1 S3 10 (Int32.ofNat v)) := Fs.up1 (by decide)
        obtain ⟨S4, hS4⟩ : ∃ z, z = up1 S3 10 (Int32.ofNat v) := ⟨_, rfl⟩
        rw [← hS4] at F4
        have F04 : Fs [4, 9, 10, 11] S S4 := (((a5.mono (by decide)).trans (F2.mono (by decide))).trans (b12.mono (by decide))).trans (F4.mono (by decide))
        have s49 : S4.1 9 = 3 := by rw [F4.1 9 (by decide), b12.1 9 (by decide)]; exact s29
        have s410 : S4.1 10 = Int32.ofNat v := by rw [hS4]; exact up1_at
        have ec : cdv S4 = fup (fup (cdv S) 1 2) 2 (Int32.ofNat v) := by rw [cdv_tail F04 h9 s49, s410]
        have okq : okQ S4 := hR.2.2.2.2.rng F04 (Or.inr ⟨⟨v, by omega, s410⟩, Or.inr (Or.inr s49)⟩)
        have R4 := hR.cond hA (F04.mono (by decide)) okq
        rw [ec] at R4
        refine ⟨q, g3, _, S4, ?_, ?_, ⟨h.1.ft (ft _) nc4, (st2.2.1.fs b12 (by decide)).fs F4 (by decide), b7, b3, (F4.1 4 (by decide)).trans b5, ((F4.1 5 (by decide)).trans (b12.1 5 (by decide))).trans st2.2.2.2.2.2⟩, by omega, R4, ((a4.mono (by decide)).trans (G2.mono (by decide))).trans (b11.mono (by decide)), F04.to (by decide), ft _, cs _ _⟩
        · rw [b1]
          simp only [Option.bind_some, Kr14, hr, Kg9, b4, e2]
          rfl
        · rw [b2, hS4]; rfl
      · right
        have F4 : Fs [10] S3 (up1 S3 10 z) := Fs.up1 (by decide)
        refine ⟨f, g3, tset T ac (cCond (fup (fup (cdv S) 1 2) 2 (g3 9)) at'), up1 S3 10 z, ?_, by rw [b2]; rfl, b3, b4.fs F4 (by decide) (by decide) (by decide), ((a4.mono (by decide)).trans (G2.mono (by decide))).trans (b5.mono (by decide)), (((a5.to (by decide)).trans (F2.to (by decide))).trans (b6.to (by decide))).trans (F4.to (by decide)), ft _, cs _ _⟩
        rw [b1]
        simp only [Option.bind_some, Kr14, hr, Kg9, e2]
        rfl
    · rw [decide_eq_true w45, cond_true, cond_true, show (99999 : Int32) = Int32.ofNat 99999 from rfl]
      rcases P_number (F := F) (r := r) (m := 99999) a3.1 a3.2.1 a3.2.2.1 (by decide) a3.2.2.2.1 a3.2.2.2.2.1 a3.2.2.2.2.2 (by omega) with ⟨q, v, g3, S3, b1, b2, b3, b4, b5, b6, b7, b8, b9, b10, b11, b12⟩ | ⟨f, z, g3, S3, b1, b2, b3, b4, b5, b6⟩
      · rw [b1, b2]
        obtain ⟨S4, hS4⟩ : ∃ z, z = up1 S3 10 (Int32.ofNat v) := ⟨_, rfl⟩
        have F4 : Fs [10] S3 S4 := by rw [hS4]; exact Fs.up1 (by decide)
        have st3 : St t L T S3 q g3 := a3.step b7 b3 b5 ((b12.1 5 (by decide)).trans s15) b12 (by decide)
        have st4 : St t L T S4 q g3 := st3.keep rfl F4 (by decide) (by decide) (by decide)
        have s410 : S4.1 10 = Int32.ofNat v := by rw [hS4]; exact up1_at
        simp only [Option.bind_some, show m_c1 .ne (1 : Int32) = true from rfl, cond_true, Kg9, b4, Kcl, fput, ← hS4]
        rcases P_expect (F := F) (r := r) st4 (show 0 < 45 by decide) (show 45 < 127 by decide) with ⟨w', g5, S5, d1, d2, d3, d4, d5⟩ | ⟨f0, g5, S5, d1, d2, d3, d4, d5, d6⟩
        · rw [d1, d2]
          obtain ⟨S6, hS6⟩ : ∃ z, z = up1 S5 9 2 := ⟨_, rfl⟩
          have F6 : Fs [9] S5 S6 := by rw [hS6]; exact Fs.up1 (by decide)
          have st6 : St t L T S6 (q + 1) g5 := d3.keep rfl F6 (by decide) (by decide) (by decide)
          have s69 : S6.1 9 = 2 := by rw [hS6]; exact up1_at
          have s610 : S6.1 10 = Int32.ofNat v := by rw [F6.1 10 (by decide), d5.1 10 (by decide)]; exact s410
          have F06 : Fs [4, 9, 10, 11] S S6 := ((((a5.mono (by decide)).trans (b12.mono (by decide))).trans (F4.mono (by decide))).trans (d5.mono (by decide))).trans (F6.mono (by decide))
          have G5 : Gs [2, 6, 7, 8, 9] g g5 := ((a4.mono (by decide)).trans (b11.mono (by decide))).trans (d4.mono (by decide))
          simp only [Option.bind_some, show m_c1 .ne (1 : Int32) = true from rfl, cond_true, Kcl, here_v d3.1 d3.2.2.2.1 d3.2.2.1, dg_c d3.1.lt, b_eq0, d3.2.2.2.2.2, show m_c1 .eq (0 : Int32) = true from rfl, ← hS6, see_v st6.2.1 st6.2.2.2.2.1 st6.2.2.1, dg_m st6.2.1, b_ne0]
          cases wd : isD (hc t L (q + 1)) with
          | false =>
            simp only [Bool.not_false, cond_true, cond_false]
            left
            have ec : cdv S6 = fup (fup (fup (cdv S) 1 1) 2 (Int32.ofNat v)) 3 (Int32.ofNat 99999) := by rw [cdv_open F06 s69, s610]; rfl
            have okq : okQ S6 := hR.2.2.2.2.rng F06 (Or.inr ⟨⟨v, by omega, s610⟩, Or.inr (Or.inl s69)⟩)
            have R6 := hR.cond hA (F06.mono (by decide)) okq
            rw [ec] at R6
            refine ⟨q + 1, g5, _, S6, ?_, rfl, ⟨h.1.ft (ft _) nc4, st6.2.1, st6.2.2.1, st6.2.2.2.1, st6.2.2.2.2.1, st6.2.2.2.2.2⟩, by omega, R6, G5, F06.to (by decide), ft _, cs _ _⟩
            rw [rng_114 hR.2.1 nc' hr (by omega) (by decide), if_neg (by omega)]
          | true =>
            simp only [Bool.not_true, cond_true, cond_false]
            rcases P_number (F := F) (r := r) (m := 99999) st6.1 st6.2.1 st6.2.2.1 (by decide) st6.2.2.2.1 st6.2.2.2.2.1 st6.2.2.2.2.2 (by omega) with ⟨q2, v2, g7, S7, y1, y2, y3, y4, y5, y6, y7, y8, y9, y10, y11, y12⟩ | ⟨f, z, g7, S7, y1, y2, y3, y4, y5, y6⟩
            · rw [y1, y2]
              obtain ⟨S8, hS8⟩ : ∃ z, z = up1 S7 11 (Int32.ofNat v2) := ⟨_, rfl⟩
              have F8 : Fs [11] S7 S8 := by rw [hS8]; exact Fs.up1 (by decide)
              have s811 : S8.1 11 = Int32.ofNat v2 := by rw [hS8]; exact up1_at
              have s810 : S8.1 10 = Int32.ofNat v := by rw [F8.1 10 (by decide), y12.1 10 (by decide)]; exact s610
              obtain ⟨S9, hS9⟩ : ∃ z, z = up1 S8 9 (if v ≤ v2 then 1 else 0) := ⟨_, rfl⟩
              have F9 : Fs [9] S8 S9 := by rw [hS9]; exact Fs.up1 (by decide)
              have s99 : S9.1 9 = (if v ≤ v2 then 1 else 0) := by rw [hS9]; exact up1_at
              have s910 : S9.1 10 = Int32.ofNat v := (F9.1 10 (by decide)).trans s810
              have s911 : S9.1 11 = Int32.ofNat v2 := (F9.1 11 (by decide)).trans s811
              have F09 : Fs [4, 9, 10, 11] S S9 := ((F06.trans (y12.mono (by decide))).trans (F8.mono (by decide))).trans (F9.mono (by decide))
              simp only [Option.bind_some, show m_c1 .ne (1 : Int32) = true from rfl, cond_true, Kg9, y4, ← hS8, s810, s811, le_n (show v < 2147483648 by omega) (show v2 < 2147483648 by omega)]
              have mE : (cond (decide (v ≤ v2)) (some (1 : Int32)) (some (0 : Int32))).bind (fun v28 => some (up1 S8 9 v28)) = some S9 := by
                rw [hS9]
                by_cases w : v ≤ v2
                · rw [decide_eq_true w, if_pos w]; rfl
                · rw [decide_eq_false w, if_neg w]; rfl
              left
              have stx : ∀ y, St t L (tset T ac y) S9 q2 g7 := fun y => ⟨h.1.ft (ft _) nc4, ((st6.2.1.fs y12 (by decide)).fs F8 (by decide)).fs F9 (by decide), y7, y3, ((F9.1 4 (by decide)).trans (F8.1 4 (by decide))).trans y5, (((F9.1 5 (by decide)).trans (F8.1 5 (by decide))).trans (y12.1 5 (by decide))).trans st6.2.2.2.2.2⟩
              by_cases w : v ≤ v2
              · rw [if_pos w] at s99
                have ec : cdv S9 = fup (fup (fup (cdv S) 1 1) 2 (Int32.ofNat v)) 3 (Int32.ofNat v2) := by rw [cdv_span F09 s99, s910, s911]
                have R9 := hR.cond hA (F09.mono (by decide)) (hR.2.2.2.2.rng F09 (Or.inr ⟨⟨v, by omega, s910⟩, Or.inl ⟨s99, v2, by omega, s911⟩⟩))
                rw [ec] at R9
                refine ⟨q2, g7, _, S9, ?_, mE, stx _, by omega, R9, G5.trans (y11.mono (by decide)), F09.to (by decide), ft _, cs _ _⟩
                rw [rng_114 hR.2.1 nc' hr (by omega) (by omega), if_neg (by omega)]
              · rw [if_neg w] at s99
                have R9 := hR.cond hA (F09.mono (by decide)) (hR.2.2.2.2.rng F09 (Or.inl s99))
                rw [cdv_same F09 h9 s99] at R9
                refine ⟨q2, g7, _, S9, ?_, mE, stx _, by omega, R9, G5.trans (y11.mono (by decide)), F09.to (by decide), ft _, cs _ _⟩
                rw [rng_114 hR.2.1 nc' hr (by omega) (by omega), if_pos (by omega), tset_own hR.2.1]
            · right
              rw [y1, y2]
              obtain ⟨x9, hx9⟩ : ∃ x9, (cond (m_c2 .le ((up1 S7 11 z).1 10) ((up1 S7 11 z).1 11)) (some (1 : Int32)) (some (0 : Int32))) = some x9 := by cases m_c2 .le ((up1 S7 11 z).1 10) ((up1 S7 11 z).1 11) <;> exact ⟨_, rfl⟩
              have F9 : Fs [9, 11] S7 (up1 (up1 S7 11 z) 9 x9) := (Fs.up1 (by decide)).trans (Fs.up1 (by decide))
              refine ⟨f, g7, T, up1 (up1 S7 11 z) 9 x9, rfl, ?_, y3, y4.fs F9 (by decide) (by decide) (by decide), (G5.mono (by decide)).trans (y5.mono (by decide)), ((F06.to (by decide)).trans (y6.to (by decide))).trans (F9.to (by decide)), Ft.refl, kR_cs⟩
              simp only [Option.bind_some, hx9]
        · right
          rw [d1, d2]
          refine ⟨f0, g5, T, S5, rfl, ?_, d3, Or.inl d4, ((a4.mono (by decide)).trans (b11.mono (by decide))).trans (d5.mono (by decide)), ((((a5.to (by decide)).trans (b12.to (by decide))).trans (F4.to (by decide)))).trans (d6.to (by decide)), Ft.refl, kR_cs⟩
          simp only [Option.bind_some, d4.1, show m_c1 .eq (1 : Int32) = false from rfl, cond_false]
      · right
        rw [b1, b2]
        have F4 : Fs [10] S3 (up1 S3 10 z) := Fs.up1 (by decide)
        obtain ⟨S5, e1, e2, e3⟩ := (b4.fs F4 (by decide) (by decide) (by decide)).expect (F := F) ((a3.2.1.fs b6 (by decide)).fs F4 (by decide)) (show 0 < 45 by decide) (show 45 < 127 by decide) rfl
        refine ⟨f, g3, T, S5, rfl, ?_, b3, Or.inl e2, (a4.mono (by decide)).trans (b5.mono (by decide)), (((a5.to (by decide)).trans (b6.to (by decide))).trans (F4.to (by decide))).trans (e3.to (by decide)), Ft.refl, kR_cs⟩
        simp only [Option.bind_some, fput, e1, e2.1, show m_c1 .eq (1 : Int32) = false from rfl, cond_false]
  · right
    rw [a1, a2]
    refine ⟨f0, g1, T, S1, rfl, ?_, a3, Or.inl a4, a5.mono (by decide), a6.to (by decide), Ft.refl, kR_cs⟩
    simp only [Option.bind_some, a4.1, show m_c1 .eq (1 : Int32) = false from rfl, cond_false]
end
