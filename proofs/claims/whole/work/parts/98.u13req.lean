/-! Tags that the asker has: the list. -/
section
variable {T T' T1 : tT} {S S' S1 : mS} {t : Nat → Nat} {L p s e F k c m n a aq ac at' : Nat} {g g' : Nat → Int32} {r : Option Nat × Option Nat × Option Nat} {x y : Int32} {w : Option Nat}
theorem P_tags (hA : Ap aq ac at') (hr : r.2.1 = some ac) (hF : 400 < F) : ∀ (n i p : Nat) (g : Nat → Int32) (T : tT) (S : mS), i + n = 8 → 0 < n → St t L T S p g → Rqs aq ac at' T S → S.1 12 = Int32.ofNat i → ∀ f f2, n < f → n + 1 < f2 → Out t L r [ac, at'] (Rqs aq ac at') T S p g (D_c_Reader_readMatch_31 F f 513 (Int32.ofNat i) (kR T L r g)) (D_m_matching_27 F f2 1 S) := by
  intro n
  induction n with
  | zero => intro i p g T S _ h0; omega
  | succ n ih =>
    intro i p g T S hi _ h hR h12 f f2 hf hf2
    obtain ⟨f, rfl⟩ : ∃ y, f = y + 1 := ⟨f - 1, by omega⟩
    obtain ⟨f2, rfl⟩ : ∃ y, f2 = y + 1 := ⟨f2 - 1, by omega⟩
    have nc' : ¬ ac = 513 := by have := hA.2.1; omega
    have nt' : ¬ at' = 513 := by have := hA.2.2.1; omega
    have nB : ¬ 514 ∈ [ac, at'] := fun q => by have := hA.2.1; have := hA.2.2.1; simp at q; omega
    have al : ∀ T g, Rqs aq ac at' T S → tal (kR T L r g) at' = some (Int32.ofNat 8) := fun T g hR => by
      obtain ⟨_, _, ⟨_, ff, _, _, q, _⟩, _⟩ := hR
      simp only [tal, show (kR T L r g).1 at' = some (.inr (.inl (0, 8, ff))) from (kR_ne nt').trans q]; rfl
    have xr : ∀ T S g, Rqs aq ac at' T S → tgr (kR T L r g) ac 7 5 = some (some at') := fun T S g hR => tgr_o (x := some at') ((kR_ne nc').trans hR.2.1) rfl
    have al' : ∀ T S g, Rqs aq ac at' T S → tal (kR T L r g) at' = some (Int32.ofNat 8) := fun T S g hR => by
      obtain ⟨_, _, ⟨_, ff, _, _, q, _⟩, _⟩ := hR
      simp only [tal, show (kR T L r g).1 at' = some (.inr (.inl (0, 8, ff))) from (kR_ne nt').trans q]; rfl
    have hL := h.1.1
    unfold D_c_Reader_readMatch_31 D_m_matching_27
    rw [h.2.2.2.2.2]
    simp only [Kr14, hr, Option.bind_some, xr T S g hR, al' T S g hR, ge_n (show i < 2147483648 by omega) (show 8 < 2147483648 by decide), decide_eq_false (show ¬ 8 ≤ i by omega), cond_false, Kcl, show m_c1 .eq (1 : Int32) = false from rfl, show m_c1 .ne (0 : Int32) = false from rfl]
    rw [show (34 : Int32) = Int32.ofNat 34 from rfl]
    rcases P_expect (F := F) (r := r) h (show 0 < 34 by decide) (show 34 < 127 by decide) with ⟨w1, g1, S1, a1, a2, a3, a4, a5⟩ | ⟨f0, g1, S1, a1, a2, a3, a4, a5, a6⟩
    · rw [a1, a2]
      simp only [bd2, Option.bind_some, show m_c1 .eq (1 : Int32) = false from rfl, cond_false, Kcl]
      rw [show (99999 : Int32) = Int32.ofNat 99999 from rfl]
      rcases P_number (F := F) (r := r) (m := 99999) a3.1 a3.2.1 a3.2.2.1 (by decide) a3.2.2.2.1 a3.2.2.2.2.1 a3.2.2.2.2.2 (by omega) with ⟨q, v, g2, S2, b1, b2, b3, b4, b5, b6, b7, b8, b9, b10, b11, b12⟩ | ⟨f', z, g2, S2, b1, b2, b3, b4, b5, b6⟩
      · rw [b1, b2]
        simp only [Option.bind_some, show m_c1 .eq (1 : Int32) = false from rfl, cond_false, Kcl]
        have st2 : St t L T S2 q g2 := a3.step b7 b3 b5 ((b12.1 5 (by decide)).trans a3.2.2.2.2.2) b12 (by decide)
        rcases P_expect (F := F) (r := r) st2 (show 0 < 34 by decide) (show 34 < 127 by decide) with ⟨w3, g3, S3, d1, d2, d3, d4, d5⟩ | ⟨f0, g3, S3, d1, d2, d3, d4, d5, d6⟩
        · rw [d1, d2]
          have F3 : Fs [4] S S3 := (a5.trans b12).trans d5
          have R3 : Rqs aq ac at' T S3 := hR.fs F3 (by decide)
          have s312 : S3.1 12 = Int32.ofNat i := (F3.1 12 (by decide)).trans h12
          have g39 : g3 9 = Int32.ofNat v := (d4 9 (by decide)).trans b4
          have G3 : Gs [2, 6, 7, 8, 9] g g3 := ((a4.mono (by decide)).trans (b11.mono (by decide))).trans (d4.mono (by decide))
          obtain ⟨T1, y1, y2, y3, y4⟩ := add_tag (F := F) (L := L) (r := r) (g := g3) R3 hA (show i < 8 by omega) s312 b9
          have i1 : Int32.ofNat i + 1 = Int32.ofNat (i + 1) := m_n_add i 1
          have i2 : Int32.ofNat i + Int32.ofInt 1 = Int32.ofNat (i + 1) := m_n_add i 1
          have ap : aput 8 S3 586 (Int32.ofNat i) (Int32.ofNat v) = some (up2 S3 586 i (Int32.ofNat v)) := aput_n (by omega) (by decide)
          obtain ⟨S4, hS4⟩ : ∃ z, z = up1 (up2 S3 586 i (Int32.ofNat v)) 12 (Int32.ofNat (i + 1)) := ⟨_, rfl⟩
          rw [← hS4] at y2
          have u12 : (up2 S3 586 i (Int32.ofNat v)).1 12 = Int32.ofNat i := s312
          have F4 : Fr [12] [586] S3 S4 := by rw [hS4]; exact (Fr.up2 (by decide)).trans (Fs.fr (Fs.up1 (by decide)))
          have s412 : S4.1 12 = Int32.ofNat (i + 1) := by rw [hS4]; exact up1_at
          have st4 : St t L T1 S4 (q + 1) g3 := d3.fr rfl F4 y3 nB (by decide) (by decide) (by decide) (by decide)
          have F04 : Fr Kv [585, 586] S S4 := (F3.to (by decide)).trans (F4.mono (by decide) (by decide))
          have C4 : Cs (kR T L r g) (kR T1 L r g3) 0 0 := ((kR_cs (g' := g3)).trans y4).mono (by decide) (by decide)
          have hl := st4.1.lt (p := q + 1)
          have tcA : tcl (kR T L r g3) ac 7 = some () := tcl_o ((kR_ne nc').trans R3.2.1)
          have e7 : Int32.ofNat 8 - 1 = Int32.ofNat 7 := rfl
          simp only [Option.bind_some, show m_c1 .ne (1 : Int32) = true from rfl, cond_true, Kr14, hr, Kg9, g39, tcA, y1, xr T1 S4 g3 y2, al' T1 S4 g3 y2, e7, eq_n (show i < 2147483648 by omega) (show 7 < 2147483648 by decide), Kcl, here_v st4.1 st4.2.2.2.1 st4.2.2.1, d3.2.2.2.2.2, show m_c1 .eq (0 : Int32) = true from rfl, s312, ap, fput, u12, i1, ← hS4, see_v st4.2.1 st4.2.2.2.2.1 st4.2.2.1, s412, st4.2.2.2.2.1, show (44 : Int32) = Int32.ofNat 44 from rfl, eq_n (show hc t L (q + 1) < 2147483648 by omega) (show 44 < 2147483648 by decide), sv_ne st4.2.1 (show 0 < 44 by decide) (show 44 < 127 by decide), show (8 : Int32) = Int32.ofNat 8 from rfl, ge_n (show i + 1 < 2147483648 by omega) (show 8 < 2147483648 by decide), i2]
          have stop : D_m_matching_132 F (D_m_matching_27 F f2) 0 S4 = some S4 := by
            obtain ⟨f2', rfl⟩ : ∃ y, f2 = y + 1 := ⟨f2 - 1, by omega⟩
            rfl
          by_cases w7 : i = 7
          · left
            refine ⟨q + 1, g3, T1, S4, ?_, ?_, st4, by omega, y2, G3, F04, y3, C4⟩
            · rw [decide_eq_true w7]; rfl
            · rw [decide_eq_true (show 8 ≤ i + 1 by omega)]
              cases decide (¬ hc t L (q + 1) = 44) <;> exact stop
          · by_cases w44 : hc t L (q + 1) = 44
            · have pL := hc_lt w44 (by decide)
              have j2 : Int32.ofNat (q + 1) + 1 = Int32.ofNat (q + 2) := m_n_add (q + 1) 1
              obtain ⟨g5, hg5⟩ : ∃ z, z = fup g3 2 (Int32.ofNat (q + 2)) := ⟨_, rfl⟩
              obtain ⟨S5, hS5⟩ : ∃ z, z = up1 S4 4 (Int32.ofNat (q + 2)) := ⟨_, rfl⟩
              have G5 : Gs [2] g3 g5 := by rw [hg5]; exact Gs.fup (by decide)
              have F5 : Fs [4] S4 S5 := by rw [hS5]; exact Fs.up1 (by decide)
              have st5 : St t L T1 S5 (q + 2) g5 := st4.step (by omega) (by rw [hg5]; exact fup_eq) (by rw [hS5]; exact up1_at) ((F5.1 5 (by decide)).trans st4.2.2.2.2.2) F5 (by decide)
              rw [decide_eq_false w7, decide_eq_true w44, decide_eq_false (show ¬ ¬ hc t L (q + 1) = 44 from fun n => n w44), decide_eq_false (show ¬ 8 ≤ i + 1 by omega)]
              simp only [cond_false, cond_true, Kg2, st4.2.2.2.1, j2, Kp2, ← hg5, Option.bind_some, Kcl, show m_c1 .eq (1 : Int32) = false from rfl, ← hS5]
              rw [show (32 : Int32) = Int32.ofNat 32 from rfl]
              rcases P_expect (F := F) (r := r) st5 (show 0 < 32 by decide) (show 32 < 127 by decide) with ⟨w5, g6, S6, z1, z2, z3, z4, z5⟩ | ⟨f0, g6, S6, z1, z2, z3, z4, z5, z6⟩
              · rw [z1, z2]
                have F06 : Fr Kv [585, 586] S S6 := (F04.trans (F5.to (by decide))).trans (z5.to (by decide))
                have C6 : Cs (kR T L r g) (kR T1 L r g6) 0 0 := (C4.trans kR_cs).mono (by decide) (by decide)
                have G6 : Gs [2, 6, 7, 8, 9] g g6 := (G3.trans (G5.mono (by decide))).trans (z4.mono (by decide))
                have R6 : Rqs aq ac at' T1 S6 := (y2.fs F5 (by decide)).fs z5 (by decide)
                have s612 : S6.1 12 = Int32.ofNat (i + 1) := by rw [z5.1 12 (by decide), F5.1 12 (by decide)]; exact s412
                rcases ih (i + 1) (q + 2 + 1) g6 T1 S6 (by omega) (by omega) z3 R6 s612 f f2 (by omega) (by omega) with ⟨p7, g7, T7, S7, v1, v2, v3, v4, v5, v6, v7, v8, v9⟩ | ⟨f0, g7, T7, S7, v1, v2, v3, v4, v5, v6, v7, v8⟩
                · left
                  exact ⟨p7, g7, T7, S7, v1, v2, v3, by omega, v5, G6.trans v6, F06.trans v7, y3.trans v8, (C6.trans v9).mono (by decide) (by decide)⟩
                · right
                  exact ⟨f0, g7, T7, S7, v1, v2, v3, v4, (G6.mono (by decide)).trans v5, (F06.mono (by decide) (by decide)).trans v6, y3.trans v7, (C6.trans v8).mono (by decide) (by decide)⟩
              · right
                rw [z1, z2]
                refine ⟨f0, g6, T1, S6, rfl, ?_, z3, Or.inl z4, ((G3.mono (by decide)).trans (G5.mono (by decide))).trans (z5.mono (by decide)), ((F04.mono (by decide) (by decide)).trans (F5.to (by decide))).trans (z6.to (by decide)), y3, (C4.trans kR_cs).mono (by decide) (by decide)⟩
                obtain ⟨f2', rfl⟩ : ∃ y, f2 = y + 1 := ⟨f2 - 1, by omega⟩
                show D_m_matching_27 F (f2' + 1) 1 S6 = some S6
                unfold D_m_matching_27
                rw [z4.1]
                rfl
            · left
              refine ⟨q + 1, g3, T1, S4, ?_, ?_, st4, by omega, y2, G3, F04, y3, C4⟩
              · rw [decide_eq_false w7, decide_eq_false w44]; rfl
              · rw [decide_eq_true w44]
                exact stop
        · right
          rw [d1, d2]
          refine ⟨f0, g3, T, S3, rfl, ?_, d3, Or.inl d4, ((a4.mono (by decide)).trans (b11.mono (by decide))).trans (d5.mono (by decide)), ((a5.to (by decide)).trans (b12.to (by decide))).trans (d6.to (by decide)), Ft.refl, kR_cs⟩
          simp only [Option.bind_some, d4.1, show m_c1 .eq (1 : Int32) = false from rfl, cond_false]
      · right
        rw [b1, b2]
        obtain ⟨S3, e1, e2, e3⟩ := b4.expect (F := F) (a3.2.1.fs b6 (by decide)) (show 0 < 34 by decide) (show 34 < 127 by decide) rfl
        refine ⟨f', g2, T, S3, rfl, ?_, b3, Or.inl e2, (a4.mono (by decide)).trans (b5.mono (by decide)), ((a5.to (by decide)).trans (b6.to (by decide))).trans (e3.to (by decide)), Ft.refl, kR_cs⟩
        simp only [Option.bind_some, e1, e2.1, show m_c1 .eq (1 : Int32) = false from rfl, cond_false]
    · right
      rw [a1, a2]
      refine ⟨f0, g1, T, S1, rfl, ?_, a3, Or.inl a4, a5.mono (by decide), a6.to (by decide), Ft.refl, kR_cs⟩
      simp only [Option.bind_some, number_d a4.1, a4.expect, a4.1, show m_c1 .eq (1 : Int32) = false from rfl, cond_false]
end
