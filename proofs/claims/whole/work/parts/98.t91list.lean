/-! A list of words, whatever they mean. -/
theorem Fs.to {K K' A : List Nat} {S S' : mS} (h : Fs K S S') (m : ∀ i ∈ K, i ∈ K') : Fr K' A S S' := (h.mono m).fr
section
variable {t : Nat → Nat} {L F : Nat} {r : Option Nat × Option Nat × Option Nat} {B : List Nat}
theorem P_listR {ck mk : Int32} {cs : tT → Option tT} {ms : mS → Option mS} {Rel : tT → mS → Prop}
    (nB : ¬ 513 ∈ B ∧ ¬ 514 ∈ B)
    (hcc : ∀ n i T, D_c_Reader_readList_2 F (n + 1) 513 ck i T = cond (m_c2 .ge i (300 : Int32)) ((tgi T 513 1 2).bind fun v3 => (tcl T 513 1).bind fun _ => bd2 (D_c_Reader_no F 513 v3 T) fun v9 T10 => (bret v9).bind fun v14 => some (v14, T10)) ((tcl T 513 1).bind fun _ => bd2 (D_c_Reader_readWord F 513 T) fun v20 T21 => cond (m_c1 .ne v20) ((tcl T21 513 1).bind fun _ => (cs T21).bind fun T94 => D_c_Reader_readList_69 F (D_c_Reader_readList_2 F n) 513 ck i T94) (some ((0 : Int32), T21))))
    (hmm : ∀ rec2 S, S.1 5 = 0 → D_m_list_139 F rec2 mk S = (ms S).bind fun S' => D_m_list_241 F rec2 mk S')
    (hst : ∀ T S g s e w, Tc t L T → Tp t L S → Wo L g S s e w → Rel T S → ∃ T1 S1, cs (kR T L r g) = some (kR T1 L r g) ∧ ms S = some S1 ∧ Rel T1 S1 ∧ Fr Kw [585] S S1 ∧ Ft B T T1 ∧ Cs (kR T L r g) (kR T1 L r g) 0 0)
    (hany : ∀ S s e, Tp t L S → s ≤ e → e ≤ L → S.1 80 = Int32.ofNat s → S.1 81 = Int32.ofNat e → ∃ S1, ms S = some S1 ∧ Fr Kw [585] S S1)
    (hrel : ∀ T S S', Rel T S → Fs [4, 80, 81, 82] S S' → Rel T S') (hF : 400 < F) :
    ∀ (n p i : Nat) (g : Nat → Int32) (T : tT) (S : mS), p + n = L → 2 * i ≤ p → St t L T S p g → Rel T S → ∀ f f2, n < f → n + 1 < f2 →
    (∃ p' g' T1 S', D_c_Reader_readList_2 F f 513 ck (Int32.ofNat i) (kR T L r g) = some (1, kR T1 L r g') ∧ D_m_list_2 F f2 mk 1 S = some S' ∧ St t L T1 S' p' g' ∧ p < p' ∧ Rel T1 S' ∧ Gs [2, 6, 7, 8, 9] g g' ∧ Fr Kl [585] S S' ∧ Ft B T T1 ∧ Cs (kR T L r g) (kR T1 L r g') 0 0) ∨
    (∃ f0 g' T1 S', D_c_Reader_readList_2 F f 513 ck (Int32.ofNat i) (kR T L r g) = some (0, kR T1 L r g') ∧ D_m_list_2 F f2 mk 1 S = some S' ∧ g' 3 = Int32.ofNat f0 ∧ Fl t L S' f0 ∧ Gs [2, 3, 6, 7, 8, 9] g g' ∧ Fr Km [585] S S' ∧ Ft B T T1 ∧ Cs (kR T L r g) (kR T1 L r g') 0 0 ∧ ∃ S9, Rel T1 S9) := by
  intro n
  induction n using Nat.strongRecOn with
  | ind n ih =>
    intro p i g T S hp hi h hR f f2 hf hf2
    obtain ⟨f, rfl⟩ : ∃ y, f = y + 1 := ⟨f - 1, by omega⟩
    obtain ⟨f2, rfl⟩ : ∃ y, f2 = y + 1 := ⟨f2 - 1, by omega⟩
    have hL := h.1.1
    have stop : ∀ x2 S, (x2 = 0 ∨ S.1 5 = 1) → D_m_list_2 F f2 mk x2 S = some S := by
      intro x2 S w
      obtain ⟨f2', rfl⟩ : ∃ y, f2 = y + 1 := ⟨f2 - 1, by omega⟩
      unfold D_m_list_2
      rcases w with w | w
      · rw [w]; rfl
      · rw [w]; cases m_c1 .eq x2 <;> rfl
    obtain ⟨S1, hS1⟩ : ∃ z, z = up1 S 80 (Int32.ofNat p) := ⟨_, rfl⟩
    have F1 : Fs [80] S S1 := by rw [hS1]; exact Fs.up1 (by decide)
    have st1 : St t L T S1 p g := h.keep rfl F1 (by decide) (by decide) (by decide)
    have m1 : D_m_list_2 F (f2 + 1) mk 1 S = D_m_list_21 F (D_m_list_2 F f2) F mk S1 := by
      conv => lhs; unfold D_m_list_2
      rw [h.2.2.2.2.2, h.2.2.2.2.1, hS1]
      rfl
    have c1 : D_c_Reader_readList_2 F (f + 1) 513 ck (Int32.ofNat i) (kR T L r g) = bd2 (D_c_Reader_readWord F 513 (kR T L r g)) fun v20 T21 => cond (m_c1 .ne v20) ((tcl T21 513 1).bind fun _ => (cs T21).bind fun T94 => D_c_Reader_readList_69 F (D_c_Reader_readList_2 F f) 513 ck (Int32.ofNat i) T94) (some ((0 : Int32), T21)) := by
      rw [hcc, show (300 : Int32) = Int32.ofNat 300 from rfl, ge_n (by omega) (by decide), decide_eq_false (by omega), cond_false, Kcl, Option.bind_some]
    rcases P_item (F := F) (r := r) (x1 := mk) (rec2 := D_m_list_2 F f2) st1 (by rw [hS1]; exact up1_at) hF with ⟨p', s, e, w, g2, S2, a1, a2, a3, a4, a5, a6, a7⟩ | ⟨f0, s, e, g2, S2, a1, a2, a3, a4, a5, a6, a7, a8, a9, a10, a11⟩
    · obtain ⟨T1, S3, b1, b2, b3, b4, b5, b6⟩ := hst T S2 g2 s e w a3.1 a3.2.1 a5 (hrel T S S2 hR ((F1.mono (by decide)).trans (a7.mono (by decide))))
      have st3 : St t L T1 S3 p' g2 := a3.fr rfl b4 b5 nB.2 (by decide) (by decide) (by decide) (by decide)
      have F3 : Fr Kl [585] S S3 := (F1.to (by decide)).trans ((a7.to (by decide)).trans (b4.mono (by decide) (by decide)))
      have cs3 : Cs (kR T L r g) (kR T1 L r g2) 0 0 := ((kR_cs (g' := g2)).trans b6).mono (by decide) (by decide)
      have hl := st3.1.lt (p := p')
      have i2 : Int32.ofNat p' + 1 = Int32.ofNat (p' + 1) := m_n_add p' 1
      have i1 : Int32.ofNat i + Int32.ofInt 1 = Int32.ofNat (i + 1) := m_n_add i 1
      have cB : D_c_Reader_readList_2 F (f + 1) 513 ck (Int32.ofNat i) (kR T L r g) = cond (decide (hc t L p' = 44)) (bd2 (D_c_Reader_expect F 513 (Int32.ofNat 32) (kR T1 L r (fup g2 2 (Int32.ofNat (p' + 1))))) fun v145 T146 => cond (m_c1 .ne v145) (D_c_Reader_readList_2 F f 513 ck (Int32.ofNat (i + 1)) T146) (some ((0 : Int32), T146))) (some (1, kR T1 L r g2)) := by
        rw [c1, a1]
        simp only [bd2, Option.bind_some, show m_c1 .ne (1 : Int32) = true from rfl, cond_true, Kcl, b1]
        unfold D_c_Reader_readList_69
        simp only [Kcl, Option.bind_some, here_v st3.1 st3.2.2.2.1 st3.2.2.1, Kg2, st3.2.2.2.1, i2, Kp2, i1, bd2]
        rw [show (44 : Int32) = Int32.ofNat 44 from rfl, eq_n (by omega) (by decide)]
        rfl
      have mB : D_m_list_2 F (f2 + 1) mk 1 S = cond (decide (hc t L p' = 44)) ((D_m_expect F (Int32.ofNat 32) (up1 S3 4 (Int32.ofNat (p' + 1)))).bind fun q79 => D_m_list_2 F f2 mk 1 q79.2) (some S3) := by
        rw [m1, a2, hmm _ _ a3.2.2.2.2.2, b2, Option.bind_some]
        unfold D_m_list_241
        rw [see_v st3.2.1 st3.2.2.2.2.1 st3.2.2.1, Option.bind_some, show (44 : Int32) = Int32.ofNat 44 from rfl, sv_ne st3.2.1 (by decide) (by decide), st3.2.2.2.2.1, i2]
        by_cases w44 : hc t L p' = 44
        · rw [decide_eq_true w44, decide_eq_false (show ¬ ¬ hc t L p' = 44 from fun n => n w44)]
          rfl
        · rw [decide_eq_false w44, decide_eq_true w44]
          exact stop 0 S3 (Or.inl rfl)
      by_cases w44 : hc t L p' = 44
      · rw [decide_eq_true w44, cond_true] at cB mB
        have pL : p' < L := hc_lt w44 (by decide)
        obtain ⟨g4, hg4⟩ : ∃ z, z = fup g2 2 (Int32.ofNat (p' + 1)) := ⟨_, rfl⟩
        obtain ⟨S4, hS4⟩ : ∃ z, z = up1 S3 4 (Int32.ofNat (p' + 1)) := ⟨_, rfl⟩
        have G4 : Gs [2] g2 g4 := by rw [hg4]; exact Gs.fup (by decide)
        have F4 : Fs [4] S3 S4 := by rw [hS4]; exact Fs.up1 (by decide)
        have st4 : St t L T1 S4 (p' + 1) g4 := st3.step pL (by rw [hg4]; exact fup_eq) (by rw [hS4]; exact up1_at) ((F4.1 5 (by decide)).trans st3.2.2.2.2.2) F4 (by decide)
        rw [← hg4] at cB
        rw [← hS4] at mB
        rcases P_expect (F := F) (r := r) st4 (show 0 < 32 by decide) (show 32 < 127 by decide) with ⟨w', g5, S5, d1, d2, d3, d4, d5⟩ | ⟨f0, g5, S5, d1, d2, d3, d4, d5, d6⟩
        · have cC : D_c_Reader_readList_2 F (f + 1) 513 ck (Int32.ofNat i) (kR T L r g) = D_c_Reader_readList_2 F f 513 ck (Int32.ofNat (i + 1)) (kR T1 L r g5) := by rw [cB, d1]; rfl
          have mC : D_m_list_2 F (f2 + 1) mk 1 S = D_m_list_2 F f2 mk 1 S5 := by rw [mB, d2]; rfl
          have p5 := d3.2.2.1
          have F5 : Fr Kl [585] S S5 := F3.trans ((F4.to (by decide)).trans (d5.to (by decide)))
          have G5 : Gs [2, 6, 7, 8, 9] g g5 := a6.trans ((G4.mono (by decide)).trans (d4.mono (by decide)))
          have C5 : Cs (kR T L r g) (kR T1 L r g5) 0 0 := (cs3.trans kR_cs).mono (by decide) (by decide)
          have R5 : Rel T1 S5 := hrel T1 S3 S5 b3 ((F4.mono (by decide)).trans (d5.mono (by decide)))
          rw [cC, mC]
          rcases ih (L - (p' + 1 + 1)) (by omega) (p' + 1 + 1) (i + 1) g5 T1 S5 (by omega) (by omega) d3 R5 f f2 (by omega) (by omega) with ⟨p6, g6, T6, S6, y1, y2, y3, y4, y5, y6, y7, y8, y9⟩ | ⟨f0, g6, T6, S6, y1, y2, y3, y4, y5, y6, y7, y8, y10⟩
          · left
            exact ⟨p6, g6, T6, S6, y1, y2, y3, by omega, y5, G5.trans y6, F5.trans y7, b5.trans y8, (C5.trans y9).mono (by decide) (by decide)⟩
          · right
            exact ⟨f0, g6, T6, S6, y1, y2, y3, y4, (G5.mono (by decide)).trans y5, (F5.mono (by decide) (by decide)).trans y6, b5.trans y7, (C5.trans y8).mono (by decide) (by decide), y10⟩
        · right
          refine ⟨f0, g5, T1, S5, by rw [cB, d1]; rfl, ?_, d3, Or.inl d4, (a6.mono (by decide)).trans ((G4.mono (by decide)).trans (d5.mono (by decide))), (F3.mono (by decide) (by decide)).trans ((F4.to (by decide)).trans (d6.to (by decide))), b5, (cs3.trans kR_cs).mono (by decide) (by decide), _, b3⟩
          rw [mB, d2]
          exact stop 1 S5 (Or.inr d4.1)
      · rw [decide_eq_false w44, cond_false] at cB mB
        left
        exact ⟨p', g2, T1, S3, cB, mB, st3, a4, b3, a6, F3, b5, cs3⟩
    · right
      have cB : D_c_Reader_readList_2 F (f + 1) 513 ck (Int32.ofNat i) (kR T L r g) = some (0, kR T L r g2) := by rw [c1, a1]; rfl
      have F3 : Fr Km [585] S S2 := (F1.to (by decide)).trans (a11.to (by decide))
      rcases a4 with ⟨q1', q2'⟩ | ⟨q1', q2', q3', q4'⟩
      · refine ⟨f0, g2, T, S2, cB, ?_, a3, Or.inl ⟨q1', q2'⟩, a10, F3, Ft.refl, kR_cs, _, hR⟩
        rw [m1, a2]
        unfold D_m_list_139
        rw [q1']
        rfl
      · obtain ⟨S3, b1, b2⟩ := hany S2 s e a5 a6 a7 a8 a9
        have fl3 : Fl t L S3 f0 := Fl.fr (Or.inr ⟨q1', q2', q3', q4'⟩) b2 (by decide) (by decide) (by decide)
        refine ⟨f0, g2, T, S3, cB, ?_, a3, fl3, a10, F3.trans (b2.mono (by decide) (by decide)), Ft.refl, kR_cs, _, hR⟩
        rw [m1, a2, hmm _ _ q1', b1, Option.bind_some]
        have tp3 : Tp t L S3 := a5.fr b2 (by decide) (by decide)
        have s4 : S3.1 4 = Int32.ofNat f0 := (b2.1 4 (by decide)).trans q2'
        unfold D_m_list_241
        rw [see_v tp3 s4 (Nat.le_of_lt q3'), Option.bind_some, show (44 : Int32) = Int32.ofNat 44 from rfl, sv_ne tp3 (by decide) (by decide), decide_eq_true (show ¬ hc t L f0 = 44 from fun q => by rw [q] at q4'; cases q4')]
        exact stop 0 S3 (Or.inl rfl)
theorem P_list {ck mk : Int32} {cs : tT → Option tT} {ms : mS → Option mS} {Rel : tT → mS → Prop}
    (nB : ¬ 513 ∈ B ∧ ¬ 514 ∈ B)
    (hcc : ∀ n i T, D_c_Reader_readList_2 F (n + 1) 513 ck i T = cond (m_c2 .ge i (300 : Int32)) ((tgi T 513 1 2).bind fun v3 => (tcl T 513 1).bind fun _ => bd2 (D_c_Reader_no F 513 v3 T) fun v9 T10 => (bret v9).bind fun v14 => some (v14, T10)) ((tcl T 513 1).bind fun _ => bd2 (D_c_Reader_readWord F 513 T) fun v20 T21 => cond (m_c1 .ne v20) ((tcl T21 513 1).bind fun _ => (cs T21).bind fun T94 => D_c_Reader_readList_69 F (D_c_Reader_readList_2 F n) 513 ck i T94) (some ((0 : Int32), T21))))
    (hmm : ∀ rec2 S, S.1 5 = 0 → D_m_list_139 F rec2 mk S = (ms S).bind fun S' => D_m_list_241 F rec2 mk S')
    (hst : ∀ T S g s e w, Tc t L T → Tp t L S → Wo L g S s e w → Rel T S → ∃ T1 S1, cs (kR T L r g) = some (kR T1 L r g) ∧ ms S = some S1 ∧ Rel T1 S1 ∧ Fr Kw [585] S S1 ∧ Ft B T T1 ∧ Cs (kR T L r g) (kR T1 L r g) 0 0)
    (hany : ∀ S s e, Tp t L S → s ≤ e → e ≤ L → S.1 80 = Int32.ofNat s → S.1 81 = Int32.ofNat e → ∃ S1, ms S = some S1 ∧ Fr Kw [585] S S1)
    (hrel : ∀ T S S', Rel T S → Fs [4, 80, 81, 82] S S' → Rel T S') (hF : 400 < F) :
    ∀ (n p i : Nat) (g : Nat → Int32) (T : tT) (S : mS), p + n = L → 2 * i ≤ p → St t L T S p g → Rel T S → ∀ f f2, n < f → n + 1 < f2 →
    (∃ p' g' T1 S', D_c_Reader_readList_2 F f 513 ck (Int32.ofNat i) (kR T L r g) = some (1, kR T1 L r g') ∧ D_m_list_2 F f2 mk 1 S = some S' ∧ St t L T1 S' p' g' ∧ p < p' ∧ Rel T1 S' ∧ Gs [2, 6, 7, 8, 9] g g' ∧ Fr Kl [585] S S' ∧ Ft B T T1 ∧ Cs (kR T L r g) (kR T1 L r g') 0 0) ∨
    (∃ f0 g' T1 S', D_c_Reader_readList_2 F f 513 ck (Int32.ofNat i) (kR T L r g) = some (0, kR T1 L r g') ∧ D_m_list_2 F f2 mk 1 S = some S' ∧ g' 3 = Int32.ofNat f0 ∧ Fl t L S' f0 ∧ Gs [2, 3, 6, 7, 8, 9] g g' ∧ Fr Km [585] S S' ∧ Ft B T T1 ∧ Cs (kR T L r g) (kR T1 L r g') 0 0) := by
  intro n p i g T S a1 a2 a3 a4 f f2 a5 a6
  rcases P_listR nB hcc hmm hst hany hrel hF n p i g T S a1 a2 a3 a4 f f2 a5 a6 with h | ⟨f0, g6, T6, S6, y1, y2, y3, y4, y5, y6, y7, y8, _⟩
  · exact Or.inl h
  · exact Or.inr ⟨f0, g6, T6, S6, y1, y2, y3, y4, y5, y6, y7, y8⟩
end
