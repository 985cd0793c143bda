/-! The lines of a thing, and the end of a text. -/
abbrev Kz : List Nat := [4, 5, 6, 31, 80, 81, 82, 9, 10, 11, 12, 13, 14, 15, 16, 17, 18, 19, 20, 23, 24, 25, 26, 27, 28, 29, 30]
abbrev Az : List Nat := [585, 586, 587, 588]
abbrev Gz : List Nat := [2, 3, 5, 6, 7, 8, 9]
section
variable {T T' : tT} {S S' : mS} {t : Nat → Nat} {L p s e F k c m n a : Nat} {g g' : Nat → Int32} {r : Option Nat × Option Nat × Option Nat} {K A B : List Nat} {x : Int32} {w : Option Nat} {Rel : tT → mS → Prop}
theorem Nm.keep {T1 : tT} {p' : Nat} (h : Nm t L T S g n p) (hp : p ≤ p') (hg : Gs [2, 3, 6, 7, 8, 9] g g') (hS : Fr Kv [585, 586] S S') (hT : Ft B T T1) (nB : ¬ 515 ∈ B) : Nm t L T1 S' g' n p' := by
  obtain ⟨n1, n2, n3, f2, n4, n5⟩ := h
  refine ⟨by omega, (hg 5 (by decide)).trans n2, (hS.1 31 (by decide)).trans n3, f2, (hT.1 515 nB).trans n4, fun k hk => ?_⟩
  rw [hS.2 587 k (by decide), hS.2 588 k (by decide)]
  exact n5 k hk
theorem Td.fr (h : Td a T S) {T1 : tT} (hS : Fr [4, 31] [587, 588] S S') (hT : T1.1 a = T.1 a) : Td a T1 S' := by
  obtain ⟨h1, h2⟩ := h
  have q : ∀ i, ¬ i ∈ [4, 31] → S'.1 i = S.1 i := hS.1
  have e1 : tdv S' = tdv S := by
    funext i
    unfold tdv
    split <;> first | rfl | exact q _ (by decide)
  refine ⟨by rw [e1, hT]; exact h1, ?_⟩
  unfold okD
  rw [q 23 (by decide), q 25 (by decide), q 26 (by decide), q 27 (by decide), q 29 (by decide), q 30 (by decide), q 24 (by decide), q 28 (by decide)]
  exact h2
theorem P_lines (na : ¬ a = 513 ∧ ¬ a = 514 ∧ ¬ a = 515) (hr : r.2.2 = some a) (hF : 400 < F) : ∀ (m i n p : Nat) (g : Nat → Int32) (T : tT) (S : mS), p + m = L → 2 * i ≤ p → St t L T S p g → Nm t L T S g n p → Td a T S → ∀ f f2, m + 1 < f → m + 1 < f2 →
    (∃ p' g' T1 S', D_c_Reader_readThing_40 F f 513 1 (Int32.ofNat i) (kR T L r g) = D_c_Reader_readThing_95 F 513 1 (kR T1 L r g') ∧ D_m_readText_177 F f2 0 S = D_m_readText_201 F S' ∧ St t L T1 S' p' g' ∧ Td a T1 S' ∧ Gs [2, 5, 6, 7, 8, 9] g g' ∧ Fr Kz Az S S' ∧ Ft [515, a] T T1 ∧ Cs (kR T L r g) (kR T1 L r g') 0 0 ∧ ∃ f9, T1.1 515 = some (.inr (.inl (0, 300, f9)))) ∨
    (∃ f0 g' T1 S', D_c_Reader_readThing_40 F f 513 1 (Int32.ofNat i) (kR T L r g) = some (none, kR T1 L r g') ∧ D_m_readText_177 F f2 0 S = D_m_readText_201 F S' ∧ g' 3 = Int32.ofNat f0 ∧ Dd S' f0 ∧ Gs Gz g g' ∧ Fr Kz Az S S' ∧ Ft [515, a] T T1 ∧ Cs (kR T L r g) (kR T1 L r g') 0 0 ∧ ∃ f9, T1.1 515 = some (.inr (.inl (0, 300, f9)))) := by
  intro m
  induction m using Nat.strongRecOn with
  | ind m ih =>
    intro i n p g T S hp hi h hN hR f f2 hf hf2
    obtain ⟨f, rfl⟩ : ∃ y, f = y + 1 := ⟨f - 1, by omega⟩
    obtain ⟨f2, rfl⟩ : ∃ y, f2 = y + 1 := ⟨f2 - 1, by omega⟩
    obtain ⟨h1, h2, h3, h4, h5, h6⟩ := id h
    have hL := h1.1
    have hl := h1.lt (p := p)
    have N5 : ∃ f9, T.1 515 = some (.inr (.inl (0, 300, f9))) := by
      obtain ⟨_, _, _, f9, q, _⟩ := hN
      exact ⟨f9, q⟩
    have i1 : Int32.ofNat i + Int32.ofInt 1 = Int32.ofNat (i + 1) := m_n_add i 1
    have cdead : ∀ T', D_c_Reader_readThing_40 F f 513 0 (Int32.ofNat (i + 1)) T' = some (none, T') := by
      intro T'
      obtain ⟨f', rfl⟩ : ∃ y, f = y + 1 := ⟨f - 1, by omega⟩
      unfold D_c_Reader_readThing_40
      cases m_c2 .ge (Int32.ofNat (i + 1)) (300 : Int32) <;> rfl
    have mdead : ∀ S', S'.1 5 = 1 → D_m_readText_177 F f2 0 S' = D_m_readText_201 F S' := by
      intro S' w
      obtain ⟨f2', rfl⟩ : ∃ y, f2 = y + 1 := ⟨f2 - 1, by omega⟩
      unfold D_m_readText_177
      rw [w]
      rfl
    by_cases w10 : hc t L p = 10
    · left
      refine ⟨p, g, T, S, ?_, ?_, h, hR, Gs.refl, Fr.refl, Ft.refl, kR_cs, N5⟩
      · conv => lhs; unfold D_c_Reader_readThing_40
        rw [show (300 : Int32) = Int32.ofNat 300 from rfl, ge_n (by omega) (by decide), decide_eq_false (by omega), cond_false, show m_c1 .eq (1 : Int32) = false from rfl, cond_false, Kcl, Option.bind_some, here_v h1 h4 h3, Option.bind_some, show (10 : Int32) = Int32.ofNat 10 from rfl, eq_n (by omega) (by decide), decide_eq_true w10, cond_true]
      · conv => lhs; unfold D_m_readText_177
        rw [h6, show m_c1 .ne (0 : Int32) = false from rfl, cond_false, see_v h2 h5 h3, Option.bind_some, show (10 : Int32) = Int32.ofNat 10 from rfl, sv_eq h2 (by decide) (by decide), decide_eq_true w10, cond_true]
    · have c1 : D_c_Reader_readThing_40 F (f + 1) 513 1 (Int32.ofNat i) (kR T L r g) = bd2 (D_c_Reader_readName F 513 (kR T L r g)) fun v76 T77 => cond (m_c1 .eq v76) (D_c_Reader_readThing_87 F (D_c_Reader_readThing_40 F f) 513 (Int32.ofNat i) T77) ((tcl T77 513 1).bind fun _ => bd2 (D_c_Reader_readToldValue F 513 T77) fun v100 T101 => cond (m_c1 .eq v100) (D_c_Reader_readThing_87 F (D_c_Reader_readThing_40 F f) 513 (Int32.ofNat i) T101) ((tcl T101 513 1).bind fun _ => bd2 (D_c_Reader_expect F 513 (10 : Int32) T101) fun v124 T125 => (cond (m_c1 .eq v124) (some (0 : Int32)) (some (1 : Int32))).bind fun v133 => D_c_Reader_readThing_40 F f 513 v133 (Int32.ofNat (i + 1)) T125)) := by
        conv => lhs; unfold D_c_Reader_readThing_40
        rw [show (300 : Int32) = Int32.ofNat 300 from rfl, ge_n (by omega) (by decide), decide_eq_false (by omega), cond_false, show m_c1 .eq (1 : Int32) = false from rfl, cond_false, Kcl, Option.bind_some, here_v h1 h4 h3, Option.bind_some, show (10 : Int32) = Int32.ofNat 10 from rfl, eq_n (by omega) (by decide), decide_eq_false w10, cond_false, Option.bind_some, i1]
      have m1 : D_m_readText_177 F (f2 + 1) 0 S = (D_m_line F 0 S).bind fun S78 => D_m_readText_177 F f2 0 S78 := by
        conv => lhs; unfold D_m_readText_177
        rw [h6, show m_c1 .ne (0 : Int32) = false from rfl, cond_false, see_v h2 h5 h3, Option.bind_some, show (10 : Int32) = Int32.ofNat 10 from rfl, sv_eq h2 (by decide) (by decide), decide_eq_false w10, cond_false]
      have m2 : D_m_line F 0 S = cond (decide (p < L)) ((D_m_name F S).bind fun q2 => cond (m_c1 .ne q2.1) (D_m_line_50 F 0 q2.2) (some q2.2)) (some (up1 (up1 S 5 1) 6 (Int32.ofNat L))) := by
        unfold D_m_line
        rw [h5, h2.2.1, lt_n (by omega) (by omega), wrong_m h6]
        rfl
      rcases P_name (F := F) (r := r) h hN hF with ⟨p', s, e, g2, T1, S1, a1, a2, a3, a4, a5, a6, a7, a8, a9, a10, a11, a12, a13, a14, a15, a16, _⟩ | ⟨f0, g2, S1, a1, a2, a3, a4, a5, a6⟩
      · have pL : p < L := by have := a3.2.2.1; omega
        have aB : ¬ a ∈ [515] := fun q => na.2.2 (List.mem_singleton.mp q)
        have R1 : Td a T1 S1 := hR.fr a14 (a15.1 a aB)
        obtain ⟨mv, b1, b2⟩ := P_told (F := F) (r := r) (p := p') a3 R1 ⟨na.1, na.2.1⟩ hr hF a6 a7 a8 a4.2.2.1 a9 a10 a11 a12
        have m3 : D_m_readText_177 F (f2 + 1) 0 S = (mv.bind (D_m_line_241 F)).bind fun S78 => D_m_readText_177 F f2 0 S78 := by
          rw [m1, m2, decide_eq_true pL, cond_true, a2, Option.bind_some, ← b1]
          rfl
        have F1 : Fr Kz Az S S1 := a14.mono (by decide) (by decide)
        have ft1 : Ft [515, a] T T1 := a15.mono (by simp)
        rcases b2.nl (F := F) a3.2.1 (fun T S S' hR f => hR.fs f) with ⟨p2, g3, T2, S2, y1, y2, y3, y4, y5, y6, y7, y8, y9⟩ | ⟨f0, g3, T2, S2, y1, y2, y3, y4, y5, y6, y7, y8⟩
        · have c2 : D_c_Reader_readThing_40 F (f + 1) 513 1 (Int32.ofNat i) (kR T L r g) = D_c_Reader_readThing_40 F f 513 1 (Int32.ofNat (i + 1)) (kR T2 L r g3) := by
            rw [c1, a1]
            simp only [bd2, Option.bind_some, show m_c1 .eq (1 : Int32) = false from rfl, cond_false, Kcl]
            rcases b2 with ⟨_, g4, T4, _, z1, _⟩ | ⟨_, g4, T4, _, z1, _⟩
            · rw [z1] at y1 ⊢
              have y1' : D_c_Reader_expect F 513 10 (kR T4 L r g4) = some (1, kR T2 L r g3) := y1
              simp only [Option.bind_some, show m_c1 .eq (1 : Int32) = false from rfl, cond_false, Kcl]
              rw [y1']
              rfl
            · rw [z1] at y1
              cases y1
          have m4 : D_m_readText_177 F (f2 + 1) 0 S = D_m_readText_177 F f2 0 S2 := by rw [m3, y2]; rfl
          rw [c2, m4]
          have p2L := y3.2.2.1
          rcases ih (L - p2) (by omega) (i + 1) (n + 1) p2 g3 T2 S2 (by omega) (by omega) y3 (a4.keep (by omega) (y6.mono (by decide)) y7 y8 (fun q => na.2.2 (List.mem_singleton.mp q).symm)) y5 f f2 (by omega) (by omega) with ⟨p5, g5, T5, S5, d1, d2, d3, d4, d5, d6, d7, d8, d9⟩ | ⟨f0, g5, T5, S5, d1, d2, d3, d4, d5, d6, d7, d8, d9⟩
          · left
            exact ⟨p5, g5, T5, S5, d1, d2, d3, d4, (a13.mono (by decide)).trans ((y6.mono (by decide)).trans d5), F1.trans ((y7.mono (by decide) (by decide)).trans d6), ft1.trans ((y8.mono (by simp)).trans d7), ((a16.trans y9).trans d8).mono (by decide) (by decide), d9⟩
          · right
            exact ⟨f0, g5, T5, S5, d1, d2, d3, d4, (a13.mono (by decide)).trans ((y6.mono (by decide)).trans d5), F1.trans ((y7.mono (by decide) (by decide)).trans d6), ft1.trans ((y8.mono (by simp)).trans d7), ((a16.trans y9).trans d8).mono (by decide) (by decide), d9⟩
        · right
          have N6 : ∃ f9, T2.1 515 = some (.inr (.inl (0, 300, f9))) := by
            obtain ⟨_, _, _, f9, q, _⟩ := a4
            exact ⟨f9, (y7.1 515 (fun q => na.2.2 (List.mem_singleton.mp q).symm)).trans q⟩
          refine ⟨f0, g3, T2, S2, ?_, ?_, y3, y4, (a13.mono (by decide)).trans (y5.mono (by decide)), F1.trans (y6.mono (by decide) (by decide)), ft1.trans (y7.mono (by simp)), (a16.trans y8).mono (by decide) (by decide), N6⟩
          · rw [c1, a1]
            simp only [bd2, Option.bind_some, show m_c1 .eq (1 : Int32) = false from rfl, cond_false, Kcl]
            rcases b2 with ⟨_, g4, T4, _, z1, _⟩ | ⟨_, g4, T4, _, z1, _⟩
            · rw [z1] at y1 ⊢
              have y1' : D_c_Reader_expect F 513 10 (kR T4 L r g4) = some (0, kR T2 L r g3) := y1
              simp only [Option.bind_some, show m_c1 .eq (1 : Int32) = false from rfl, cond_false, Kcl]
              rw [y1']
              exact cdead _
            · rw [z1] at y1 ⊢
              have y1'' : some ((0 : Int32), kR T4 L r g4) = some (0, kR T2 L r g3) := y1
              have y1' : kR T4 L r g4 = kR T2 L r g3 := (Prod.mk.inj (Option.some.inj y1'')).2
              rw [← y1']
              show D_c_Reader_readThing_40 F f 513 0 (Int32.ofNat i + Int32.ofInt 1) _ = _
              rw [i1]
              exact cdead _
          · rw [m3, y2]
            exact mdead S2 y4.1
      · right
        by_cases pL : p < L
        · refine ⟨f0, g2, T, S1, ?_, ?_, a3, a4, a5.mono (by decide), a6.to (by decide), Ft.refl, kR_cs, N5⟩
          · rw [c1, a1]
            show D_c_Reader_readThing_40 F f 513 0 (Int32.ofNat i + Int32.ofInt 1) _ = _
            rw [i1]
            exact cdead _
          · rw [m1, m2, decide_eq_true pL, cond_true, a2]
            exact mdead S1 a4.1
        · have pe : p = L := by omega
          obtain ⟨e, e1, e2, e3, e4⟩ := ex_run (t := t) (L := L) isS rfl (L - p) p (by omega)
          have f0e : Int32.ofNat f0 = Int32.ofNat L := by
            have q : D_m_name F S = some (0, up1 (up1 S 5 1) 6 (Int32.ofNat p)) := by
              unfold D_m_name
              obtain ⟨F', rfl⟩ : ∃ y, F = y + 1 := ⟨F - 1, by omega⟩
              unfold D_m_name_5
              have hz : hc t L p = 0 := by unfold hc; rw [if_neg pL]
              rw [see_v h2 h5 h3, Option.bind_some, sm_m h2, Option.bind_some, b_eq0, hz, show (!(isS 0)) = true from rfl, cond_true, h5, ne_n (by omega) (by omega), decide_eq_false (show ¬ ¬ p = p from fun n => n rfl), cond_false, wrong_m h6]
              rfl
            rw [q] at a2
            cases a2
            rw [← a4.2, up1_at, pe]
          refine ⟨f0, g2, T, up1 (up1 S 5 1) 6 (Int32.ofNat L), ?_, ?_, a3, ⟨by rw [up1_no (by decide), up1_at], by rw [f0e]; exact up1_at⟩, a5.mono (by decide), (Fs.to (K := [5, 6]) ((Fs.up1 (by decide)).trans (Fs.up1 (by decide))) (by decide)), Ft.refl, kR_cs, N5⟩
          · rw [c1, a1]
            show D_c_Reader_readThing_40 F f 513 0 (Int32.ofNat i + Int32.ofInt 1) _ = _
            rw [i1]
            exact cdead _
          · rw [m1, m2, decide_eq_false pL, cond_false]
            exact mdead _ (by rw [up1_no (by decide), up1_at])
/-- the end of a text -/
theorem P_fine (h : St t L T S p g) :
    (∃ g' S', D_c_Reader_readEnd F 513 (kR T L r g) = some (1, kR T L r g') ∧ D_m_readText_201 F S = some (1, up1 (up1 S' 2 0) 3 (-1)) ∧ Gs [2] g g' ∧ Fs [4] S S') ∨
    (∃ f0 g' S', D_c_Reader_readEnd F 513 (kR T L r g) = some (0, kR T L r g') ∧ D_m_readText_201 F S = some (0, up1 (up1 S' 2 0) 3 (Int32.ofNat f0)) ∧ g' 3 = Int32.ofNat f0 ∧ Gs [2, 3] g g' ∧ Fs [4, 5, 6] S S') := by
  have fin0 : ∀ S', S'.1 5 = 0 → D_m_readText_235 F S' = some (1, up1 (up1 S' 2 0) 3 (-1)) := by
    intro S' w
    have q1' : (up1 S' 2 0).1 5 = 0 := (up1_no (by decide)).trans w
    have q2' : (up1 (up1 S' 2 0) 3 (-1)).1 5 = 0 := (up1_no (by decide)).trans q1'
    unfold D_m_readText_235
    simp only [fput, Option.bind_some, q1', show m_c1 .eq (0 : Int32) = true from rfl, cond_true, q2', show m_c1 .ne (0 : Int32) = false from rfl, cond_false]
    rfl
  have fin1 : ∀ S' f0, Dd S' f0 → D_m_readText_235 F S' = some (0, up1 (up1 S' 2 0) 3 (Int32.ofNat f0)) := by
    intro S' f0 w
    have q1' : (up1 S' 2 0).1 5 = 1 := (up1_no (by decide)).trans w.1
    have q6' : (up1 S' 2 0).1 6 = Int32.ofNat f0 := (up1_no (by decide)).trans w.2
    have q2' : (up1 (up1 S' 2 0) 3 (Int32.ofNat f0)).1 5 = 1 := (up1_no (by decide)).trans q1'
    unfold D_m_readText_235
    simp only [fput, Option.bind_some, q1', show m_c1 .eq (1 : Int32) = false from rfl, cond_false, q6', q2', show m_c1 .ne (1 : Int32) = true from rfl, cond_true]
    rfl
  have hL := h.1.1
  unfold D_c_Reader_readEnd D_m_readText_201
  rw [Kcl, Option.bind_some]
  rcases P_expect (F := F) (r := r) h (show 0 < 10 by decide) (show 10 < 127 by decide) with ⟨w, g1, S1, a1, a2, a3, a4, a5⟩ | ⟨f0, g1, S1, a1, a2, a3, a4, a5, a6⟩
  · rw [show (10 : Int32) = Int32.ofNat 10 from rfl, a1, a2]
    have p1L := a3.2.2.1
    simp only [bd2, Option.bind_some, show m_c1 .eq (1 : Int32) = false from rfl, cond_false, Kg2, a3.2.2.2.1, KgL, eq_n (show p + 1 < 2147483648 by omega) (show L < 2147483648 by omega), a3.2.2.2.2.2, show m_c1 .ne (0 : Int32) = false from rfl, a3.2.2.2.2.1, a3.2.1.2.1, ge_n (show p + 1 < 2147483648 by omega) (show L < 2147483648 by omega)]
    by_cases w2 : p + 1 = L
    · left
      refine ⟨g1, S1, ?_, ?_, a4, a5⟩
      · rw [decide_eq_true w2]; rfl
      · rw [decide_eq_true (show L ≤ p + 1 by omega)]; exact fin0 S1 a3.2.2.2.2.2
    · right
      refine ⟨p + 1, fup g1 3 (Int32.ofNat (p + 1)), up1 (up1 S1 5 1) 6 (Int32.ofNat (p + 1)), ?_, ?_, fup_eq, (a4.mono (by decide)).trans (Gs.fup (by decide)), (a5.mono (by decide)).trans ((Fs.up1 (by decide)).trans (Fs.up1 (by decide)))⟩
      · rw [decide_eq_false w2, cond_false, Kcl, Option.bind_some, no_c]; rfl
      · rw [decide_eq_false (show ¬ L ≤ p + 1 by omega), cond_false, wrong_m a3.2.2.2.2.2]
        refine fin1 (up1 (up1 S1 5 1) 6 (Int32.ofNat (p + 1))) (p + 1) ⟨?_, up1_at⟩
        rw [up1_no (by decide), up1_at]
  · right
    rw [show (10 : Int32) = Int32.ofNat 10 from rfl, a1, a2]
    refine ⟨f0, g1, S1, rfl, ?_, a3, a5.mono (by decide), a6.mono (by decide)⟩
    rw [Option.bind_some, show m_c1 .ne (S1.1 5) = true by rw [a4.1]; rfl, cond_true]
    exact fin1 S1 f0 a4
/-- the reference ends a text that failed -/
theorem P_lost {f0 : Nat} (h : Dd S f0) : D_m_readText_201 F S = some (0, up1 (up1 S 2 0) 3 (Int32.ofNat f0)) := by
  unfold D_m_readText_201
  rw [h.expect, Option.bind_some, show m_c1 .ne (S.1 5) = true by rw [h.1]; rfl, cond_true]
  have q1' : (up1 S 2 0).1 5 = 1 := (up1_no (by decide)).trans h.1
  have q6' : (up1 S 2 0).1 6 = Int32.ofNat f0 := (up1_no (by decide)).trans h.2
  have q2' : (up1 (up1 S 2 0) 3 (Int32.ofNat f0)).1 5 = 1 := (up1_no (by decide)).trans q1'
  unfold D_m_readText_235
  simp only [fput, Option.bind_some, q1', show m_c1 .eq (1 : Int32) = false from rfl, cond_false, q6', q2', show m_c1 .ne (1 : Int32) = true from rfl, cond_true]
  rfl
end
