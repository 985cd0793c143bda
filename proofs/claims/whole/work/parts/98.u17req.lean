/-! The lines of a request. -/
section
variable {T T' : tT} {S S' : mS} {t : Nat → Nat} {L p s e F k c m n a aq ac at' : Nat} {g g' : Nat → Int32} {r : Option Nat × Option Nat × Option Nat} {K A B : List Nat} {x : Int32} {w : Option Nat} {cs : List Nat}
theorem Seen.to (h : Seen t L S n cs) (q : ∀ j, j < n → rd S' 587 j = rd S 587 j ∧ rd S' 588 j = rd S 588 j) : Seen t L S' n cs := by
  obtain ⟨j, a, b, h1, h2, h3, h4, h5, h6⟩ := h
  exact ⟨j, a, b, h1, h2, h3, (q j h1).1.trans h4, (q j h1).2.trans h5, h6⟩
theorem Seen.keep (h : Seen t L S n cs) (f : Fr Kv [585, 586] S S') : Seen t L S' (n + 1) cs := by
  obtain ⟨j, a, b, h1, h2, h3, h4, h5, h6⟩ := h
  exact ⟨j, a, b, by omega, h2, h3, (f.2 587 j (by decide)).trans h4, (f.2 588 j (by decide)).trans h5, h6⟩
theorem Rqs.fr {T1 : tT} (h : Rqs aq ac at' T S) (f : Fr [4, 31] [587, 588] S S') (hT : ∀ b, 516 ≤ b → T1.1 b = T.1 b) (hA : Ap aq ac at') : Rqs aq ac at' T1 S' := by
  have h' := h.st (S' := S') (fun i i1 i2 => f.1 i (no920 (by decide) i1 i2)) (fun j => f.2 585 j (by decide)) (fun j => f.2 586 j (by decide))
  obtain ⟨A1, A2, A3, _⟩ := hA
  obtain ⟨h1, h2, ⟨n, f1, h3, h4, h5, h6⟩, ⟨f3, h7, h8⟩, h9⟩ := h'
  exact ⟨(hT aq (by omega)).trans h1, (hT ac (by omega)).trans h2, ⟨n, f1, h3, h4, (hT at' (by omega)).trans h5, h6⟩, ⟨f3, (hT 516 (by omega)).trans h7, h8⟩, h9⟩
theorem P_asks (hA : Ap aq ac at') (hr : r.1 = some aq) (hr' : r.2.1 = some ac) (hF : 400 < F) : ∀ (m i n p : Nat) (g : Nat → Int32) (T : tT) (S : mS), p + m = L → 2 * i ≤ p → St t L T S p g → Nm t L T S g n p → Rqs aq ac at' T S → (¬ S.1 9 = 0 → Seen t L S n z_range) → (¬ S.1 12 = 0 → Seen t L S n z_ifnonematch) → ∀ f f2, m + 1 < f → m + 1 < f2 →
    (∃ p' g' T1 S', D_c_Reader_readRequest_87 F f 513 1 (Int32.ofNat i) (kR T L r g) = D_c_Reader_readRequest_142 F 513 1 (kR T1 L r g') ∧ D_m_readText_177 F f2 1 S = D_m_readText_201 F S' ∧ St t L T1 S' p' g' ∧ Rqs aq ac at' T1 S' ∧ Gs [2, 5, 6, 7, 8, 9] g g' ∧ Fr Kz Az S S' ∧ Ft [515, aq, ac, at', 516] T T1 ∧ Cs (kR T L r g) (kR T1 L r g') 0 0 ∧ ∃ f9, T1.1 515 = some (.inr (.inl (0, 300, f9)))) ∨
    (∃ f0 g' T1 S', D_c_Reader_readRequest_87 F f 513 1 (Int32.ofNat i) (kR T L r g) = some (none, kR T1 L r g') ∧ D_m_readText_177 F f2 1 S = D_m_readText_201 F S' ∧ g' 3 = Int32.ofNat f0 ∧ Dd S' f0 ∧ Gs Gz g g' ∧ Fr Kz Az S S' ∧ Ft [515, aq, ac, at', 516] T T1 ∧ Cs (kR T L r g) (kR T1 L r g') 0 0 ∧ (∃ f9, T1.1 515 = some (.inr (.inl (0, 300, f9)))) ∧ ∃ f9, T1.1 516 = some (.inr (.inl (0, 4, f9)))) := by
  intro m
  induction m using Nat.strongRecOn with
  | ind m ih =>
    intro i n p g T S hp hi h hN hR h9 h12 f f2 hf hf2
    obtain ⟨f, rfl⟩ : ∃ y, f = y + 1 := ⟨f - 1, by omega⟩
    obtain ⟨f2, rfl⟩ : ∃ y, f2 = y + 1 := ⟨f2 - 1, by omega⟩
    obtain ⟨h1, h2, h3, h4, h5, h6⟩ := id h
    have hL := h1.1
    have hl := h1.lt (p := p)
    have N5 : ∃ f9, T.1 515 = some (.inr (.inl (0, 300, f9))) := by
      obtain ⟨_, _, _, f9, q, _⟩ := hN
      exact ⟨f9, q⟩
    have N0 : ∃ f9, T.1 516 = some (.inr (.inl (0, 4, f9))) := by
      obtain ⟨f9, q, _⟩ := hR.2.2.2.1
      exact ⟨f9, q⟩
    have i1 : Int32.ofNat i + Int32.ofInt 1 = Int32.ofNat (i + 1) := m_n_add i 1
    have cdead : ∀ T', D_c_Reader_readRequest_87 F f 513 0 (Int32.ofNat (i + 1)) T' = some (none, T') := by
      intro T'
      obtain ⟨f', rfl⟩ : ∃ y, f = y + 1 := ⟨f - 1, by omega⟩
      unfold D_c_Reader_readRequest_87
      cases m_c2 .ge (Int32.ofNat (i + 1)) (300 : Int32) <;> rfl
    have mdead : ∀ S', S'.1 5 = 1 → D_m_readText_177 F f2 1 S' = D_m_readText_201 F S' := by
      intro S' w
      obtain ⟨f2', rfl⟩ : ∃ y, f2 = y + 1 := ⟨f2 - 1, by omega⟩
      unfold D_m_readText_177
      rw [w]
      rfl
    by_cases w10 : hc t L p = 10
    · left
      refine ⟨p, g, T, S, ?_, ?_, h, hR, Gs.refl, Fr.refl, Ft.refl, kR_cs, N5⟩
      · conv => lhs; unfold D_c_Reader_readRequest_87
        rw [show (300 : Int32) = Int32.ofNat 300 from rfl, ge_n (by omega) (by decide), decide_eq_false (by omega), cond_false, show m_c1 .eq (1 : Int32) = false from rfl, cond_false, Kcl, Option.bind_some, here_v h1 h4 h3, Option.bind_some, show (10 : Int32) = Int32.ofNat 10 from rfl, eq_n (by omega) (by decide), decide_eq_true w10, cond_true]
      · conv => lhs; unfold D_m_readText_177
        rw [h6, show m_c1 .ne (0 : Int32) = false from rfl, cond_false, see_v h2 h5 h3, Option.bind_some, show (10 : Int32) = Int32.ofNat 10 from rfl, sv_eq h2 (by decide) (by decide), decide_eq_true w10, cond_true]
    · have c1 : D_c_Reader_readRequest_87 F (f + 1) 513 1 (Int32.ofNat i) (kR T L r g) = bd2 (D_c_Reader_readName F 513 (kR T L r g)) fun v76 T77 => cond (m_c1 .eq v76) (D_c_Reader_readRequest_134 F (D_c_Reader_readRequest_87 F f) 513 (Int32.ofNat i) T77) ((tcl T77 513 1).bind fun _ => bd2 (D_c_Reader_readAskedValue F 513 T77) fun v100 T101 => cond (m_c1 .eq v100) (D_c_Reader_readRequest_134 F (D_c_Reader_readRequest_87 F f) 513 (Int32.ofNat i) T101) ((tcl T101 513 1).bind fun _ => bd2 (D_c_Reader_expect F 513 (10 : Int32) T101) fun v124 T125 => (cond (m_c1 .eq v124) (some (0 : Int32)) (some (1 : Int32))).bind fun v133 => D_c_Reader_readRequest_87 F f 513 v133 (Int32.ofNat (i + 1)) T125)) := by
        conv => lhs; unfold D_c_Reader_readRequest_87
        rw [show (300 : Int32) = Int32.ofNat 300 from rfl, ge_n (by omega) (by decide), decide_eq_false (by omega), cond_false, show m_c1 .eq (1 : Int32) = false from rfl, cond_false, Kcl, Option.bind_some, here_v h1 h4 h3, Option.bind_some, show (10 : Int32) = Int32.ofNat 10 from rfl, eq_n (by omega) (by decide), decide_eq_false w10, cond_false, Option.bind_some, i1]
      have m1 : D_m_readText_177 F (f2 + 1) 1 S = (D_m_line F 1 S).bind fun S78 => D_m_readText_177 F f2 1 S78 := by
        conv => lhs; unfold D_m_readText_177
        rw [h6, show m_c1 .ne (0 : Int32) = false from rfl, cond_false, see_v h2 h5 h3, Option.bind_some, show (10 : Int32) = Int32.ofNat 10 from rfl, sv_eq h2 (by decide) (by decide), decide_eq_false w10, cond_false]
      have m2 : D_m_line F 1 S = cond (decide (p < L)) ((D_m_name F S).bind fun q2 => cond (m_c1 .ne q2.1) (cond (m_c1 .eq (1 : Int32)) (D_m_line_50 F 1 q2.2) ((D_m_isNamed F 74 q2.2).bind fun v21 => cond (m_c1 .eq v21) (D_m_line_50 F 1 q2.2) ((D_m_range F q2.2).bind fun S39 => D_m_line_241 F S39))) (some q2.2)) (some (up1 (up1 S 5 1) 6 (Int32.ofNat L))) := by
        unfold D_m_line
        rw [h5, h2.2.1, lt_n (by omega) (by omega), wrong_m h6]
        rfl
      rcases P_name (F := F) (r := r) h hN hF with ⟨p', s, e, g2, T1, S1, a1, a2, a3, a4, a5, a6, a7, a8, a9, a10, a11, a12, a13, a14, a15, a16, a17⟩ | ⟨f0, g2, S1, a1, a2, a3, a4, a5, a6⟩
      · have pL : p < L := by have := a3.2.2.1; omega
        obtain ⟨A1, A2, A3, A4, A5, A6⟩ := id hA
        have nI : ∀ b, 516 ≤ b → ¬ b ∈ [515] := fun b hb q => by have := List.mem_singleton.mp q; omega
        have nJ : ¬ 515 ∈ [aq, ac, at', 516] := fun q => by simp at q; omega
        have nK : ¬ 514 ∈ [aq, ac, at', 516] := fun q => by simp at q; omega
        have R1 : Rqs aq ac at' T1 S1 := hR.fr a14 (fun b hb => a15.1 b (nI b hb)) hA
        have hL' := h1.1
        have o9 : isW t s e z_range = true → S1.1 9 = 0 := fun w => by
          by_cases z : S.1 9 = 0
          · exact (a14.1 9 (by decide)).trans z
          · exact ((h9 z).to (fun j hj => (a17 j hj).2)).no hL' (fun j hj => (a17 j hj).1) w |>.elim
        have o12 : isW t s e z_ifnonematch = true → S1.1 12 = 0 := fun w => by
          by_cases z : S.1 12 = 0
          · exact (a14.1 12 (by decide)).trans z
          · exact ((h12 z).to (fun j hj => (a17 j hj).2)).no hL' (fun j hj => (a17 j hj).1) w |>.elim
        have s31 : S1.1 31 = Int32.ofNat (n + 1) := a4.2.2.1
        obtain ⟨mv, b1, b2, b3, b4⟩ := P_avalue (F := F) (r := r) (p := p') a3 R1 hA hr hr' hF a6 a7 a8 s31 a9 a10 a11 a12 o9 o12
        have m3 : D_m_readText_177 F (f2 + 1) 1 S = (mv.bind (D_m_line_241 F)).bind fun S78 => D_m_readText_177 F f2 1 S78 := by
          rw [m1, m2, decide_eq_true pL, cond_true, a2, Option.bind_some, ← b1]
          show (((D_m_isNamed F 74 S1).bind fun v21 => cond (m_c1 .eq v21) (D_m_line_50 F 1 S1) ((D_m_range F S1).bind fun S39 => D_m_line_241 F S39))).bind _ = _
          rw [named_m tx_74 a3.2.1 a6 a7 a8 s31 a11 a12 (by omega), Option.bind_some, b_eq0]
        have F1 : Fr Kz Az S S1 := a14.mono (by decide) (by decide)
        have ft1 : Ft [515, aq, ac, at', 516] T T1 := a15.mono (by simp)
        have new9 : ∀ {S2 : mS} {cs : List Nat}, isW t s e cs = true → Fr Kv [585, 586] S1 S2 → Seen t L S2 (n + 1) cs := fun w f => ⟨n, s, e, by omega, by omega, by omega, (f.2 587 n (by decide)).trans a11, (f.2 588 n (by decide)).trans a12, w⟩
        have k9 : ∀ S2, mv.bind (D_m_line_241 F) = some S2 → Fr Kv [585, 586] S1 S2 → (¬ S2.1 9 = 0 → Seen t L S2 (n + 1) z_range) ∧ (¬ S2.1 12 = 0 → Seen t L S2 (n + 1) z_ifnonematch) := by
          intro S2 em f
          obtain ⟨S3, m5, m6⟩ := bS em
          obtain ⟨q1', q2'⟩ := b3 S3 m5
          obtain ⟨⟨u, S4⟩, m7, m8⟩ := bS m6
          cases m8
          have e9 : S4.1 9 = S3.1 9 := Z9_m_expect _ m7
          have e12 : S4.1 12 = S3.1 12 := Z12_m_expect _ m7
          refine ⟨fun z => ?_, fun z => ?_⟩
          · cases w : isW t s e z_range with
            | true => exact new9 w f
            | false =>
              have z' : ¬ S.1 9 = 0 := fun q => z (e9.trans ((q1' w).trans ((a14.1 9 (by decide)).trans q)))
              exact ((h9 z').to (fun j hj => (a17 j hj).2)).keep f
          · cases w : isW t s e z_ifnonematch with
            | true => exact new9 w f
            | false =>
              have z' : ¬ S.1 12 = 0 := fun q => z (e12.trans ((q2' w).trans ((a14.1 12 (by decide)).trans q)))
              exact ((h12 z').to (fun j hj => (a17 j hj).2)).keep f
        rcases b2.nl (F := F) a3.2.1 (fun T S S' hR f => hR.fs f (by decide)) with ⟨p2, g3, T2, S2, y1, y2, y3, y4, y5, y6, y7, y8, y9⟩ | ⟨f0, g3, T2, S2, y1, y2, y3, y4, y5, y6, y7, y8⟩
        · have c2 : D_c_Reader_readRequest_87 F (f + 1) 513 1 (Int32.ofNat i) (kR T L r g) = D_c_Reader_readRequest_87 F f 513 1 (Int32.ofNat (i + 1)) (kR T2 L r g3) := by
            rw [c1, a1]
            simp only [bd2, Option.bind_some, show m_c1 .eq (1 : Int32) = false from rfl, cond_false, Kcl]
            rcases b2 with ⟨_, g4, T4, _, z1, _⟩ | ⟨_, g4, T4, _, z1, _⟩
            · rw [z1] at y1 ⊢
              have y1' : D_c_Reader_expect F 513 10 (kR T4 L r g4) = some (1, kR T2 L r g3) := y1
              simp only [Option.bind_some, show m_c1 .eq (1 : Int32) = false from rfl, cond_false, Kcl]
              rw [y1']
              rfl
            · rw [z1] at y1
              cases y1
          have m4 : D_m_readText_177 F (f2 + 1) 1 S = D_m_readText_177 F f2 1 S2 := by rw [m3, y2]; rfl
          rw [c2, m4]
          have p2L := y3.2.2.1
          rcases ih (L - p2) (by omega) (i + 1) (n + 1) p2 g3 T2 S2 (by omega) (by omega) y3 (a4.keep (by omega) (y6.mono (by decide)) y7 y8 nJ) y5 (k9 S2 y2 y7).1 (k9 S2 y2 y7).2 f f2 (by omega) (by omega) with ⟨p5, g5, T5, S5, d1, d2, d3, d4, d5, d6, d7, d8, d9⟩ | ⟨f0, g5, T5, S5, d1, d2, d3, d4, d5, d6, d7, d8, d9⟩
          · left
            exact ⟨p5, g5, T5, S5, d1, d2, d3, d4, (a13.mono (by decide)).trans ((y6.mono (by decide)).trans d5), F1.trans ((y7.mono (by decide) (by decide)).trans d6), ft1.trans ((y8.mono (by simp)).trans d7), ((a16.trans y9).trans d8).mono (by decide) (by decide), d9⟩
          · right
            exact ⟨f0, g5, T5, S5, d1, d2, d3, d4, (a13.mono (by decide)).trans ((y6.mono (by decide)).trans d5), F1.trans ((y7.mono (by decide) (by decide)).trans d6), ft1.trans ((y8.mono (by simp)).trans d7), ((a16.trans y9).trans d8).mono (by decide) (by decide), d9⟩
        · right
          have N6 : ∃ f9, T2.1 515 = some (.inr (.inl (0, 300, f9))) := by
            obtain ⟨_, _, _, f9, q, _⟩ := a4
            exact ⟨f9, (y7.1 515 nJ).trans q⟩
          have N7 : ∃ f3, T2.1 516 = some (.inr (.inl (0, 4, f3))) := by
            rcases b2 with ⟨_, g4, T4, S4', z1, z2, z3, z4, z5, _⟩ | ⟨_, g4, T4, _, z1, _⟩
            · rw [z1] at y1
              have y1' : D_c_Reader_expect F 513 10 (kR T4 L r g4) = some (0, kR T2 L r g3) := y1
              rw [show (10 : Int32) = Int32.ofNat 10 from rfl] at y1'
              rcases P_expect (F := F) (r := r) z3 (show 0 < 10 by decide) (show 10 < 127 by decide) with ⟨w, g9, S9, x1, _⟩ | ⟨f9, g9, S9, x1, _⟩
              · rw [x1] at y1'
                exact absurd (Prod.mk.inj (Option.some.inj y1')).1 (by decide)
              · rw [x1] at y1'
                have e3 : (kR T4 L r g9).1 516 = (kR T2 L r g3).1 516 := congrArg (fun U : tT => U.1 516) (Prod.mk.inj (Option.some.inj y1')).2
                rw [kR_ne (by decide), kR_ne (by decide)] at e3
                obtain ⟨f3, q, _⟩ := z5.2.2.2.1
                exact ⟨f3, e3.symm.trans q⟩
            · obtain ⟨f3, q⟩ := b4 _ _ z1
              rw [z1] at y1
              have y1'' : some ((0 : Int32), kR T4 L r g4) = some (0, kR T2 L r g3) := y1
              rw [(Prod.mk.inj (Option.some.inj y1'')).2, kR_ne (by decide)] at q
              exact ⟨f3, q⟩
          refine ⟨f0, g3, T2, S2, ?_, ?_, y3, y4, (a13.mono (by decide)).trans (y5.mono (by decide)), F1.trans (y6.mono (by decide) (by decide)), ft1.trans (y7.mono (by simp)), (a16.trans y8).mono (by decide) (by decide), N6, N7⟩
          · rw [c1, a1]
            simp only [bd2, Option.bind_some, show m_c1 .eq (1 : Int32) = false from rfl, cond_false, Kcl]
            rcases b2 with ⟨_, g4, T4, _, z1, _⟩ | ⟨_, g4, T4, _, z1, _⟩
            · rw [z1] at y1 ⊢
              have y1' : D_c_Reader_expect F 513 10 (kR T4 L r g4) = some (0, kR T2 L r g3) := y1
              simp only [Option.bind_some, show m_c1 .eq (1 : Int32) = false from rfl, cond_false, Kcl]
              rw [y1']
              exact cdead _
            · rw [z1] at y1 ⊢
              have y1'' : some ((0 : Int32), kR T4 L r g4) = some (0, kR T2 L r g3) := y1
              have y1' : kR T4 L r g4 = kR T2 L r g3 := (Prod.mk.inj (Option.some.inj y1'')).2
              rw [← y1']
              show D_c_Reader_readRequest_87 F f 513 0 (Int32.ofNat i + Int32.ofInt 1) _ = _
              rw [i1]
              exact cdead _
          · rw [m3, y2]
            exact mdead S2 y4.1
      · right
        by_cases pL : p < L
        · refine ⟨f0, g2, T, S1, ?_, ?_, a3, a4, a5.mono (by decide), a6.to (by decide), Ft.refl, kR_cs, N5, N0⟩
          · rw [c1, a1]
            show D_c_Reader_readRequest_87 F f 513 0 (Int32.ofNat i + Int32.ofInt 1) _ = _
            rw [i1]
            exact cdead _
          · rw [m1, m2, decide_eq_true pL, cond_true, a2]
            exact mdead S1 a4.1
        · have pe : p = L := by omega
          obtain ⟨e, e1, e2, e3, e4⟩ := ex_run (t := t) (L := L) isS rfl (L - p) p (by omega)
          have f0e : Int32.ofNat f0 = Int32.ofNat L := by
            have q : D_m_name F S = some (0, up1 (up1 S 5 1) 6 (Int32.ofNat p)) := by
              unfold D_m_name
              obtain ⟨F', rfl⟩ : ∃ y, F = y + 1 := ⟨F - 1, by omega⟩
              unfold D_m_name_5
              have hz : hc t L p = 0 := by unfold hc; rw [if_neg pL]
              rw [see_v h2 h5 h3, Option.bind_some, sm_m h2, Option.bind_some, b_eq0, hz, show (!(isS 0)) = true from rfl, cond_true, h5, ne_n (by omega) (by omega), decide_eq_false (show ¬ ¬ p = p from fun n => n rfl), cond_false, wrong_m h6]
              rfl
            rw [q] at a2
            cases a2
            rw [← a4.2, up1_at, pe]
          refine ⟨f0, g2, T, up1 (up1 S 5 1) 6 (Int32.ofNat L), ?_, ?_, a3, ⟨by rw [up1_no (by decide), up1_at], by rw [f0e]; exact up1_at⟩, a5.mono (by decide), (Fs.to (K := [5, 6]) ((Fs.up1 (by decide)).trans (Fs.up1 (by decide))) (by decide)), Ft.refl, kR_cs, N5, N0⟩
          · rw [c1, a1]
            show D_c_Reader_readRequest_87 F f 513 0 (Int32.ofNat i + Int32.ofInt 1) _ = _
            rw [i1]
            exact cdead _
          · rw [m1, m2, decide_eq_false pL, cond_false]
            exact mdead _ (by rw [up1_no (by decide), up1_at])
end
