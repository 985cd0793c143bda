/-! A request's text, whole. -/
section
variable {T T' : tT} {S S' : mS} {t : Nat → Nat} {L p s e F k c m n a aq ac at' : Nat} {g g' : Nat → Int32} {r : Option Nat × Option Nat × Option Nat} {K B : List Nat} {x : Int32}
/-- a request that was read -/
def Asked (F : Nat) (T' : tT) (S' : mS) (A pa va la fo : Nat) : Prop := pa ≤ 31 ∧ va ≤ 3 ∧ la < 4 ∧ fo < 2 ∧ S'.1 7 = Int32.ofNat pa ∧ S'.1 8 = Int32.ofNat va ∧ fo = (if 0 < rd S' 585 4 then 1 else 0) ∧ (∀ S'', (∀ j, rd S'' 585 j = rd S' 585 j) → D_m_wanted F S'' = some (Int32.ofNat (la + 4 * fo))) ∧ T'.1 A = some (cReq (qch (fup (fup (fup (qdv S') 0 (Int32.ofNat pa)) 1 (Int32.ofNat va)) 2 (Int32.ofNat la)) (cdv S')) (some (A + 1)) none none) ∧ T'.1 (A + 1) = some (cCond (cdv S') (A + 2)) ∧ (∃ n f, n ≤ 8 ∧ S'.1 12 = Int32.ofNat n ∧ T'.1 (A + 2) = some (.inr (.inl (0, 8, f))) ∧ ∀ i, i < n → m_toI (f i) = rd S' 586 i) ∧ okQ S'
theorem P_request {b' c' d' : Option Nat} {f2 f3 : Nat → Value} (h1 : T.1 513 = some (cRd (Int32.ofNat L) g b' c' d')) (h2 : T.1 515 = some (.inr (.inl (0, 300, f2)))) (h3 : T.1 516 = some (.inr (.inl (0, 4, f3)))) (hC : Tc t L T) (hP : Tp t L S) (hN : okN T) (hF : 400 < F) :
    (∃ T' S' pa va la fo, 0 < L ∧ D_c_Reader_readRequest F 513 T = some (some T.2.1, T') ∧ D_m_readText F 1 S = some (1, S') ∧ Asked F T' S' T.2.1 pa va la fo ∧ Rest T T' S S' L T.2.1 3 (some T.2.1) (some (T.2.1 + 1)) d' ∧ Cs T T' 3 35) ∨
    (∃ T' S', D_c_Reader_readRequest F 513 T = some (none, T') ∧ D_m_readText F 1 S = some (0, S') ∧ Rest T T' S S' L T.2.1 3 (some T.2.1) (some (T.2.1 + 1)) d' ∧ Cs T T' 3 35) := by
  have lt6 := hN _ _ h3
  obtain ⟨T1, f3', g1, cc, T1A, T1B, T1C, T16, b2, T1b, b3, b4, b5, C1⟩ := rq_begin (F := F) h1 h3 hC lt6 hF
  obtain ⟨S1, m1, m2, m3⟩ := begin_m (F := F) (x := 1) (S := S) (by omega)
  obtain ⟨A, hA⟩ : ∃ A, A = T.2.1 := ⟨_, rfl⟩
  rw [← hA] at cc T1A T1B T1C T1b C1 lt6 ⊢
  have T15 : T1.1 515 = some (.inr (.inl (0, 300, f2))) := (T1b 515 (by decide) (by omega)).trans h2
  obtain ⟨z4, z5, z31, z9, z12, z13, z14, z15, z17, z18, z19, z16, z23, z24, z25, z26, z27, z29, z30, z28, z20, zw⟩ := m3
  have st1 : St t L T1 S1 0 g1 := by
    refine ⟨⟨hC.1, ?_⟩, hP.fr m2 (by decide) (by decide), Nat.zero_le _, b3, z4, z5⟩
    obtain ⟨_, f1, q1', q2'⟩ := hC
    exact ⟨f1, (T1b 514 (by decide) (by omega)).trans q1', q2'⟩
  have hL := hC.1
  have F0 : Fr Kt [585, 586, 587, 588] S S1 := m2.mono (by decide) (by decide)
  have cdead : ∀ T', D_c_Reader_readRequest_87 F F 513 0 0 T' = some (none, T') := by
    intro T'
    obtain ⟨F', rfl⟩ : ∃ y, F = y + 1 := ⟨F - 1, by omega⟩
    unfold D_c_Reader_readRequest_87
    rfl
  have mdead : ∀ S', S'.1 5 = 1 → D_m_readText_177 F F 1 S' = D_m_readText_201 F S' := by
    intro S' w
    obtain ⟨F', rfl⟩ : ∃ y, F = y + 1 := ⟨F - 1, by omega⟩
    unfold D_m_readText_177
    rw [w]
    rfl
  have rest : ∀ T4 g4 S4, g4 3 = S4.1 3 → S4.1 2 = 0 → Fr Kt [585, 586, 587, 588] S S4 → Ft [515, A, A + 1, A + 2, 516] T1 T4 → (∃ f9, T4.1 515 = some (.inr (.inl (0, 300, f9)))) → (∃ f9, T4.1 516 = some (.inr (.inl (0, 4, f9)))) → Rest T (kR T4 L (some A, some (A + 1), d') g4) S S4 L A 3 (some A) (some (A + 1)) d' := by
    intro T4 g4 S4 q1' q2' q3' q4' ⟨f9, q5'⟩ ⟨f8, q6'⟩
    refine ⟨g4, f9, f8, kR_at, q1', q2', (kR_ne (by decide)).trans q5', (kR_ne (by decide)).trans q6', fun b n1 n2 n3 n4 => ?_, q3'⟩
    rw [kR_ne n1, q4'.1 b (by simp; omega)]
    exact T1b b n3 (by omega)
  have N1 : ∃ f9, T1.1 515 = some (.inr (.inl (0, 300, f9))) := ⟨f2, T15⟩
  have N2 : ∃ f9, T1.1 516 = some (.inr (.inl (0, 4, f9))) := ⟨_, T16⟩
  have fail : ∀ T4 g4 S4 f0, D_c_Reader_readRequest F 513 T = some (none, kR T4 L (some A, some (A + 1), d') g4) → D_m_readText F 1 S = D_m_readText_201 F S4 → Dd S4 f0 → g4 3 = Int32.ofNat f0 → Fr Kt [585, 586, 587, 588] S S4 → Ft [515, A, A + 1, A + 2, 516] T1 T4 → (∃ f9, T4.1 515 = some (.inr (.inl (0, 300, f9)))) → (∃ f9, T4.1 516 = some (.inr (.inl (0, 4, f9)))) → Cs (kR T1 L (some A, some (A + 1), d') g1) (kR T4 L (some A, some (A + 1), d') g4) 0 0 → (∃ T' S', D_c_Reader_readRequest F 513 T = some (none, T') ∧ D_m_readText F 1 S = some (0, S') ∧ Rest T T' S S' L A 3 (some A) (some (A + 1)) d' ∧ Cs T T' 3 35) := by
    intro T4 g4 S4 f0 q1' q2' q3' q4' q5' q6' q7' q9' q8'
    refine ⟨_, _, q1', q2'.trans (P_lost q3'), rest T4 g4 _ (q4'.trans up1_at.symm) ((up1_no (by decide)).trans up1_at) (q5'.trans (Fs.to (K := [2, 3]) ((Fs.up1 (by decide)).trans (Fs.up1 (by decide))) (by decide))) q6' q7' q9', (C1.trans q8').mono (by decide) (by decide)⟩
  -- the first word
  obtain ⟨hd, hhd⟩ : ∃ z : Int32, z = if hc t L 0 = 72 then 1 else 0 := ⟨_, rfl⟩
  have fl : flag hd := by rw [hhd]; by_cases w : hc t L 0 = 72 <;> simp [w, flag]
  rw [← hhd] at T1B
  have key : ∃ (x y : Nat) (cs : List Nat) (u : mS → mS), (∀ S, Fs [16] S (u S)) ∧ txs x (cs ++ [32]) ∧ txs y cs ∧ D_c_Reader_readRequest F 513 T = D_c_Reader_readRequest_65 F 513 x (some 513) (kR T1 L (some A, some (A + 1), d') g1) ∧ (∀ S0, Fs [4] S1 S0 → (u S0).1 16 = hd) ∧ D_m_readText F 1 S = ((D_m_expectWord F y S1).bind (fun q => (D_m_expect F 32 (u q.2)).bind fun q1 => some q1.2)).bind fun S2 => (tgA F 1 S2).bind fun S72 => D_m_readText_177 F F 1 S72 := by
    have hl := st1.1.lt (p := 0)
    have r0 : D_m_readText F 1 S = cond (decide (¬ hc t L 0 = 72)) (D_m_readText_154 F 1 S1) ((D_m_expectWord F 71 S1).bind fun q66 => D_m_readText_172 F 1 (up1 q66.2 16 1)) := by
      rw [m1]
      show (D_m_see F S1).bind (fun v54 => cond (m_c2 .ne v54 (72 : Int32)) (D_m_readText_154 F 1 S1) ((D_m_expectWord F 71 S1).bind fun q66 => (fpub q66.2 16 (1 : Int32)).bind fun S68 => D_m_readText_172 F 1 S68)) = _
      rw [see_v st1.2.1 z4 (Nat.zero_le _), Option.bind_some, show (72 : Int32) = Int32.ofNat 72 from rfl, sv_ne st1.2.1 (by decide) (by decide)]
      rfl
    by_cases w : hc t L 0 = 72
    · rw [if_pos w] at cc hhd
      rw [decide_eq_false (show ¬ ¬ hc t L 0 = 72 from fun n => n w), cond_false] at r0
      refine ⟨6, 71, z_head, fun S => up1 S 16 1, fun S => Fs.up1 (by decide), tx_6, tx_71, cc, fun S0 _ => by rw [hhd]; exact up1_at, ?_⟩
      rw [r0]
      cases D_m_expectWord F 71 S1 with
      | none => rfl
      | some q =>
        show (D_m_target F 1 (up1 q.2 16 1)).bind _ = _
        rw [tg_eq]
        show ((D_m_expect F 32 (up1 q.2 16 1)).bind _).bind _ = ((D_m_expect F 32 (up1 q.2 16 1)).bind _).bind _
        cases D_m_expect F 32 (up1 q.2 16 1) <;> rfl
    · rw [if_neg w] at cc hhd
      rw [decide_eq_true w, cond_true] at r0
      refine ⟨7, 72, z_get, fun S => S, fun S => Fs.refl, tx_7, tx_72, cc, fun S0 f => by rw [hhd]; exact (f.1 16 (by decide)).trans z16, ?_⟩
      rw [r0]
      show (D_m_expectWord F 72 S1).bind (fun q110 => D_m_readText_172 F 1 q110.2) = _
      cases D_m_expectWord F 72 S1 with
      | none => rfl
      | some q =>
        show (D_m_target F 1 q.2).bind _ = _
        rw [tg_eq]
        show ((D_m_expect F 32 q.2).bind _).bind _ = ((D_m_expect F 32 q.2).bind _).bind _
        cases D_m_expect F 32 q.2 <;> rfl
  obtain ⟨x, y, cs, u, hu, hx, hy, cc', hu16, mm⟩ := key
  obtain ⟨r, hr⟩ : ∃ r : Option Nat × Option Nat × Option Nat, r = (some A, some (A + 1), d') := ⟨_, rfl⟩
  have r1 : r.1 = some A := by rw [hr]
  have r2 : r.2.1 = some (A + 1) := by rw [hr]
  have ap : Ap A (A + 1) (A + 2) := ⟨by omega, by omega, by omega, by omega, by omega, by omega⟩
  rw [← hr] at cc' C1 fail rest
  rcases P_first (F := F) (r := r) (u := u) hu hx hy st1 (by omega) with ⟨g2, S2, S0, a1, a2, a3, a4, a5, a6, a7⟩ | ⟨f0, g2, S2, a1, a2, a3, a4, a5, a6⟩
  · have cc2 : D_c_Reader_readRequest F 513 T = bd2 (D_c_Reader_readTarget F 513 (b2i true) (kR T1 L r g2)) fun v105 T106 => (cond (m_c1 .eq v105) (some (0 : Int32)) (some (1 : Int32))).bind fun v114 => D_c_Reader_readRequest_87 F F 513 v114 (0 : Int32) T106 := by
      rw [cc']
      unfold D_c_Reader_readRequest_65
      simp only [Option.bind_some, Kcl, a1, bd2, show m_c1 .eq (1 : Int32) = false from rfl, cond_false]
      rfl
    have mm2 : D_m_readText F 1 S = (tgA F (b2i true) S2).bind fun S72 => D_m_readText_177 F F 1 S72 := by
      rw [mm, a2]
      rfl
    have F2 : Fr Kt [585, 586, 587, 588] S S2 := F0.trans (a5.to (by decide))
    rcases P_target (F := F) (r := r) (b := true) a3 (by omega) with ⟨p3, pa, va, g3, S3, d1, d2, d3, d4, d5, d6, d7, d8, d9, d10, d11, d12, d13⟩ | ⟨f0, g3, S3, d1, d2, d3, d4, d5, d6⟩
    · have cc3 : D_c_Reader_readRequest F 513 T = D_c_Reader_readRequest_87 F F 513 1 (Int32.ofNat 0) (kR T1 L r g3) := by rw [cc2, d1]; rfl
      have mm3 : D_m_readText F 1 S = D_m_readText_177 F F 1 S3 := by rw [mm2, d2]; rfl
      have F3 : Fr Kt [585, 586, 587, 588] S S3 := F2.trans (d13.to (by decide))
      have nm3 : Nm t L T1 S3 g3 0 p3 := by
        refine ⟨Nat.zero_le _, ?_, ?_, f2, T15, fun k hk => absurd hk (Nat.not_lt_zero k)⟩
        · rw [d12 5 (by decide), a4 5 (by decide)]; exact b5
        · rw [d13.1 31 (by decide), a5.1 31 (by decide)]; exact z31
      have i3 : ∀ i, ¬ i ∈ [4, 7, 8, 16] → S3.1 i = S1.1 i := fun i hi => by
        rw [d13.1 i (fun q => hi (by simp at q ⊢; omega)), a5.1 i (fun q => hi (by simp at q ⊢; omega))]
      have i16 : S3.1 16 = hd := by rw [d13.1 16 (by decide), a7]; exact hu16 S0 a6
      have r3 : ∀ a k, rd S3 a k = rd S1 a k := fun a k => by unfold rd; rw [d13.2, a5.2]
      have few0 : ∀ n, few (n + 1) (0 : Int32) := fun n => ⟨0, Nat.succ_pos n, rfl⟩
      have rq3 : Rqs A (A + 1) (A + 2) T1 S3 := by
        have w4 : rd S3 585 4 = 0 := (r3 585 4).trans (zw 4 (by decide))
        refine ⟨?_, ?_, ⟨0, _, by decide, (i3 12 (by decide)).trans z12, T1C, fun i hi => absurd hi (Nat.not_lt_zero i)⟩, ⟨f3', T16, fun j hj => (b2 j hj).trans ((r3 585 j).trans (zw j (by omega))).symm⟩, ?_⟩
        · rw [T1A]
          have e : ∀ i, qdv S3 i = q0v i := fun i => by
            unfold qdv
            rw [w4, i3 18 (by decide), z18, i3 19 (by decide), z19, i3 13 (by decide), z13, i3 15 (by decide), z15, i3 14 (by decide), z14]
            by_cases w3 : i = 3
            · subst w3; rfl
            · by_cases w5 : i = 5
              · subst w5; rfl
              · by_cases w8 : i = 8
                · subst w8; rfl
                · by_cases w9 : i = 9
                  · subst w9; rfl
                  · by_cases w10 : i = 10
                    · subst w10; rfl
                    · show _ = fup (fup (fup (fup (fun _ => (0 : Int32)) 5 15) 8 (-1)) 9 (-1)) 10 (-1) i
                      rw [if_neg w3, if_neg w5, fup_ne w10, fup_ne w9, fup_ne w8, fup_ne w5]
                      by_cases w6 : i = 6
                      · rw [if_pos w6]
                      · rw [if_neg w6]
                        by_cases w7 : i = 7
                        · rw [if_pos w7]
                        · rw [if_neg w7, if_neg w8, if_neg w9, if_neg w10]
          rw [funext e]
        · rw [T1B]
          have e : ∀ i, cdv S3 i = fup k0v 0 hd i := fun i => by
            unfold cdv
            rw [i16, i3 9 (by decide), z9, i3 17 (by decide), z17, i3 12 (by decide), z12, i3 20 (by decide), z20]
            by_cases w0 : i = 0
            · subst w0; rfl
            · by_cases w7 : i = 7
              · subst w7; rfl
              · show _ = fup (fup (fun _ => (0 : Int32)) 7 (-1)) 0 hd i
                rw [if_neg w0, fup_ne w0, fup_ne w7]
                by_cases w1 : i = 1
                · subst w1; rfl
                · by_cases w2 : i = 2
                  · subst w2; rfl
                  · by_cases w3 : i = 3
                    · subst w3; rfl
                    · rw [if_neg w1, if_neg w2, if_neg w3]
                      by_cases w4 : i = 4
                      · rw [if_pos w4]
                      · rw [if_neg w4]
                        by_cases w6 : i = 6
                        · rw [if_pos w6]
                        · rw [if_neg w6, if_neg w7]
          rw [funext e]
        · unfold okQ
          rw [i16, i3 17 (by decide), z17, i3 18 (by decide), z18, i3 19 (by decide), z19, i3 13 (by decide), z13, i3 15 (by decide), z15, i3 14 (by decide), z14, i3 20 (by decide), z20, i3 9 (by decide), z9]
          exact ⟨fl, Or.inl rfl, Or.inl rfl, Or.inl rfl, Or.inl rfl, Or.inl rfl, Or.inl (Or.inl rfl), Or.inl rfl, Or.inl rfl, fun j hj => by rw [r3, zw j hj]; exact few0 99999⟩
      have p3L := d3.2.2.1
      rcases P_asks (F := F) (r := r) ap r1 r2 hF (L - p3) 0 0 p3 g3 T1 S3 (by omega) (by omega) d3 nm3 rq3 (fun q => absurd ((i3 9 (by decide)).trans z9) q) (fun q => absurd ((i3 12 (by decide)).trans z12) q) F F (by omega) (by omega) with ⟨p4, g4, T4, S4, e1, e2, e3, e4, e5, e6, e7, e8, e9⟩ | ⟨f0, g4, T4, S4, e1, e2, e3, e4, e5, e6, e7, e8, e9, e10⟩
      · have F4 : Fr Kt [585, 586, 587, 588] S S4 := F3.trans (e6.mono (by decide) (by decide))
        have C4 : Cs (kR T1 L r g1) (kR T4 L r g4) 0 0 := (kR_cs.trans e8).mono (by decide) (by decide)
        have N4 : ∃ f9, T4.1 516 = some (.inr (.inl (0, 4, f9))) := by
          obtain ⟨f9, q, _⟩ := e4.2.2.2.1
          exact ⟨f9, q⟩
        have mm4 : D_m_readText F 1 S = D_m_readText_201 F S4 := mm3.trans e2
        rcases P_fine (F := F) (r := r) e3 with ⟨g5, S5, y1, y2, y3, y4⟩ | ⟨f0, g5, S5, y1, y2, y3, y4, y5⟩
        · left
          obtain ⟨S6, hS6⟩ : ∃ z, z = up1 (up1 S5 2 0) 3 (-1) := ⟨_, rfl⟩
          have F6 : Fs [2, 3] S5 S6 := by rw [hS6]; exact (Fs.up1 (by decide)).trans (Fs.up1 (by decide))
          have F46 : Fs [2, 3, 4] S4 S6 := (y4.mono (by decide)).trans (F6.mono (by decide))
          have rq6 : Rqs A (A + 1) (A + 2) T4 S6 := e4.fs F46 (by decide)
          obtain ⟨q1', q2', ⟨nt, ft, q3', q4', q5', q6'⟩, ⟨fw, q7', q8'⟩, q9'⟩ := id rq6
          obtain ⟨la, fo, l1, l2, l3, l4, l5⟩ := wanted_both (F := F) (L := L) (r := r) (T := T4) q7' q8' q9'.2.2.2.2.2.2.2.2.2 (by omega)
          have nA : ¬ A = 513 := by omega
          have nB : ¬ A + 1 = 513 := by omega
          have g510 : g5 10 = Int32.ofNat pa := by rw [y3 10 (by decide), e5 10 (by decide)]; exact d8
          have g511 : g5 11 = Int32.ofNat va := by rw [y3 11 (by decide), e5 11 (by decide)]; exact d10
          have g53 : g5 3 = -1 := by rw [y3 3 (by decide), e5 3 (by decide), d12 3 (by decide), a4 3 (by decide)]; exact b4
          obtain ⟨v1, hv1⟩ : ∃ z, z = fup (qdv S6) 0 (Int32.ofNat pa) := ⟨_, rfl⟩
          obtain ⟨v2, hv2⟩ : ∃ z, z = fup v1 1 (Int32.ofNat va) := ⟨_, rfl⟩
          obtain ⟨v3, hv3⟩ : ∃ z, z = fup v2 2 (Int32.ofNat la) := ⟨_, rfl⟩
          have tp1 : tpi (kR T4 L r g5) A 6 0 (Int32.ofNat pa) = some (kR (tset T4 A (cReq v1 none none none)) L r g5) := (Qp0 ((kR_ne nA).trans q1')).trans (by rw [kR_tset nA, hv1])
          have tp2 : tpi (kR (tset T4 A (cReq v1 none none none)) L r g5) A 6 1 (Int32.ofNat va) = some (kR (tset T4 A (cReq v2 none none none)) L r g5) := (Qp1 ((kR_ne nA).trans tset_at)).trans (by rw [kR_tset nA, tset_tset, hv2])
          have tp3 : tpi (kR (tset T4 A (cReq v2 none none none)) L r g5) A 6 2 (Int32.ofNat la) = some (kR (tset T4 A (cReq v3 none none none)) L r g5) := (Qp2 ((kR_ne nA).trans tset_at)).trans (by rw [kR_tset nA, tset_tset, hv3])
          have tp4 : tpr (kR (tset T4 A (cReq v3 none none none)) L r g5) A 6 13 (some (A + 1)) = some (kR (tset T4 A (cReq v3 (some (A + 1)) none none)) L r g5) := (Qw13 ((kR_ne nA).trans tset_at)).trans (by rw [kR_tset nA, tset_tset])
          have hv : D_c_Reader_heaviestLanguage F 513 (kR (tset T4 A (cReq v2 none none none)) L r g5) = some (Int32.ofNat la) := by
            obtain ⟨la', fo', l1', l2', l3', l4', l5'⟩ := wanted_both (F := F) (L := L) (r := r) (T := tset T4 A (cReq v2 none none none)) (tset_o q7' (by omega)) q8' q9'.2.2.2.2.2.2.2.2.2 (by omega)
            rw [l4']
            have z1 := l5 S6 (fun _ => rfl)
            have z2 := l5' S6 (fun _ => rfl)
            rw [z1] at z2
            have z3 := congrArg Int32.toNatClampNeg (Option.some.inj z2)
            rw [m_n_cl (by omega), m_n_cl (by omega)] at z3
            have : la' = la := by omega
            rw [this]
          obtain ⟨T5, hT5⟩ : ∃ z, z = tset T4 A (cReq (qch v3 (cdv S6)) (some (A + 1)) none none) := ⟨_, rfl⟩
          have ch : D_c_Request_chooseBlocks F A (kR (tset T4 A (cReq v3 (some (A + 1)) none none)) L r g5) = some (kR T5 L r g5) := by
            rw [c_choose (k := cdv S6) (s := A + 2) ((kR_ne nA).trans tset_at) ((kR_ne nB).trans (tset_o q2' (by omega))), kR_tset nA, tset_tset, hT5]
          refine ⟨kR T5 L r g5, S6, pa, va, la, fo, by omega, ?_, ?_, ⟨d5, d6, l1, l2, ?_, ?_, l3, l5, ?_, ?_, ⟨nt, ft, q3', q4', ?_, fun i hi => (q6' i hi).1⟩, q9'⟩, rest T5 g5 S6 ?_ ?_ ?_ ?_ ?_ ?_, ?_⟩
          · rw [cc3, e1]
            unfold D_c_Reader_readRequest_142
            rw [show m_c1 .eq (1 : Int32) = false from rfl, cond_false, Kcl, Option.bind_some, y1]
            simp only [bd2, Option.bind_some, show m_c1 .ne (1 : Int32) = true from rfl, cond_true, Kr13, Kr14, r1, r2, Wg10 kR_at, g510, tp1, Wg11 kR_at, g511, tp2, Kcl, hv, tp3, tp4]
            rw [show tcl (kR (tset T4 A (cReq v3 (some (A + 1)) none none)) L r g5) A 6 = some () from tcl_o ((kR_ne nA).trans tset_at), Option.bind_some, ch, Option.bind_some, Kr13, Option.bind_some, r1]
          · rw [mm4, y2, hS6]
          · rw [F46.1 7 (by decide), e6.1 7 (by decide)]; exact d9
          · rw [F46.1 8 (by decide), e6.1 8 (by decide)]; exact d11
          · rw [kR_ne nA, hT5, tset_at, hv3, hv2, hv1]
          · rw [kR_ne nB, hT5]; exact tset_o q2' (by omega)
          · rw [kR_ne (by omega), hT5]; exact tset_o q5' (by omega)
          · rw [g53, hS6]; exact up1_at.symm
          · rw [hS6]; exact (up1_no (by decide)).trans up1_at
          · exact F4.trans (F46.to (by decide))
          · exact e7.trans (by rw [hT5]; exact Ft.set (by simp))
          · obtain ⟨f9, q⟩ := e9
            exact ⟨f9, by rw [hT5, tset_ne (by omega)]; exact q⟩
          · exact ⟨fw, by rw [hT5, tset_ne (by omega)]; exact q7'⟩
          · rw [hT5]
            exact (((C1.trans C4).trans (kR_cs (g' := g5))).trans (up_cs (T1 := T) q1' nA rfl rfl)).mono (by decide) (by decide)
        · right
          refine ⟨kR T4 L r g5, _, ?_, mm4.trans y2, rest T4 g5 _ (y3.trans up1_at.symm) ((up1_no (by decide)).trans up1_at) ((F4.trans (y5.to (by decide))).trans (Fs.to (K := [2, 3]) ((Fs.up1 (by decide)).trans (Fs.up1 (by decide))) (by decide))) e7 e9 N4, ((C1.trans C4).trans kR_cs).mono (by decide) (by decide)⟩
          rw [cc3, e1]
          unfold D_c_Reader_readRequest_142
          rw [show m_c1 .eq (1 : Int32) = false from rfl, cond_false, Kcl, Option.bind_some, y1]
          rfl
      · right
        exact fail T4 g4 S4 f0 (cc3.trans e1) (mm3.trans e2) e4 e3 (F3.trans (e6.mono (by decide) (by decide))) e7 e9 e10 ((kR_cs.trans e8).mono (by decide) (by decide))
    · right
      refine fail T1 g3 S3 f0 ?_ ?_ d4 d3 (F2.trans (d6.to (by decide))) Ft.refl N1 N2 kR_cs
      · rw [cc2, d1]
        exact cdead _
      · rw [mm2, d2]
        exact mdead S3 d4.1
  · right
    obtain ⟨S3, e1, e2, e3⟩ := tgA_d (F := F) (a0 := 1) a4 (st1.2.1.fs a6 (by decide))
    refine fail T1 g2 S3 f0 ?_ ?_ e2 a3 ((F0.trans (a6.to (by decide))).trans (e3.to (by decide))) Ft.refl N1 N2 kR_cs
    · rw [cc']
      unfold D_c_Reader_readRequest_65
      simp only [Option.bind_some, Kcl, a1, bd2, show m_c1 .eq (0 : Int32) = true from rfl, cond_true]
      exact cdead _
    · rw [mm, a2, Option.bind_some, e1]
      exact mdead S3 e2.1
end
