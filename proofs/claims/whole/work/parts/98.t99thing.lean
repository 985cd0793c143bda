/-! A thing's text, whole. -/
abbrev Kt : List Nat := [2, 3, 4, 5, 6, 7, 8, 31, 80, 81, 82, 9, 10, 11, 12, 13, 14, 15, 16, 17, 18, 19, 20, 23, 24, 25, 26, 27, 28, 29, 30]
section
variable {T T' : tT} {S S' : mS} {t : Nat → Nat} {L p s e F k c m n a : Nat} {g g' : Nat → Int32} {r : Option Nat × Option Nat × Option Nat} {K A B : List Nat} {x : Int32}
theorem new_told : tnw T 13 = some (T.2.1, tadd T (cTold 0 (fun _ => 0)) 10) := rfl
theorem kR_tadd {c : tC} {k : Nat} (h : ¬ T.2.1 = 513) : tadd (kR T L r g) c k = kR (tadd T c k) L r g := by
  unfold kR tset tadd
  refine Prod.ext (funext fun i => ?_) rfl
  show (if i = T.2.1 then some c else if i = 513 then _ else T.1 i) = (if i = 513 then _ else if i = T.2.1 then some c else T.1 i)
  by_cases w : i = T.2.1
  · rw [if_pos w, if_neg (fun q => h (w.symm.trans q)), if_pos w]
  · rw [if_neg w, if_neg w]
theorem Kp15 {x : Nat} : tpr (kR T L r g) 513 1 15 (some x) = some (kR T L (r.1, r.2.1, some x) g) := by
  unfold tpr
  refine (tp_o kR_at (show 15 < 16 by decide)).trans ?_
  show some (tset (kR T L r g) 513 _) = some (kR T L (r.1, r.2.1, some x) g)
  unfold kR
  rw [tset_tset]
  rfl
/-- what a text's reading leaves, good or not -/
def Rest (T T' : tT) (S S' : mS) (L A k : Nat) (a b d : Option Nat) : Prop := ∃ g' f2 f3, T'.1 513 = some (cRd (Int32.ofNat L) g' a b d) ∧ g' 3 = S'.1 3 ∧ S'.1 2 = 0 ∧ T'.1 515 = some (.inr (.inl (0, 300, f2))) ∧ T'.1 516 = some (.inr (.inl (0, 4, f3))) ∧ (∀ b, ¬ b = 513 → ¬ b = 515 → ¬ b = 516 → ¬ (A ≤ b ∧ b < A + k) → T'.1 b = T.1 b) ∧ Fr Kt [585, 586, 587, 588] S S'
theorem Td.st {T1 : tT} (h : Td a T S) (q : ∀ i, 23 ≤ i → i ≤ 30 → S'.1 i = S.1 i) (hT : T1.1 a = T.1 a) : Td a T1 S' := by
  obtain ⟨h1, h2⟩ := h
  have e1 : tdv S' = tdv S := by
    funext i
    unfold tdv
    split <;> first | rfl | exact q _ (by decide) (by decide)
  refine ⟨by rw [e1, hT]; exact h1, ?_⟩
  unfold okD
  rw [q 23 (by decide) (by decide), q 25 (by decide) (by decide), q 26 (by decide) (by decide), q 27 (by decide) (by decide), q 29 (by decide) (by decide), q 30 (by decide) (by decide), q 24 (by decide) (by decide), q 28 (by decide) (by decide)]
  exact h2
theorem no23 {K : List Nat} (h : K.all (fun i => decide (i < 23) || decide (30 < i)) = true) {i : Nat} (h1 : 23 ≤ i) (h2 : i ≤ 30) : ¬ i ∈ K := fun q => by
  have := List.all_eq_true.mp h i q
  rw [Bool.or_eq_true, decide_eq_true_eq, decide_eq_true_eq] at this
  omega
theorem tgA_d {f0 : Nat} {a0 : Int32} (h : Dd S f0) (hT : Tp t L S) : ∃ S', tgA F a0 S = some S' ∧ Dd S' f0 ∧ Fs [5, 6, 7, 8] S S' := by
  have fs1 : Fs [7, 8] S (up1 (up1 S 7 (-1)) 8 0) := (Fs.up1 (by decide)).trans (Fs.up1 (by decide))
  have dd := h.fs fs1 (by decide) (by decide)
  obtain ⟨S3, e1, e2, e3⟩ := tgB_fl (F := F) (a0 := a0) (t := t) (L := L) (Or.inl dd) (hT.fs fs1 (by decide))
  refine ⟨S3, ?_, e2, (fs1.mono (by decide)).trans (e3.mono (by decide))⟩
  unfold tgA
  rw [h.expect, Option.bind_some, number_d h.1]
  exact e1
theorem P_thing {b' c' d' : Option Nat} {f2 f3 : Nat → Value} (h1 : T.1 513 = some (cRd (Int32.ofNat L) g b' c' d')) (h2 : T.1 515 = some (.inr (.inl (0, 300, f2)))) (h3 : T.1 516 = some (.inr (.inl (0, 4, f3)))) (hC : Tc t L T) (hP : Tp t L S) (hN : okN T) (hF : 400 < F) :
    (∃ T' S' pa, D_c_Reader_readThing F 513 T = some (some T.2.1, T') ∧ D_m_readText F 0 S = some (1, S') ∧ pa ≤ 31 ∧ S'.1 7 = Int32.ofNat pa ∧ T'.1 T.2.1 = some (cTold (Int32.ofNat pa) (tdv S')) ∧ okD S' ∧ Rest T T' S S' L T.2.1 1 b' c' (some T.2.1) ∧ Cs T T' 1 10) ∨
    (∃ T' S', D_c_Reader_readThing F 513 T = some (none, T') ∧ D_m_readText F 0 S = some (0, S') ∧ Rest T T' S S' L T.2.1 1 b' c' (some T.2.1) ∧ Cs T T' 1 10) := by
  have lt3 := hN _ _ h1
  have lt4 : 514 < T.2.1 := by obtain ⟨_, f1, q, _⟩ := hC; exact hN _ _ q
  have lt5 := hN _ _ h2
  have lt6 := hN _ _ h3
  obtain ⟨A, hA⟩ : ∃ A, A = T.2.1 := ⟨_, rfl⟩
  rw [← hA] at lt3 lt4 lt5 lt6 ⊢
  have T0 : T = kR T L (b', c', d') g := (tset_own h1).symm
  obtain ⟨f3', g1, b1, b2, b3, b4, b5, b6⟩ := begin_c (F := F) (T := T) (L := L) (r := (b', c', d')) (g := g) h3 (by omega)
  obtain ⟨S1, m1, m2, m3⟩ := begin_m (F := F) (x := 0) (S := S) (by omega)
  obtain ⟨T1, hT1⟩ : ∃ z, z = tadd (tset T 516 (.inr (.inl (0, 4, f3')))) (cTold 0 (fun _ => 0)) 10 := ⟨_, rfl⟩
  have T1b : ∀ b, ¬ b = 516 → ¬ b = A → T1.1 b = T.1 b := fun b n1 n2 => by
    rw [hT1, tadd_1, if_neg (show ¬ b = (tset T 516 (.inr (.inl (0, 4, f3')))).2.1 from fun q => n2 (q.trans hA.symm))]
    exact tset_ne n1
  have T1A : T1.1 A = some (cTold 0 (fun _ => 0)) := by rw [hT1, hA]; exact tadd_eq
  have T16 : T1.1 516 = some (.inr (.inl (0, 4, f3'))) := by
    rw [hT1, tadd_1, if_neg (show ¬ 516 = (tset T 516 (.inr (.inl (0, 4, f3')))).2.1 from fun q => by have : 516 = T.2.1 := q; omega)]
    exact tset_at
  have T15 : T1.1 515 = some (.inr (.inl (0, 300, f2))) := (T1b 515 (by decide) (by omega)).trans h2
  have C1 : Cs T (kR T1 L (b', c', some A) g1) 1 10 := by
    have q1' : Cs T (kR T L (b', c', d') g1) 0 0 := by
      have := kR_cs (T := T) (L := L) (r := (b', c', d')) (g := g) (g' := g1)
      rw [← T0] at this
      exact this
    have q2' : Cs (kR T L (b', c', d') g1) (kR (tset T 516 (.inr (.inl (0, 4, f3')))) L (b', c', d') g1) 0 0 := up_cs (T1 := T) h3 (by decide) rfl rfl
    have q3' : Cs (kR (tset T 516 (.inr (.inl (0, 4, f3')))) L (b', c', d') g1) (kR T1 L (b', c', d') g1) 1 10 := by
      have := Cs.new (T := kR (tset T 516 (.inr (.inl (0, 4, f3')))) L (b', c', d') g1) (c := cTold 0 (fun _ => 0)) (k := 10) rfl
      rw [kR_tadd (show ¬ (tset T 516 (.inr (.inl (0, 4, f3')))).2.1 = 513 from fun q => by have : T.2.1 = 513 := q; omega), ← hT1] at this
      exact this
    have q4' : Cs (kR T1 L (b', c', d') g1) (kR T1 L (b', c', some A) g1) 0 0 := by
      have := Cs.cell (T := kR T1 L (b', c', d') g1) (a := 513) (d := cRd (Int32.ofNat L) g1 b' c' (some A)) kR_at rfl rfl
      have e : tset (kR T1 L (b', c', d') g1) 513 (cRd (Int32.ofNat L) g1 b' c' (some A)) = kR T1 L (b', c', some A) g1 := tset_tset
      rw [e] at this
      exact this
    exact (((q1'.trans q2').trans q3').trans q4').mono (by decide) (by decide)
  have cc : D_c_Reader_readThing F 513 T = bd2 (D_c_Reader_expectText F 513 5 (kR T1 L (b', c', some A) g1)) fun v24 T25 => cond (m_c1 .eq v24) (D_c_Reader_readThing_36 F 513 T25) ((tcl T25 513 1).bind fun _ => bd2 (D_c_Reader_readTarget F 513 (0 : Int32) T25) fun v48 T49 => (cond (m_c1 .eq v48) (some (0 : Int32)) (some (1 : Int32))).bind fun v57 => D_c_Reader_readThing_40 F F 513 v57 (0 : Int32) T49) := by
    unfold D_c_Reader_readThing
    rw [tcl_o h1, Option.bind_some]
    conv => lhs; rw [T0]
    rw [b1, Option.bind_some, new_told]
    have e1 : (kR (tset T 516 (.inr (.inl (0, 4, f3')))) L (b', c', d') g1).2.1 = A := hA.symm
    have e2 : tadd (kR (tset T 516 (.inr (.inl (0, 4, f3')))) L (b', c', d') g1) (cTold 0 (fun _ => 0)) 10 = kR T1 L (b', c', d') g1 := by
      rw [kR_tadd (show ¬ (tset T 516 (.inr (.inl (0, 4, f3')))).2.1 = 513 from fun q => by have : T.2.1 = 513 := q; omega), ← hT1]
    rw [e1, e2]
    simp only [bd2, Option.bind_some, D_c_Told_init, Kp15, Kcl]
  have mm : D_m_readText F 0 S = ((D_m_expectWord F 73 S1).bind (fun q => (D_m_expect F 32 q.2).bind fun q1 => some q1.2)).bind fun S2 => (tgA F 0 S2).bind fun S72 => D_m_readText_177 F F 0 S72 := by
    rw [m1]
    show (D_m_expectWord F 73 S1).bind (fun q110 => D_m_readText_172 F 0 q110.2) = _
    cases D_m_expectWord F 73 S1 with
    | none => rfl
    | some q =>
      show (D_m_target F 0 q.2).bind _ = _
      rw [tg_eq]
      show ((D_m_expect F 32 q.2).bind _).bind _ = ((D_m_expect F 32 q.2).bind _).bind _
      cases D_m_expect F 32 q.2 <;> rfl
  obtain ⟨z4, z5, z31, z9, z12, z13, z14, z15, z17, z18, z19, z16, z23, z24, z25, z26, z27, z29, z30, z28, z20, zw⟩ := m3
  have st1 : St t L T1 S1 0 g1 := by
    refine ⟨⟨hC.1, ?_⟩, hP.fr m2 (by decide) (by decide), Nat.zero_le _, b3, z4, z5⟩
    obtain ⟨_, f1, q1', q2'⟩ := hC
    exact ⟨f1, (T1b 514 (by decide) (by omega)).trans q1', q2'⟩
  have td1 : Td A T1 S1 := by
    have few0 : ∀ n, few (n + 1) (0 : Int32) := fun n => ⟨0, Nat.succ_pos n, rfl⟩
    refine ⟨?_, ?_⟩
    · rw [T1A]
      congr 1
      refine cTold_ext (fun i hi => ?_)
      unfold tdv
      split <;> first | rfl | exact z23.symm | exact z25.symm | exact z26.symm | exact z27.symm | exact z29.symm | exact z30.symm | exact z24.symm | exact z28.symm
    · unfold okD
      rw [z23, z25, z26, z27, z29, z30, z24, z28]
      exact ⟨few0 255, few0 99999, few0 99999, few0 99999, Or.inl rfl, Or.inl rfl, few0 255, few0 3⟩
  have F0 : Fr Kt [585, 586, 587, 588] S S1 := m2.mono (by decide) (by decide)
  have cdead : ∀ T', D_c_Reader_readThing_40 F F 513 0 0 T' = some (none, T') := by
    intro T'
    obtain ⟨F', rfl⟩ : ∃ y, F = y + 1 := ⟨F - 1, by omega⟩
    unfold D_c_Reader_readThing_40
    rfl
  have mdead : ∀ S', S'.1 5 = 1 → D_m_readText_177 F F 0 S' = D_m_readText_201 F S' := by
    intro S' w
    obtain ⟨F', rfl⟩ : ∃ y, F = y + 1 := ⟨F - 1, by omega⟩
    unfold D_m_readText_177
    rw [w]
    rfl
  have rest : ∀ T4 g4 S4, g4 3 = S4.1 3 → S4.1 2 = 0 → Fr Kt [585, 586, 587, 588] S S4 → Ft [515, A] T1 T4 → (∃ f9, T4.1 515 = some (.inr (.inl (0, 300, f9)))) → Rest T (kR T4 L (b', c', some A) g4) S S4 L A 1 b' c' (some A) := by
    intro T4 g4 S4 q1' q2' q3' q4' ⟨f9, q5'⟩
    refine ⟨g4, f9, f3', kR_at, q1', q2', (kR_ne (by decide)).trans q5', ?_, fun b n1 n2 n3 n4 => ?_, q3'⟩
    · rw [kR_ne (by decide), q4'.1 516 (by simp; omega)]
      exact T16
    · have nA : ¬ b = A := fun q => n4 (by omega)
      rw [kR_ne n1, q4'.1 b (by simp; exact ⟨n2, nA⟩)]
      exact T1b b n3 nA
  have fail : ∀ T4 g4 S4 f0, D_c_Reader_readThing F 513 T = some (none, kR T4 L (b', c', some A) g4) → D_m_readText F 0 S = D_m_readText_201 F S4 → Dd S4 f0 → g4 3 = Int32.ofNat f0 → Fr Kt [585, 586, 587, 588] S S4 → Ft [515, A] T1 T4 → (∃ f9, T4.1 515 = some (.inr (.inl (0, 300, f9)))) → Cs (kR T1 L (b', c', some A) g1) (kR T4 L (b', c', some A) g4) 0 0 → (∃ T' S', D_c_Reader_readThing F 513 T = some (none, T') ∧ D_m_readText F 0 S = some (0, S') ∧ Rest T T' S S' L A 1 b' c' (some A) ∧ Cs T T' 1 10) := by
    intro T4 g4 S4 f0 q1' q2' q3' q4' q5' q6' q7' q8'
    refine ⟨_, _, q1', q2'.trans (P_lost q3'), rest T4 g4 _ (q4'.trans up1_at.symm) ((up1_no (by decide)).trans up1_at) (q5'.trans (Fs.to (K := [2, 3]) ((Fs.up1 (by decide)).trans (Fs.up1 (by decide))) (by decide))) q6' q7', (C1.trans q8').mono (by decide) (by decide)⟩
  have N1 : ∃ f9, T1.1 515 = some (.inr (.inl (0, 300, f9))) := ⟨f2, T15⟩
  rcases P_first (F := F) (r := (b', c', some A)) (u := fun S => S) (fun S => Fs.refl) (x := 5) (y := 73) (cs := z_put) tx_5 tx_73 st1 (by omega) with ⟨g2, S2, S0, a1, a2, a3, a4, a5, a6, a7⟩ | ⟨f0, g2, S2, a1, a2, a3, a4, a5, a6⟩
  · have cc2 : D_c_Reader_readThing F 513 T = bd2 (D_c_Reader_readTarget F 513 (b2i false) (kR T1 L (b', c', some A) g2)) fun v48 T49 => (cond (m_c1 .eq v48) (some (0 : Int32)) (some (1 : Int32))).bind fun v57 => D_c_Reader_readThing_40 F F 513 v57 (0 : Int32) T49 := by
      rw [cc, a1]
      simp only [bd2, Option.bind_some, show m_c1 .eq (1 : Int32) = false from rfl, cond_false, Kcl]
      rfl
    have mm2 : D_m_readText F 0 S = (tgA F (b2i false) S2).bind fun S72 => D_m_readText_177 F F 0 S72 := by
      have a2' : (D_m_expectWord F 73 S1).bind (fun q => (D_m_expect F 32 q.2).bind fun q1 => some q1.2) = some S2 := a2
      rw [mm, a2']
      rfl
    have F2 : Fr Kt [585, 586, 587, 588] S S2 := F0.trans (a5.to (by decide))
    rcases P_target (F := F) (r := (b', c', some A)) (b := false) a3 (by omega) with ⟨p3, pa, va, g3, S3, d1, d2, d3, d4, d5, d6, d7, d8, d9, d10, d11, d12, d13⟩ | ⟨f0, g3, S3, d1, d2, d3, d4, d5, d6⟩
    · have cc3 : D_c_Reader_readThing F 513 T = D_c_Reader_readThing_40 F F 513 1 (Int32.ofNat 0) (kR T1 L (b', c', some A) g3) := by rw [cc2, d1]; rfl
      have mm3 : D_m_readText F 0 S = D_m_readText_177 F F 0 S3 := by rw [mm2, d2]; rfl
      have F3 : Fr Kt [585, 586, 587, 588] S S3 := F2.trans (d13.to (by decide))
      have nm3 : Nm t L T1 S3 g3 0 p3 := by
        refine ⟨Nat.zero_le _, ?_, ?_, f2, T15, fun k hk => absurd hk (Nat.not_lt_zero k)⟩
        · rw [d12 5 (by decide), a4 5 (by decide)]; exact b5
        · rw [d13.1 31 (by decide), a5.1 31 (by decide)]; exact z31
      have td3 : Td A T1 S3 := td1.st (fun i i1 i2 => by rw [d13.1 i (no23 (by decide) i1 i2), a5.1 i (no23 (by decide) i1 i2)]) rfl
      have p3L := d3.2.2.1
      have hL := hC.1
      rcases P_lines (F := F) (r := (b', c', some A)) (a := A) ⟨by omega, by omega, by omega⟩ rfl hF (L - p3) 0 0 p3 g3 T1 S3 (by omega) (by omega) d3 nm3 td3 F F (by omega) (by omega) with ⟨p4, g4, T4, S4, e1, e2, e3, e4, e5, e6, e7, e8, e9⟩ | ⟨f0, g4, T4, S4, e1, e2, e3, e4, e5, e6, e7, e8, e9⟩
      · have F4 : Fr Kt [585, 586, 587, 588] S S4 := F3.trans (e6.mono (by decide) (by decide))
        have C4 : Cs (kR T1 L (b', c', some A) g1) (kR T4 L (b', c', some A) g4) 0 0 := (kR_cs.trans e8).mono (by decide) (by decide)
        have cc4 : D_c_Reader_readThing F 513 T = bd2 (D_c_Reader_readEnd F 513 (kR T4 L (b', c', some A) g4)) fun v141 T142 => cond (m_c1 .ne v141) ((tgr T142 513 1 15).bind fun v148 => (tgi T142 513 1 10).bind fun v152 => (v148).bind fun a155 => (tpi T142 a155 13 0 v152).bind fun T158 => (tgr T158 513 1 15).bind fun v162 => some (v162, T158)) (D_c_Reader_readThing_106 F 513 T142) := by
          rw [cc3, e1]
          unfold D_c_Reader_readThing_95
          rw [Kcl]
          rfl
        have mm4 : D_m_readText F 0 S = D_m_readText_201 F S4 := mm3.trans e2
        rcases P_fine (F := F) (r := (b', c', some A)) e3 with ⟨g5, S5, y1, y2, y3, y4⟩ | ⟨f0, g5, S5, y1, y2, y3, y4, y5⟩
        · left
          obtain ⟨S6, hS6⟩ : ∃ z, z = up1 (up1 S5 2 0) 3 (-1) := ⟨_, rfl⟩
          have F6 : Fs [2, 3] S5 S6 := by rw [hS6]; exact (Fs.up1 (by decide)).trans (Fs.up1 (by decide))
          have td6 : Td A T4 S6 := e4.st (fun i i1 i2 => by rw [F6.1 i (no23 (by decide) i1 i2), y4.1 i (no23 (by decide) i1 i2)]) rfl
          obtain ⟨T5, hT5⟩ : ∃ z, z = tset T4 A (cTold (Int32.ofNat pa) (tdv S6)) := ⟨_, rfl⟩
          have nA3 : ¬ A = 513 := by omega
          have g510 : g5 10 = Int32.ofNat pa := by rw [y3 10 (by decide), e5 10 (by decide)]; exact d8
          have g53 : g5 3 = -1 := by rw [y3 3 (by decide), e5 3 (by decide), d12 3 (by decide), a4 3 (by decide)]; exact b4
          have tp9 : tpi (kR T4 L (b', c', some A) g5) A 13 0 (Int32.ofNat pa) = some (kR T5 L (b', c', some A) g5) := (tp_o ((kR_ne nA3).trans td6.1) (show 0 < 10 by decide)).trans (by rw [kR_tset nA3, hT5]; rfl)
          refine ⟨kR T5 L (b', c', some A) g5, S6, pa, ?_, ?_, d5, ?_, ?_, td6.2, rest T5 g5 S6 ?_ ?_ ?_ ?_ ?_, ?_⟩
          · rw [cc4, y1]
            simp only [bd2, Option.bind_some, show m_c1 .ne (1 : Int32) = true from rfl, cond_true, Kr15, Wg10 kR_at, g510, tp9]
          · rw [mm4, y2, hS6]
          · rw [F6.1 7 (by decide), y4.1 7 (by decide), e6.1 7 (by decide)]; exact d9
          · rw [kR_ne nA3, hT5]; exact tset_at
          · rw [g53, hS6]; exact up1_at.symm
          · rw [hS6]; exact (up1_no (by decide)).trans up1_at
          · exact F4.trans ((y4.to (by decide)).trans (F6.to (by decide)))
          · exact e7.trans (by rw [hT5]; exact Ft.set (by simp))
          · obtain ⟨f9, q⟩ := e9
            exact ⟨f9, by rw [hT5, tset_ne (by omega)]; exact q⟩
          · rw [hT5]
            exact (((C1.trans C4).trans (kR_cs (g' := g5))).trans (up_cs (T1 := T) td6.1 nA3 rfl rfl)).mono (by decide) (by decide)
        · right
          refine ⟨kR T4 L (b', c', some A) g5, _, ?_, mm4.trans y2, rest T4 g5 _ (y3.trans up1_at.symm) ((up1_no (by decide)).trans up1_at) ((F4.trans (y5.to (by decide))).trans (Fs.to (K := [2, 3]) ((Fs.up1 (by decide)).trans (Fs.up1 (by decide))) (by decide))) e7 e9, ((C1.trans C4).trans kR_cs).mono (by decide) (by decide)⟩
          rw [cc4, y1]
          rfl
      · right
        exact fail T4 g4 S4 f0 (cc3.trans e1) (mm3.trans e2) e4 e3 (F3.trans (e6.mono (by decide) (by decide))) e7 e9 ((kR_cs.trans e8).mono (by decide) (by decide))
    · right
      refine fail T1 g3 S3 f0 ?_ ?_ d4 d3 (F2.trans (d6.to (by decide))) Ft.refl N1 kR_cs
      · rw [cc2, d1]
        exact cdead _
      · rw [mm2, d2]
        exact mdead S3 d4.1
  · right
    obtain ⟨S3, e1, e2, e3⟩ := tgA_d (F := F) (a0 := 0) a4 (st1.2.1.fs a6 (by decide))
    refine fail T1 g2 S3 f0 ?_ ?_ e2 a3 ((F0.trans (a6.to (by decide))).trans (e3.to (by decide))) Ft.refl N1 kR_cs
    · rw [cc, a1]
      exact cdead _
    · have a2' : (D_m_expectWord F 73 S1).bind (fun q => (D_m_expect F 32 q.2).bind fun q1 => some q1.2) = some S2 := a2
      rw [mm, a2', Option.bind_some, e1]
      exact mdead S3 e2.1
end
