/-! A name with its colon. -/
section
variable {T T' : tT} {S S' : mS} {t : Nat → Nat} {L p e F k c m n : Nat} {g g' : Nat → Int32} {r : Option Nat × Option Nat × Option Nat} {K A B : List Nat}
theorem no_c {x : Int32} : D_c_Reader_no F 513 x (kR T L r g) = some (0, kR T L r (fup g 3 x)) := by unfold D_c_Reader_no; rw [Kp3]; rfl
theorem up_cs {T1 : tT} {b : Nat} {x y : tC} (h : T.1 b = some x) (h0 : ¬ b = 513) (lx : lsC x = false) (ly : lsC y = false) : Cs (kR T L r g) (kR (tset T b y) L r g) 0 0 := by
  have := Cs.cell (T := kR T L r g) (a := b) (d := y) ((kR_ne h0).trans h) lx ly
  rw [kR_tset h0] at this
  exact this
theorem P_name (h : St t L T S p g) (hN : Nm t L T S g n p) (hF : 400 < F) :
    (∃ p' s e g' T1 S', D_c_Reader_readName F 513 (kR T L r g) = some (1, kR T1 L r g') ∧ D_m_name F S = some (1, S') ∧ St t L T1 S' p' g' ∧ Nm t L T1 S' g' (n + 1) p' ∧ p < p' ∧ s ≤ e ∧ e ≤ L ∧ n < 150 ∧ g' 6 = Int32.ofNat s ∧ g' 7 = Int32.ofNat e ∧ rd S' 587 n = Int32.ofNat s ∧ rd S' 588 n = Int32.ofNat e ∧ Gs [2, 5, 6, 7] g g' ∧ Fr [4, 31] [587, 588] S S' ∧ Ft [515] T T1 ∧ Cs (kR T L r g) (kR T1 L r g') 0 0 ∧ ∀ j, j < n → Other t L s e S' j ∧ rd S' 587 j = rd S 587 j ∧ rd S' 588 j = rd S 588 j) ∨
    (∃ f0 g' S', D_c_Reader_readName F 513 (kR T L r g) = some (0, kR T L r g') ∧ D_m_name F S = some (0, S') ∧ g' 3 = Int32.ofNat f0 ∧ Dd S' f0 ∧ Gs [2, 3, 6, 7] g g' ∧ Fs [4, 5, 6] S S') := by
  obtain ⟨h1, h2, h3, h4, h5, h6⟩ := id h
  have hL := h1.1
  obtain ⟨e, e1, e2, e3, e4⟩ := ex_run (t := t) (L := L) isS rfl (L - p) p (by omega)
  obtain ⟨g1, a1, a2, a3⟩ := skip_c (F := F) (r := r) h1 e2 e3 (e - p) p (fup g 6 (Int32.ofNat p)) (by omega) ((fup_ne (by decide)).trans h4) e4 F (by omega)
  obtain ⟨S1, f1, b1, b2, b3⟩ := name_skip (F := F) (x1 := Int32.ofNat p) e2 (e - p) p S h2 (by omega) h5 e4 F (by omega)
  obtain ⟨g2, hg2⟩ : ∃ z, z = fup g1 7 (Int32.ofNat e) := ⟨_, rfl⟩
  have g26 : g2 6 = Int32.ofNat p := by rw [hg2, fup_ne (by decide), a3 6 (by decide)]; exact fup_eq
  have g27 : g2 7 = Int32.ofNat e := by rw [hg2]; exact fup_eq
  have g22 : g2 2 = Int32.ofNat e := by rw [hg2, fup_ne (by decide)]; exact a2
  have G2 : Gs [2, 6, 7] g g2 := by rw [hg2]; exact ((Gs.fup (by decide)).trans (a3.mono (by decide))).trans (Gs.fup (by decide))
  have st2 : St t L T S1 e g2 := h.step e2 g22 b2 ((b3.1 5 (by decide)).trans h6) b3 (by decide)
  have hl := h1.lt (p := e)
  have h5' : S1.1 5 = 0 := st2.2.2.2.2.2
  have N2 : Nm t L T S1 g2 n p := by
    obtain ⟨n1, n2, n3, f2', n4, n5⟩ := hN
    refine ⟨n1, (G2 5 (by decide)).trans n2, (b3.1 31 (by decide)).trans n3, f2', n4, fun k hk => ?_⟩
    have rr : ∀ a k, rd S1 a k = rd S a k := fun a k => by unfold rd; rw [b3.2]
    rw [rr, rr]
    exact n5 k hk
  have cA : D_c_Reader_readName F 513 (kR T L r g) = cond (decide (¬ e = p)) (cond (decide (e - p ≤ 20)) (cond (decide (hc t L e = 58)) ((D_c_Reader_wasThere F 513 (kR T L r g2)).bind fun v50 => cond (m_c1 .ne v50) (some (0, kR T L r (fup g2 3 (Int32.ofNat p)))) ((tgi (kR T L r g2) 513 1 5).bind fun v56 => (tgr (kR T L r g2) 513 1 4).bind fun v59 => (v59).bind fun a63 => (tal (kR T L r g2) a63).bind fun v66 => cond (m_c2 .lt v56 v66) ((tgr (kR T L r g2) 513 1 4).bind fun v71 => (tgi (kR T L r g2) 513 1 5).bind fun v75 => (tgi (kR T L r g2) 513 1 6).bind fun v78 => (v71).bind fun a81 => (tasi (kR T L r g2) a81 v75 v78).bind fun T84 => (tgi T84 513 1 5).bind fun v88 => (tpi T84 513 1 5 (v88 + (1 : Int32))).bind fun T91 => (tgi T91 513 1 2).bind fun v95 => (tpi T91 513 1 2 (v95 + (1 : Int32))).bind fun T98 => (tcl T98 513 1).bind fun _ => (D_c_Reader_here F 513 T98).bind fun v105 => cond (m_c2 .ne v105 (32 : Int32)) (some ((1 : Int32), T98)) ((tgi T98 513 1 2).bind fun v115 => (tpi T98 513 1 2 (v115 + (1 : Int32))).bind fun T118 => some ((1 : Int32), T118))) (D_c_Reader_readName_100 F 513 (kR T L r g2)))) (some (0, kR T L r (fup g2 3 (Int32.ofNat e))))) (some (0, kR T L r (fup g2 3 (Int32.ofNat p))))) (some (0, kR T L r (fup g2 3 (Int32.ofNat e)))) := by
    unfold D_c_Reader_readName
    simp only [Kg2, h4, Option.bind_some, Kp6, Kcl]
    rw [show D_c_Reader_skipLetters F 513 (kR T L r (fup g 6 (Int32.ofNat p))) = some (kR T L r g1) from a1]
    simp only [Option.bind_some, Kg2, a2, Kp7, ← hg2, Kg6, g22, g26, ne_n (show e < 2147483648 by omega) (show p < 2147483648 by omega), m_n_sub e1, le_n (show e - p < 2147483648 by omega) (show 20 < 2147483648 by decide), show (20 : Int32) = Int32.ofNat 20 from rfl, show (58 : Int32) = Int32.ofNat 58 from rfl, here_v st2.1 g22 e2, eq_n (show hc t L e < 2147483648 by omega) (show 58 < 2147483648 by decide), Kcl, no_c, bd2, show bret (0 : Int32) = some 0 from rfl]
    unfold D_c_Reader_readName_100
    simp only [Kg6, g26, Kcl, Option.bind_some, no_c, bd2, show bret (0 : Int32) = some 0 from rfl]
  have mA : D_m_name F S = cond (decide (¬ e = p)) (cond (decide (e - p ≤ 20)) (cond (decide (hc t L e = 58)) (D_m_name_82 F F (Int32.ofNat p) (0 : Int32) S1) (some (0, up1 (up1 S1 5 1) 6 (Int32.ofNat e)))) (some (0, up1 (up1 S1 5 1) 6 (Int32.ofNat p)))) (some (0, up1 (up1 S1 5 1) 6 (Int32.ofNat e))) := by
    have q1' : D_m_name F S = D_m_name_5 F (f1 + 1) (Int32.ofNat p) S1 := by unfold D_m_name; rw [h5]; exact b1
    rw [q1']
    conv => lhs; unfold D_m_name_5
    rw [see_v st2.2.1 b2 e2, Option.bind_some, sm_m st2.2.1, Option.bind_some, b_eq0, e3, Bool.not_false, cond_true, b2, ne_n (by omega) (by omega), m_n_sub e1, show (20 : Int32) = Int32.ofNat 20 from rfl, le_n (by omega) (by decide), Option.bind_some, show (58 : Int32) = Int32.ofNat 58 from rfl, sv_eq st2.2.1 (by decide) (by decide), wrong_m h5', wrong_m h5']
    rfl
  have bad : ∀ f0, D_c_Reader_readName F 513 (kR T L r g) = some (0, kR T L r (fup g2 3 (Int32.ofNat f0))) → D_m_name F S = some (0, up1 (up1 S1 5 1) 6 (Int32.ofNat f0)) → (∃ f0 g' S', D_c_Reader_readName F 513 (kR T L r g) = some (0, kR T L r g') ∧ D_m_name F S = some (0, S') ∧ g' 3 = Int32.ofNat f0 ∧ Dd S' f0 ∧ Gs [2, 3, 6, 7] g g' ∧ Fs [4, 5, 6] S S') := fun f0 x1 x2 => ⟨f0, _, _, x1, x2, fup_eq, ⟨by rw [up1_no (by decide), up1_at], up1_at⟩, (G2.mono (by decide)).trans (Gs.fup (by decide)), (b3.mono (by decide)).trans ((Fs.up1 (by decide)).trans (Fs.up1 (by decide)))⟩
  by_cases w1 : e = p
  · right
    rw [decide_eq_false (show ¬ ¬ e = p from fun n => n w1)] at cA mA
    exact bad e cA mA
  rw [decide_eq_true w1, cond_true] at cA mA
  by_cases w2 : e - p ≤ 20
  · rw [decide_eq_true w2, cond_true] at cA mA
    by_cases w3 : hc t L e = 58
    · rw [decide_eq_true w3, cond_true] at cA mA
      have eL : e < L := hc_lt w3 (by decide)
      have hcl : ∀ i, i < L → hc t L i = t i := fun i hi => by unfold hc; rw [if_pos hi]
      have wd : Wd t L p e := ⟨by omega, eL, fun i i1 i2 => by have := e4 i i1 i2; rw [hcl i (by omega)] at this; exact this, by rw [← hcl e eL]; exact w3⟩
      rcases P_was (F := F) (r := r) N2 h1 st2.2.1 h3 g26 g27 b2 wd hF n 0 (by omega) F F (by have := N2.1; omega) (by have := N2.1; omega) with ⟨x1, x2⟩ | ⟨f3, x1, x2, x3⟩
      · right
        refine bad p ?_ ?_
        · rw [cA, show D_c_Reader_wasThere F 513 (kR T L r g2) = some 1 from x1]; rfl
        · rw [mA, show (0 : Int32) = Int32.ofNat 0 from rfl, x2, wrong_m h5']; rfl
      · left
        obtain ⟨n1, n2, n3, f2', n4, n5⟩ := N2
        have n4' : (kR T L r g2).1 515 = some (.inr (.inl (0, 300, f2'))) := (kR_ne (by decide)).trans n4
        have al : tal (kR T L r g2) 515 = some (Int32.ofNat 300) := by simp only [tal, n4']; rfl
        obtain ⟨T1, hT1⟩ : ∃ z, z = tset T 515 (.inr (.inl (0, 300, fun j => if j = n then .int (Int32.ofNat p) else f2' j))) := ⟨_, rfl⟩
        have tw : tasi (kR T L r g2) 515 (Int32.ofNat n) (Int32.ofNat p) = some (kR T1 L r g2) := by
          unfold tasi
          rw [tas_n n4' (by omega) (by decide), kR_tset (by decide), hT1]
        have T14 : T1.1 515 = some (.inr (.inl (0, 300, fun j => if j = n then .int (Int32.ofNat p) else f2' j))) := by rw [hT1]; exact tset_at
        have ft1 : Ft [515] T T1 := by rw [hT1]; exact Ft.set (by decide)
        have tc1 : Tc t L T1 := h1.ft ft1 (by decide)
        obtain ⟨g3, hg3⟩ : ∃ z, z = fup (fup g2 5 (Int32.ofNat (n + 1))) 2 (Int32.ofNat (e + 1)) := ⟨_, rfl⟩
        have G3 : Gs [2, 5] g2 g3 := by rw [hg3]; exact (Gs.fup (by decide)).trans (Gs.fup (by decide))
        have g32 : g3 2 = Int32.ofNat (e + 1) := by rw [hg3]; exact fup_eq
        have g35 : g3 5 = Int32.ofNat (n + 1) := by rw [hg3, fup_ne (by decide)]; exact fup_eq
        have i1 : Int32.ofNat n + 1 = Int32.ofNat (n + 1) := m_n_add n 1
        have i2 : Int32.ofNat e + 1 = Int32.ofNat (e + 1) := m_n_add e 1
        have i3 : Int32.ofNat (e + 1) + 1 = Int32.ofNat (e + 2) := m_n_add (e + 1) 1
        have hl' := tc1.lt (p := e + 1)
        have cB : D_c_Reader_readName F 513 (kR T L r g) = cond (decide (¬ hc t L (e + 1) = 32)) (some (1, kR T1 L r g3)) (some (1, kR T1 L r (fup g3 2 (Int32.ofNat (e + 2))))) := by
          rw [cA, show D_c_Reader_wasThere F 513 (kR T L r g2) = some 0 from x1]
          simp only [Option.bind_some, show m_c1 .ne (0 : Int32) = false from rfl, cond_false, Kg5, n2, Rr4 kR_at, al, lt_n (show n < 2147483648 by omega) (show 300 < 2147483648 by decide), decide_eq_true (show n < 300 by omega), cond_true, Kg6, g26, tw, i1, Kp5, Kg2, fup_ne (show ¬ 2 = 5 by decide), g22, i2, Kp2, ← hg3, Kcl, here_v tc1 g32 (show e + 1 ≤ L from eL), g32, i3]
          rw [show (32 : Int32) = Int32.ofNat 32 from rfl, ne_n (by omega) (by decide)]
        obtain ⟨S2, hS2⟩ : ∃ z, z = up2 (up2 S1 587 n (Int32.ofNat p)) 588 n (Int32.ofNat e) := ⟨_, rfl⟩
        obtain ⟨S3, hS3⟩ : ∃ z, z = up1 (up1 S2 31 (Int32.ofNat (n + 1))) 4 (Int32.ofNat (e + 1)) := ⟨_, rfl⟩
        have F2 : Fr [] [587, 588] S1 S2 := by rw [hS2]; exact (Fr.up2 (by decide)).trans (Fr.up2 (by decide))
        have F3 : Fs [4, 31] S2 S3 := by rw [hS3]; exact (Fs.up1 (by decide)).trans (Fs.up1 (by decide))
        have s34 : S3.1 4 = Int32.ofNat (e + 1) := by rw [hS3]; exact up1_at
        have s331 : S3.1 31 = Int32.ofNat (n + 1) := by rw [hS3, up1_no (by decide)]; exact up1_at
        have F13 : Fr [4, 31] [587, 588] S S3 := ((b3.fr (A := [587, 588])).mono (by decide) (by decide)).trans ((F2.mono (by decide) (by decide)).trans F3.fr)
        have rS : ∀ a k, rd S3 a k = if a = 588 ∧ k = n then Int32.ofNat e else if a = 587 ∧ k = n then Int32.ofNat p else rd S1 a k := fun a k => by rw [hS3, rd_up1, rd_up1, hS2, rd_up2, rd_up2]
        have tp3 : Tp t L S3 := h2.fr F13 (by decide) (by decide)
        have h53 : S3.1 5 = 0 := (F13.1 5 (by decide)).trans h6
        have mB : D_m_name F S = cond (decide (¬ hc t L (e + 1) = 32)) (some (1, S3)) (some (1, up1 S3 4 (Int32.ofNat (e + 2)))) := by
          rw [mA, show (0 : Int32) = Int32.ofNat 0 from rfl, x2]
          conv => lhs; unfold D_m_name_82
          rw [n3, ge_n (by omega) (by omega), decide_eq_true (Nat.le_refl _), cond_true, aput_n (show n < 150 by omega) (by decide), Option.bind_some]
          have u1 : (up2 S1 587 n (Int32.ofNat p)).1 31 = Int32.ofNat n := n3
          have u2 : (up2 S1 587 n (Int32.ofNat p)).1 4 = Int32.ofNat e := b2
          rw [u1, u2, aput_n (show n < 150 by omega) (by decide), Option.bind_some, ← hS2]
          have u3 : S2.1 31 = Int32.ofNat n := by rw [hS2]; exact n3
          have u4 : (up1 S2 31 (Int32.ofNat (n + 1))).1 4 = Int32.ofNat e := by rw [up1_no (by decide), hS2]; exact b2
          simp only [fput, Option.bind_some, u3, i1, u4, i2, ← hS3, see_v tp3 s34 (show e + 1 ≤ L from eL), s34, i3]
          rw [show (32 : Int32) = Int32.ofNat 32 from rfl, sv_ne tp3 (by decide) (by decide)]
        have fin : ∀ p' g4 S4, p < p' → e + 1 ≤ p' → p' ≤ L → g4 2 = Int32.ofNat p' → S4.1 4 = Int32.ofNat p' → Gs [2] g3 g4 → Fs [4] S3 S4 → D_c_Reader_readName F 513 (kR T L r g) = some (1, kR T1 L r g4) → D_m_name F S = some (1, S4) → (∃ p' s e g' T1 S', D_c_Reader_readName F 513 (kR T L r g) = some (1, kR T1 L r g') ∧ D_m_name F S = some (1, S') ∧ St t L T1 S' p' g' ∧ Nm t L T1 S' g' (n + 1) p' ∧ p < p' ∧ s ≤ e ∧ e ≤ L ∧ n < 150 ∧ g' 6 = Int32.ofNat s ∧ g' 7 = Int32.ofNat e ∧ rd S' 587 n = Int32.ofNat s ∧ rd S' 588 n = Int32.ofNat e ∧ Gs [2, 5, 6, 7] g g' ∧ Fr [4, 31] [587, 588] S S' ∧ Ft [515] T T1 ∧ Cs (kR T L r g) (kR T1 L r g') 0 0 ∧ ∀ j, j < n → Other t L s e S' j ∧ rd S' 587 j = rd S 587 j ∧ rd S' 588 j = rd S 588 j) := by
          intro p' g4 S4 q1' q2' q3' q4' q5' q6' q7' q8' q9'
          have r4 : ∀ a k, rd S4 a k = rd S3 a k := fun a k => by unfold rd; rw [q7'.2]
          refine ⟨p', p, e, g4, T1, S4, q8', q9', ⟨tc1, tp3.fs q7' (by decide), q3', q4', q5', (q7'.1 5 (by decide)).trans h53⟩, ⟨by omega, (q6' 5 (by decide)).trans g35, (q7'.1 31 (by decide)).trans s331, _, T14, fun k hk => ?_⟩, q1', e1, e2, by omega, ?_, ?_, ?_, ?_, ?_, F13.trans ((q7'.fr (A := [587, 588])).mono (by decide) (by decide)), ft1, ?_, fun j hj => ?_⟩
          · by_cases w : k = n
            · refine ⟨p, e, wd, ?_, ?_, ?_⟩
              · show m_toI (if k = n then _ else _) = _
                rw [if_pos w]; rfl
              · rw [r4, rS, if_neg (fun q => absurd q.1 (by decide)), if_pos ⟨rfl, w⟩]
              · rw [r4, rS, if_pos ⟨rfl, w⟩]
            · obtain ⟨a, b, y1, y2, y3, y4⟩ := n5 k (by omega)
              refine ⟨a, b, y1, ?_, ?_, ?_⟩
              · show m_toI (if k = n then _ else _) = _
                rw [if_neg w]; exact y2
              · rw [r4, rS, if_neg (fun q => w q.2), if_neg (fun q => w q.2)]; exact y3
              · rw [r4, rS, if_neg (fun q => w q.2), if_neg (fun q => w q.2)]; exact y4
          · rw [q6' 6 (by decide), G3 6 (by decide)]; exact g26
          · rw [q6' 7 (by decide), G3 7 (by decide)]; exact g27
          · rw [r4, rS, if_neg (fun q => absurd q.1 (by decide)), if_pos ⟨rfl, rfl⟩]
          · rw [r4, rS, if_pos ⟨rfl, rfl⟩]
          · exact ((G2.mono (by decide)).trans (G3.mono (by decide))).trans (q6'.mono (by decide))
          · rw [hT1]
            exact ((up_cs (T1 := T) n4 (by decide) rfl rfl).trans kR_cs).mono (by decide) (by decide)
          · obtain ⟨a, b, z1, z2, z3, z4⟩ := x3 j (Nat.zero_le _) hj
            have r1 : ∀ a k, rd S1 a k = rd S a k := fun a k => by unfold rd; rw [b3.2]
            refine ⟨⟨a, b, z1, ?_, ?_, z4⟩, by rw [r4, rS, if_neg (fun q => absurd q.1 (by decide)), if_neg (fun q => absurd q.2 (by omega)), r1], by rw [r4, rS, if_neg (fun q => absurd q.2 (by omega)), if_neg (fun q => absurd q.1 (by decide)), r1]⟩
            · rw [r4, rS, if_neg (fun q => absurd q.1 (by decide)), if_neg (fun q => absurd q.2 (by omega))]; exact z2
            · rw [r4, rS, if_neg (fun q => absurd q.2 (by omega)), if_neg (fun q => absurd q.1 (by decide))]; exact z3
        by_cases w4 : hc t L (e + 1) = 32
        · have := hc_lt w4 (by decide)
          exact fin (e + 2) (fup g3 2 (Int32.ofNat (e + 2))) (up1 S3 4 (Int32.ofNat (e + 2))) (by omega) (by omega) (by omega) fup_eq up1_at (Gs.fup (by decide)) (Fs.up1 (by decide)) (by rw [cB, decide_eq_false (show ¬ ¬ hc t L (e + 1) = 32 from fun n => n w4)]; rfl) (by rw [mB, decide_eq_false (show ¬ ¬ hc t L (e + 1) = 32 from fun n => n w4)]; rfl)
        · exact fin (e + 1) g3 S3 (by omega) (by omega) (by omega) g32 s34 Gs.refl Fs.refl (by rw [cB, decide_eq_true w4]; rfl) (by rw [mB, decide_eq_true w4]; rfl)
    · right
      rw [decide_eq_false w3] at cA mA
      exact bad e cA mA
  · right
    rw [decide_eq_false w2] at cA mA
    exact bad p cA mA
end
