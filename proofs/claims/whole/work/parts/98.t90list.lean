/-! A word with its number, a list of them, whatever the words mean. -/
/-- ints that words may change -/
abbrev Kw : List Nat := [13, 14, 15, 16, 17, 18, 19, 20, 23, 24, 25, 26, 27, 28, 29, 30]
abbrev Kl : List Nat := [4, 80, 81, 82, 13, 14, 15, 16, 17, 18, 19, 20, 23, 24, 25, 26, 27, 28, 29, 30]
abbrev Km : List Nat := [4, 5, 6, 80, 81, 82, 13, 14, 15, 16, 17, 18, 19, 20, 23, 24, 25, 26, 27, 28, 29, 30]
/-- the word that was read, on both sides -/
def Wo (L : Nat) (g : Nat → Int32) (S : mS) (s e : Nat) (w : Option Nat) : Prop := s ≤ e ∧ e ≤ L ∧ g 6 = Int32.ofNat s ∧ g 7 = Int32.ofNat e ∧ S.1 80 = Int32.ofNat s ∧ S.1 81 = Int32.ofNat e ∧ (match w with
  | none => g 8 = 1 ∧ S.1 82 = -1
  | some v => g 8 = 0 ∧ v ≤ 99999 ∧ g 9 = Int32.ofNat v ∧ S.1 82 = Int32.ofNat v)
section
variable {T T' : tT} {S S' : mS} {t : Nat → Nat} {L p e F k c m n : Nat} {g g' : Nat → Int32} {r : Option Nat × Option Nat × Option Nat} {K A B : List Nat}
theorem St.fr {T1 : tT} (h : St t L T S p g) (h2 : g' 2 = g 2) (f : Fr K A S S') (ft : Ft B T T1) (nB : ¬ 514 ∈ B) (n2 : ¬ 2 ∈ K) (n4 : ¬ 4 ∈ K) (n5 : ¬ 5 ∈ K) (nA : ¬ 584 ∈ A) : St t L T1 S' p g' := ⟨h.1.ft ft nB, h.2.1.fr f n2 nA, h.2.2.1, h2.trans h.2.2.2.1, (f.1 4 n4).trans h.2.2.2.2.1, (f.1 5 n5).trans h.2.2.2.2.2⟩
theorem Fl.fr {f : Nat} (h : Fl t L S f) (fs : Fr K A S S') (n4 : ¬ 4 ∈ K) (n5 : ¬ 5 ∈ K) (n6 : ¬ 6 ∈ K) : Fl t L S' f := by
  rcases h with ⟨a1, a2⟩ | ⟨a1, a2, a3, a4⟩
  · exact Or.inl ⟨(fs.1 5 n5).trans a1, (fs.1 6 n6).trans a2⟩
  · exact Or.inr ⟨(fs.1 5 n5).trans a1, (fs.1 4 n4).trans a2, a3, a4⟩
theorem Kg8 : tgi (kR T L r g) 513 1 8 = some (g 8) := Wg8 kR_at
theorem Kp8 {x : Int32} (hx : x = 0 ∨ x = 1) : tpz (kR T L r g) 513 1 8 x = some (kR T L r (fup g 8 x)) := by
  unfold tpz
  rw [if_pos hx]
  exact ((tp_o kR_at (show 8 < 16 by decide)).trans rfl).trans (by rw [← kR_set (g := g) (g' := fup g 8 x)]; rfl)
/-- a word with its number, on both sides: the reference stands before the word's meaning -/
theorem P_item {x1 : Int32} {rec2 : Int32 → Int32 → mS → Option mS} (h : St t L T S p g) (s80 : S.1 80 = Int32.ofNat p) (hF : 400 < F) :
    (∃ p' s e w g' S', D_c_Reader_readWord F 513 (kR T L r g) = some (1, kR T L r g') ∧ D_m_list_21 F rec2 F x1 S = D_m_list_139 F rec2 x1 S' ∧ St t L T S' p' g' ∧ p < p' ∧ Wo L g' S' s e w ∧ Gs [2, 6, 7, 8, 9] g g' ∧ Fs [4, 81, 82] S S') ∨
    (∃ f0 s e g' S', D_c_Reader_readWord F 513 (kR T L r g) = some (0, kR T L r g') ∧ D_m_list_21 F rec2 F x1 S = D_m_list_139 F rec2 x1 S' ∧ g' 3 = Int32.ofNat f0 ∧ Fl t L S' f0 ∧ Tp t L S' ∧ s ≤ e ∧ e ≤ L ∧ S'.1 80 = Int32.ofNat s ∧ S'.1 81 = Int32.ofNat e ∧ Gs [2, 3, 6, 7, 8, 9] g g' ∧ Fs [4, 5, 6, 81, 82] S S') := by
  obtain ⟨h1, h2, h3, h4, h5, h6⟩ := id h
  have hL := h1.1
  obtain ⟨e, e1, e2, e3, e4⟩ := ex_run (t := t) (L := L) isS rfl (L - p) p (by omega)
  obtain ⟨g1, a1, a2, a3⟩ := skip_c (F := F) (r := r) h1 e2 e3 (e - p) p (fup g 6 (Int32.ofNat p)) (by omega) ((fup_ne (by decide)).trans h4) e4 F (by omega)
  obtain ⟨S1, f1, b1, b2, b3⟩ := list_skip (F := F) (x1 := x1) (rec2 := rec2) e2 (e - p) p S h2 (by omega) h5 e4 F (by omega)
  obtain ⟨g2, hg2⟩ : ∃ z, z = fup g1 7 (Int32.ofNat e) := ⟨_, rfl⟩
  have g26 : g2 6 = Int32.ofNat p := by rw [hg2, fup_ne (by decide), a3 6 (by decide)]; exact fup_eq
  have g27 : g2 7 = Int32.ofNat e := by rw [hg2]; exact fup_eq
  have g22 : g2 2 = Int32.ofNat e := by rw [hg2, fup_ne (by decide)]; exact a2
  have G2 : Gs [2, 6, 7] g g2 := by rw [hg2]; exact ((Gs.fup (by decide)).trans (a3.mono (by decide))).trans (Gs.fup (by decide))
  have hl := h1.lt (p := e)
  have cA : D_c_Reader_readWord F 513 (kR T L r g) = cond (decide (¬ e = p)) (cond (decide (e - p ≤ 30)) (cond (decide (hc t L e = 61)) (bd2 (D_c_Reader_readNumber F 513 (Int32.ofNat 99999) (kR T L r (fup (fup g2 8 0) 2 (Int32.ofNat (e + 1))))) fun v71 T72 => (bret v71).bind fun v76 => some (v76, T72)) (some (1, kR T L r (fup g2 8 1)))) (some (0, kR T L r (fup g2 3 (Int32.ofNat p))))) (some (0, kR T L r (fup g2 3 (Int32.ofNat e)))) := by
    have i2 : Int32.ofNat e + 1 = Int32.ofNat (e + 1) := m_n_add e 1
    unfold D_c_Reader_readWord
    simp only [Kg2, h4, Option.bind_some, Kp6, Kcl]
    rw [show D_c_Reader_skipLetters F 513 (kR T L r (fup g 6 (Int32.ofNat p))) = some (kR T L r g1) from a1]
    simp only [Option.bind_some, Kg2, a2, Kp7, ← hg2, Kg6, g22, g26, ne_n (show e < 2147483648 by omega) (show p < 2147483648 by omega), m_n_sub e1, le_n (show e - p < 2147483648 by omega) (show 30 < 2147483648 by decide), show (30 : Int32) = Int32.ofNat 30 from rfl, show (61 : Int32) = Int32.ofNat 61 from rfl, here_v h1 g22 e2, eq_n (show hc t L e < 2147483648 by omega) (show 61 < 2147483648 by decide), Kcl, no_c, bd2, show bret (0 : Int32) = some 0 from rfl]
    by_cases w : hc t L e = 61
    · rw [decide_eq_true w]
      simp only [cond_true, Option.bind_some, Kp8 (show (0 : Int32) = 0 ∨ (0 : Int32) = 1 from Or.inl rfl), Kg8, fup_eq, show m_c1 .eq (0 : Int32) = true from rfl, Kg2, fup_ne (show ¬ 2 = 8 by decide), g22, i2, Kp2, Kcl]
      rfl
    · rw [decide_eq_false w]
      simp only [cond_false, Option.bind_some, Kp8 (show (1 : Int32) = 0 ∨ (1 : Int32) = 1 from Or.inr rfl), Kg8, fup_eq, show m_c1 .eq (1 : Int32) = false from rfl]
  obtain ⟨S2, hS2⟩ : ∃ z, z = up1 S1 81 (Int32.ofNat e) := ⟨_, rfl⟩
  have F2 : Fs [4, 81] S S2 := by rw [hS2]; exact (b3.mono (by decide)).trans (Fs.up1 (by decide))
  have s281 : S2.1 81 = Int32.ofNat e := by rw [hS2]; exact up1_at
  have s280 : S2.1 80 = Int32.ofNat p := (F2.1 80 (by decide)).trans s80
  have s24 : S2.1 4 = Int32.ofNat e := by rw [hS2, up1_no (by decide)]; exact b2
  have s25 : S2.1 5 = 0 := (F2.1 5 (by decide)).trans h6
  have mA : D_m_list_21 F rec2 F x1 S = cond (decide (¬ e = p)) (cond (decide (e - p ≤ 30)) (D_m_list_98 F rec2 x1 S2) (D_m_list_98 F rec2 x1 (up1 (up1 S2 5 1) 6 (Int32.ofNat p)))) (D_m_list_98 F rec2 x1 (up1 (up1 S2 5 1) 6 (Int32.ofNat e))) := by
    rw [b1]
    conv => lhs; unfold D_m_list_21
    rw [see_v (h2.fs b3 (by decide)) b2 e2, Option.bind_some, sm_m (h2.fs b3 (by decide)), Option.bind_some, b_eq0, e3, Bool.not_false, cond_true, b2]
    simp only [fput, Option.bind_some, ← hS2, s24, s280]
    rw [ne_n (by omega) (by omega), m_n_sub e1, show (30 : Int32) = Int32.ofNat 30 from rfl, le_n (by omega) (by decide), wrong_m s25, wrong_m s25]
    rfl
  have st2 : St t L T S2 e g2 := h.step e2 g22 s24 s25 F2 (by decide)
  have bad : ∀ f0, D_c_Reader_readWord F 513 (kR T L r g) = some (0, kR T L r (fup g2 3 (Int32.ofNat f0))) → D_m_list_21 F rec2 F x1 S = D_m_list_98 F rec2 x1 (up1 (up1 S2 5 1) 6 (Int32.ofNat f0)) → (∃ f0 s e g' S', D_c_Reader_readWord F 513 (kR T L r g) = some (0, kR T L r g') ∧ D_m_list_21 F rec2 F x1 S = D_m_list_139 F rec2 x1 S' ∧ g' 3 = Int32.ofNat f0 ∧ Fl t L S' f0 ∧ Tp t L S' ∧ s ≤ e ∧ e ≤ L ∧ S'.1 80 = Int32.ofNat s ∧ S'.1 81 = Int32.ofNat e ∧ Gs [2, 3, 6, 7, 8, 9] g g' ∧ Fs [4, 5, 6, 81, 82] S S') := by
    intro f0 y1 y2
    obtain ⟨S3, hS3⟩ : ∃ z, z = up1 (up1 (up1 S2 5 1) 6 (Int32.ofNat f0)) 82 (-1) := ⟨_, rfl⟩
    have F3 : Fs [5, 6, 82] S2 S3 := by rw [hS3]; exact ((Fs.up1 (by decide)).trans (Fs.up1 (by decide))).trans (Fs.up1 (by decide))
    have d5 : S3.1 5 = 1 := by rw [hS3, up1_no (by decide), up1_no (by decide)]; exact up1_at
    have d6 : S3.1 6 = Int32.ofNat f0 := by rw [hS3, up1_no (by decide)]; exact up1_at
    refine ⟨f0, p, e, _, S3, y1, ?_, fup_eq, Or.inl ⟨d5, d6⟩, st2.2.1.fs F3 (by decide), e1, e2, (F3.1 80 (by decide)).trans s280, (F3.1 81 (by decide)).trans s281, (G2.mono (by decide)).trans (Gs.fup (by decide)), (F2.mono (by decide)).trans (F3.mono (by decide))⟩
    rw [y2]
    unfold D_m_list_98
    simp only [fput, Option.bind_some, ← hS3, d5]
    rfl
  by_cases w1 : e = p
  · right
    rw [decide_eq_false (show ¬ ¬ e = p from fun n => n w1)] at cA mA
    exact bad e cA mA
  rw [decide_eq_true w1, cond_true] at cA mA
  by_cases w2 : e - p ≤ 30
  · rw [decide_eq_true w2, cond_true] at cA mA
    obtain ⟨S3, hS3⟩ : ∃ z, z = up1 S2 82 (-1) := ⟨_, rfl⟩
    have F3 : Fs [82] S2 S3 := by rw [hS3]; exact Fs.up1 (by decide)
    have st3 : St t L T S3 e g2 := st2.keep rfl F3 (by decide) (by decide) (by decide)
    have i2 : Int32.ofNat e + 1 = Int32.ofNat (e + 1) := m_n_add e 1
    have mB : D_m_list_98 F rec2 x1 S2 = cond (decide (¬ hc t L e = 61)) (D_m_list_139 F rec2 x1 S3) ((D_m_number F (Int32.ofNat 99999) (up1 S3 4 (Int32.ofNat (e + 1)))).bind fun q41 => D_m_list_139 F rec2 x1 (up1 q41.2 82 q41.1)) := by
      unfold D_m_list_98
      simp only [fput, Option.bind_some, ← hS3, st3.2.2.2.2.2, show m_c1 .ne (0 : Int32) = false from rfl, cond_false, see_v st3.2.1 st3.2.2.2.2.1 st3.2.2.1, st3.2.2.2.2.1, i2, show (61 : Int32) = Int32.ofNat 61 from rfl, sv_ne st3.2.1 (show 0 < 61 by decide) (show 61 < 127 by decide)]
      rfl
    rw [mB] at mA
    by_cases w3 : hc t L e = 61
    · rw [decide_eq_true w3, cond_true] at cA
      rw [decide_eq_false (show ¬ ¬ hc t L e = 61 from fun n => n w3), cond_false] at mA
      have eL : e < L := hc_lt w3 (by decide)
      obtain ⟨g3, hg3⟩ : ∃ z, z = fup (fup g2 8 0) 2 (Int32.ofNat (e + 1)) := ⟨_, rfl⟩
      obtain ⟨S4, hS4⟩ : ∃ z, z = up1 S3 4 (Int32.ofNat (e + 1)) := ⟨_, rfl⟩
      have G3 : Gs [2, 8] g2 g3 := by rw [hg3]; exact (Gs.fup (by decide)).trans (Gs.fup (by decide))
      have g38 : g3 8 = 0 := by rw [hg3, fup_ne (by decide)]; exact fup_eq
      have F4 : Fs [4] S3 S4 := by rw [hS4]; exact Fs.up1 (by decide)
      have st4 : St t L T S4 (e + 1) g3 := st3.step eL (by rw [hg3]; exact fup_eq) (by rw [hS4]; exact up1_at) ((F4.1 5 (by decide)).trans st3.2.2.2.2.2) F4 (by decide)
      rw [← hg3] at cA
      rw [← hS4] at mA
      rcases P_number (F := F) (r := r) (m := 99999) st4.1 st4.2.1 st4.2.2.1 (by decide) st4.2.2.2.1 st4.2.2.2.2.1 st4.2.2.2.2.2 (by omega) with ⟨q', v', g5, S5, d1, d2, d3, d4, d5, d6, d7, d8, d9, d10, d11, d12⟩ | ⟨f, z, g5, S5, d1, d2, d3, d4, d5, d6⟩
      · left
        have F6 : Fs [82] S5 (up1 S5 82 (Int32.ofNat v')) := Fs.up1 (by decide)
        have st5 : St t L T S5 q' g5 := st4.step d7 d3 d5 ((d12.1 5 (by decide)).trans st4.2.2.2.2.2) d12 (by decide)
        refine ⟨q', p, e, some v', g5, up1 S5 82 (Int32.ofNat v'), ?_, ?_, st5.keep rfl F6 (by decide) (by decide) (by decide), by omega, ⟨e1, e2, ?_, ?_, ?_, ?_, ?_, d9, d4, up1_at⟩, ((G2.mono (by decide)).trans (G3.mono (by decide))).trans (d11.mono (by decide)), (((F2.mono (by decide)).trans (F3.mono (by decide))).trans (F4.mono (by decide))).trans ((d12.mono (by decide)).trans (F6.mono (by decide)))⟩
        · rw [cA, d1]; rfl
        · rw [mA, d2]; rfl
        · rw [d11 6 (by decide), G3 6 (by decide)]; exact g26
        · rw [d11 7 (by decide), G3 7 (by decide)]; exact g27
        · rw [F6.1 80 (by decide), d12.1 80 (by decide), F4.1 80 (by decide), F3.1 80 (by decide)]; exact s280
        · rw [F6.1 81 (by decide), d12.1 81 (by decide), F4.1 81 (by decide), F3.1 81 (by decide)]; exact s281
        · rw [d11 8 (by decide)]; exact g38
      · right
        have F6 : Fs [82] S5 (up1 S5 82 z) := Fs.up1 (by decide)
        refine ⟨f, p, e, g5, up1 S5 82 z, ?_, ?_, d3, d4.fs F6 (by decide) (by decide) (by decide), (st4.2.1.fs d6 (by decide)).fs F6 (by decide), e1, e2, ?_, ?_, ((G2.mono (by decide)).trans (G3.mono (by decide))).trans (d5.mono (by decide)), (((F2.mono (by decide)).trans (F3.mono (by decide))).trans (F4.mono (by decide))).trans ((d6.mono (by decide)).trans (F6.mono (by decide)))⟩
        · rw [cA, d1]; rfl
        · rw [mA, d2]; rfl
        · rw [F6.1 80 (by decide), d6.1 80 (by decide), F4.1 80 (by decide), F3.1 80 (by decide)]; exact s280
        · rw [F6.1 81 (by decide), d6.1 81 (by decide), F4.1 81 (by decide), F3.1 81 (by decide)]; exact s281
    · left
      rw [decide_eq_false w3, cond_false] at cA
      rw [decide_eq_true w3, cond_true] at mA
      have G3 : Gs [8] g2 (fup g2 8 1) := Gs.fup (by decide)
      refine ⟨e, p, e, none, _, S3, cA, mA, st3.keep (G3 2 (by decide)) Fs.refl (K := []) (by decide) (by decide) (by decide), by omega, ⟨e1, e2, (G3 6 (by decide)).trans g26, (G3 7 (by decide)).trans g27, (F3.1 80 (by decide)).trans s280, (F3.1 81 (by decide)).trans s281, fup_eq, by rw [hS3]; exact up1_at⟩, (G2.mono (by decide)).trans (G3.mono (by decide)), (F2.mono (by decide)).trans (F3.mono (by decide))⟩
  · right
    rw [decide_eq_false w2] at cA mA
    exact bad p cA mA
end
