/-! Keys; the value of a line with the end of the line. -/
abbrev Kv : List Nat := [4, 80, 81, 82, 9, 10, 11, 12, 13, 14, 15, 16, 17, 18, 19, 20, 23, 24, 25, 26, 27, 28, 29, 30]
abbrev Kf : List Nat := [4, 5, 6, 80, 81, 82, 9, 10, 11, 12, 13, 14, 15, 16, 17, 18, 19, 20, 23, 24, 25, 26, 27, 28, 29, 30]
/-- what comes of a value, on both sides -/
def Out (t : Nat → Nat) (L : Nat) (r : Option Nat × Option Nat × Option Nat) (B : List Nat) (Rel : tT → mS → Prop) (T : tT) (S : mS) (p : Nat) (g : Nat → Int32) (cv : Option (Int32 × tT)) (mv : Option mS) : Prop :=
  (∃ p' g' T1 S', cv = some (1, kR T1 L r g') ∧ mv = some S' ∧ St t L T1 S' p' g' ∧ p ≤ p' ∧ Rel T1 S' ∧ Gs [2, 6, 7, 8, 9] g g' ∧ Fr Kv [585, 586] S S' ∧ Ft B T T1 ∧ Cs (kR T L r g) (kR T1 L r g') 0 0) ∨
  (∃ f0 g' T1 S', cv = some (0, kR T1 L r g') ∧ mv = some S' ∧ g' 3 = Int32.ofNat f0 ∧ Fl t L S' f0 ∧ Gs [2, 3, 6, 7, 8, 9] g g' ∧ Fr Kf [585, 586] S S' ∧ Ft B T T1 ∧ Cs (kR T L r g) (kR T1 L r g') 0 0)
section
variable {T T' : tT} {S S' : mS} {t : Nat → Nat} {L p s e F k c m n a : Nat} {g g' : Nat → Int32} {r : Option Nat × Option Nat × Option Nat} {K A B : List Nat} {x : Int32} {w : Option Nat} {Rel : tT → mS → Prop}
theorem sv_lt (h : Tp t L S) (c0 : 0 < c) (c1 : c < 127) : m_c2 .lt (sv t L p) (Int32.ofNat c) = decide (hc t L p < c) := by
  unfold sv hc
  by_cases w : p < L
  · rw [if_pos w, if_pos w]; exact lt_n (by have := (h.2.2 p w).1; omega) (by omega)
  · rw [if_neg w, if_neg w, decide_eq_true c0]
    have : ∀ c, c < 127 → m_c2 .lt (-1 : Int32) (Int32.ofNat c) = true := by decide +kernel
    exact this c c1
theorem sv_le (h : Tp t L S) (c1 : c < 127) : m_c2 .le (sv t L p) (Int32.ofNat c) = decide (hc t L p ≤ c) := by
  unfold sv hc
  by_cases w : p < L
  · rw [if_pos w, if_pos w]; exact le_n (by have := (h.2.2 p w).1; omega) (by omega)
  · rw [if_neg w, if_neg w, decide_eq_true (Nat.zero_le _)]
    have : ∀ c, c < 127 → m_c2 .le (-1 : Int32) (Int32.ofNat c) = true := by decide +kernel
    exact this c c1
theorem Td.keys {y : Int32} (h : okD S) (hx : few 256 x) : okD (up1 (up1 S 24 x) 4 y) := by
  obtain ⟨a1, a2, a3, a4, a5, a6, a7, a8⟩ := h
  exact ⟨a1, a2, a3, a4, a5, a6, hx, a8⟩
theorem P_keys (na : ¬ a = 513 ∧ ¬ a = 514) (hr : r.2.2 = some a) : ∀ (n i p : Nat) (g : Nat → Int32) (T : tT) (S : mS), i + n = 8 → 0 < n → St t L T S p g → Td a T S → ∀ f f2, n < f → n + 1 < f2 →
    (∃ p' g' T1 S', D_c_Reader_readKeys_2 F f 513 (Int32.ofNat i) (kR T L r g) = some (1, kR T1 L r g') ∧ D_m_keyLetters_4 F f2 (Int32.ofNat i) 1 S = some S' ∧ St t L T1 S' p' g' ∧ p ≤ p' ∧ Td a T1 S' ∧ Gs [2] g g' ∧ Fs [4, 24] S S' ∧ Ft [a] T T1 ∧ Cs (kR T L r g) (kR T1 L r g') 0 0) ∨
    (∃ f0 g' T1 S', D_c_Reader_readKeys_2 F f 513 (Int32.ofNat i) (kR T L r g) = some (0, kR T1 L r g') ∧ D_m_keyLetters_4 F f2 (Int32.ofNat i) 1 S = some S' ∧ g' 3 = Int32.ofNat f0 ∧ Dd S' f0 ∧ Gs [2, 3] g g' ∧ Fs [4, 5, 6, 24] S S' ∧ Ft [a] T T1 ∧ Cs (kR T L r g) (kR T1 L r g') 0 0) := by
  intro n
  induction n with
  | zero => intro i p g T S _ h0; omega
  | succ n ih =>
    intro i p g T S hi _ h hR f f2 hf hf2
    obtain ⟨f, rfl⟩ : ∃ y, f = y + 1 := ⟨f - 1, by omega⟩
    obtain ⟨f2, rfl⟩ : ∃ y, f2 = y + 1 := ⟨f2 - 1, by omega⟩
    obtain ⟨h1, h2, h3, h4, h5, h6⟩ := id h
    have hL := h1.1
    have hl := h1.lt (p := p)
    have i1 : Int32.ofNat i + Int32.ofInt 1 = Int32.ofNat (i + 1) := m_n_add i 1
    have j1 : Int32.ofNat p + 1 = Int32.ofNat (p + 1) := m_n_add p 1
    have j2 : Int32.ofNat (p + 1) + 1 = Int32.ofNat (p + 1 + 1) := m_n_add (p + 1) 1
    by_cases w : 97 ≤ hc t L p ∧ hc t L p ≤ 104
    · have pL : p < L := hc_lt (c := hc t L p) rfl (by omega)
      obtain ⟨x, hx⟩ : ∃ x, x = S.1 24 ||| ((1 : Int32) <<< ((Int32.ofNat (hc t L p) - 97) &&& 31)) := ⟨_, rfl⟩
      have fx : few 256 x := by rw [hx]; exact or8 hR.2.2.2.2.2.2.2.1 w.1 w.2
      have es : sv t L p = Int32.ofNat (hc t L p) := by unfold sv hc; rw [if_pos pL, if_pos pL]
      obtain ⟨S1, hS1⟩ : ∃ z, z = up1 (up1 S 24 x) 4 (Int32.ofNat (p + 1)) := ⟨_, rfl⟩
      obtain ⟨T1, hT1⟩ : ∃ z, z = tset T a (cTold 0 (tdv (up1 S 24 x))) := ⟨_, rfl⟩
      obtain ⟨g1, hg1⟩ : ∃ z, z = fup g 2 (Int32.ofNat (p + 1)) := ⟨_, rfl⟩
      have F1 : Fs [4, 24] S S1 := by rw [hS1]; exact (Fs.up1 (by decide)).trans (Fs.up1 (by decide))
      have G1 : Gs [2] g g1 := by rw [hg1]; exact Gs.fup (by decide)
      have g12 : g1 2 = Int32.ofNat (p + 1) := by rw [hg1]; exact fup_eq
      have s14 : S1.1 4 = Int32.ofNat (p + 1) := by rw [hS1]; exact up1_at
      have ft1 : Ft [a] T T1 := by rw [hT1]; exact Ft.set (by simp)
      have tc1 : Tc t L T1 := h1.ft ft1 (fun q => na.2 (List.mem_singleton.mp q).symm)
      have st1 : St t L T1 S1 (p + 1) g1 := ⟨tc1, h2.fs F1 (by decide), pL, g12, s14, (F1.1 5 (by decide)).trans h6⟩
      have R1 : Td a T1 S1 := by
        refine ⟨?_, by rw [hS1]; exact Td.keys hR.2 fx⟩
        rw [hT1, tset_at, hS1]
        rfl
      have C1 : Cs (kR T L r g) (kR T1 L r g1) 0 0 := by rw [hT1]; exact ((up_cs (T1 := T) hR.1 na.1 rfl rfl).trans kR_cs).mono (by decide) (by decide)
      have hl1 := tc1.lt (p := p + 1)
      have cA : D_c_Reader_readKeys_2 F (f + 1) 513 (Int32.ofNat i) (kR T L r g) = cond (decide (i = 7)) (some (1, kR T1 L r g1)) (cond (decide (hc t L (p + 1) = 32)) (D_c_Reader_readKeys_2 F f 513 (Int32.ofNat (i + 1)) (kR T1 L r (fup g1 2 (Int32.ofNat (p + 1 + 1))))) (some (1, kR T1 L r g1))) := by
        conv => lhs; unfold D_c_Reader_readKeys_2
        simp only [show (8 : Int32) = Int32.ofNat 8 from rfl, ge_n (show i < 2147483648 by omega) (show 8 < 2147483648 by decide), decide_eq_false (show ¬ 8 ≤ i by omega), cond_false, Kcl, Option.bind_some, here_v h1 h4 h3, lt_n (show hc t L p < 2147483648 by omega) (show 97 < 2147483648 by decide), le_n (show hc t L p < 2147483648 by omega) (show 104 < 2147483648 by decide), decide_eq_false (show ¬ hc t L p < 97 by omega), decide_eq_true w.2, cond_true, Kr15, hr, Tdg8 hR.1 na.1, Td8 hR.1 na.1, Kg2, h4, j1, Kp2, ← hx, ← hT1, ← hg1, show (97 : Int32) = Int32.ofNat 97 from rfl, show (104 : Int32) = Int32.ofNat 104 from rfl, show (7 : Int32) = Int32.ofNat 7 from rfl, eq_n (show i < 2147483648 by omega) (show 7 < 2147483648 by decide), here_v tc1 g12 (show p + 1 ≤ L from pL), g12, j2, i1, show (32 : Int32) = Int32.ofNat 32 from rfl, eq_n (show hc t L (p + 1) < 2147483648 by omega) (show 32 < 2147483648 by decide)]
        have hx' : S.1 24 ||| ((1 : Int32) <<< ((Int32.ofNat (hc t L p) - Int32.ofNat 97) &&& 31)) = x := hx.symm
        rw [hx', ← hT1]
        simp only [Option.bind_some, Kg2, h4, j1, Kp2, ← hg1, Kcl, here_v tc1 g12 (show p + 1 ≤ L from pL), g12, j2, eq_n (show hc t L (p + 1) < 2147483648 by omega) (show 32 < 2147483648 by decide)]
      have mA : D_m_keyLetters_4 F (f2 + 1) (Int32.ofNat i) 1 S = cond (decide (hc t L (p + 1) = 32) && !decide (i = 7)) (D_m_keyLetters_4 F f2 (Int32.ofNat (i + 1)) 1 (up1 S1 4 (Int32.ofNat (p + 1 + 1)))) (some S1) := by
        conv => lhs; unfold D_m_keyLetters_4
        rw [h6]
        simp only [show m_c1 .eq (1 : Int32) = false from rfl, show m_c1 .ne (0 : Int32) = false from rfl, cond_false, see_v h2 h5 h3, Option.bind_some, show (97 : Int32) = Int32.ofNat 97 from rfl, show (104 : Int32) = Int32.ofNat 104 from rfl, es, lt_n (show hc t L p < 2147483648 by omega) (show 97 < 2147483648 by decide), le_n (show hc t L p < 2147483648 by omega) (show 104 < 2147483648 by decide), decide_eq_false (show ¬ hc t L p < 97 by omega), decide_eq_true w.2, cond_false, cond_true, fput]
        have hx' : S.1 24 ||| ((1 : Int32) <<< ((Int32.ofNat (hc t L p) - Int32.ofNat 97) &&& 31)) = x := hx.symm
        have u4 : (up1 S 24 x).1 4 = Int32.ofNat p := (up1_no (by decide)).trans h5
        rw [hx', u4, j1, ← hS1, see_v st1.2.1 s14 pL, Option.bind_some, i1, show (32 : Int32) = Int32.ofNat 32 from rfl, sv_ne st1.2.1 (by decide) (by decide), show (8 : Int32) = Int32.ofNat 8 from rfl, ge_n (by omega) (by decide), s14, j2]
        obtain ⟨f2', rfl⟩ : ∃ y, f2 = y + 1 := ⟨f2 - 1, by omega⟩
        by_cases w2 : hc t L (p + 1) = 32
        · rw [decide_eq_true w2, decide_eq_false (show ¬ ¬ hc t L (p + 1) = 32 from fun n => n w2)]
          by_cases w3 : i = 7
          · rw [decide_eq_true w3, decide_eq_true (show 8 ≤ i + 1 by omega)]; rfl
          · rw [decide_eq_false w3, decide_eq_false (show ¬ 8 ≤ i + 1 by omega)]; rfl
        · rw [decide_eq_false w2, decide_eq_true w2]; rfl
      by_cases w3 : i = 7
      · left
        refine ⟨p + 1, g1, T1, S1, by rw [cA, decide_eq_true w3]; rfl, ?_, st1, by omega, R1, G1, F1, ft1, C1⟩
        rw [mA, decide_eq_true w3]
        cases decide (hc t L (p + 1) = 32) <;> rfl
      · by_cases w2 : hc t L (p + 1) = 32
        · have pL2 := hc_lt w2 (by decide)
          rw [decide_eq_false w3, decide_eq_true w2] at cA mA
          have F2 : Fs [4] S1 (up1 S1 4 (Int32.ofNat (p + 1 + 1))) := Fs.up1 (by decide)
          have st2 : St t L T1 (up1 S1 4 (Int32.ofNat (p + 1 + 1))) (p + 1 + 1) (fup g1 2 (Int32.ofNat (p + 1 + 1))) := st1.step (by omega) fup_eq up1_at ((F2.1 5 (by decide)).trans st1.2.2.2.2.2) F2 (by decide)
          have R2 : Td a T1 (up1 S1 4 (Int32.ofNat (p + 1 + 1))) := R1.fs (F2.mono (by decide))
          have cB : D_c_Reader_readKeys_2 F (f + 1) 513 (Int32.ofNat i) (kR T L r g) = D_c_Reader_readKeys_2 F f 513 (Int32.ofNat (i + 1)) (kR T1 L r (fup g1 2 (Int32.ofNat (p + 1 + 1)))) := cA
          have mB : D_m_keyLetters_4 F (f2 + 1) (Int32.ofNat i) 1 S = D_m_keyLetters_4 F f2 (Int32.ofNat (i + 1)) 1 (up1 S1 4 (Int32.ofNat (p + 1 + 1))) := mA
          rw [cB, mB]
          rcases ih (i + 1) (p + 1 + 1) _ T1 _ (by omega) (by omega) st2 R2 f f2 (by omega) (by omega) with ⟨p', g', T2, S2, y1, y2, y3, y4, y5, y6, y7, y8, y9⟩ | ⟨f0, g', T2, S2, y1, y2, y3, y4, y5, y6, y7, y8⟩
          · left
            exact ⟨p', g', T2, S2, y1, y2, y3, by omega, y5, G1.trans ((Gs.fup (by decide)).trans y6), F1.trans ((F2.mono (by decide)).trans y7), ft1.trans y8, ((C1.trans kR_cs).trans y9).mono (by decide) (by decide)⟩
          · right
            exact ⟨f0, g', T2, S2, y1, y2, y3, y4, (G1.mono (by decide)).trans ((Gs.fup (by decide)).trans y5), (F1.mono (by decide)).trans ((F2.mono (by decide)).trans y6), ft1.trans y7, ((C1.trans kR_cs).trans y8).mono (by decide) (by decide)⟩
        · left
          refine ⟨p + 1, g1, T1, S1, by rw [cA, decide_eq_false w3, decide_eq_false w2]; rfl, ?_, st1, by omega, R1, G1, F1, ft1, C1⟩
          rw [mA, decide_eq_false w2]
          rfl
    · right
      have c25 : D_c_Reader_readKeys_25 F 513 (kR T L r g) = some (0, kR T L r (fup g 3 (Int32.ofNat p))) := by
        unfold D_c_Reader_readKeys_25
        simp only [Kg2, h4, Option.bind_some, Kcl, no_c, bd2, show bret (0 : Int32) = some 0 from rfl]
      have m33 : D_m_keyLetters_33 F S = some (up1 (up1 S 5 1) 6 (Int32.ofNat p)) := by
        unfold D_m_keyLetters_33
        rw [h5, wrong_m h6]; rfl
      refine ⟨p, _, T, _, ?_, ?_, fup_eq, ⟨by rw [up1_no (by decide), up1_at], up1_at⟩, Gs.fup (by decide), (Fs.up1 (by decide)).trans (Fs.up1 (by decide)), Ft.refl, kR_cs⟩
      · conv => lhs; unfold D_c_Reader_readKeys_2
        simp only [show (8 : Int32) = Int32.ofNat 8 from rfl, ge_n (show i < 2147483648 by omega) (show 8 < 2147483648 by decide), decide_eq_false (show ¬ 8 ≤ i by omega), cond_false, Kcl, Option.bind_some, here_v h1 h4 h3, show (97 : Int32) = Int32.ofNat 97 from rfl, show (104 : Int32) = Int32.ofNat 104 from rfl, lt_n (show hc t L p < 2147483648 by omega) (show 97 < 2147483648 by decide), le_n (show hc t L p < 2147483648 by omega) (show 104 < 2147483648 by decide), c25]
        by_cases w2 : hc t L p < 97
        · rw [decide_eq_true w2]; rfl
        · rw [decide_eq_false w2, decide_eq_false (show ¬ hc t L p ≤ 104 by omega)]; rfl
      · conv => lhs; unfold D_m_keyLetters_4
        rw [h6]
        simp only [show m_c1 .eq (1 : Int32) = false from rfl, show m_c1 .ne (0 : Int32) = false from rfl, cond_false, see_v h2 h5 h3, Option.bind_some, show (97 : Int32) = Int32.ofNat 97 from rfl, show (104 : Int32) = Int32.ofNat 104 from rfl, sv_lt h2 (show 0 < 97 by decide) (show 97 < 127 by decide), sv_le h2 (show 104 < 127 by decide), m33]
        by_cases w2 : hc t L p < 97
        · rw [decide_eq_true w2]; rfl
        · rw [decide_eq_false w2, decide_eq_false (show ¬ hc t L p ≤ 104 by omega)]; rfl
end
