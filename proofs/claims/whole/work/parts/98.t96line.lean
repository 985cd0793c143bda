/-! A line of a thing. -/
section
variable {T T' : tT} {S S' : mS} {t : Nat → Nat} {L p s e F k c m n a : Nat} {g g' : Nat → Int32} {r : Option Nat × Option Nat × Option Nat} {K A B : List Nat} {x : Int32} {w : Option Nat} {Rel : tT → mS → Prop} {cv : Option (Int32 × tT)} {mv : Option mS}
theorem Out.bret (h : Out t L r B Rel T S p g cv mv) : Out t L r B Rel T S p g (bd2 cv fun v T1 => (bret v).bind fun v' => some (v', T1)) mv := by
  rcases h with ⟨p', g', T1, S', y1, y⟩ | ⟨f0, g', T1, S', y1, y⟩
  · exact Or.inl ⟨p', g', T1, S', by rw [y1]; rfl, y⟩
  · exact Or.inr ⟨f0, g', T1, S', by rw [y1]; rfl, y⟩
/-- a value, then the end of the line -/
theorem Out.nl (h : Out t L r B Rel T S p g cv mv) (hT : Tp t L S) (hrel : ∀ T S S', Rel T S → Fs [4, 80, 81, 82] S S' → Rel T S') :
    (∃ p' g' T1 S', (bd2 cv fun v T1 => cond (m_c1 .eq v) (some (0, T1)) (D_c_Reader_expect F 513 10 T1)) = some (1, kR T1 L r g') ∧ mv.bind (D_m_line_241 F) = some S' ∧ St t L T1 S' p' g' ∧ p < p' ∧ Rel T1 S' ∧ Gs [2, 6, 7, 8, 9] g g' ∧ Fr Kv [585, 586] S S' ∧ Ft B T T1 ∧ Cs (kR T L r g) (kR T1 L r g') 0 0) ∨
    (∃ f0 g' T1 S', (bd2 cv fun v T1 => cond (m_c1 .eq v) (some (0, T1)) (D_c_Reader_expect F 513 10 T1)) = some (0, kR T1 L r g') ∧ mv.bind (D_m_line_241 F) = some S' ∧ g' 3 = Int32.ofNat f0 ∧ Dd S' f0 ∧ Gs [2, 3, 6, 7, 8, 9] g g' ∧ Fr Kf [585, 586] S S' ∧ Ft B T T1 ∧ Cs (kR T L r g) (kR T1 L r g') 0 0) := by
  rcases h with ⟨p', g1, T1, S1, y1, y2, y3, y4, y5, y6, y7, y8, y9⟩ | ⟨f0, g1, T1, S1, y1, y2, y3, y4, y5, y6, y7, y8⟩
  · have c1 : (bd2 cv fun v T1 => cond (m_c1 .eq v) (some (0, T1)) (D_c_Reader_expect F 513 10 T1)) = D_c_Reader_expect F 513 (Int32.ofNat 10) (kR T1 L r g1) := by rw [y1]; rfl
    have m1 : mv.bind (D_m_line_241 F) = (D_m_expect F (Int32.ofNat 10) S1).bind fun q43 => some q43.2 := by rw [y2]; rfl
    rw [c1, m1]
    rcases P_expect (F := F) (r := r) y3 (show 0 < 10 by decide) (show 10 < 127 by decide) with ⟨w', g5, S5, d1, d2, d3, d4, d5⟩ | ⟨f0, g5, S5, d1, d2, d3, d4, d5, d6⟩
    · left
      exact ⟨p' + 1, g5, T1, S5, d1, by rw [d2]; rfl, d3, by omega, hrel T1 S1 S5 y5 (d5.mono (by decide)), y6.trans (d4.mono (by decide)), y7.trans (d5.to (by decide)), y8, (y9.trans kR_cs).mono (by decide) (by decide)⟩
    · right
      exact ⟨f0, g5, T1, S5, d1, by rw [d2]; rfl, d3, d4, (y6.mono (by decide)).trans (d5.mono (by decide)), (y7.mono (by decide) (by decide)).trans (d6.to (by decide)), y8, (y9.trans kR_cs).mono (by decide) (by decide)⟩
  · right
    obtain ⟨S2, e1, e2, e3⟩ := y4.expect (F := F) (hT.fr y6 (by decide) (by decide)) (show 0 < 10 by decide) (show 10 < 127 by decide) rfl
    refine ⟨f0, g1, T1, S2, by rw [y1]; rfl, ?_, y3, e2, y5, y6.trans (e3.to (by decide)), y7, y8⟩
    rw [y2]
    show (D_m_expect F (Int32.ofNat 10) S1).bind _ = _
    rw [e1]
    rfl
theorem okD.len {v : Nat} (h : okD S) (hv : v ≤ 255) : okD (up1 S 23 (Int32.ofNat v)) := by
  obtain ⟨a1, a2, a3, a4, a5, a6, a7, a8⟩ := h
  exact ⟨⟨v, by omega, rfl⟩, a2, a3, a4, a5, a6, a7, a8⟩
/-- the value of a thing's line -/
theorem P_told (h : St t L T S p g) (hR : Td a T S) (na : ¬ a = 513 ∧ ¬ a = 514) (hr : r.2.2 = some a) (hF : 400 < F) (hs : s ≤ e) (he : e ≤ L) (hn : n < 150) (s31 : S.1 31 = Int32.ofNat (n + 1)) (g6 : g 6 = Int32.ofNat s) (g7 : g 7 = Int32.ofNat e) (r6 : rd S 587 n = Int32.ofNat s) (r7 : rd S 588 n = Int32.ofNat e) :
    ∃ mv, D_m_line_50 F 0 S = mv.bind (D_m_line_241 F) ∧ Out t L r [a] (Td a) T S p g (D_c_Reader_readToldValue F 513 (kR T L r g)) mv := by
  have hL := h.1.1
  have pL := h.2.2.1
  have wc : ∀ {x cs}, txs x cs → D_c_Reader_isWord F 513 x (kR T L r g) = some (b2i (isW t s e cs)) := fun hx => word_c hx h.1 hs he g6 g7 (by omega)
  have wm : ∀ {x cs}, txs x cs → D_m_isNamed F x S = some (b2i (isW t s e cs)) := fun hx => named_m hx h.2.1 hs he hn s31 r6 r7 (by omega)
  have m0 : D_m_line_50 F 0 S = cond (!(isW t s e z_vary)) (cond (!(isW t s e z_cachecontrol)) (cond (!(isW t s e z_length)) (cond (!(isW t s e z_keys)) ((D_m_anyValue F S).bind (D_m_line_241 F)) ((D_m_keyLetters F S).bind (D_m_line_241 F))) (((D_m_number F (Int32.ofNat 255) S).bind fun q => some (up1 q.2 23 q.1)).bind (D_m_line_241 F))) ((D_m_list F 1 S).bind (D_m_line_241 F))) ((D_m_list F 4 S).bind (D_m_line_241 F)) := by
    show D_m_line_140 F 0 S = _
    unfold D_m_line_140 D_m_line_162 D_m_line_216 D_m_line_237
    rw [wm tx_77, wm tx_78, wm tx_79, wm tx_80]
    simp only [show m_c1 .ne (0 : Int32) = false from rfl, show m_c1 .eq (0 : Int32) = true from rfl, cond_false, cond_true, Option.bind_some, b_eq0]
    cases isW t s e z_vary <;> cases isW t s e z_cachecontrol <;> cases isW t s e z_length <;> cases isW t s e z_keys <;> first | rfl | (cases D_m_number F (255 : Int32) S <;> rfl)
  have c0 : D_c_Reader_readToldValue F 513 (kR T L r g) = cond (!(isW t s e z_length)) (cond (!(isW t s e z_cachecontrol)) (cond (!(isW t s e z_vary)) (cond (!(isW t s e z_keys)) (bd2 (D_c_Reader_skipValue F 513 (kR T L r g)) fun v T1 => (bret v).bind fun v' => some (v', T1)) (bd2 (D_c_Reader_readKeys F 513 (kR T L r g)) fun v T1 => (bret v).bind fun v' => some (v', T1))) (bd2 (D_c_Reader_readList F 513 4 (kR T L r g)) fun v T1 => (bret v).bind fun v' => some (v', T1))) (bd2 (D_c_Reader_readList F 513 3 (kR T L r g)) fun v T1 => (bret v).bind fun v' => some (v', T1))) (bd2 (D_c_Reader_readNumber F 513 (Int32.ofNat 255) (kR T L r g)) fun v84 T85 => (tgr T85 513 1 15).bind fun v89 => (tgi T85 513 1 9).bind fun v93 => (v89).bind fun a96 => (tpi T85 a96 13 2 v93).bind fun T99 => (bret v84).bind fun v103 => some (v103, T99)) := by
    unfold D_c_Reader_readToldValue
    rw [wc tx_8, wc tx_9, wc tx_10, wc tx_11]
    simp only [Kcl, Option.bind_some, b_eq0]
    rfl
  by_cases wl : isW t s e z_length = true
  · rw [wl] at c0
    rw [isW_one wl (by decide), isW_one wl (by decide), wl] at m0
    refine ⟨_, m0, ?_⟩
    have c1 : D_c_Reader_readToldValue F 513 (kR T L r g) = bd2 (D_c_Reader_readNumber F 513 (Int32.ofNat 255) (kR T L r g)) fun v84 T85 => (tgr T85 513 1 15).bind fun v89 => (tgi T85 513 1 9).bind fun v93 => (v89).bind fun a96 => (tpi T85 a96 13 2 v93).bind fun T99 => (bret v84).bind fun v103 => some (v103, T99) := c0
    rw [c1]
    rcases P_number (F := F) (r := r) (m := 255) h.1 h.2.1 h.2.2.1 (by decide) h.2.2.2.1 h.2.2.2.2.1 h.2.2.2.2.2 (by omega) with ⟨q, v, g2, S2, b1, b2, b3, b4, b5, b6, b7, b8, b9, b10, b11, b12⟩ | ⟨f, z, g2, S2, b1, b2, b3, b4, b5, b6⟩
    · left
      have R2 : Td a T S2 := hR.fs (b12.mono (by decide))
      have ft : Ft [a] T (tset T a (cTold 0 (tdv (up1 S2 23 (Int32.ofNat v))))) := Ft.set (by simp)
      have F3 : Fs [23] S2 (up1 S2 23 (Int32.ofNat v)) := Fs.up1 (by decide)
      refine ⟨q, g2, _, _, ?_, by rw [b2]; rfl, ⟨h.1.ft ft (fun q => na.2 (List.mem_singleton.mp q).symm), (h.2.1.fs b12 (by decide)).fs F3 (by decide), b7, b3, (F3.1 4 (by decide)).trans b5, ((F3.1 5 (by decide)).trans (b12.1 5 (by decide))).trans h.2.2.2.2.2⟩, by omega, ⟨tset_at, R2.2.len b8⟩, b11.mono (by decide), (b12.to (by decide)).trans (F3.to (by decide)), ft, ((kR_cs (g' := g2)).trans (up_cs (T1 := T) R2.1 na.1 rfl rfl)).mono (by decide) (by decide)⟩
      rw [b1]
      simp only [bd2, Option.bind_some, Kr15, hr, Kg9, b4, Td2 R2.1 na.1]
      rfl
    · right
      have ft : Ft [a] T (tset T a (cTold 0 (tdv (up1 S 23 (g2 9))))) := Ft.set (by simp)
      have F3 : Fs [23] S2 (up1 S2 23 z) := Fs.up1 (by decide)
      refine ⟨f, g2, _, _, ?_, by rw [b2]; rfl, b3, b4.fs F3 (by decide) (by decide) (by decide), b5.mono (by decide), (b6.to (by decide)).trans (F3.to (by decide)), ft, ((kR_cs (g' := g2)).trans (up_cs (T1 := T) hR.1 na.1 rfl rfl)).mono (by decide) (by decide)⟩
      rw [b1]
      simp only [bd2, Option.bind_some, Kr15, hr, Kg9, Td2 hR.1 na.1]
      rfl
  rw [Bool.eq_false_iff.mpr wl] at c0 m0
  by_cases wk : isW t s e z_cachecontrol = true
  · rw [wk] at c0
    rw [isW_one wk (by decide), wk] at m0
    refine ⟨_, m0, ?_⟩
    have c1 : D_c_Reader_readToldValue F 513 (kR T L r g) = bd2 (D_c_Reader_readList F 513 3 (kR T L r g)) fun v T1 => (bret v).bind fun v' => some (v', T1) := c0
    rw [c1]
    refine Out.bret ?_
    rcases P_keeping (F := F) (r := r) h hR na hr hF with ⟨p', g', T1, S', y1, y2, y3, y4, y5, y6, y7, y8, y9⟩ | ⟨f0, g', T1, S', y1, y2, y3, y4, y5, y6, y7, y8⟩
    · exact Or.inl ⟨p', g', T1, S', y1, y2, y3, by omega, y5, y6, y7.mono (by decide) (by decide), y8, y9⟩
    · exact Or.inr ⟨f0, g', T1, S', y1, y2, y3, y4, y5, y6.mono (by decide) (by decide), y7, y8⟩
  rw [Bool.eq_false_iff.mpr wk] at c0 m0
  by_cases wv : isW t s e z_vary = true
  · rw [wv] at c0 m0
    refine ⟨_, m0, ?_⟩
    have c1 : D_c_Reader_readToldValue F 513 (kR T L r g) = bd2 (D_c_Reader_readList F 513 4 (kR T L r g)) fun v T1 => (bret v).bind fun v' => some (v', T1) := c0
    rw [c1]
    refine Out.bret ?_
    rcases P_varying (F := F) (r := r) h hR na hr hF with ⟨p', g', T1, S', y1, y2, y3, y4, y5, y6, y7, y8, y9⟩ | ⟨f0, g', T1, S', y1, y2, y3, y4, y5, y6, y7, y8⟩
    · exact Or.inl ⟨p', g', T1, S', y1, y2, y3, by omega, y5, y6, y7.mono (by decide) (by decide), y8, y9⟩
    · exact Or.inr ⟨f0, g', T1, S', y1, y2, y3, y4, y5, y6.mono (by decide) (by decide), y7, y8⟩
  rw [Bool.eq_false_iff.mpr wv] at c0 m0
  by_cases wy : isW t s e z_keys = true
  · rw [wy] at c0 m0
    refine ⟨_, m0, ?_⟩
    have c1 : D_c_Reader_readToldValue F 513 (kR T L r g) = bd2 (D_c_Reader_readKeys F 513 (kR T L r g)) fun v T1 => (bret v).bind fun v' => some (v', T1) := c0
    rw [c1]
    refine Out.bret ?_
    rcases P_keys (F := F) (r := r) na hr 8 0 p g T S rfl (by decide) h hR F F (by omega) (by omega) with ⟨p', g', T1, S', y1, y2, y3, y4, y5, y6, y7, y8, y9⟩ | ⟨f0, g', T1, S', y1, y2, y3, y4, y5, y6, y7, y8⟩
    · exact Or.inl ⟨p', g', T1, S', y1, y2, y3, y4, y5, y6.mono (by decide), y7.to (by decide), y8, y9⟩
    · exact Or.inr ⟨f0, g', T1, S', y1, y2, y3, Or.inl y4, y5.mono (by decide), y6.to (by decide), y7, y8⟩
  · rw [Bool.eq_false_iff.mpr wy] at c0 m0
    refine ⟨_, m0, ?_⟩
    have c1 : D_c_Reader_readToldValue F 513 (kR T L r g) = bd2 (D_c_Reader_skipValue F 513 (kR T L r g)) fun v T1 => (bret v).bind fun v' => some (v', T1) := c0
    rw [c1]
    refine Out.bret ?_
    obtain ⟨p', g', S', y1, y2, y3, y4, y5, y6⟩ := P_value (F := F) (r := r) (L - p) p g S (by omega) h F F (by omega) (by omega)
    exact Or.inl ⟨p', g', T, S', y1, y2, y3, y4, hR.fs (y6.mono (by decide)), y5.mono (by decide), y6.to (by decide), Ft.refl, kR_cs⟩
end
