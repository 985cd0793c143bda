/-! if-none-match. -/
section
variable {T T' T1 : tT} {S S' S1 : mS} {t : Nat → Nat} {L p s e F k c m n a aq ac at' : Nat} {g g' : Nat → Int32} {r : Option Nat × Option Nat × Option Nat}
theorem okQ.star (h : okQ S) : okQ (up1 S 17 1) := by
  obtain ⟨a1, a2, a3, a4, a5, a6, a7, a8, a9, a10⟩ := h
  exact ⟨a1, Or.inr rfl, a3, a4, a5, a6, a7, a8, a9, a10⟩
theorem P_match (h : St t L T S p g) (hR : Rqs aq ac at' T S) (hA : Ap aq ac at') (h12 : S.1 12 = 0) (hr : r.2.1 = some ac) (hF : 400 < F) : Out t L r [ac, at'] (Rqs aq ac at') T S p g (D_c_Reader_readMatch F 513 (kR T L r g)) (D_m_matching F S) := by
  have nc' : ¬ ac = 513 := by have := hA.2.1; omega
  have nB : ¬ 514 ∈ [ac, at'] := fun q => by have := hA.2.1; have := hA.2.2.1; simp at q; omega
  have hl := h.1.lt (p := p)
  have hL := h.1.1
  unfold D_c_Reader_readMatch D_m_matching
  simp only [Kcl, Option.bind_some, here_v h.1 h.2.2.2.1 h.2.2.1, see_v h.2.1 h.2.2.2.2.1 h.2.2.1, show (42 : Int32) = Int32.ofNat 42 from rfl, ne_n (show hc t L p < 2147483648 by omega) (show 42 < 2147483648 by decide), sv_ne h.2.1 (show 0 < 42 by decide) (show 42 < 127 by decide)]
  by_cases w : hc t L p = 42
  · rw [decide_eq_false (show ¬ ¬ hc t L p = 42 from fun n => n w), cond_false, cond_false]
    left
    have pL := hc_lt w (by decide)
    have i1 : Int32.ofNat p + 1 = Int32.ofNat (p + 1) := m_n_add p 1
    have F1 : Fs [4] S (up1 S 4 (Int32.ofNat (p + 1))) := Fs.up1 (by decide)
    have R1 : Rqs aq ac at' T (up1 S 4 (Int32.ofNat (p + 1))) := hR.fs F1 (by decide)
    have F2 : Fs [17] (up1 S 4 (Int32.ofNat (p + 1))) (up1 (up1 S 4 (Int32.ofNat (p + 1))) 17 1) := Fs.up1 (by decide)
    have R2 := R1.cond hA (F2.mono (by decide)) R1.2.2.2.2.star
    have ftt : Ft [ac, at'] T (tset T ac (cCond (cdv (up1 (up1 S 4 (Int32.ofNat (p + 1))) 17 1)) at')) := Ft.set (by simp)
    have tp : tpz (kR T L r (fup g 2 (Int32.ofNat (p + 1)))) ac 7 4 1 = some (kR (tset T ac (cCond (cdv (up1 (up1 S 4 (Int32.ofNat (p + 1))) 17 1)) at')) L r (fup g 2 (Int32.ofNat (p + 1)))) := by rw [tpz_i, Cp4 ((kR_ne nc').trans R1.2.1), kR_tset nc', cdv4]
    refine ⟨p + 1, fup g 2 (Int32.ofNat (p + 1)), _, up1 (up1 S 4 (Int32.ofNat (p + 1))) 17 1, ?_, ?_, ⟨h.1.ft ftt nB, (h.2.1.fs F1 (by decide)).fs F2 (by decide), pL, fup_eq, (F2.1 4 (by decide)).trans up1_at, ((F2.1 5 (by decide)).trans (F1.1 5 (by decide))).trans h.2.2.2.2.2⟩, by omega, R2, Gs.fup (by decide), (F1.to (by decide)).trans (F2.to (by decide)), ftt, ((kR_cs (g' := fup g 2 (Int32.ofNat (p + 1)))).trans (up_cs (T1 := T) hR.2.1 nc' rfl rfl)).mono (by decide) (by decide)⟩
    · simp only [Kg2, h.2.2.2.1, Option.bind_some, i1, Kp2, Kr14, hr, tp]
    · rw [h.2.2.2.2.1, i1]
      rfl
  · rw [decide_eq_true w, cond_true, cond_true]
    exact P_tags hA hr hF 8 0 p g T S rfl (by decide) h hR h12 F F (by omega) (by omega)
end
