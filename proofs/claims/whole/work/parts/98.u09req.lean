/-! The tag of a range. -/
/-- the class's part of it -/
def ifrC (F : Nat) (T : tT) : Option (Int32 × tT) := bd2 (D_c_Reader_expect F 513 (34 : Int32) T) fun v102 T103 => cond (m_c1 .eq v102) (D_c_Reader_readAskedValue_68 F 513 T103) ((tcl T103 513 1).bind fun _ => bd2 (D_c_Reader_readNumber F 513 (99999 : Int32) T103) fun v126 T127 => cond (m_c1 .eq v126) (D_c_Reader_readAskedValue_68 F 513 T127) ((tcl T127 513 1).bind fun _ => bd2 (D_c_Reader_expect F 513 (34 : Int32) T127) fun v150 T151 => (cond (m_c1 .eq v150) (some (0 : Int32)) (some (1 : Int32))).bind fun v159 => (tgr T151 513 1 14).bind fun v162 => (tgi T151 513 1 9).bind fun v166 => (v162).bind fun a169 => (tpi T151 a169 7 7 v166).bind fun T172 => (bret v159).bind fun v176 => some (v176, T172)))
section
variable {T T' T1 : tT} {S S' S1 : mS} {t : Nat → Nat} {L p s e F k c m n a aq ac at' : Nat} {g g' : Nat → Int32} {r : Option Nat × Option Nat × Option Nat} {x : Int32} {w : Option Nat}
theorem cdv7 : fup (cdv S) 7 x = cdv (up1 S 20 x) := by
  funext i
  unfold fup cdv
  simp only [up1_1]
  by_cases h : i = 7
  · subst h; rfl
  · simp [h] <;> rfl
theorem Rqs.cond (h : Rqs aq ac at' T S) (hA : Ap aq ac at') (f : Fs [4, 9, 10, 11, 17, 20] S S') (ho : okQ S') : Rqs aq ac at' (tset T ac (cCond (cdv S') at')) S' := by
  obtain ⟨h1, h2, ⟨n, f', h3, h4, h5, h6⟩, ⟨f3, h7, h8⟩, h9⟩ := h
  obtain ⟨b1, b2, b3, b4, b5, b6⟩ := hA
  have rr : ∀ a k, rd S' a k = rd S a k := fun a k => by unfold rd; rw [f.2]
  refine ⟨?_, tset_at, ⟨n, f', h3, (f.1 12 (by decide)).trans h4, tset_o h5 (fun q => b6 q.symm), fun i hi => by rw [rr]; exact h6 i hi⟩, ⟨f3, tset_o h7 (by omega), fun j hj => by rw [rr]; exact h8 j hj⟩, ho⟩
  have : qdv S' = qdv S := by
    funext i
    unfold qdv
    rw [f.1 18 (by decide), f.1 19 (by decide), f.1 13 (by decide), f.1 15 (by decide), f.1 14 (by decide), rr]
  rw [this]
  exact tset_o h1 b4
theorem ifr_end {y : Int32} (h2 : T.1 ac = some (cCond (cdv S) at')) (nc' : ¬ ac = 513) (hr : r.2.1 = some ac) (hy : y = 0 ∨ y = 1) : D_c_Reader_readAskedValue_69 F 513 y (kR T L r g) = some (y, kR (tset T ac (cCond (cdv (up1 S 20 (g 9))) at')) L r g) := by
  unfold D_c_Reader_readAskedValue_69
  simp only [Kr14, hr, Option.bind_some, Kg9, Cp7 ((kR_ne nc').trans h2), kR_tset nc', cdv7]
  rcases hy with hy | hy <;> (rw [hy]; rfl)
theorem okQ.tag {v : Nat} (h : okQ S) (hv : v ≤ 99999) : okQ (up1 S 20 (Int32.ofNat v)) := by
  obtain ⟨a1, a2, a3, a4, a5, a6, a7, a8, a9, a10⟩ := h
  exact ⟨a1, a2, a3, a4, a5, a6, a7, Or.inr ⟨v, by omega, rfl⟩, a9, a10⟩
theorem P_ifr (h : St t L T S p g) (hR : Rqs aq ac at' T S) (hA : Ap aq ac at') (hr : r.2.1 = some ac) (hF : 400 < F) : Out t L r [ac] (Rqs aq ac at') T S p g (ifrC F (kR T L r g)) ((D_m_tag F S).bind fun q => some (up1 q.2 20 q.1)) := by
  have nc' : ¬ ac = 513 := by have := hA.2.1; omega
  have nc4 : ¬ 514 ∈ [ac] := fun q => by have := hA.2.1; have := List.mem_singleton.mp q; omega
  have fin : ∀ (S1 : mS) (g1 : Nat → Int32) (y : Int32), Fs [4, 5, 6] S S1 → (y = 0 ∨ y = 1) → D_c_Reader_readAskedValue_69 F 513 y (kR T L r g1) = some (y, kR (tset T ac (cCond (cdv (up1 S 20 (g1 9))) at')) L r g1) := fun S1 g1 y _ hy => ifr_end hR.2.1 nc' hr hy
  have cs : ∀ g1 y, Cs (kR T L r g) (kR (tset T ac (cCond y at')) L r g1) 0 0 := fun g1 y => ((kR_cs (g' := g1)).trans (up_cs (T1 := T) hR.2.1 nc' rfl rfl)).mono (by decide) (by decide)
  have ft : ∀ y, Ft [ac] T (tset T ac y) := fun y => Ft.set (by simp)
  unfold ifrC D_m_tag
  rcases P_expect (F := F) (r := r) h (show 0 < 34 by decide) (show 34 < 127 by decide) with ⟨w1, g1, S1, a1, a2, a3, a4, a5⟩ | ⟨f0, g1, S1, a1, a2, a3, a4, a5, a6⟩
  · rw [show (34 : Int32) = Int32.ofNat 34 from rfl, a1, a2]
    simp only [bd2, Option.bind_some, show m_c1 .eq (1 : Int32) = false from rfl, cond_false, Kcl]
    rw [show (99999 : Int32) = Int32.ofNat 99999 from rfl]
    rcases P_number (F := F) (r := r) (m := 99999) a3.1 a3.2.1 a3.2.2.1 (by decide) a3.2.2.2.1 a3.2.2.2.2.1 a3.2.2.2.2.2 (by omega) with ⟨q, v, g2, S2, b1, b2, b3, b4, b5, b6, b7, b8, b9, b10, b11, b12⟩ | ⟨f, z, g2, S2, b1, b2, b3, b4, b5, b6⟩
    · rw [b1, b2]
      simp only [Option.bind_some, show m_c1 .eq (1 : Int32) = false from rfl, cond_false, Kcl]
      have st2 : St t L T S2 q g2 := a3.step b7 b3 b5 ((b12.1 5 (by decide)).trans a3.2.2.2.2.2) b12 (by decide)
      rcases P_expect (F := F) (r := r) st2 (show 0 < 34 by decide) (show 34 < 127 by decide) with ⟨w3, g3, S3, d1, d2, d3, d4, d5⟩ | ⟨f0, g3, S3, d1, d2, d3, d4, d5, d6⟩
      · left
        have g39 : g3 9 = Int32.ofNat v := (d4 9 (by decide)).trans b4
        have F3 : Fs [4] S S3 := (a5.trans b12).trans d5
        have F4 : Fs [20] S3 (up1 S3 20 (Int32.ofNat v)) := Fs.up1 (by decide)
        have R3 : Rqs aq ac at' T S3 := hR.fs F3 (by decide)
        refine ⟨q + 1, g3, tset T ac (cCond (cdv (up1 S3 20 (Int32.ofNat v))) at'), up1 S3 20 (Int32.ofNat v), ?_, by rw [d2]; rfl, ?_, by omega, R3.cond hA (F4.mono (by decide)) (R3.2.2.2.2.tag b9), (((a4.mono (by decide)).trans (b11.mono (by decide))).trans (d4.mono (by decide))), (F3.to (by decide)).trans (F4.to (by decide)), ft _, cs _ _⟩
        · rw [d1]
          have := ifr_end (F := F) (L := L) (g := g3) (y := 1) R3.2.1 nc' hr (Or.inr rfl)
          rw [g39] at this
          exact this
        · exact ⟨d3.1.ft (ft _) nc4, d3.2.1.fs F4 (by decide), d3.2.2.1, d3.2.2.2.1, (F4.1 4 (by decide)).trans d3.2.2.2.2.1, (F4.1 5 (by decide)).trans d3.2.2.2.2.2⟩
      · right
        have F4 : Fs [20] S3 (up1 S3 20 (Int32.ofNat v)) := Fs.up1 (by decide)
        refine ⟨f0, g3, tset T ac (cCond (cdv (up1 S 20 (g3 9))) at'), up1 S3 20 (Int32.ofNat v), ?_, by rw [d2]; rfl, d3, Or.inl (d4.fs F4 (by decide) (by decide)), ((a4.mono (by decide)).trans (b11.mono (by decide))).trans (d5.mono (by decide)), (((a5.to (by decide)).trans (b12.to (by decide))).trans (d6.to (by decide))).trans (F4.to (by decide)), ft _, cs _ _⟩
        rw [d1]
        exact ifr_end (F := F) hR.2.1 nc' hr (Or.inl rfl)
    · right
      rw [b1, b2]
      simp only [Option.bind_some, show m_c1 .eq (0 : Int32) = true from rfl, cond_true]
      obtain ⟨S3, e1, e2, e3⟩ := b4.expect (F := F) (a3.2.1.fs b6 (by decide)) (show 0 < 34 by decide) (show 34 < 127 by decide) rfl
      have F4 : Fs [20] S3 (up1 S3 20 z) := Fs.up1 (by decide)
      refine ⟨f, g2, tset T ac (cCond (cdv (up1 S 20 (g2 9))) at'), up1 S3 20 z, ?_, by rw [e1]; rfl, b3, Or.inl (e2.fs F4 (by decide) (by decide)), (a4.mono (by decide)).trans (b5.mono (by decide)), (((a5.to (by decide)).trans (b6.to (by decide))).trans (e3.to (by decide))).trans (F4.to (by decide)), ft _, cs _ _⟩
      exact ifr_end (F := F) hR.2.1 nc' hr (Or.inl rfl)
  · right
    rw [show (34 : Int32) = Int32.ofNat 34 from rfl, a1, a2]
    simp only [bd2, Option.bind_some, show m_c1 .eq (0 : Int32) = true from rfl, cond_true, number_d a4.1, a4.expect]
    have F4 : Fs [20] S1 (up1 S1 20 (-1)) := Fs.up1 (by decide)
    refine ⟨f0, g1, tset T ac (cCond (cdv (up1 S 20 (g1 9))) at'), up1 S1 20 (-1), ?_, rfl, a3, Or.inl (a4.fs F4 (by decide) (by decide)), a5.mono (by decide), (a6.to (by decide)).trans (F4.to (by decide)), ft _, cs _ _⟩
    exact ifr_end (F := F) hR.2.1 nc' hr (Or.inl rfl)
end
