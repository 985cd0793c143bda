/-! Forms, tags of a range, on both sides. -/
section
variable {T T' T1 : tT} {S S' S1 : mS} {t : Nat → Nat} {L p s e F k c m n a aq ac at' : Nat} {g g' : Nat → Int32} {r : Option Nat × Option Nat × Option Nat} {x : Int32} {w : Option Nat}
theorem pos_n {v : Nat} (hv : v < 2147483648) : m_c1 .le (Int32.ofNat v) = decide (v ≤ 0) ∧ ((0 : Int32) < Int32.ofNat v ↔ 0 < v) := by
  refine ⟨?_, ?_⟩
  · exact le_n (b := 0) hv (by decide)
  · exact i_lt (a := 0) (b := v) (by unfold sm; decide) hv
theorem form_c (h : Tc t L T) (hT : T.1 aq = some (cReq (qdv S) none none none)) (n5 : ¬ aq = 513) (hr : r.1 = some aq) (hw : Wo L g S s e w) (hF : 100 < F) : D_c_Reader_weighForm F 513 (kR T L r g) = some (kR (tset T aq (cReq (qdv (fmS t s e S)) none none none)) L r g) := by
  obtain ⟨w1, w2, w3, w4, w5, w6, w7⟩ := id hw
  have hT' : (kR T L r g).1 aq = some (cReq (qdv S) none none none) := (kR_ne n5).trans hT
  unfold D_c_Reader_weighForm fmS
  rw [Kcl, Option.bind_some, word_c tx_22 h w1 w2 w3 w4 hF, Option.bind_some, b_eq0]
  cases isW t s e z_gzip with
  | false =>
    rw [if_neg (by decide), tset_own hT]
    rfl
  | true =>
    rw [if_pos rfl]
    simp only [Bool.not_true, cond_false, Kr13, hr, Option.bind_some, Kg8]
    have put : ∀ b, b = (if 0 < wgt S then 1 else 0) → tpi (kR T L r g) aq 6 3 b = some (kR (tset T aq (cReq (qdv (up2 S 585 4 (wgt S))) none none none)) L r g) := fun b hb => by rw [Qp3 hT', kR_tset n5, qdv3 hb]
    cases w with
    | none =>
      obtain ⟨q1', q2'⟩ := w7
      rw [q1']
      have hb : (1 : Int32) = (if 0 < wgt S then 1 else 0) := by unfold wgt; rw [if_pos q2']; rfl
      simp only [show m_c1 .ne (1 : Int32) = true from rfl, cond_true, Option.bind_some]
      rw [put 1 hb]
      rfl
    | some v =>
      obtain ⟨q1', q2', q3', q4'⟩ := w7
      obtain ⟨z1, z2⟩ := pos_n (v := v) (by omega)
      have hwv : wgt S = Int32.ofNat v := by unfold wgt; rw [if_neg (some_ne q4' q2')]; exact q4'
      rw [q1', Kg9, q3']
      simp only [show m_c1 .ne (0 : Int32) = false from rfl, cond_false, Option.bind_some, z1]
      by_cases w0 : v ≤ 0
      · rw [decide_eq_true w0, cond_true, Option.bind_some, put 0 (by rw [hwv, if_neg (fun q => by have := z2.mp q; omega)])]
        rfl
      · rw [decide_eq_false w0, cond_false, Option.bind_some, put 1 (by rw [hwv, if_pos (z2.mpr (by omega))])]
        rfl
theorem Rqs.fm (h : Rqs aq ac at' T S) (hA : Ap aq ac at') (hw : Wo L g S s e w) : Rqs aq ac at' (tset T aq (cReq (qdv (fmS t s e S)) none none none)) (fmS t s e S) := by
  have fx : few 100000 (wgt S) := (wgt_w (T := T) (r := (none, none, none)) hw).2
  unfold fmS
  split
  · obtain ⟨h1, h2, ⟨n, f, h3, h4, h5, h6⟩, ⟨f3, h7, h8⟩, h9⟩ := h
    obtain ⟨b1, b2, b3, b4, b5, b6⟩ := hA
    have r5 : ∀ i, rd (up2 S 585 4 (wgt S)) 585 i = if i = 4 then wgt S else rd S 585 i := fun i => by
      rw [rd_up2]
      by_cases w : i = 4
      · rw [if_pos ⟨rfl, w⟩, if_pos w]
      · rw [if_neg (fun q => w q.2), if_neg w]
    have r6 : ∀ i, rd (up2 S 585 4 (wgt S)) 586 i = rd S 586 i := fun i => by rw [rd_up2, if_neg (fun q => absurd q.1 (by decide))]
    refine ⟨tset_at, ?_, ⟨n, f, h3, h4, tset_o h5 (fun q => b5 q.symm), fun i hi => by rw [r6]; exact h6 i hi⟩, ⟨f3, tset_o h7 (by omega), fun i hi => ?_⟩, ?_⟩
    · rw [show cdv (up2 S 585 4 (wgt S)) = cdv S from cdv_st (fun _ _ _ => rfl)]; exact tset_o h2 (fun q => b4 q.symm)
    · rw [r5, if_neg (by omega)]; exact h8 i hi
    · obtain ⟨a1, a2, a3, a4, a5, a6, a7, a8, a9, a10⟩ := h9
      refine ⟨a1, a2, a3, a4, a5, a6, a7, a8, a9, fun i hi => ?_⟩
      rw [r5]
      by_cases w : i = 4
      · rw [if_pos w]; exact fx
      · rw [if_neg w]; exact a10 i hi
  · rw [tset_own h.1]; exact h
/-- a list of forms -/
theorem P_forms (h : St t L T S p g) (hR : Rqs aq ac at' T S) (hA : Ap aq ac at') (hr : r.1 = some aq) (hF : 400 < F) :
    (∃ p' g' T1 S', D_c_Reader_readList F 513 1 (kR T L r g) = some (1, kR T1 L r g') ∧ D_m_list F 3 S = some S' ∧ St t L T1 S' p' g' ∧ p < p' ∧ Rqs aq ac at' T1 S' ∧ Gs [2, 6, 7, 8, 9] g g' ∧ Fr Kl [585] S S' ∧ Ft [aq] T T1 ∧ Cs (kR T L r g) (kR T1 L r g') 0 0) ∨
    (∃ f0 g' T1 S', D_c_Reader_readList F 513 1 (kR T L r g) = some (0, kR T1 L r g') ∧ D_m_list F 3 S = some S' ∧ g' 3 = Int32.ofNat f0 ∧ Fl t L S' f0 ∧ Gs [2, 3, 6, 7, 8, 9] g g' ∧ Fr Km [585] S S' ∧ Ft [aq] T T1 ∧ Cs (kR T L r g) (kR T1 L r g') 0 0) := by
  have hL := h.1.1
  have pL := h.2.2.1
  have n5 : ¬ aq = 513 := by have := hA.1; omega
  have := P_list (F := F) (t := t) (L := L) (r := r) (B := [aq]) (ck := 1) (mk := 3) (cs := D_c_Reader_weighForm F 513) (ms := fmM F) (Rel := Rqs aq ac at')
    ⟨fun q => n5 (List.mem_singleton.mp q).symm, fun q => by have := hA.1; have := List.mem_singleton.mp q; omega⟩ (fun n i T => rfl)
    (fun rec2 S h5 => by
      unfold D_m_list_139 fmM
      rw [h5]
      show ((D_m_isWord F 56 S).bind _) = _
      cases D_m_isWord F 56 S with
      | none => rfl
      | some v =>
        show (cond (m_c1 .eq v) _ _) = (cond (m_c1 .eq v) _ _ : Option mS).bind _
        cases m_c1 .eq v with
        | true => rfl
        | false =>
          show ((cond (m_c2 .ne (S.1 82) ((-1) : Int32)) (some (S.1 82)) (some (9 : Int32))).bind _) = ((cond (m_c2 .ne (S.1 82) ((-1) : Int32)) (some (S.1 82)) (some (9 : Int32))).bind _ : Option mS).bind _
          rw [wgt_c]
          rfl)
    (fun T S g s e w tc tp wo hR => ⟨_, _, form_c tc hR.1 n5 hr wo (by omega), form_m tp wo.1 wo.2.1 wo.2.2.2.2.1 wo.2.2.2.2.2.1 (by omega), hR.fm hA wo, fmS_fr, Ft.set (by simp), up_cs (T1 := T) hR.1 n5 rfl rfl⟩)
    (fun S s e tp h1 h2 h3 h4 => ⟨_, form_m tp h1 h2 h3 h4 (by omega), fmS_fr⟩)
    (fun T S S' hR f => hR.fs f (by decide)) hF (L - p) p 0 g T S (by omega) (by omega) h hR F F (by omega) (by omega)
  exact this
end
