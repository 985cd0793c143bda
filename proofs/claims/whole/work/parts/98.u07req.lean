/-! Languages and forms, on both sides. -/
section
variable {T T' T1 : tT} {S S' S1 : mS} {t : Nat → Nat} {L p s e F k c m n a aq ac at' : Nat} {g g' : Nat → Int32} {r : Option Nat × Option Nat × Option Nat} {x : Int32} {w : Option Nat}
def lnF (t : Nat → Nat) (s e : Nat) (S : mS) (f : Nat → Value) : Nat → Value := if isW t s e z_en = true then (fun j => if j = 0 then .int (wgt S) else f j) else if isW t s e z_de = true then (fun j => if j = 1 then .int (wgt S) else f j) else if isW t s e z_fr = true then (fun j => if j = 2 then .int (wgt S) else f j) else if isW t s e z_it = true then (fun j => if j = 3 then .int (wgt S) else f j) else f
theorem wgt_w (hw : Wo L g S s e w) : ((tgi (kR T L r g) 513 1 8).bind fun v1 => (cond (m_c1 .eq v1) ((tgi (kR T L r g) 513 1 9).bind fun v8 => some v8) (some (9 : Int32)))) = some (wgt S) ∧ few 100000 (wgt S) := by
  obtain ⟨_, _, _, _, _, _, w7⟩ := hw
  unfold wgt
  cases w with
  | none =>
    rw [if_pos w7.2, Kg8, w7.1]
    exact ⟨rfl, 9, by decide, rfl⟩
  | some v =>
    rw [if_neg (some_ne w7.2.2.2 w7.2.1), Kg8, w7.1, Kg9, w7.2.2.1, w7.2.2.2]
    exact ⟨rfl, v, by have := w7.2.1; omega, rfl⟩
theorem lang_c {f3 : Nat → Value} (h : Tc t L T) (hT : T.1 516 = some (.inr (.inl (0, 4, f3)))) (hw : Wo L g S s e w) (hF : 100 < F) : D_c_Reader_weighLanguage F 513 (kR T L r g) = some (kR (tset T 516 (.inr (.inl (0, 4, lnF t s e S f3)))) L r g) := by
  have ww := (wgt_w (T := T) (r := r) hw).1
  obtain ⟨w1, w2, w3, w4, w5, w6, w7⟩ := id hw
  have wc : ∀ {x cs}, txs x cs → D_c_Reader_isWord F 513 x (kR T L r g) = some (b2i (isW t s e cs)) := fun hx => word_c hx h w1 w2 w3 w4 hF
  have hT' : (kR T L r g).1 516 = some (.inr (.inl (0, 4, f3))) := (kR_ne (by decide)).trans hT
  have pt : ∀ k, k < 4 → tasi (kR T L r g) 516 (Int32.ofNat k) (wgt S) = some (kR (tset T 516 (.inr (.inl (0, 4, fun j => if j = k then .int (wgt S) else f3 j)))) L r g) := fun k hk => by
    unfold tasi
    rw [tas_n hT' hk (by decide), kR_tset (by decide)]
  have e0 : D_c_Reader_weighLanguage F 513 (kR T L r g) = ((tgi (kR T L r g) 513 1 8).bind fun v1 => (cond (m_c1 .eq v1) ((tgi (kR T L r g) 513 1 9).bind fun v8 => some v8) (some (9 : Int32)))).bind fun v11 => cond (!(isW t s e z_en)) (cond (!(isW t s e z_de)) (cond (!(isW t s e z_fr)) (cond (!(isW t s e z_it)) (some (kR T L r g)) (tasi (kR T L r g) 516 (Int32.ofNat 3) v11)) (tasi (kR T L r g) 516 (Int32.ofNat 2) v11)) (tasi (kR T L r g) 516 (Int32.ofNat 1) v11)) (tasi (kR T L r g) 516 (Int32.ofNat 0) v11) := by
    unfold D_c_Reader_weighLanguage
    simp only [Kcl, Option.bind_some, wc tx_18, wc tx_19, wc tx_20, wc tx_21, b_eq0, Rr12 kR_at, Kg8]
    congr 1
    funext v11
    have ob : ∀ o : Option tT, (o.bind fun U => some U) = o := fun o => by cases o <;> rfl
    simp only [ob]
    rfl
  rw [e0, ww, Option.bind_some, pt 0 (by decide), pt 1 (by decide), pt 2 (by decide), pt 3 (by decide)]
  unfold lnF
  cases isW t s e z_en with
  | true => rfl
  | false =>
    cases isW t s e z_de with
    | true => rfl
    | false =>
      cases isW t s e z_fr with
      | true => rfl
      | false =>
        cases isW t s e z_it with
        | true => rfl
        | false =>
          show some (kR T L r g) = some (kR (tset T 516 (.inr (.inl (0, 4, f3)))) L r g)
          rw [tset_own hT]
theorem Rqs.up5 {j : Nat} (h : Rqs aq ac at' T S) (hA : Ap aq ac at') (hx : few 100000 x) (hj : j < 4) {f3 : Nat → Value} (hf : T.1 516 = some (.inr (.inl (0, 4, f3)))) : Rqs aq ac at' (tset T 516 (.inr (.inl (0, 4, fun i => if i = j then .int x else f3 i)))) (up2 S 585 j x) := by
  obtain ⟨h1, h2, ⟨n, f, h3, h4, h5, h6⟩, ⟨f3', h7, h8⟩, h9⟩ := h
  have ef : f3' = f3 := by rw [hf] at h7; cases h7; rfl
  subst ef
  obtain ⟨b1, b2, b3, b4, b5, b6⟩ := hA
  have r5 : ∀ i, rd (up2 S 585 j x) 585 i = if i = j then x else rd S 585 i := fun i => by
    rw [rd_up2]
    by_cases w : i = j
    · rw [if_pos ⟨rfl, w⟩, if_pos w]
    · rw [if_neg (fun q => w q.2), if_neg w]
  have r6 : ∀ i, rd (up2 S 585 j x) 586 i = rd S 586 i := fun i => by rw [rd_up2, if_neg (fun q => absurd q.1 (by decide))]
  refine ⟨?_, ?_, ⟨n, f, h3, h4, tset_o h5 (by omega), fun i hi => by rw [r6]; exact h6 i hi⟩, ⟨_, tset_at, fun i hi => ?_⟩, ?_⟩
  · rw [qdvL hj]; exact tset_o h1 (by omega)
  · rw [show cdv (up2 S 585 j x) = cdv S from cdv_st (fun _ _ _ => rfl)]; exact tset_o h2 (by omega)
  · rw [r5]
    show m_toI (if i = j then _ else _) = _
    by_cases w : i = j
    · rw [if_pos w, if_pos w]; rfl
    · rw [if_neg w, if_neg w]; exact h8 i hi
  · obtain ⟨a1, a2, a3, a4, a5, a6, a7, a8, a9, a10⟩ := h9
    refine ⟨a1, a2, a3, a4, a5, a6, a7, a8, a9, fun i hi => ?_⟩
    rw [r5]
    by_cases w : i = j
    · rw [if_pos w]; exact hx
    · rw [if_neg w]; exact a10 i hi
theorem Rqs.ln {f3 : Nat → Value} (h : Rqs aq ac at' T S) (hA : Ap aq ac at') (hw : Wo L g S s e w) (hf : T.1 516 = some (.inr (.inl (0, 4, f3)))) : Rqs aq ac at' (tset T 516 (.inr (.inl (0, 4, lnF t s e S f3)))) (lnS t s e S) := by
  have fx : few 100000 (wgt S) := (wgt_w (T := T) (r := (none, none, none)) hw).2
  unfold lnF lnS
  split
  · exact h.up5 hA fx (by decide) hf
  · split
    · exact h.up5 hA fx (by decide) hf
    · split
      · exact h.up5 hA fx (by decide) hf
      · split
        · exact h.up5 hA fx (by decide) hf
        · rw [tset_own hf]; exact h
/-- a list of languages -/
theorem P_langs (h : St t L T S p g) (hR : Rqs aq ac at' T S) (hA : Ap aq ac at') (hF : 400 < F) :
    (∃ p' g' T1 S', D_c_Reader_readList F 513 0 (kR T L r g) = some (1, kR T1 L r g') ∧ D_m_list F 2 S = some S' ∧ St t L T1 S' p' g' ∧ p < p' ∧ Rqs aq ac at' T1 S' ∧ Gs [2, 6, 7, 8, 9] g g' ∧ Fr Kl [585] S S' ∧ Ft [516] T T1 ∧ Cs (kR T L r g) (kR T1 L r g') 0 0) ∨
    (∃ f0 g' T1 S', D_c_Reader_readList F 513 0 (kR T L r g) = some (0, kR T1 L r g') ∧ D_m_list F 2 S = some S' ∧ g' 3 = Int32.ofNat f0 ∧ Fl t L S' f0 ∧ Gs [2, 3, 6, 7, 8, 9] g g' ∧ Fr Km [585] S S' ∧ Ft [516] T T1 ∧ Cs (kR T L r g) (kR T1 L r g') 0 0 ∧ ∃ S9, Rqs aq ac at' T1 S9) := by
  have hL := h.1.1
  have pL := h.2.2.1
  have := P_listR (F := F) (t := t) (L := L) (r := r) (B := [516]) (ck := 0) (mk := 2) (cs := D_c_Reader_weighLanguage F 513) (ms := D_m_weighWord F) (Rel := Rqs aq ac at')
    ⟨by decide, by decide⟩ (fun n i T => rfl)
    (fun rec2 S h5 => by unfold D_m_list_139; rw [h5]; rfl)
    (fun T S g s e w tc tp wo hR => by
      obtain ⟨f3, q1', q2'⟩ := id hR.2.2.2.1
      exact ⟨_, _, lang_c tc q1' wo (by omega), lang_m tp wo.1 wo.2.1 wo.2.2.2.2.1 wo.2.2.2.2.2.1 (by omega), hR.ln hA wo q1', lnS_fr, Ft.set (by simp), up_cs (T1 := T) q1' (by decide) rfl rfl⟩)
    (fun S s e tp h1 h2 h3 h4 => ⟨_, lang_m tp h1 h2 h3 h4 (by omega), lnS_fr⟩)
    (fun T S S' hR f => hR.fs f (by decide)) hF (L - p) p 0 g T S (by omega) (by omega) h hR F F (by omega) (by omega)
  exact this
end
