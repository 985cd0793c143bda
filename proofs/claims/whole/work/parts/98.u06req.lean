/-! Lists of a request, on both sides. -/
section
variable {T T' T1 : tT} {S S' S1 : mS} {t : Nat → Nat} {L p s e F k c m n a aq ac at' : Nat} {g g' : Nat → Int32} {r : Option Nat × Option Nat × Option Nat} {x : Int32} {w : Option Nat}
theorem cdv_st (q : ∀ i, 9 ≤ i → i ≤ 12 ∨ (16 ≤ i ∧ i ≤ 17) ∨ i = 20 → S'.1 i = S.1 i) : cdv S' = cdv S := by
  funext i
  unfold cdv
  rw [q 16 (by decide) (by decide), q 9 (by decide) (by decide), q 10 (by decide) (by decide), q 11 (by decide) (by decide), q 17 (by decide) (by decide), q 12 (by decide) (by decide), q 20 (by decide) (by decide)]
theorem qdv_st (q : ∀ i, 13 ≤ i → i ≤ 19 → S'.1 i = S.1 i) (r4 : rd S' 585 4 = rd S 585 4) : qdv S' = qdv S := by
  funext i
  unfold qdv
  rw [q 18 (by decide) (by decide), q 19 (by decide) (by decide), q 13 (by decide) (by decide), q 15 (by decide) (by decide), q 14 (by decide) (by decide), r4]
theorem okQ_st (h : okQ S) (q : ∀ i, 9 ≤ i → i ≤ 20 → S'.1 i = S.1 i) (r5 : ∀ j, rd S' 585 j = rd S 585 j) : okQ S' := by
  unfold okQ
  rw [q 16 (by decide) (by decide), q 17 (by decide) (by decide), q 18 (by decide) (by decide), q 19 (by decide) (by decide), q 13 (by decide) (by decide), q 15 (by decide) (by decide), q 14 (by decide) (by decide), q 20 (by decide) (by decide), q 9 (by decide) (by decide), q 10 (by decide) (by decide), q 11 (by decide) (by decide)]
  simp only [r5]
  exact h
theorem Rqs.st (h : Rqs aq ac at' T S) (q : ∀ i, 9 ≤ i → i ≤ 20 → S'.1 i = S.1 i) (r5 : ∀ j, rd S' 585 j = rd S 585 j) (r6 : ∀ j, rd S' 586 j = rd S 586 j) : Rqs aq ac at' T S' := by
  obtain ⟨h1, h2, ⟨n, f, h3, h4, h5, h6⟩, ⟨f3, h7, h8⟩, h9⟩ := h
  refine ⟨by rw [qdv_st (fun i a b => q i (by omega) (by omega)) (r5 4)]; exact h1, by rw [cdv_st (fun i a b => q i a (by omega))]; exact h2, ⟨n, f, h3, (q 12 (by decide) (by decide)).trans h4, h5, fun i hi => by rw [r6]; exact h6 i hi⟩, ⟨f3, h7, fun j hj => by rw [r5]; exact h8 j hj⟩, okQ_st h9 q r5⟩
theorem no920 {K : List Nat} (h : K.all (fun i => decide (i < 9) || decide (20 < i)) = true) {i : Nat} (h1 : 9 ≤ i) (h2 : i ≤ 20) : ¬ i ∈ K := fun q => by
  have := List.all_eq_true.mp h i q
  rw [Bool.or_eq_true, decide_eq_true_eq, decide_eq_true_eq] at this
  omega
theorem Rqs.fs {K : List Nat} (h : Rqs aq ac at' T S) (f : Fs K S S') (hK : K.all (fun i => decide (i < 9) || decide (20 < i)) = true) : Rqs aq ac at' T S' := h.st (fun i a b => f.1 i (no920 hK a b)) (fun j => by unfold rd; rw [f.2]) (fun j => by unfold rd; rw [f.2])
/-- the cells of a request are where the reader is not, and apart -/
def Ap (aq ac at' : Nat) : Prop := 516 < aq ∧ 516 < ac ∧ 516 < at' ∧ ¬ aq = ac ∧ ¬ aq = at' ∧ ¬ ac = at'
theorem okQ.rq (h : okQ S) (hw : Wo L g S s e w) : okQ (rqS t s e S) := by
  obtain ⟨a1, a2, a3, a4, a5, a6, a7, a8, a9, a10⟩ := h
  obtain ⟨_, _, _, _, _, _, w7⟩ := hw
  have fv : ¬ S.1 82 = -1 → may (S.1 82) := by
    intro ne
    cases w with
    | none => exact absurd w7.2 ne
    | some v => exact Or.inr ⟨v, by have := w7.2.1; omega, w7.2.2.2⟩
  unfold rqS
  by_cases w : S.1 82 = -1
  · rw [if_pos w]
    by_cases q1' : isW t s e z_nocache = true
    · rw [if_pos q1']; exact ⟨a1, a2, Or.inr rfl, a4, a5, a6, a7, a8, a9, a10⟩
    · rw [if_neg q1']
      by_cases q2' : isW t s e z_onlyifcached = true
      · rw [if_pos q2']; exact ⟨a1, a2, a3, Or.inr rfl, a5, a6, a7, a8, a9, a10⟩
      · rw [if_neg q2']
        by_cases q3' : isW t s e z_maxstale = true
        · rw [if_pos q3']; exact ⟨a1, a2, a3, a4, a5, a6, Or.inr rfl, a8, a9, a10⟩
        · rw [if_neg q3']; exact ⟨a1, a2, a3, a4, a5, a6, a7, a8, a9, a10⟩
  · rw [if_neg w]
    by_cases q1' : isW t s e z_maxage = true
    · rw [if_pos q1']; exact ⟨a1, a2, a3, a4, fv w, a6, a7, a8, a9, a10⟩
    · rw [if_neg q1']
      by_cases q2' : isW t s e z_maxstale = true
      · rw [if_pos q2']; exact ⟨a1, a2, a3, a4, a5, a6, Or.inl (fv w), a8, a9, a10⟩
      · rw [if_neg q2']
        by_cases q3' : isW t s e z_minfresh = true
        · rw [if_pos q3']; exact ⟨a1, a2, a3, a4, a5, fv w, a7, a8, a9, a10⟩
        · rw [if_neg q3']; exact ⟨a1, a2, a3, a4, a5, a6, a7, a8, a9, a10⟩
theorem rqS_fs : Fs [13, 14, 15, 18, 19] S (rqS t s e S) := by
  unfold rqS
  have u : ∀ k x, k ∈ [13, 14, 15, 18, 19] → Fs [13, 14, 15, 18, 19] S (up1 S k x) := fun k x hk => Fs.up1 hk
  split
  · split
    · exact u _ _ (by decide)
    · split
      · exact u _ _ (by decide)
      · split
        · exact u _ _ (by decide)
        · exact Fs.refl
  · split
    · exact u _ _ (by decide)
    · split
      · exact u _ _ (by decide)
      · split
        · exact u _ _ (by decide)
        · exact Fs.refl
theorem Rqs.rq (h : Rqs aq ac at' T S) (hA : Ap aq ac at') (hw : Wo L g S s e w) : Rqs aq ac at' (tset T aq (cReq (qdv (rqS t s e S)) none none none)) (rqS t s e S) := by
  obtain ⟨h1, h2, ⟨n, f, h3, h4, h5, h6⟩, ⟨f3, h7, h8⟩, h9⟩ := h
  obtain ⟨b1, b2, b3, b4, b5, b6⟩ := hA
  have F1 : Fs [13, 14, 15, 18, 19] S (rqS t s e S) := rqS_fs
  have rr : ∀ a k, rd (rqS t s e S) a k = rd S a k := fun a k => by unfold rd; rw [F1.2]
  refine ⟨tset_at, ?_, ⟨n, f, h3, (F1.1 12 (by decide)).trans h4, tset_o h5 (fun q => b5 q.symm), fun i hi => by rw [rr]; exact h6 i hi⟩, ⟨f3, tset_o h7 (by omega), fun j hj => by rw [rr]; exact h8 j hj⟩, h9.rq hw⟩
  rw [cdv_st (S := S) (fun i a b => F1.1 i (fun q => by simp at q; omega))]
  exact tset_o h2 (fun q => b4 q.symm)
/-- a list of what the asker says of keeping -/
theorem P_asked (h : St t L T S p g) (hR : Rqs aq ac at' T S) (hA : Ap aq ac at') (hr : r.1 = some aq) (hF : 400 < F) :
    (∃ p' g' T1 S', D_c_Reader_readList F 513 2 (kR T L r g) = some (1, kR T1 L r g') ∧ D_m_list F 0 S = some S' ∧ St t L T1 S' p' g' ∧ p < p' ∧ Rqs aq ac at' T1 S' ∧ Gs [2, 6, 7, 8, 9] g g' ∧ Fr Kl [585] S S' ∧ Ft [aq] T T1 ∧ Cs (kR T L r g) (kR T1 L r g') 0 0) ∨
    (∃ f0 g' T1 S', D_c_Reader_readList F 513 2 (kR T L r g) = some (0, kR T1 L r g') ∧ D_m_list F 0 S = some S' ∧ g' 3 = Int32.ofNat f0 ∧ Fl t L S' f0 ∧ Gs [2, 3, 6, 7, 8, 9] g g' ∧ Fr Km [585] S S' ∧ Ft [aq] T T1 ∧ Cs (kR T L r g) (kR T1 L r g') 0 0) := by
  have hL := h.1.1
  have pL := h.2.2.1
  have n5 : ¬ aq = 513 := by have := hA.1; omega
  have := P_list (F := F) (t := t) (L := L) (r := r) (B := [aq]) (ck := 2) (mk := 0) (cs := D_c_Reader_countAsked F 513) (ms := D_m_requestWord F) (Rel := Rqs aq ac at')
    ⟨fun q => n5 (List.mem_singleton.mp q).symm, fun q => by have := hA.1; have := List.mem_singleton.mp q; omega⟩ (fun n i T => rfl)
    (fun rec2 S h5 => by unfold D_m_list_139; rw [h5]; rfl)
    (fun T S g s e w tc tp wo hR => ⟨_, _, asked_c tc hR.1 n5 hr wo (by omega), request_m tp wo.1 wo.2.1 wo.2.2.2.2.1 wo.2.2.2.2.2.1 (by omega), hR.rq hA wo, rqS_fr, Ft.set (by simp), up_cs (T1 := T) hR.1 n5 rfl rfl⟩)
    (fun S s e tp h1 h2 h3 h4 => ⟨_, request_m tp h1 h2 h3 h4 (by omega), rqS_fr⟩)
    (fun T S S' hR f => hR.fs f (by decide)) hF (L - p) p 0 g T S (by omega) (by omega) h hR F F (by omega) (by omega)
  exact this
end
