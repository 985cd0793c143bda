/-! Runs by contracts: what a method does is known by its contract, whoever proved it. -/
theorem m_Good.step {l : Launch} {I : mI} {F F' : mF} {r : mR} {dc ds fr lo : Nat} (h : m_Step l I F F' dc ds fr lo) (hG : m_Good l I F' r) : m_Good l I F (m_add dc ds fr lo r) := by
  intro p e R s m args below meth c H locs cells slots ls D dA X A L0 L1 hx hb hml hown hts hnm hret hlk hK hE hA hS hl hc hs hfr hlo
  have hc : cells + (dc + r.2.2.1) ≤ R.cells := hc
  have hs : slots + (ds + r.2.2.2.1) ≤ R.slots := hs
  have hc' : (cells + dc) + r.2.2.1 ≤ R.cells := by omega
  have hs' : (slots + ds) + r.2.2.2.1 ≤ R.slots := by omega
  refine h p e R s m args below meth c H locs cells slots ls D dA X A (L0 ++ L1) _ hx hb hml hown hts hnm hK hE hA hS hl (by omega) (by omega) (Nat.le_trans (Nat.le_max_left _ _) hfr) (Nat.le_trans (Nat.le_max_left _ _) hlo) (fun H1 locs1 L2 ls' hS1 hl1 => ?_)
  have g := hG p e R s m args below meth c H1 locs1 (cells + dc) (slots + ds) ls' D dA X A L0 (L1 ++ L2) hx hb hml hown hts hnm hret hlk hK hE hA (by rw [← List.append_assoc]; exact hS1) (by rw [← List.append_assoc]; exact hl1) hc' hs' (Nat.le_trans (Nat.le_max_right _ _) hfr) (Nat.le_trans (Nat.le_max_right _ _) hlo)
  rw [← List.append_assoc] at g
  show W p l e R s m args below meth c H1 locs1 (cells + dc) (slots + ds) (MQ below (m_Qc D dA X L0 A r.1 r.2.1) args s (cells + (dc + r.2.2.1)) (slots + (ds + r.2.2.2.1)) A) _
  rw [← Nat.add_assoc, ← Nat.add_assoc]
  exact g
/-- from F method I comes to its end: P of its answer and its world; c cells of s slots, f frames, lo words are enough -/
def m_Rs (l : Launch) (I : mI) (F : mF) (P : Option Value → List mM → Prop) (c s f lo : Nat) : Prop := ∃ (v : Option Value) (w : List mM), P v w ∧ m_Good l I F (v, w, c, s, f, lo)
section
variable {l : Launch} {I J : mI} {F F' : mF} {P P' P1 : Option Value → List mM → Prop} {c s f lo c' s' f' lo' c1 s1 f1 l1 dc ds fr lw : Nat}
theorem m_Rs.of (hI : m_bOk I) (h : m_Rq I F P c s f lo) : m_Rs l I F P c s f lo := h.good hI l
theorem m_Rs.mono (h : m_Rs l I F P c s f lo) (hP : ∀ v w, P v w → P' v w) (hc : c ≤ c') (hs : s ≤ s') (hf : f ≤ f') (hl : lo ≤ lo') : m_Rs l I F P' c' s' f' lo' := by
  obtain ⟨v, w, h1, h2⟩ := h
  exact ⟨v, w, hP v w h1, m_Good_mono h2 hc hs hf hl⟩
theorem m_Rs.step (h : m_Step l I F F' dc ds fr lw) (k : m_Rs l I F' P c s f lo) (hf : fr ≤ f) (hl : lw ≤ lo) : m_Rs l I F P (dc + c) (ds + s) f lo := by
  obtain ⟨v, w, h1, h2⟩ := k
  refine ⟨v, w, h1, ?_⟩
  have g := m_Good.step h h2
  have e1 : max fr f = f := Nat.max_eq_right hf
  have e2 : max lw lo = lo := Nat.max_eq_right hl
  have g2 : m_Good l I F (v, w, dc + c, ds + s, max fr f, max lw lo) := g
  rw [e1, e2] at g2
  exact g2
theorem m_Rs.n0 (hI : m_bOk I) (h : m_nx m_nn I F = some (F', 0, 0, 0, 0)) (k : m_Rs l I F' P c s f lo) : m_Rs l I F P c s f lo := by
  have := m_Rs.step (m_nx_sound l hI (fun J G r hJ hr => by cases hr) h) k (Nat.zero_le _) (Nat.zero_le _)
  rw [Nat.zero_add, Nat.zero_add] at this
  exact this
theorem m_Rs.nx (hI : m_bOk I) (h : m_nx m_nn I F = some (F', dc, ds, fr, lw)) (k : m_Rs l I F' P c s f lo) (hf : fr ≤ f) (hl : lw ≤ lo) : m_Rs l I F P (dc + c) (ds + s) f lo :=
  m_Rs.step (m_nx_sound l hI (fun J G r hJ hr => by cases hr) h) k hf hl
theorem m_Rs.call {as rest : List Value} (hI : m_bOk I) (h : m_at1 I F = some (J, as, rest)) (hJ : m_Rs l J (m_ent J as F.2.2.2) P1 c1 s1 f1 l1) (k : ∀ (v : Option Value) (w : List mM), P1 v w → m_Rs l I (F.1 + 3, F.2.1, v.toList ++ rest, w) P c s f lo) (hf : f1 + 1 ≤ f) (hl : 8 + (J.2.2.1 + 11) + l1 ≤ lo) : m_Rs l I F P (c1 + c) (s1 + s) f lo := by
  obtain ⟨i, hde, hca, hokf, hfit⟩ := m_at1_inv h
  obtain ⟨v, w', h1, h2⟩ := hJ
  have hM := m_Met_of (m_mt_ok J (m_ca_as hca).2) hfit h2
  exact m_Rs.step (m_call_step l hI h hM) (k v w' h1) hf hl
theorem m_Rs.ret {v : Option Value} (hI : m_bOk I) (h : m_rt I F = some v) (hP : P v F.2.2.2) : m_Rs l I F P c s f lo := m_Rs.of hI (m_Rq.ret h hP)
end
/-! System.arraycopy -/
def m_cpl (t : Nat) (e0 e1 : List (Nat × Value)) (sp dp n : Nat) : List (Nat × Value) := (List.range n).map (fun i => (dp + i, m_el t e0 (sp + i))) ++ e1
theorem m_find_range (g : Nat → Value) (dp : Nat) : ∀ (n k : Nat), ((List.range n).map (fun i => (dp + i, g i))).find? (fun q => q.1 == k) = if dp ≤ k ∧ k < dp + n then some (k, g (k - dp)) else none := by
  intro n
  induction n with
  | zero =>
    intro k
    rw [if_neg (by omega)]
    rfl
  | succ n ih =>
    intro k
    rw [List.range_succ, List.map_append, List.find?_append, ih k]
    by_cases h1 : dp ≤ k ∧ k < dp + n
    · rw [if_pos h1, if_pos (by omega)]
      rfl
    · rw [if_neg h1]
      by_cases h2 : k = dp + n
      · subst h2
        rw [if_pos (by omega)]
        simp
      · rw [if_neg (by omega)]
        simp
        omega
theorem m_el_cpl {t : Nat} {e0 e1 : List (Nat × Value)} {sp dp n k : Nat} : m_el t (m_cpl t e0 e1 sp dp n) k = if dp ≤ k ∧ k < dp + n then m_el t e0 (sp + (k - dp)) else m_el t e1 k := by
  have h : (m_cpl t e0 e1 sp dp n).find? (fun q => q.1 == k) = (if dp ≤ k ∧ k < dp + n then some (k, m_el t e0 (sp + (k - dp))) else e1.find? (fun q => q.1 == k)) := by
    unfold m_cpl
    rw [List.find?_append, m_find_range (fun i => m_el t e0 (sp + i)) dp n k]
    split <;> rfl
  by_cases hc : dp ≤ k ∧ k < dp + n
  · rw [if_pos hc] at h ⊢
    conv => lhs; unfold m_el
    rw [h]
  · rw [if_neg hc] at h ⊢
    conv => lhs; unfold m_el
    rw [h]
    rfl
theorem m_arr_cpl {X : Nat → Nat} {L : List Nat} {t N : Nat} {e0 e1 : List (Nat × Value)} {sp dp n : Nat} (h1 : ¬ t = 1) (h6 : t < 6) : m_arr X L t N (m_cpl t e0 e1 sp dp n) = (N, .inl (va_cpy (fun j => m_toI (m_el t e0 j)) (fun j => m_toI (m_el t e1 j)) sp dp n)) := by
  rw [m_arr_i h1 h6]
  congr 2
  funext k
  rw [m_el_cpl]
  unfold va_cpy
  split <;> rfl
theorem m_Step.copyP (l : Launch) {I : mI} (hI : m_bOk I) {pc k t a0 a1 N0 N1 : Nat} {lv : List (Nat × Value)} {r : List Value} {w : List mM} {e0 e1 : List (Nat × Value)} {ty : FieldType} {sp dp n : Int32} (hd : m_de I pc = some (.invokestatic k, 3))
    (f1 : Cond.methodLink I.1.cls k arraycopyName ∈ m_gt) (f2 : Cond.native arraycopyName ∈ m_gt) (f3 : Cond.static arraycopyName ∈ m_gt) (f4 : Cond.initialized "java/lang/System" ∈ m_gt) (h0 : m_at w a0 = some (.inl (t, N0, e0))) (h1 : m_at w a1 = some (.inl (t, N1, e1))) (ht1 : ¬ t = 1) (ht6 : t < 6) (hty : m_tyl[t]? = some ty) (hpr : refKind ty = false) (hft : ∀ i, i < n.toNatClampNeg → fits ty (.int (m_toI (m_el t e0 (sp.toNatClampNeg + i)))) = true)
    (g1 : ¬ sp < 0) (g2 : ¬ dp < 0) (g3 : ¬ n < 0) (g4 : sp.toNatClampNeg + n.toNatClampNeg ≤ N0) (g5 : dp.toNatClampNeg + n.toNatClampNeg ≤ N1) (hcat : (r.map fun v => v.category).sum ≤ 8) :
    m_Step l I (pc, lv, .int n :: .int dp :: .ref a1 :: .int sp :: .ref a0 :: r, w) (pc + 3, lv, r, w.set (a1 - 512) (.inl (t, N1, m_cpl t e0 e1 sp.toNatClampNeg dp.toNatClampNeg n.toNatClampNeg))) 0 0 1 (8 + (nativeFrameWords "java/lang/System" "arraycopy" 5 + 11)) := by
  intro p e R s m args below meth c H locs cells slots ls D dA X A L Q hx hb hml hown hts hnm hK hE hA hS hl hc hs hfr hlo kk
  have hS : m_St D dA X A s.heap H locs L w := hS
  obtain ⟨p0, p1⟩ := m_at_L (X := X) hS.1 h0
  obtain ⟨q0, q1⟩ := m_at_L (X := X) hS.1 h1
  have hw0 := m_wd_get (X := X) (dA := dA) p0 p1
  have hw1 := m_wd_get (X := X) (dA := dA) q0 q1
  have e9 : ∀ (N : Nat) (els : List (Nat × Value)), m_cell X L dA (.inl (t, N, els)) = .inl (dA t, N, .inl (fun j => m_toI (m_el t els j))) := fun N els => congrArg (fun z => Sum.inl (dA t, z)) (m_arr_i ht1 ht6)
  rw [e9] at hw0 hw1
  have hokc : m_okc w.length (.inl (t, N1, m_cpl t e0 e1 sp.toNatClampNeg dp.toNatClampNeg n.toNatClampNeg)) = true := by
    simp only [m_okc, Bool.or_eq_true, decide_eq_true_eq]
    exact Or.inl ht6
  refine va_copyi (a := m_ad X L a1) (a0 := m_ad X L a0) hx hb (hml.trans hl.1.symm) hown (hts _ f1) (hts _ f2) (hts _ f3) (hts _ f4) hK.1 hS.2.2.1 hS.2.2.2.1 hS.2.2.2.2 (a0 - 512) (a1 - 512) t t hw0 hw1 (m_tys_get hty) (m_tys_get hty) hpr g1 g2 g3 g4 g5 (fun i hi => hft i hi) hfr ?_ (m_de_ok hI hd) (fun H1 locs1 k1 k2 k3 => ?_)
  · rw [m_cat_sum]
    have := hlo
    omega
  · have hS2 := m_St_set (q1 := .inl (t, N1, m_cpl t e0 e1 sp.toNatClampNeg dp.toNatClampNeg n.toNatClampNeg)) (H1 := H1) (locs1 := locs1) hS h1 (congrArg (fun z => Sum.inl (dA t, z)) (m_arr_cpl (X := X) (L := L) (e0 := e0) (e1 := e1) (sp := sp.toNatClampNeg) (dp := dp.toNatClampNeg) (n := n.toNatClampNeg) ht1 ht6)) hokc k1 k2 k3
    have g := kk H1 locs1 [] ls (by rw [List.append_nil]; exact hS2) (by rw [List.append_nil]; exact hl)
    rw [List.append_nil] at g
    exact g
theorem m_arr_cplq {X : Nat → Nat} {L : List Nat} {t N : Nat} {e0 e1 : List (Nat × Value)} {sp dp n : Nat} (h6 : ¬ t < 6) : m_arr X L t N (m_cpl t e0 e1 sp dp n) = (N, .inr (.inr (.inr (.inr (va_cpy (fun j => m_toR X L (m_el t e0 j)) (fun j => m_toR X L (m_el t e1 j)) sp dp n))))) := by
  rw [m_arr_q h6]
  congr 5
  funext k
  rw [m_el_cpl]
  unfold va_cpy
  split <;> rfl
theorem m_okc_cpl {n N0 N1 t sp dp k : Nat} {e0 e1 : List (Nat × Value)} (h0 : m_okc n (.inl (t, N0, e0)) = true) (h1 : m_okc n (.inl (t, N1, e1)) = true) : m_okc n (.inl (t, N1, m_cpl t e0 e1 sp dp k)) = true := by
  simp only [m_okc, Bool.or_eq_true, decide_eq_true_eq] at h0 h1 ⊢
  rcases h0 with h0 | h0
  · exact Or.inl h0
  · rcases h1 with h1 | h1
    · exact Or.inl h1
    · refine Or.inr ?_
      unfold m_cpl
      rw [List.all_append, Bool.and_eq_true]
      refine ⟨?_, h1⟩
      rw [List.all_eq_true]
      intro q hq
      obtain ⟨i, -, rfl⟩ := List.mem_map.mp hq
      exact m_el_ok h0
/-- between arrays of references: what is copied is null, or of a class that the array takes -/
theorem m_Step.copyQ (l : Launch) {I : mI} (hI : m_bOk I) {pc k t a0 a1 N0 N1 : Nat} {lv : List (Nat × Value)} {r : List Value} {w : List mM} {e0 e1 : List (Nat × Value)} {E : String} {sp dp n : Int32} (hd : m_de I pc = some (.invokestatic k, 3))
    (f1 : Cond.methodLink I.1.cls k arraycopyName ∈ m_gt) (f2 : Cond.native arraycopyName ∈ m_gt) (f3 : Cond.static arraycopyName ∈ m_gt) (f4 : Cond.initialized "java/lang/System" ∈ m_gt) (h0 : m_at w a0 = some (.inl (t, N0, e0))) (h1 : m_at w a1 = some (.inl (t, N1, e1))) (ht6 : ¬ t < 6) (hty : m_tyl[t]? = some (.object E))
    (g1 : ¬ sp < 0) (g2 : ¬ dp < 0) (g3 : ¬ n < 0) (g4 : sp.toNatClampNeg + n.toNatClampNeg ≤ N0) (g5 : dp.toNatClampNeg + n.toNatClampNeg ≤ N1) (hel : ∀ i, i < n.toNatClampNeg → m_el t e0 (sp.toNatClampNeg + i) = .null ∨ ∃ b ci fs, m_el t e0 (sp.toNatClampNeg + i) = .ref b ∧ m_at w b = some (.inr (ci, fs)) ∧ (ci, t) ∈ m_asl) (hcat : (r.map fun v => v.category).sum ≤ 8) :
    m_Step l I (pc, lv, .int n :: .int dp :: .ref a1 :: .int sp :: .ref a0 :: r, w) (pc + 3, lv, r, w.set (a1 - 512) (.inl (t, N1, m_cpl t e0 e1 sp.toNatClampNeg dp.toNatClampNeg n.toNatClampNeg))) 0 0 1 (8 + (nativeFrameWords "java/lang/System" "arraycopy" 5 + 11)) := by
  intro p e R s m args below meth c H locs cells slots ls D dA X A L Q hx hb hml hown hts hnm hK hE hA hS hl hc hs hfr hlo kk
  have hS : m_St D dA X A s.heap H locs L w := hS
  obtain ⟨p0, p1⟩ := m_at_L (X := X) hS.1 h0
  obtain ⟨q0, q1⟩ := m_at_L (X := X) hS.1 h1
  have hw0 := m_wd_get (X := X) (dA := dA) p0 p1
  have hw1 := m_wd_get (X := X) (dA := dA) q0 q1
  have e9 : ∀ (N : Nat) (els : List (Nat × Value)), m_cell X L dA (.inl (t, N, els)) = .inl (dA t, N, .inr (.inr (.inr (.inr (fun j => m_toR X L (m_el t els j)))))) := fun N els => congrArg (fun z => Sum.inl (dA t, z)) (m_arr_q ht6)
  rw [e9] at hw0 hw1
  have hokc := m_okc_cpl (sp := sp.toNatClampNeg) (dp := dp.toNatClampNeg) (k := n.toNatClampNeg) (m_at_okc hS h0) (m_at_okc hS h1)
  refine va_copyM (a := m_ad X L a1) (a0 := m_ad X L a0) hx hb (hml.trans hl.1.symm) hown (hts _ f1) (hts _ f2) (hts _ f3) (hts _ f4) hK.1 hS.2.2.1 hS.2.2.2.1 hS.2.2.2.2 (a0 - 512) (a1 - 512) t t hw0 hw1 (m_tys_get hty) (m_tys_get hty) g1 g2 g3 g4 g5 (fun i hi y hy => ?_) hfr ?_ (m_de_ok hI hd) (fun H1 locs1 k1 k2 k3 => ?_)
  · rcases hel i hi with h9 | ⟨b, ci, fs, h9, hb9, hc9⟩
    · rw [h9] at hy; cases hy
    · rw [h9] at hy
      cases hy
      obtain ⟨rr, C2, r1, r2, r3⟩ := m_asl_ok _ hc9
      cases hty.symm.trans r2
      obtain ⟨u0, u1⟩ := m_at_L (X := X) hS.1 hb9
      refine va_rAny hK.1 hS.2.2.1 (m_wd_get (X := X) (dA := dA) u0 u1) r1 (fun comp c0 z1 z2 => ?_)
      obtain ⟨c9, t9, y1, y2, y3⟩ := Cond.castable_spec (va_Nw.use (A := args) rfl (hK.2.1 _ r3))
      cases z1.symm.trans y2
      cases z2.symm.trans y1
      exact y3
  · rw [m_cat_sum]
    have := hlo
    omega
  · have hS2 := m_St_set (q1 := .inl (t, N1, m_cpl t e0 e1 sp.toNatClampNeg dp.toNatClampNeg n.toNatClampNeg)) (H1 := H1) (locs1 := locs1) hS h1 (congrArg (fun z => Sum.inl (dA t, z)) (m_arr_cplq (X := X) (L := L) (N := N1) (e0 := e0) (e1 := e1) (sp := sp.toNatClampNeg) (dp := dp.toNatClampNeg) (n := n.toNatClampNeg) ht6)) hokc k1 k2 k3
    have g := kk H1 locs1 [] ls (by rw [List.append_nil]; exact hS2) (by rw [List.append_nil]; exact hl)
    rw [List.append_nil] at g
    exact g
