/-! One write, one new cell: the new world is known by what it holds. -/
def m_W1 (w w1 : List mM) (a : Nat) (c : mM) : Prop := w1.length = w.length ∧ m_at w1 a = some c ∧ ∀ b d, m_at w b = some d → ¬ b = a → m_at w1 b = some d
theorem m_at_ne2 {w : List mM} {a b : Nat} {c : mM} (ha : 512 ≤ a) (hb : 512 ≤ b) (h : ¬ b = a) : m_at (w.set (a - 512) c) b = m_at w b := by
  unfold m_at
  split
  · rfl
  · rw [List.getElem?_set, if_neg (by omega)]
theorem m_W1.set {w : List mM} {a : Nat} {c d : mM} (h : m_at w a = some d) : m_W1 w (w.set (a - 512) c) a c :=
  ⟨List.length_set, m_at_eq h, fun b e hb hne => by rw [m_at_ne2 (Nat.le_of_not_lt (m_at_ok h).1) (Nat.le_of_not_lt (m_at_ok hb).1) hne]; exact hb⟩
/-- old cells outside S stand as they were -/
def m_Fr (w w' : List mM) (S : List Nat) : Prop := w.length ≤ w'.length ∧ ∀ b d, m_at w b = some d → b ∉ S → m_at w' b = some d
theorem m_Fr.refl {w : List mM} {S : List Nat} : m_Fr w w S := ⟨Nat.le_refl _, fun _ _ h _ => h⟩
theorem m_Fr.w1 {w w' w1 : List mM} {S : List Nat} {a : Nat} {c : mM} (h : m_Fr w w' S) (h1 : m_W1 w' w1 a c) (ha : a ∈ S) : m_Fr w w1 S :=
  ⟨by rw [h1.1]; exact h.1, fun b d hb hn => h1.2.2 b d (h.2 b d hb hn) (fun e => hn (by rw [e]; exact ha))⟩
theorem m_Fr.app {w w' : List mM} {S : List Nat} {x : List mM} (h : m_Fr w w' S) : m_Fr w (w' ++ x) S :=
  ⟨by rw [List.length_append]; have := h.1; omega, fun b d hb hn => m_at_app (h.2 b d hb hn)⟩
theorem m_Fr.trans {w w' w'' : List mM} {S T : List Nat} (h : m_Fr w w' S) (h2 : m_Fr w' w'' T) (hT : ∀ b ∈ T, b ∈ S ∨ 512 + w.length ≤ b) : m_Fr w w'' S :=
  ⟨Nat.le_trans h.1 h2.1, fun b d hb hn => h2.2 b d (h.2 b d hb hn) (fun hm => by
    rcases hT b hm with g | g
    · exact hn g
    · have h1 := m_at_ok hb
      have h3 := (List.getElem?_eq_some_iff.mp h1.2).1
      omega)⟩
/-- a written cell that is new does not count -/
theorem m_Fr.w1n {w w' w1 : List mM} {S : List Nat} {a : Nat} {c : mM} (h : m_Fr w w' S) (h1 : m_W1 w' w1 a c) (ha : 512 + w.length ≤ a) : m_Fr w w1 S :=
  ⟨by rw [h1.1]; exact h.1, fun b d hb hn => h1.2.2 b d (h.2 b d hb hn) (fun e => by
    have g1 := m_at_ok hb
    have g3 := (List.getElem?_eq_some_iff.mp g1.2).1
    omega)⟩
theorem m_ne_oa {w : List mM} {a b ci t N : Nat} {fs : List Value} {e : List (Nat × Value)} (ha : m_at w a = some (.inr (ci, fs))) (hb : m_at w b = some (.inl (t, N, e))) : ¬ b = a := fun h => by
  rw [h, ha] at hb
  cases hb
theorem m_ne_ao {w : List mM} {a b ci t N : Nat} {fs : List Value} {e : List (Nat × Value)} (ha : m_at w a = some (.inl (t, N, e))) (hb : m_at w b = some (.inr (ci, fs))) : ¬ b = a := fun h => by
  rw [h, ha] at hb
  cases hb
theorem m_ne_oo {w : List mM} {a b ci cj : Nat} {fs gs : List Value} (ha : m_at w a = some (.inr (ci, fs))) (hb : m_at w b = some (.inr (cj, gs))) (h : decide (ci = cj) = false) : ¬ b = a := fun e => by
  rw [e, ha] at hb
  cases hb
  simp at h
theorem m_cp_n : Cond.native arraycopyName ∈ m_gt := m_gi4 43 rfl rfl
theorem m_cp_s : Cond.static arraycopyName ∈ m_gt := m_gi4 42 rfl rfl
theorem m_cp_i : Cond.initialized "java/lang/System" ∈ m_gt := m_gi1 26 rfl rfl
section
variable {l : Launch} {I : mI} {pc pc' k a b N j ci fk fl9 t : Nat} {lv : List (Nat × Value)} {r : List Value} {w : List mM} {fs fs' gs : List Value} {els : List (Nat × Value)} {x y : Int32} {v : Value} {ty : FieldType} {C : String} {P : Option Value → List mM → Prop} {c s f lo : Nat}
theorem m_Rs.wput (hI : m_bOk I) (hd : m_dn I pc (.putfield k) 3 pc') (hf : m_fe I k = some (ci, fk, fl9)) (hw : m_at w a = some (.inr (ci, fs))) (hty : m_ft ci fk = some ty) (hfl : fl9 = 1 ∨ fl9 = 2) (hlen : decide (fk < fs.length) = true) (hn : narrow ty v = v) (hi : fits ty v = true) (hok : m_okv w.length v = true) (hfs : fs.set fk v = fs') (kk : ∀ w1, m_W1 w w1 a (.inr (ci, fs')) → m_Rs l I (pc', lv, r, w1) P c s f lo) : m_Rs l I (pc, lv, v :: .ref a :: r, w) P c s f lo := by
  refine m_Rs.n0 hI (x_putf hd hf hw hty hfl hlen hn hi hok) (kk _ ?_)
  rw [hfs]
  exact m_W1.set hw
theorem m_Rs.wast (hI : m_bOk I) (hd : m_dn I pc .aastore 1 pc') (hw : m_at w a = some (.inl (t, N, els))) (ht : m_tyl[t]? = some (.object C)) (h6 : decide (¬ t < 6) = true) (hi : ¬ y < 0) (hj : y.toNatClampNeg = j) (hN : j < N) (hb : m_at w b = some (.inr (ci, gs))) (hc : (ci, t) ∈ m_ass ∨ (ci, t) ∈ m_asl) (kk : ∀ w1, m_W1 w w1 a (.inl (t, N, m_sel els j (.ref b))) → m_Rs l I (pc', lv, r, w1) P c s f lo) : m_Rs l I (pc, lv, .ref b :: .int y :: .ref a :: r, w) P c s f lo :=
  m_Rs.n0 hI (x_aastore hd hw ht (of_decide_eq_true h6) hi hj hN hb hc) (kk _ (m_W1.set hw))
theorem m_Rs.wast0 (hI : m_bOk I) (hd : m_dn I pc .aastore 1 pc') (hw : m_at w a = some (.inl (t, N, els))) (ht : m_tyl[t]? = some (.object C)) (h6 : decide (¬ t < 6) = true) (hi : ¬ y < 0) (hj : y.toNatClampNeg = j) (hN : j < N) (kk : ∀ w1, m_W1 w w1 a (.inl (t, N, m_sel els j .null)) → m_Rs l I (pc', lv, r, w1) P c s f lo) : m_Rs l I (pc, lv, .null :: .int y :: .ref a :: r, w) P c s f lo :=
  m_Rs.n0 hI (x_aastore0 hd hw ht (of_decide_eq_true h6) hi hj hN) (kk _ (m_W1.set hw))
/-- arraycopy between arrays of references, as a step -/
theorem m_Rs.wcpq {a0 a1 N0 N1 : Nat} {e0 e1 : List (Nat × Value)} {sp dp n : Int32} (hI : m_bOk I) (hd : m_dn I pc (.invokestatic k) 3 pc') (f1 : Cond.methodLink I.1.cls k arraycopyName ∈ m_gt) (h0 : m_at w a0 = some (.inl (8, N0, e0))) (h1 : m_at w a1 = some (.inl (8, N1, e1)))
    (g1 : ¬ sp < 0) (g2 : ¬ dp < 0) (g3 : ¬ n < 0) {sn dn nn : Nat} (hsn : sp.toNatClampNeg = sn) (hdn : dp.toNatClampNeg = dn) (hnn : n.toNatClampNeg = nn) (g4 : sn + nn ≤ N0) (g5 : dn + nn ≤ N1) (hel : ∀ i, i < nn → m_el 8 e0 (sn + i) = .null ∨ ∃ b ci fs, m_el 8 e0 (sn + i) = .ref b ∧ m_at w b = some (.inr (ci, fs)) ∧ (ci, 8) ∈ m_asl) (hcat : (r.map fun v => v.category).sum ≤ 8)
    (kk : ∀ w1, m_W1 w w1 a1 (.inl (8, N1, m_cpl 8 e0 e1 sn dn nn)) → m_Rs l I (pc', lv, r, w1) P c s f lo) (hf : 1 ≤ f) (hl : 8 + (nativeFrameWords "java/lang/System" "arraycopy" 5 + 11) ≤ lo) : m_Rs l I (pc, lv, .int n :: .int dp :: .ref a1 :: .int sp :: .ref a0 :: r, w) P c s f lo := by
  subst hsn hdn hnn
  obtain ⟨hd1, rfl⟩ := hd
  exact m_Rs.stp (m_Step.copyQ l hI hd1 f1 m_cp_n m_cp_s m_cp_i h0 h1 (by decide) rfl g1 g2 g3 g4 g5 hel hcat) (kk _ (m_W1.set h1)) hf hl
end
