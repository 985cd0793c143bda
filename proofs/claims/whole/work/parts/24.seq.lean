/-! Stretches whose instructions are given. -/
def m_nxd (I : mI) (i : Instr) (len : Nat) (F : mF) : Option (mF × Nat × Nat × Nat × Nat) := match m_ps i F.2.2.1 with
  | some (n, st') => if n = len then some ((F.1 + len, F.2.1, st', F.2.2.2), 0, 0, 0, 0) else none
  | none => match m_lo I.2.2.1 i F.2.1 F.2.2.1 with
    | some (n, lv', st') => if n = len then some ((F.1 + len, lv', st', F.2.2.2), 0, 0, 0, 0) else none
    | none => match m_br F.2.2.2.length F.1 i len F.2.2.1 with
      | some (pc', st') => some ((pc', F.2.1, st', F.2.2.2), 0, 0, 0, 0)
      | none => match m_hs I i F.2.2.1 F.2.2.2 with
        | some (n, st', w', dc, ds) => if n = len ∧ (dc = 0 ∨ m_okf F = true) then some ((F.1 + len, F.2.1, st', w'), dc, ds, 0, 0) else none
        | none => match m_xs I i F.2.2.1 F.2.2.2 with
          | some (n, st') => if n = len then some ((F.1 + len, F.2.1, st', F.2.2.2), 0, 0, 0, 0) else none
          | none => match m_c0 I i F.2.2.1 with
            | some (st', f, l) => if len = 3 then some ((F.1 + 3, F.2.1, st', F.2.2.2), 0, 0, f, l) else none
            | none => none
theorem m_nxd_nx {I : mI} {i : Instr} {len : Nat} {F : mF} {q : mF × Nat × Nat × Nat × Nat} (hd : m_de I F.1 = some (i, len)) (h : m_nxd I i len F = some q) : m_nx m_nn I F = some q := by
  unfold m_nxd at h
  unfold m_nx
  rw [hd]
  simp only
  cases h2 : m_ps i F.2.2.1 with
  | some b => rw [h2] at h; exact h
  | none =>
    rw [h2] at h
    simp only at h ⊢
    cases h3 : m_lo I.2.2.1 i F.2.1 F.2.2.1 with
    | some b => rw [h3] at h; exact h
    | none =>
      rw [h3] at h
      simp only at h ⊢
      cases h4 : m_br F.2.2.2.length F.1 i len F.2.2.1 with
      | some b => rw [h4] at h; exact h
      | none =>
        rw [h4] at h
        simp only at h ⊢
        cases h5 : m_hs I i F.2.2.1 F.2.2.2 with
        | some b => rw [h5] at h; exact h
        | none =>
          rw [h5] at h
          simp only at h ⊢
          cases h6 : m_xs I i F.2.2.1 F.2.2.2 with
          | some b => rw [h6] at h; exact h
          | none =>
            rw [h6] at h
            simp only at h ⊢
            cases h7 : m_c0 I i F.2.2.1 with
            | some b => rw [h7] at h; exact h
            | none => rw [h7] at h; cases h
/-- the instructions qs one behind the other, none of them makes a cell -/
def m_sq (I : mI) : List (Nat × Instr × Nat) → mF → Option mF
  | [], F => some F
  | q :: qs, F => if F.1 = q.1 then (match m_nxd I q.2.1 q.2.2 F with
    | some (F', 0, 0, _, _) => m_sq I qs F'
    | _ => none) else none
abbrev m_dq (I : mI) (qs : List (Nat × Instr × Nat)) : Prop := ∀ q ∈ qs, m_de I q.1 = some q.2
theorem m_sq_inv {I : mI} {q : Nat × Instr × Nat} {qs : List (Nat × Instr × Nat)} {F F' : mF} (h : m_sq I (q :: qs) F = some F') : F.1 = q.1 ∧ ∃ F1 fr lo, m_nxd I q.2.1 q.2.2 F = some (F1, 0, 0, fr, lo) ∧ m_sq I qs F1 = some F' := by
  unfold m_sq at h
  split at h
  · rename_i h1
    split at h
    · rename_i F1 fr lo h2
      exact ⟨h1, F1, fr, lo, h2, h⟩
    · cases h
  · cases h
theorem m_nxd_lo {I : mI} {i : Instr} {len : Nat} {F F1 : mF} {fr lo : Nat} (h : m_nxd I i len F = some (F1, 0, 0, fr, lo)) : fr ≤ 1 ∧ lo ≤ 21 := by
  have hc0 : ∀ st q, m_c0 I i st = some q → q.2.1 ≤ 1 ∧ q.2.2 ≤ 21 := by
    intro st q hq
    unfold m_c0 at hq
    split at hq
    · split at hq
      · split at hq
        · cases hq; exact ⟨Nat.le_refl 1, Nat.le_of_ble_eq_true rfl⟩
        · cases hq
      · cases hq
    · split at hq
      · split at hq
        · cases hq; exact ⟨Nat.le_refl 1, Nat.le_of_ble_eq_true rfl⟩
        · cases hq
      · split at hq
        · cases hq; exact ⟨Nat.le_refl 1, Nat.le_of_ble_eq_true rfl⟩
        · cases hq
      · cases hq
    · cases hq
  unfold m_nxd at h
  split at h
  · split at h
    · cases h; exact ⟨Nat.zero_le _, Nat.zero_le _⟩
    · cases h
  · split at h
    · split at h
      · cases h; exact ⟨Nat.zero_le _, Nat.zero_le _⟩
      · cases h
    · split at h
      · cases h; exact ⟨Nat.zero_le _, Nat.zero_le _⟩
      · split at h
        · split at h
          · cases h; exact ⟨Nat.zero_le _, Nat.zero_le _⟩
          · cases h
        · split at h
          · split at h
            · cases h; exact ⟨Nat.zero_le _, Nat.zero_le _⟩
            · cases h
          · split at h
            · rename_i hq
              split at h
              · cases h; exact hc0 _ _ hq
              · cases h
            · cases h
theorem m_Rq.sq {I : mI} {P : Option Value → List mM → Prop} {c s f l : Nat} (hf : 1 ≤ f) (hl : 21 ≤ l) : ∀ (qs : List (Nat × Instr × Nat)) {F F' : mF}, m_dq I qs → m_sq I qs F = some F' → m_Rq I F' P c s f l → m_Rq I F P c s f l := by
  intro qs
  induction qs with
  | nil => intro F F' _ h k; cases h; exact k
  | cons q qs ih =>
    intro F F' hd h k
    obtain ⟨h1, F1, fr, lo, h2, h3⟩ := m_sq_inv h
    have hde : m_de I F.1 = some (q.2.1, q.2.2) := by rw [h1]; exact hd q List.mem_cons_self
    obtain ⟨b1, b2⟩ := m_nxd_lo h2
    have := m_Rq.nx (m_nxd_nx hde h2) (ih (fun q hq => hd q (List.mem_cons_of_mem _ hq)) h3 k) (Nat.le_trans b1 hf) (Nat.le_trans b2 hl)
    rw [Nat.zero_add, Nat.zero_add] at this
    exact this
theorem m_sq_step (l : Launch) {I : mI} (hI : m_bOk I) : ∀ (qs : List (Nat × Instr × Nat)) (F F' : mF), m_dq I qs → m_sq I qs F = some F' → m_Step l I F F' 0 0 1 21 := by
  intro qs
  induction qs with
  | nil =>
    intro F F' _ h
    cases h
    intro p e R s m args below meth c H locs cells slots ls D dA X A L Q hx hb hml hown hts hnm hK hE hA hS hl hc hs hfr hlo kk
    have g := kk H locs [] ls (by rw [List.append_nil]; exact hS) (by rw [List.append_nil]; exact hl)
    rw [List.append_nil] at g
    exact g
  | cons q qs ih =>
    intro F F' hd h
    obtain ⟨h1, F1, fr, lo, h2, h3⟩ := m_sq_inv h
    have hde : m_de I F.1 = some (q.2.1, q.2.2) := by rw [h1]; exact hd q List.mem_cons_self
    obtain ⟨b1, b2⟩ := m_nxd_lo h2
    intro p e R s m args below meth c H locs cells slots ls D dA X A L Q hx hb hml hown hts hnm hK hE hA hS hl hc hs hfr hlo kk
    refine m_nx_sound l hI (fun J G r hJ hr => by cases hr) (m_nxd_nx hde h2) p e R s m args below meth c H locs cells slots ls D dA X A L Q hx hb hml hown hts hnm hK hE hA hS hl hc hs (Nat.le_trans b1 hfr) (Nat.le_trans b2 hlo) (fun H1 locs1 L2 ls1 hS1 hl1 => ?_)
    refine ih F1 F' (fun q hq => hd q (List.mem_cons_of_mem _ hq)) h3 p e R s m args below meth c H1 locs1 (cells + 0) (slots + 0) ls1 D dA X A (L ++ L2) Q hx hb hml hown hts hnm hK hE hA hS1 hl1 hc hs hfr hlo (fun H2 locs2 L3 ls2 hS2 hl2 => ?_)
    have g := kk H2 locs2 (L2 ++ L3) ls2 (by rw [← List.append_assoc]; exact hS2) (by rw [← List.append_assoc]; exact hl2)
    rw [← List.append_assoc] at g
    exact g
