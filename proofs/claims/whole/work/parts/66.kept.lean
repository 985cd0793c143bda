/-! Calls of the reference's methods by contracts. -/
theorem m_Rs.callS {l : Launch} {I J : mI} {pc pc' : Nat} {lv : List (Nat × Value)} {st as rest : List Value} {w w0 : List mM} {S' : mS} {x0 : Int32} {P : Option Value → List mM → Prop} {c s f lo f1 l1 : Nat} (hI : m_bOk I) (h : m_at1 I (pc, lv, st, w) = some (J, as, rest)) (hJ : m_Rs l J (m_ent J as w) (fun v w' => v = some (.int x0) ∧ m_RM S' w' ∧ m_Fq w w') 0 0 f1 l1) (hF : m_Fq w0 w) (hp : pc + 3 = pc') (k : ∀ w', m_RM S' w' → m_Fq w0 w' → m_Rs l I (pc', lv, .int x0 :: rest, w') P c s f lo) (hf : f1 + 1 ≤ f) (hl : 8 + (J.2.2.1 + 11) + l1 ≤ lo) : m_Rs l I (pc, lv, st, w) P c s f lo := by
  have := m_Rs.callP (P := P) (c := c) (s := s) hI h hJ hp (fun v w' hv => by obtain ⟨rfl, h2, h3⟩ := hv; exact k w' h2 (hF.trans h3)) hf hl
  rw [Nat.zero_add, Nat.zero_add] at this
  exact this
theorem m_Rs.callSv {l : Launch} {I J : mI} {pc pc' : Nat} {lv : List (Nat × Value)} {st as rest : List Value} {w w0 : List mM} {S' : mS} {P : Option Value → List mM → Prop} {c s f lo f1 l1 : Nat} (hI : m_bOk I) (h : m_at1 I (pc, lv, st, w) = some (J, as, rest)) (hJ : m_Rs l J (m_ent J as w) (fun v w' => v = none ∧ m_RM S' w' ∧ m_Fq w w') 0 0 f1 l1) (hF : m_Fq w0 w) (hp : pc + 3 = pc') (k : ∀ w', m_RM S' w' → m_Fq w0 w' → m_Rs l I (pc', lv, rest, w') P c s f lo) (hf : f1 + 1 ≤ f) (hl : 8 + (J.2.2.1 + 11) + l1 ≤ lo) : m_Rs l I (pc, lv, st, w) P c s f lo := by
  have := m_Rs.callP (P := P) (c := c) (s := s) hI h hJ hp (fun v w' hv => by obtain ⟨rfl, h2, h3⟩ := hv; exact k w' h2 (hF.trans h3)) hf hl
  rw [Nat.zero_add, Nat.zero_add] at this
  exact this
theorem m_tsw_0 {pc t n : Nat} {d hi : Int} {offs : Array Int} {x : Int32} {r : List Value} (hn : hi = (n : Int) - 1) (h : ∀ k, k < n → ¬ x = Int32.ofNat k) (hj : m_jmp pc d = some t) : m_tsw pc d 0 hi offs (.int x :: r) = some (t, r) := by
  have h9 : x.toInt < 0 ∨ hi < x.toInt := by
    by_cases h1 : x.toInt < 0
    · exact Or.inl h1
    · refine Or.inr ?_
      apply Int.not_le.mp
      intro h2
      have h3 : x.toInt.toNat < n := by omega
      refine h _ h3 ?_
      have h4 := x.toInt_lt
      apply Int32.toInt_inj.mp
      rw [Int32.toInt_ofNat_of_lt (by omega)]
      omega
  unfold m_tsw
  simp only [if_pos h9, hj, Option.map_some]
