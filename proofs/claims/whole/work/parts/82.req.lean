/-! What a request wants: the class's conditions and the reference's row of it. -/
/-- k: a client's conditions, as row r of the reference has them -/
def isCl (S : mS) (r : Nat) (k : Nat → Int32) : Prop := r < 300 ∧ k 0 = rd S 620 (23 * r + 2) ∧ k 4 = rd S 620 (23 * r + 6) ∧ k 6 = rd S 620 (23 * r + 7) ∧ k 7 = rd S 620 (23 * r + 21) ∧
  ((rd S 620 (23 * r + 3) = 0 ∧ k 1 = 0) ∨ ∃ A, A < 100000 ∧ k 2 = Int32.ofNat A ∧ rd S 620 (23 * r + 4) = Int32.ofNat A ∧
    ((∃ B, B < 100000 ∧ rd S 620 (23 * r + 3) = 1 ∧ k 1 = 1 ∧ k 3 = Int32.ofNat B ∧ rd S 620 (23 * r + 5) = Int32.ofNat B) ∨ (rd S 620 (23 * r + 3) = 2 ∧ k 1 = 1 ∧ k 3 = 99999) ∨ (rd S 620 (23 * r + 3) = 3 ∧ k 1 = 2)))
section
variable {S : mS} {F r z : Nat} {k : Nat → Int32} {tag : Int32}
theorem m_rangeOf (h : r < 300) : D_m_rangeOf F (Int32.ofNat r) tag S = some (if rd S 620 (23 * r + 21) = -1 ∨ rd S 620 (23 * r + 21) = tag then rd S 620 (23 * r + 3) else 0) := by
  simp only [D_m_rangeOf, asks21 h, asks3 h, List.getElem?_cons_succ, List.getElem?_cons_zero, List.getElem?_nil, Option.bind_some, Option.bind_none, if_true, Option.map_some, m_c2]
  by_cases h1 : rd S 620 (23 * r + 21) = -1
  · simp [h1]
  · by_cases h2 : rd S 620 (23 * r + 21) = tag <;> simp [h1, h2]
theorem i_le {a b : Nat} (ha : sm a) (hb : sm b) : Int32.ofNat a ≤ Int32.ofNat b ↔ a ≤ b := m_n_le ha hb
theorem i_lt {a b : Nat} (ha : sm a) (hb : sm b) : Int32.ofNat a < Int32.ofNat b ↔ a < b := m_n_lt ha hb
theorem i_sub0 {a b : Nat} (ha : sm a) (hb : sm b) : (0 < Int32.ofNat a - Int32.ofNat b ↔ b < a) ∧ (0 ≤ Int32.ofNat a - Int32.ofNat b ↔ b ≤ a) := by
  unfold sm at ha hb
  have e : (Int32.ofNat a - Int32.ofNat b).toInt = (a : Int) - b := by
    rw [Int32.toInt_sub, Int32.toInt_ofNat_of_lt ha, Int32.toInt_ofNat_of_lt hb, Int.bmod_eq_of_le (by omega) (by omega)]
  constructor
  · rw [Int32.lt_iff_toInt_lt, e, Int32.toInt_zero]; omega
  · rw [Int32.le_iff_toInt_le, e, Int32.toInt_zero]; omega
/-- the first byte and the end, as numbers; none: nothing is asked for in parts -/
def nFrom (c : Bool) (k : Nat → Int32) (z : Nat) : Nat := if c then (if k 1 = 1 then (k 2).toNatClampNeg else z - (k 2).toNatClampNeg) else 0
def nEnd (c : Bool) (k : Nat → Int32) (z : Nat) : Nat := if c ∧ k 1 = 1 ∧ (k 3).toNatClampNeg < z then (k 3).toNatClampNeg + 1 else z
theorem isCl.kinds (h : isCl S r k) : (k 1 = 0 ∧ rd S 620 (23 * r + 3) = 0) ∨ ∃ A, A < 100000 ∧ k 2 = Int32.ofNat A ∧ ((k 1 = 1 ∧ ∃ B, B < 100000 ∧ k 3 = Int32.ofNat B) ∨ k 1 = 2) := by
  obtain ⟨-, -, -, -, -, h | ⟨A, a1, a2, a3, ⟨B, b1, b2, b3, b4, b5⟩ | ⟨b1, b2, b3⟩ | ⟨b1, b2⟩⟩⟩ := h
  · exact Or.inl ⟨h.2, h.1⟩
  · exact Or.inr ⟨A, a1, a2, Or.inl ⟨b3, B, b1, b4⟩⟩
  · exact Or.inr ⟨A, a1, a2, Or.inl ⟨b2, 99999, by omega, b3⟩⟩
  · exact Or.inr ⟨A, a1, a2, Or.inr b2⟩
theorem c_nFrom (h : isCl S r k) (hz : z < 256) : v_from k (v_counts k tag) (Int32.ofNat z) = Int32.ofNat (nFrom (v_counts k tag) k z) ∧ nFrom (v_counts k tag) k z < 100000 := by
  rcases h.kinds with ⟨h1, -⟩ | ⟨A, a1, a2, h1⟩
  · have e : v_counts k tag = false := by simp [v_counts, h1]
    rw [e]
    simp only [v_from, nFrom, Bool.false_eq_true, if_false]
    exact ⟨rfl, by decide⟩
  · have e2 : (k 2).toNatClampNeg = A := by rw [a2]; exact m_n_cl (by omega)
    cases v_counts k tag with
    | false =>
      simp only [v_from, nFrom, Bool.false_eq_true, if_false]
      exact ⟨rfl, by decide⟩
    | true =>
      rcases h1 with ⟨h1, -⟩ | h1
      · simp only [v_from, nFrom, h1, if_true, e2]
        exact ⟨a2, a1⟩
      · have h2 : ¬ (k 1 = 1) := by rw [h1]; decide
        simp only [v_from, nFrom, h2, if_true, if_false, e2]
        rw [a2]
        have h3 := (i_sub0 (a := z) (b := A) (by unfold sm; omega) (by unfold sm; omega)).1
        by_cases h4 : A < z
        · rw [if_pos (h3.mpr h4), m_n_sub (by omega)]
          exact ⟨rfl, by omega⟩
        · rw [if_neg (fun e => h4 (h3.mp e)), show z - A = 0 by omega]
          exact ⟨rfl, by decide⟩
theorem c_nEnd (h : isCl S r k) (hz : z < 256) : v_to k (v_counts k tag) (Int32.ofNat z) = Int32.ofNat (nEnd (v_counts k tag) k z) - 1 ∧ nEnd (v_counts k tag) k z ≤ z := by
  rcases h.kinds with ⟨h1, -⟩ | ⟨A, a1, a2, h1⟩
  · have e : v_counts k tag = false := by simp [v_counts, h1]
    rw [e]
    simp [v_to, nEnd]
  · cases v_counts k tag with
    | false => simp [v_to, nEnd]
    | true =>
      rcases h1 with ⟨h1, B, b1, b2⟩ | h1
      · have e2 : (k 3).toNatClampNeg = B := by rw [b2]; exact m_n_cl (by omega)
        simp only [v_to, nEnd, h1, decide_true, Bool.true_and, if_true, true_and, e2]
        rw [b2]
        by_cases h2 : B < z
        · rw [if_pos h2]
          have h3 : ¬ Int32.ofNat z - 1 < Int32.ofNat B := by
            rw [show Int32.ofNat z - 1 = Int32.ofNat (z - 1) from m_n_sub (b := 1) (by omega), i_lt (by unfold sm; omega) (by unfold sm; omega)]
            omega
          rw [if_neg h3]
          refine ⟨?_, by omega⟩
          rw [show Int32.ofNat (B + 1) - 1 = Int32.ofNat (B + 1 - 1) from m_n_sub (b := 1) (by omega)]
          rfl
        · rw [if_neg h2]
          refine ⟨?_, Nat.le_refl _⟩
          by_cases h4 : Int32.ofNat z - 1 < Int32.ofNat B
          · rw [if_pos h4]
          · rw [if_neg h4]
            by_cases h5 : z = 0
            · exfalso
              apply h4
              subst h5
              rw [Int32.lt_iff_toInt_lt, Int32.toInt_ofNat_of_lt (show B < 2147483648 by omega)]
              have : (Int32.ofNat 0 - 1 : Int32).toInt = -1 := by decide
              rw [this]
              omega
            · exfalso
              apply h4
              rw [show Int32.ofNat z - 1 = Int32.ofNat (z - 1) from m_n_sub (b := 1) (by omega), i_lt (by unfold sm; omega) (by unfold sm; omega)]
              omega
      · have h2 : ¬ (k 1 = 1) := by rw [h1]; decide
        simp [v_to, nEnd, h2]
theorem m_cnt (h : isCl S r k) : (if rd S 620 (23 * r + 21) = -1 ∨ rd S 620 (23 * r + 21) = tag then rd S 620 (23 * r + 3) else 0) = if v_counts k tag then rd S 620 (23 * r + 3) else 0 := by
  have h7 := h.2.2.2.2.1
  rw [← h7]
  by_cases h0 : k 1 = 0
  · have h3 : rd S 620 (23 * r + 3) = 0 := by
      rcases h.kinds with h | ⟨A, -, -, ⟨h1, -⟩ | h1⟩
      · exact h.2
      · rw [h1] at h0; cases h0
      · rw [h1] at h0; cases h0
    rw [h3]
    split <;> split <;> rfl
  · by_cases h1 : k 7 = -1 <;> by_cases h2 : k 7 = tag <;> simp [v_counts, h0, h1, h2]
theorem m_first (h : isCl S r k) (hz : z < 256) : D_m_firstByte F (Int32.ofNat r) (Int32.ofNat z) tag S = some (Int32.ofNat (nFrom (v_counts k tag) k z)) := by
  have hr := h.1
  simp only [D_m_firstByte, m_rangeOf hr, m_cnt h, asks4 hr, List.getElem?_cons_succ, List.getElem?_cons_zero, List.getElem?_nil, Option.bind_some, Option.bind_none, if_true, Option.map_some, m_c1, m_c2]
  cases hv : v_counts k tag with
  | false => simp [nFrom]
  | true =>
    simp only [if_true, nFrom]
    obtain ⟨-, -, -, -, -, ⟨h1, h2⟩ | ⟨A, a1, a2, a3, hk⟩⟩ := h
    · simp [v_counts, h2] at hv
    · have e2 : (k 2).toNatClampNeg = A := by rw [a2]; exact m_n_cl (by omega)
      rw [a3, e2]
      rcases hk with ⟨B, b1, b2, b3, b4, b5⟩ | ⟨b1, b2, b3⟩ | ⟨b1, b2⟩
      · simp [b2, b3]
      · simp [b1, b2]
      · have h3 := (i_sub0 (a := z) (b := A) (by unfold sm; omega) (by unfold sm; omega)).2
        by_cases h4 : A ≤ z
        · have h6 := h3.mpr h4
          rw [m_n_sub h4] at h6
          simp [b1, b2, m_n_sub h4, h6]
        · have h5 : ¬ 0 ≤ Int32.ofNat z - Int32.ofNat A := fun e => h4 (h3.mp e)
          simp [b1, b2, h5, show z - A = 0 by omega]
theorem m_end (h : isCl S r k) (hz : z < 256) : D_m_endByte F (Int32.ofNat r) (Int32.ofNat z) tag S = some (Int32.ofNat (nEnd (v_counts k tag) k z)) := by
  have hr := h.1
  simp only [D_m_endByte, m_rangeOf hr, m_cnt h, asks5 hr, List.getElem?_cons_succ, List.getElem?_cons_zero, List.getElem?_nil, Option.bind_some, Option.bind_none, if_true, Option.map_some, m_c1, m_c2]
  cases hv : v_counts k tag with
  | false => simp [nEnd]
  | true =>
    simp only [if_true, nEnd, true_and]
    obtain ⟨-, -, -, -, -, ⟨h1, h2⟩ | ⟨A, a1, a2, a3, hk⟩⟩ := h
    · simp [v_counts, h2] at hv
    · rcases hk with ⟨B, b1, b2, b3, b4, b5⟩ | ⟨b1, b2, b3⟩ | ⟨b1, b2⟩
      · have e2 : (k 3).toNatClampNeg = B := by rw [b4]; exact m_n_cl (by omega)
        rw [b5, b2, b3, e2]
        by_cases h4 : B < z
        · have h5 : ¬ Int32.ofNat z ≤ Int32.ofNat B := by rw [i_le (by unfold sm; omega) (by unfold sm; omega)]; omega
          simp [h4, h5]
        · have h5 : Int32.ofNat z ≤ Int32.ofNat B := by rw [i_le (by unfold sm; omega) (by unfold sm; omega)]; omega
          simp [h4, h5]
      · have e2 : (k 3).toNatClampNeg = 99999 := by rw [b3]; decide
        rw [b1, b2, e2]
        have h4 : ¬ 99999 < z := by omega
        simp [h4]
      · simp [b1, b2]
end

/-! bits -/
theorem ones_bit : ∀ i : Fin 32, (4294967295#32)[i.val] = true := by decide
theorem and_bits {b n : Int32} : b &&& n = n ↔ n &&& (b ^^^ -1) = 0 := by
  rw [← Int32.toBitVec_inj, ← Int32.toBitVec_inj]
  simp only [Int32.toBitVec_and, Int32.toBitVec_xor]
  have e : (-1 : Int32).toBitVec = BitVec.allOnes 32 := by decide
  rw [e, show (0 : Int32).toBitVec = 0#32 from rfl]
  constructor
  · intro h
    apply BitVec.eq_of_getElem_eq
    intro i hi
    have := congrArg (fun v => v[i]) h
    simp at this ⊢
    intro h1
    rw [this h1]
    exact (ones_bit ⟨i, hi⟩).symm
  · intro h
    apply BitVec.eq_of_getElem_eq
    intro i hi
    have := congrArg (fun v => v[i]) h
    simp at this ⊢
    intro h1
    rw [this h1]
    exact ones_bit ⟨i, hi⟩
/-- what a request wants of a thing of z bytes -/
def v_need (g : Nat → Int32) (cd : Option (Nat → Int32)) (z tag : Int32) : Int32 := match cd with
  | none => v_blocks z (g 4) (g 5)
  | some k => if v_from k (v_counts k tag) z ≤ v_to k (v_counts k tag) z then v_blocks z (v_from k (v_counts k tag) z >>> ((4 : Int32) &&& 31)) (v_to k (v_counts k tag) z >>> ((4 : Int32) &&& 31)) else 0
theorem v_miss_need {g d : Nat → Int32} {cd : Option (Nat → Int32)} {wh bl : Int32} : v_missing g cd d wh bl = v_need g cd (d 1) (8 * d 0 + wh) &&& (bl ^^^ -1) := by
  cases cd with
  | none => rfl
  | some k =>
    simp only [v_missing, v_need]
    split
    · rfl
    · rw [Int32.zero_and]
theorem shr4_all : (List.range 256).all (fun z => decide (Int32.ofNat z >>> ((4 : Int32) &&& 31) = Int32.ofNat (z / 16))) = true := by decide +kernel
theorem shr4 {z : Nat} (h : z < 256) : Int32.ofNat z >>> ((4 : Int32) &&& 31) = Int32.ofNat (z / 16) := of_decide_eq_true (List.all_eq_true.mp shr4_all z (List.mem_range.mpr h))
/-- row w of those that wait: a client's, or one by a FETCH -/
def isRow (S : mS) (w : Nat) (g : Nat → Int32) (cd : Option (Nat → Int32)) : Prop := w < 47988 ∧ match cd with
  | none => rd S 622 (w + 2) = -1 ∧ (∃ f t, f < 16 ∧ t < 16 ∧ rd S 622 (w + 5) = Int32.ofNat f ∧ rd S 622 (w + 6) = Int32.ofNat t ∧ g 4 = Int32.ofNat f ∧ g 5 = Int32.ofNat t)
  | some k => ∃ r, rd S 622 (w + 2) = Int32.ofNat r ∧ isCl S r k
section
variable {S : mS} {F w z : Nat} {g : Nat → Int32} {cd : Option (Nat → Int32)} {tag : Int32}
theorem m_needs (hF : 17 ≤ F) (h : isRow S w g cd) (hz : z < 256) : D_m_needs F (Int32.ofNat w) (Int32.ofNat z) tag S = some (v_need g cd (Int32.ofNat z) tag) := by
  obtain ⟨hw, h⟩ := h
  unfold D_m_needs
  rw [wait2 hw, wait5 hw, wait6 hw]
  cases cd with
  | none =>
    obtain ⟨h1, f, t, hf, ht, h2, h3, h4, h5⟩ := h
    simp only [h1, h2, h3, m_c2, List.getElem?_cons_succ, List.getElem?_cons_zero, List.getElem?_nil, Option.bind_some, Option.bind_none, if_true, Option.map_some]
    have e : D_m_span F (Int32.ofNat f) (Int32.ofNat t) (Int32.ofNat z) S = _ := m_span hF (by omega) ht hz
    simp [e, v_need, h4, h5]
  | some k =>
    obtain ⟨r, h1, h2⟩ := h
    have hr := h2.1
    have h3 : ¬ (Int32.ofNat r = -1) := by
      intro e
      have := congrArg Int32.toInt e
      rw [Int32.toInt_ofNat_of_lt (by omega)] at this
      have h9 : (-1 : Int32).toInt = -1 := by decide
      omega
    have e1 := m_first (F := F) (tag := tag) h2 hz
    have e2 := m_end (F := F) (tag := tag) h2 hz
    have c1 := c_nFrom (tag := tag) h2 hz
    have c2 := c_nEnd (tag := tag) h2 hz
    simp only [h1, m_c2, List.getElem?_cons_succ, List.getElem?_cons_zero, List.getElem?_nil, Option.bind_some, Option.bind_none, if_true, Option.map_some, h3, decide_true, not_false_iff, cond_true, D_m_hasBytes, e1, e2, v_need, c1.1, c2.1]
    generalize hf : nFrom (v_counts k tag) k z = f at *
    generalize he : nEnd (v_counts k tag) k z = e at *
    have hf9 := c1.2
    have he9 := c2.2
    by_cases h4 : f < e
    · have h5 : ¬ Int32.ofNat e ≤ Int32.ofNat f := by rw [i_le (by unfold sm; omega) (by unfold sm; omega)]; omega
      have h6 : Int32.ofNat e - 1 = Int32.ofNat (e - 1) := m_n_sub (b := 1) (by omega)
      have h7 : Int32.ofNat f ≤ Int32.ofNat (e - 1) := by rw [i_le (by unfold sm; omega) (by unfold sm; omega)]; omega
      have d1 : Int32.ofNat f / (16 : Int32) = Int32.ofNat (f / 16) := m_n_div (b := 16) (by unfold sm; omega) (by unfold sm; omega)
      have d2 : Int32.ofNat (e - 1) / (16 : Int32) = Int32.ofNat ((e - 1) / 16) := m_n_div (b := 16) (by unfold sm; omega) (by unfold sm; omega)
      have e3 : D_m_span F (Int32.ofNat (f / 16)) (Int32.ofNat ((e - 1) / 16)) (Int32.ofNat z) S = _ := m_span hF (by omega) (by omega) hz
      rw [h6, d1, d2, e3, if_pos h7, shr4 (by omega), shr4 (by omega)]
      simp [h5, bret, m_c1]
    · have h5 : Int32.ofNat e ≤ Int32.ofNat f := by rw [i_le (by unfold sm; omega) (by unfold sm; omega)]; omega
      have h7 : ¬ Int32.ofNat f ≤ Int32.ofNat e - 1 := by
        by_cases h8 : e = 0
        · subst h8
          rw [Int32.le_iff_toInt_le, Int32.toInt_ofNat_of_lt (show f < 2147483648 by omega)]
          have : (Int32.ofNat 0 - 1 : Int32).toInt = -1 := by decide
          omega
        · rw [show Int32.ofNat e - 1 = Int32.ofNat (e - 1) from m_n_sub (b := 1) (by omega), i_le (by unfold sm; omega) (by unfold sm; omega)]
          omega
      rw [if_neg h7]
      simp [h5, bret, m_c1]
end
