/-! Two runs, of the class and of the reference, from the fresh world: the same answer. -/
def m_same (a b : Option Value) : Bool := match a, b with
  | some (.int x), some (.int y) => decide (x = y)
  | _, _ => false
theorem m_same_eq {a b : Option Value} (h : m_same a b = true) : ∃ x : Int32, a = some (.int x) ∧ b = some (.int x) := by
  unfold m_same at h
  split at h
  · rename_i x y
    have e : x = y := of_decide_eq_true h
    subst e
    exact ⟨x, rfl, rfl⟩
  · cases h
def m_mdl (w : List mM) : Bool := decide (119 ≤ w.length) && (match m_at w 583 with
  | some (.inr q) => decide (q.1 = 14)
  | _ => false)
theorem m_mdl_at {w : List mM} (h : m_mdl w = true) : 119 ≤ w.length ∧ ∃ fs, m_at w 583 = some (.inr (14, fs)) := by
  unfold m_mdl at h
  rw [Bool.and_eq_true] at h
  refine ⟨of_decide_eq_true h.1, ?_⟩
  have h2 := h.2
  split at h2
  · rename_i q hq
    obtain ⟨ci, fs⟩ := q
    have e : ci = 14 := of_decide_eq_true h2
    subst e
    exact ⟨fs, hq⟩
  · cases h2
def m_rb (r : mR) (c s : Nat) : Bool := decide (r.2.2.1 ≤ c) && decide (r.2.2.2.1 ≤ s) && decide (r.2.2.2.2.1 ≤ 100) && decide (r.2.2.2.2.2 ≤ 20000)
/-- both machines' runs, in the small machine: the same answer, in the room -/
def m_2k (n : Nat) (J K : mI) (as bs : List Value) : Bool := match m_exec n J (m_ent J as w_1) with
  | some r => (match m_exec n K (m_ent K bs r.2.1) with
    | some q => m_same r.1 q.1 && m_mdl r.2.1 && m_rb r 400 400000 && m_rb q 400 400000
    | none => false)
  | none => false
def m_Two (J K : mI) (as bs : List Value) : Prop := ∃ (x : Int32) (w1 : List mM), m_mdl w1 = true ∧ m_Rq J (m_ent J as w_1) (fun v w => v = some (.int x) ∧ w = w1) 400 400000 100 20000 ∧ m_Rq K (m_ent K bs w1) (fun v _ => v = some (.int x)) 400 400000 100 20000
theorem m_Two.ofk {n : Nat} {J K : mI} {as bs : List Value} (h : m_2k n J K as bs = true) : m_Two J K as bs := by
  unfold m_2k at h
  split at h
  · rename_i r hr
    split at h
    · rename_i q hq
      simp only [Bool.and_eq_true] at h
      obtain ⟨⟨⟨h1, h2⟩, h3⟩, h4⟩ := h
      obtain ⟨x, e1, e2⟩ := m_same_eq h1
      unfold m_rb at h3 h4
      simp only [Bool.and_eq_true, decide_eq_true_eq] at h3 h4
      exact ⟨x, r.2.1, h2, ⟨n, r, hr, ⟨e1, rfl⟩, h3.1.1.1, h3.1.1.2, h3.1.2, h3.2⟩, ⟨n, q, hq, e2, h4.1.1.1, h4.1.1.2, h4.1.2, h4.2⟩⟩
    · cases h
  · cases h
theorem m_mdl_1 : m_mdl w_1 = true := by decide +kernel
theorem m_Two.same {J K : mI} {as bs : List Value} (x : Int32) {c s f l c' s' f' l' : Nat} (h1 : m_Rq J (m_ent J as w_1) (fun v w => v = some (.int x) ∧ w = w_1) c s f l) (h2 : m_Rq K (m_ent K bs w_1) (fun v _ => v = some (.int x)) c' s' f' l') (b : decide (c ≤ 400 ∧ s ≤ 400000 ∧ f ≤ 100 ∧ l ≤ 20000 ∧ c' ≤ 400 ∧ s' ≤ 400000 ∧ f' ≤ 100 ∧ l' ≤ 20000) = true) : m_Two J K as bs := by
  have b := of_decide_eq_true b
  exact ⟨x, w_1, m_mdl_1, h1.mono (fun _ _ h => h) b.1 b.2.1 b.2.2.1 b.2.2.2.1, h2.mono (fun _ _ h => h) b.2.2.2.2.1 b.2.2.2.2.2.1 b.2.2.2.2.2.2.1 b.2.2.2.2.2.2.2⟩
/-- one run of the class that leaves the fresh world as it is -/
def m_1k (n : Nat) (J : mI) (as : List Value) (x : Int32) : Bool := m_rk (m_exec n J (m_ent J as w_1)) (some (.int x)) w_1 0 0 100 10000
theorem m_1k_rq {n : Nat} {J : mI} {as : List Value} {x : Int32} (h : m_1k n J as x = true) : m_Rq J (m_ent J as w_1) (fun v w => v = some (.int x) ∧ w = w_1) 0 0 100 10000 := m_Rq.ofk n h ⟨rfl, rfl⟩
theorem m_Rq.callE {I J : mI} {pc pc' : Nat} {lv : List (Nat × Value)} {st : List Value} {w w0 : List mM} {as rest : List Value} {v0 : Value} {P : Option Value → List mM → Prop} {c s f l f1 l1 : Nat} (h : m_at1 I (pc, lv, st, w) = some (J, as, rest)) (hJ : m_Rq J (m_ent J as w) (fun v w' => v = some v0 ∧ w' = w0) 0 0 f1 l1) (hp : pc + 3 = pc')
    (k : m_Rq I (pc', lv, v0 :: rest, w0) P c s f l) (hf : f1 + 1 ≤ f) (hl : 8 + (J.2.2.1 + 11) + l1 ≤ l) : m_Rq I (pc, lv, st, w) P c s f l := by
  have := m_Rq.call (P := P) (c := c) (s := s) (f := f) (l := l) h hJ (fun v w' hv => by obtain ⟨rfl, rfl⟩ := hv; subst hp; exact k) hf hl
  rw [Nat.zero_add, Nat.zero_add] at this
  exact this
/-- ints as numbers -/
theorem m_n_lt {i j : Nat} (hi : i < 2147483648) (hj : j < 2147483648) : Int32.ofNat i < Int32.ofNat j ↔ i < j := by
  rw [Int32.lt_iff_toInt_lt, Int32.toInt_ofNat_of_lt hi, Int32.toInt_ofNat_of_lt hj]
  omega
theorem m_n_cl {i : Nat} (hi : i < 2147483648) : (Int32.ofNat i).toNatClampNeg = i := Int32.toNatClampNeg_ofNat_of_lt hi
theorem m_n_neg {i : Nat} (hi : i < 2147483648) : ¬ Int32.ofNat i < 0 := by
  rw [Int32.lt_iff_toInt_lt, Int32.toInt_ofNat_of_lt hi]
  show ¬ (i : Int) < 0
  omega
theorem m_n_of {x : Int32} (h : ¬ x < 0) : ∃ i, i < 2147483648 ∧ x = Int32.ofNat i := by
  have h2 := x.toInt_lt
  rw [Int32.lt_iff_toInt_lt] at h
  have h3 : ¬ x.toInt < 0 := h
  refine ⟨x.toInt.toNat, by omega, ?_⟩
  apply Int32.toInt_inj.mp
  rw [Int32.toInt_ofNat_of_lt (by omega)]
  omega
theorem m_n_in {x : Int32} {N : Nat} (hN : N < 2147483648) (h0 : ¬ x < 0) (h1 : x < Int32.ofNat N) : ∃ i, i < N ∧ x = Int32.ofNat i := by
  obtain ⟨i, hi, rfl⟩ := m_n_of h0
  exact ⟨i, (m_n_lt hi hN).mp h1, rfl⟩
theorem m_not_lt {x y : Int32} (h : ¬ x < y) : y ≤ x := by
  rw [Int32.lt_iff_toInt_lt] at h
  rw [Int32.le_iff_toInt_le]
  omega
theorem m_not_le {x y : Int32} (h : ¬ x ≤ y) : y < x := by
  rw [Int32.le_iff_toInt_le] at h
  rw [Int32.lt_iff_toInt_lt]
  omega
theorem m_lt_nle {x y : Int32} (h : x < y) : ¬ y ≤ x := by
  rw [Int32.lt_iff_toInt_lt] at h
  rw [Int32.le_iff_toInt_le]
  omega
theorem m_le_nlt {x y : Int32} (h : x ≤ y) : ¬ y < x := by
  rw [Int32.le_iff_toInt_le] at h
  rw [Int32.lt_iff_toInt_lt]
  omega
theorem m_n_add (a b : Nat) : Int32.ofNat a + Int32.ofNat b = Int32.ofNat (a + b) := (Int32.ofNat_add a b).symm
theorem m_n_mul (a b : Nat) : Int32.ofNat a * Int32.ofNat b = Int32.ofNat (a * b) := (Int32.ofNat_mul a b).symm
theorem m_n_sub {a b : Nat} (h : b ≤ a) : Int32.ofNat a - Int32.ofNat b = Int32.ofNat (a - b) := by
  have e : Int32.ofNat (a - b) + Int32.ofNat b = Int32.ofNat a := by rw [m_n_add, Nat.sub_add_cancel h]
  rw [← e, Int32.add_sub_cancel]
theorem m_n_inc (a : Nat) : Int32.ofNat a + Int32.ofInt 1 = Int32.ofNat (a + 1) := m_n_add a 1
def m_cn (cc : ClassFile.Cond) (a b : Nat) : Bool := match cc with
  | .eq => decide (a = b)
  | .ne => decide (¬ a = b)
  | .lt => decide (a < b)
  | .ge => decide (b ≤ a)
  | .gt => decide (b < a)
  | .le => decide (a ≤ b)
theorem m_n_eq {i j : Nat} (hi : i < 2147483648) (hj : j < 2147483648) : Int32.ofNat i = Int32.ofNat j ↔ i = j := by
  constructor
  · intro h
    have := congrArg Int32.toInt h
    rw [Int32.toInt_ofNat_of_lt hi, Int32.toInt_ofNat_of_lt hj] at this
    omega
  · intro h; rw [h]
theorem m_n_le {i j : Nat} (hi : i < 2147483648) (hj : j < 2147483648) : Int32.ofNat i ≤ Int32.ofNat j ↔ i ≤ j := by
  rw [Int32.le_iff_toInt_le, Int32.toInt_ofNat_of_lt hi, Int32.toInt_ofNat_of_lt hj]
  omega
theorem m_c2n {cc : ClassFile.Cond} {a b : Nat} {r : Bool} (ha : a < 2147483648) (hb : b < 2147483648) (h : m_cn cc a b = r) : m_c2 cc (Int32.ofNat a) (Int32.ofNat b) = r := by
  rw [← h]
  cases cc
  · exact decide_eq_decide.mpr (m_n_eq ha hb)
  · exact decide_eq_decide.mpr (not_congr (m_n_eq ha hb))
  · exact decide_eq_decide.mpr (m_n_lt ha hb)
  · exact decide_eq_decide.mpr (m_n_le hb ha)
  · exact decide_eq_decide.mpr (m_n_lt hb ha)
  · exact decide_eq_decide.mpr (m_n_le ha hb)
theorem m_c1n {cc : ClassFile.Cond} {a : Nat} {r : Bool} (ha : a < 2147483648) (h : m_cn cc a 0 = r) : m_c1 cc (Int32.ofNat a) = r := by
  have := m_c2n (cc := cc) ha (by decide : (0 : Nat) < 2147483648) h
  cases cc <;> exact this
/-- cells of a world that was written to -/
theorem m_at_eq {w : List mM} {a : Nat} {c d : mM} (h : m_at w a = some d) : m_at (w.set (a - 512) c) a = some c := by
  unfold m_at at h ⊢
  split at h
  · cases h
  · rename_i h1
    rw [if_neg h1, List.getElem?_set, if_pos rfl, if_pos (List.getElem?_eq_some_iff.mp h).1]
theorem m_at_ne {w : List mM} {a b : Nat} {c : mM} {d : Option mM} (h : m_at w b = d) (hab : decide (a - 512 = b - 512) = false) : m_at (w.set (a - 512) c) b = d := by
  rw [← h]
  unfold m_at
  split
  · rfl
  · rw [List.getElem?_set, if_neg (of_decide_eq_false hab)]
