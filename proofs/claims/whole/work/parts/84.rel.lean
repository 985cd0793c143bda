/-! How the class's cells and the reference's state stand to each other. -/
def cMsg (g : Nat → Int32) (t : Option Nat) : tC := .inl (9, [.int (g 0), .int (g 1), .int (g 2), .int (g 3), .int (g 4), .int (g 5), .int (g 6), .int (g 7), .int (g 8), .int (g 9), .int (g 10), .int (g 11), .int (g 12), .int (g 13), .int (g 14), rv t, .int (g 16), .int (g 17), .int (g 18)])
def cReply (g : Nat → Int32) (t : Nat) : tC := .inl (8, [.int (g 0), .int (g 1), .int (g 2), .int (g 3), .int (g 4), .int (g 5), .int (g 6), .int (g 7), .int (g 8), .int (g 9), .int (g 10), .int (g 11), .int (g 12), .ref t])
def cFetch (g : Nat → Int32) (h t : Option Nat) : tC := .inl (10, [.int (g 0), .int (g 1), .int (g 2), .int (g 3), .int (g 4), .int (g 5), .int (g 6), .int (g 7), .int (g 8), .int (g 9), .int (g 10), .int (g 11), rv h, rv t])
def house (x : Nat → Int32) : tC := .inl (0, [.ref 513, .ref 517, .ref 518, .ref 519, .ref 520, .ref 521, .ref 522, .ref 523, .ref 524, .ref 525, .int (x 71), .int (x 39), .int (x 38), .int (x 37), .int (x 36)])
/-- a number of few digits -/
def few (b : Nat) (x : Int32) : Prop := ∃ k, k < b ∧ x = Int32.ofNat k
def flag (x : Int32) : Prop := x = 0 ∨ x = 1
/-- the row of a thing that was told -/
def okT (d : Nat → Int32) : Prop := few 513 (d 0) ∧ ¬ d 0 = 0 ∧ few 256 (d 1) ∧ few 100000 (d 2) ∧ few 100000 (d 3) ∧ few 100000 (d 4) ∧ flag (d 5) ∧ flag (d 6) ∧ few 256 (d 7) ∧ few 4 (d 8)
/-- a FETCH -/
def isM0 (g m : Nat → Int32) (t : Option Nat) : Prop := m 0 = 0 ∧ t = none ∧ g 8 = m 6 ∧ g 9 = m 7 ∧ g 11 = m 10 ∧ flag (m 9) ∧ few 32 (m 4) ∧ few 4 (m 5) ∧ few 16 (m 6) ∧ few 16 (m 7) ∧ (∃ l f, l < 4 ∧ f < 2 ∧ g 6 = Int32.ofNat l ∧ g 7 = Int32.ofNat f ∧ m 21 = Int32.ofNat (l + 4 * f)) ∧ ∃ a b, m 1 = Int32.ofNat a ∧ m 2 = Int32.ofNat b ∧ ((1 ≤ a ∧ a ≤ 2 ∧ b = 0) ∨ (3 ≤ a ∧ a ≤ 6 ∧ 1 ≤ b ∧ b ≤ 2))
/-- a FILL -/
def isM1 (T : tT) (g m : Nat → Int32) (t : Option Nat) : Prop := m 0 = 1 ∧ g 12 = m 6 ∧ g 14 = m 21 ∧ g 11 = 0 ∧ m 9 = 0 ∧ few 32 (m 4) ∧ few 4 (m 5) ∧ (∃ a b, m 1 = Int32.ofNat a ∧ m 2 = Int32.ofNat b ∧ ((a = 0 ∧ 1 ≤ b ∧ b ≤ 2) ∨ (1 ≤ a ∧ a ≤ 2 ∧ 3 ≤ b ∧ b ≤ 6))) ∧
  ((t = none ∧ m 7 = 0 ∧ m 12 = 0 ∧ (m 6 = 404 ∨ m 6 = 504)) ∨ ∃ a, t = some a ∧ T.1 a = some (cTold (m 4) (fun i => m (12 + i))) ∧ okT (fun i => m (12 + i)) ∧ m 7 = m 12 ∧ (m 6 = 200 ∨ m 6 = 304) ∧ g 16 - g 18 = m 10 ∧ g 17 = m 11)
/-- a PURGE, an ACK -/
def isM2 (g m : Nat → Int32) (t : Option Nat) : Prop := t = none ∧ m 6 = 0 ∧ m 7 = 0 ∧ m 8 = 0 ∧ m 9 = 0 ∧ m 21 = 0 ∧ g 6 = 0 ∧ g 7 = 0 ∧ g 8 = 0 ∧ g 9 = 0 ∧ g 11 = 0 ∧ ((m 0 = 2 ∧ m 1 = 0 ∧ (∃ n, 1 ≤ n ∧ n ≤ 6 ∧ m 2 = Int32.ofNat n) ∧ (∃ k, 1 ≤ k ∧ k ≤ 60 ∧ m 3 = Int32.ofNat k) ∧ ((m 5 = 0 ∧ few 32 (m 4)) ∨ (m 5 = 1 ∧ few 8 (m 4)))) ∨ (m 0 = 3 ∧ m 2 = 0 ∧ ∃ n, 1 ≤ n ∧ n ≤ 6 ∧ m 1 = Int32.ofNat n))
def isMsg (T : tT) (a : Nat) (m : Nat → Int32) : Prop := ∃ g t, T.1 a = some (cMsg g t) ∧ (∀ i, i < 6 → g i = m i) ∧ g 10 = m 9 ∧ g 13 = m 8 ∧ (isM0 g m t ∨ isM1 T g m t ∨ isM2 g m t)
def mRow (S : mS) (k : Nat) : Nat → Int32 := fun i => rd S 624 (22 * k + i)
def RPost (T : tT) (S : mS) : Prop := ∃ n cap ms, S.1 77 = Int32.ofNat n ∧ n ≤ 100 ∧ T.1 523 = some (.inr (.inr (cap, ms))) ∧ ms.length = n ∧ ∀ k a, ms[k]? = some a → isMsg T a (mRow S k)
def RHouse (T : tT) (S : mS) : Prop := T.1 512 = some (house S.1)
theorem i_cases (x : Int32) : x < 0 ∨ ∃ k, k < 2147483648 ∧ x = Int32.ofNat k := by
  by_cases h : x < 0
  · exact Or.inl h
  · exact Or.inr (m_n_of h)
theorem c1_neg {x : Int32} (h : x < 0) : m_c1 .lt x = true := decide_eq_true h
section
variable {T : tT} {S : mS} {F a : Nat} {x y : Int32} {m : Nat → Int32}
theorem flag_if {x : Int32} (h : flag x) : (cond (decide (x = 0)) (some (0 : Int32)) (some (1 : Int32))) = some x := by
  rcases h with rfl | rfl <;> rfl
theorem c_tell (h : isMsg T a m) : D_c_Message_tell F a x T = some (if x = 11 then m 21 else if x < 0 ∨ 11 < x then -1 else if x < 10 ∨ m 0 = 0 then m x.toNatClampNeg else 0) := by
  obtain ⟨g, t, h1, h2, h3, h4, h5⟩ := h
  have e0 := h2 0 (by omega)
  have e1 := h2 1 (by omega)
  have e2 := h2 2 (by omega)
  have e3 := h2 3 (by omega)
  have e4 := h2 4 (by omega)
  have e5 := h2 5 (by omega)
  have hx : x = 0 ∨ x = 1 ∨ x = 2 ∨ x = 3 ∨ x = 4 ∨ x = 5 ∨ x = 6 ∨ x = 7 ∨ x = 8 ∨ x = 9 ∨ x = 10 ∨ x = 11 ∨ (x < 0 ∨ 11 < x) := by
    rcases i_cases x with h | ⟨k, hk, rfl⟩
    · exact Or.inr (Or.inr (Or.inr (Or.inr (Or.inr (Or.inr (Or.inr (Or.inr (Or.inr (Or.inr (Or.inr (Or.inr (Or.inl h))))))))))))
    · by_cases h : k < 12
      · match k, h with
        | 0, _ => decide
        | 1, _ => decide
        | 2, _ => decide
        | 3, _ => decide
        | 4, _ => decide
        | 5, _ => decide
        | 6, _ => decide
        | 7, _ => decide
        | 8, _ => decide
        | 9, _ => decide
        | 10, _ => decide
        | 11, _ => decide
      · have : (11 : Int32) < Int32.ofNat k := (i_lt (a := 11) (by unfold sm; omega) hk).mpr (by omega)
        exact Or.inr (Or.inr (Or.inr (Or.inr (Or.inr (Or.inr (Or.inr (Or.inr (Or.inr (Or.inr (Or.inr (Or.inr (Or.inr this))))))))))))
  have hv : ∀ b, D_c_Message_version F b T = D_c_Message_version F b T := fun _ => rfl
  unfold D_c_Message_tell
  simp only [D_c_Message_version, tgi, tgr, tg, tcl, tcc, vi, vr, rv, nc, h1, cMsg, List.getElem?_cons_succ, List.getElem?_cons_zero, List.getElem?_nil, Option.bind_some, Option.bind_none, if_true, Option.map_some, m_c1, m_c2, vr_rv]
  rcases h5 with ⟨a0, rfl, b8, b9, b11, fl, -, -, -, -, ⟨l, f, hl, hf, c6, c7, c21⟩, -⟩ | ⟨a0, b12, b14, b11, b9, -, -, -, hT⟩ | ⟨rfl, a6, a7, a8, a9, a21, b6, b7, b8, b9, b11, hk⟩
  · have e21 : g 6 + 4 * g 7 = m 21 := by rw [c6, c7, c21, k4, m_n_add]
    rcases hx with rfl | rfl | rfl | rfl | rfl | rfl | rfl | rfl | rfl | rfl | rfl | rfl | hx
    · simp [e0]
    · simp [e1]
    · simp [e2]
    · simp [e3]
    · simp [e4]
    · simp [e5]
    · simp [e0, a0, b8]
    · simp [e0, a0, b9]
    · simp [h4]
    · rw [h3]
      simp [flag_if fl]
    · simp [a0, b11]
    · simp [e0, a0, e21]
    · have n : ∀ c : Int32, 0 ≤ c → c ≤ 11 → ¬ x = c := by
        rintro c q1 q2 rfl
        rcases hx with hx | hx
        · exact Int32.not_le.mpr hx q1
        · exact Int32.not_le.mpr hx q2
      simp [n 0 (by decide) (by decide), n 1 (by decide) (by decide), n 2 (by decide) (by decide), n 3 (by decide) (by decide), n 4 (by decide) (by decide), n 5 (by decide) (by decide), n 6 (by decide) (by decide), n 7 (by decide) (by decide), n 8 (by decide) (by decide), n 9 (by decide) (by decide), n 10 (by decide) (by decide), n 11 (by decide) (by decide), hx]
  · rcases hx with rfl | rfl | rfl | rfl | rfl | rfl | rfl | rfl | rfl | rfl | rfl | rfl | hx
    · simp [e0]
    · simp [e1]
    · simp [e2]
    · simp [e3]
    · simp [e4]
    · simp [e5]
    · simp [e0, a0, b12]
    · rcases hT with ⟨rfl, q1, -⟩ | ⟨a9, rfl, q1, -, q3, -⟩
      · simp [e0, a0, q1]
      · simp [e0, a0, q1, cTold, q3, vi]
    · simp [h4]
    · rw [h3, b9]
      simp [b9]
    · simp [a0, b11]
    · simp [e0, a0, b14]
    · have n : ∀ c : Int32, 0 ≤ c → c ≤ 11 → ¬ x = c := by
        rintro c q1 q2 rfl
        rcases hx with hx | hx
        · exact Int32.not_le.mpr hx q1
        · exact Int32.not_le.mpr hx q2
      simp [n 0 (by decide) (by decide), n 1 (by decide) (by decide), n 2 (by decide) (by decide), n 3 (by decide) (by decide), n 4 (by decide) (by decide), n 5 (by decide) (by decide), n 6 (by decide) (by decide), n 7 (by decide) (by decide), n 8 (by decide) (by decide), n 9 (by decide) (by decide), n 10 (by decide) (by decide), n 11 (by decide) (by decide), hx]
  · have a1 : ¬ m 0 = 1 ∧ ¬ m 0 = 0 := by
      rcases hk with ⟨hk, -⟩ | ⟨hk, -⟩ <;> rw [hk] <;> decide
    rcases hx with rfl | rfl | rfl | rfl | rfl | rfl | rfl | rfl | rfl | rfl | rfl | rfl | hx
    · simp [e0]
    · simp [e1]
    · simp [e2]
    · simp [e3]
    · simp [e4]
    · simp [e5]
    · simp [e0, a1.1, b8, a6]
    · simp [e0, a1.1, b9, a7]
    · simp [h4]
    · rw [h3, a9]
      simp [a9]
    · simp [a1.2, b11]
    · simp [e0, a1.1, b6, b7, a21]
    · have n : ∀ c : Int32, 0 ≤ c → c ≤ 11 → ¬ x = c := by
        rintro c q1 q2 rfl
        rcases hx with hx | hx
        · exact Int32.not_le.mpr hx q1
        · exact Int32.not_le.mpr hx q2
      simp [n 0 (by decide) (by decide), n 1 (by decide) (by decide), n 2 (by decide) (by decide), n 3 (by decide) (by decide), n 4 (by decide) (by decide), n 5 (by decide) (by decide), n 6 (by decide) (by decide), n 7 (by decide) (by decide), n 8 (by decide) (by decide), n 9 (by decide) (by decide), n 10 (by decide) (by decide), n 11 (by decide) (by decide), hx]
theorem isMsg.cls (h : isMsg T a m) : ∃ fs, T.1 a = some (.inl (9, fs)) := by
  obtain ⟨g, t, h1, -⟩ := h
  exact ⟨_, h1⟩
/-- message(k, what) -/
theorem op_message (hH : RHouse T S) (hP : RPost T S) : ∃ v, D_c_EdgeHouse_message F 512 x y T = some v ∧ D_m_message F x y S = some (v, up1 S 0 0) := by
  obtain ⟨n, cap, ms, h1, h2, h3, h4, h5⟩ := hP
  have eH : ∀ k, tgr T 512 0 k = ((house S.1).elim (fun q => q.2[k]?) (fun _ => none)).bind vr := by
    intro k
    simp only [tgr, tg, show T.1 512 = some (house S.1) from hH, house, if_true, Sum.elim_inl]
  have e7 : tgr T 512 0 7 = some (some 523) := by rw [eH]; rfl
  have eN : (up1 S 0 0).1 77 = Int32.ofNat n := h1
  unfold D_c_EdgeHouse_message D_m_message
  rcases i_cases x with hx | ⟨k, hk, rfl⟩
  · refine ⟨-1, ?_, ?_⟩
    · rw [c1_neg hx, cond_true]
    · rw [c1_neg hx]
      rfl
  · have ek : m_c1 .lt (Int32.ofNat k) = false := m_c1_ltf hk
    simp only [ek, cond_false, e7, List.getElem?_cons_succ, List.getElem?_cons_zero, List.getElem?_nil, Option.bind_some, Option.bind_none, if_true, Option.map_some, tls, tl, h3, h4, fput, eN]
    rw [lt_n hk (by omega), ge_n hk (by omega)]
    by_cases hkn : k < n
    · obtain ⟨b, hb⟩ : ∃ b, ms[k]? = some b := ⟨_, List.getElem?_eq_getElem (by omega)⟩
      have hm := h5 k b hb
      obtain ⟨fs, hc⟩ := hm.cls
      have e9 : tlg T 523 (Int32.ofNat k) = some b := by
        simp only [tlg, tl, h3, Option.bind_some]
        rw [if_neg (m_n_neg hk), m_n_cl hk]
        exact hb
      have ea : ∀ i, i < 22 → aget 0 2200 (up1 S 0 0) 624 (Int32.ofNat (22 * k + i)) = some (mRow S k i) := by
        intro i hi
        rw [aget_n (Or.inl rfl) (by omega) (by decide)]
        rfl
      simp only [decide_eq_true hkn, decide_eq_false (show ¬ n ≤ k by omega), cond_true, cond_false, e9, List.getElem?_cons_succ, List.getElem?_cons_zero, List.getElem?_nil, Option.bind_some, Option.bind_none, if_true, Option.map_some, tcc, tcl, hc, c_tell hm, k22]
      refine ⟨_, rfl, ?_⟩
      rcases i_cases y with hy | ⟨j, hj, rfl⟩
      · rw [c1_neg hy, cond_true]
        have : ¬ y = 11 := by rintro rfl; exact absurd hy (by decide)
        simp [this, hy]
      · have ej : m_c1 .lt (Int32.ofNat j) = false := m_c1_ltf hj
        rw [ej, cond_false]
        by_cases h12 : j < 12
        · have ea2 := ea j (by omega)
          have ea0 := ea 0 (by omega)
          have ea21 := ea 21 (by omega)
          rw [Nat.add_zero] at ea0
          rw [show Int32.ofNat (22 * k) + (21 : Int32) = Int32.ofNat (22 * k + 21) from m_n_add _ 21, m_n_add, ea2, ea0, ea21]
          rw [show (11 : Int32) = Int32.ofNat 11 from rfl, show (10 : Int32) = Int32.ofNat 10 from rfl, le_n hj (by omega), ne_n hj (by omega), lt_n hj (by omega), decide_eq_true (show j ≤ 11 by omega), cond_true]
          have q0 : ¬ Int32.ofNat j < 0 := m_n_neg hj
          have q1 : ¬ Int32.ofNat 11 < Int32.ofNat j := by rw [i_lt (by unfold sm; omega) hj]; omega
          have q2 : Int32.ofNat j = Int32.ofNat 11 ↔ j = 11 := m_n_eq hj (by omega)
          have q3 : Int32.ofNat j < Int32.ofNat 10 ↔ j < 10 := i_lt hj (by unfold sm; omega)
          rw [m_n_cl hj]
          simp only [q0, q1, q2, q3, false_or, or_self, if_false]
          by_cases z1 : j = 11
          · simp [z1]
          · by_cases z2 : j < 10
            · simp [z1, z2]
            · by_cases z3 : mRow S k 0 = 0 <;> simp [z1, z2, z3, m_c1]
        · have q1 : (11 : Int32) < Int32.ofNat j := (i_lt (a := 11) (by unfold sm; omega) hj).mpr (by omega)
          have q2 : ¬ Int32.ofNat j = 11 := by rintro e; rw [e] at q1; exact absurd q1 (by decide)
          have q3 : m_c2 .le (Int32.ofNat j) (11 : Int32) = false := by
            rw [show (11 : Int32) = Int32.ofNat 11 from rfl, le_n hj (by omega)]
            exact decide_eq_false (by omega)
          rw [q3, cond_false]
          simp [q1, q2]
    · simp only [decide_eq_false hkn, decide_eq_true (show n ≤ k by omega), cond_true, cond_false]
      exact ⟨-1, rfl, rfl⟩
end
