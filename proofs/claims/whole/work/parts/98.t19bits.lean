/-! The first and the last block that is missing. -/
def S00 : mS := ((fun _ => 0), fun _ => [])
def v_ntz (x : Int32) : Int32 := (D_ntz 0 x S00).getD 99
def v_nlz (x : Int32) : Int32 := (D_nlz 0 x S00).getD 99
theorem cond_ex {α : Type} {q : Bool} {a b : Option α} (h1 : ∃ v, a = some v) (h2 : ∃ v, b = some v) : ∃ v, cond q a b = some v := by
  cases q
  · exact h2
  · exact h1
theorem getD_ex {o : Option Int32} (h : ∃ v, o = some v) : o = some (o.getD 99) := by
  obtain ⟨v, rfl⟩ := h
  rfl
theorem ntz_m {F : Nat} {x : Int32} {S : mS} : D_ntz F x S = some (v_ntz x) := by
  refine getD_ex (o := D_ntz F x S) ?_
  unfold D_ntz D_ntz_34 D_ntz_49 D_ntz_62 D_ntz_74
  repeat' (first | exact ⟨_, rfl⟩ | refine cond_ex ?_ ?_)
theorem nlz_m {F : Nat} {x : Int32} {S : mS} : D_nlz F x S = some (v_nlz x) := by
  refine getD_ex (o := D_nlz F x S) ?_
  unfold D_nlz D_nlz_33 D_nlz_48 D_nlz_61 D_nlz_73
  cases m_c1 .ne x <;> (repeat' (first | exact ⟨_, rfl⟩ | refine cond_ex ?_ ?_))
theorem ntz_c {F : Nat} {x : Int32} {T : tT} : D_c_Integer_numberOfTrailingZeros F x T = some (v_ntz x) := (rfl : _ = D_ntz F x S00).trans ntz_m
theorem nlz_c {F : Nat} {x : Int32} {T : tT} : D_c_Integer_numberOfLeadingZeros F x T = some (v_nlz x) := (rfl : _ = D_nlz F x S00).trans nlz_m
theorem bit15 {k : Nat} (h0 : 32768 ≤ k) (h : k < 65536) : (Int32.ofNat k ^^^ ((-1) : Int32)).toBitVec.toNat.testBit 15 = false := by
  have e : k.testBit 15 = true := by
    rw [Nat.testBit_eq_decide_div_mod_eq, decide_eq_true_eq]
    omega
  rw [BitVec.testBit_toNat, Int32.toBitVec_xor, BitVec.getLsbD_xor, show (Int32.ofNat k).toBitVec = BitVec.ofNat 32 k from rfl, BitVec.getLsbD_ofNat, e]
  rfl
theorem u_and {k : Nat} (h0 : 0 < k) (h : k < 65536) : ∃ m, m < 32768 ∧ ((Int32.ofNat k ^^^ ((-1) : Int32)) &&& (Int32.ofNat k - (1 : Int32))) = Int32.ofNat m := by
  refine ⟨((Int32.ofNat k ^^^ ((-1) : Int32)) &&& (Int32.ofNat k - (1 : Int32))).toBitVec.toNat, ?_, ?_⟩
  · have e1 : (Int32.ofNat k - (1 : Int32)).toBitVec.toNat = k - 1 := by
      rw [Int32.toBitVec_sub, BitVec.toNat_sub]
      simp
      omega
    rw [Int32.toBitVec_and, BitVec.toNat_and, e1]
    by_cases w : k < 32768
    · exact Nat.lt_of_le_of_lt Nat.and_le_right (by omega)
    · refine Nat.lt_pow_two_of_testBit (n := 15) _ (fun i hi => ?_)
      rw [Nat.testBit_and]
      by_cases w2 : i = 15
      · rw [w2, bit15 (by omega) h]
        rfl
      · rw [Nat.testBit_lt_two_pow (x := k - 1) (i := i) (Nat.lt_of_lt_of_le (show k - 1 < 2 ^ 16 by omega) (Nat.pow_le_pow_right (by decide) (by omega)))]
        exact Bool.and_false _
  · apply Int32.toBitVec_inj.mp
    show _ = BitVec.ofNat 32 (BitVec.toNat _)
    rw [BitVec.ofNat_toNat, BitVec.setWidth_eq]
def b16 (o : Option Int32) : Bool := match o with
  | some v => decide (¬ v < 0) && decide (v.toNatClampNeg < 16)
  | none => false
theorem b16_few {o : Option Int32} (h : b16 o = true) : few 16 (o.getD 99) := by
  cases o with
  | none => cases h
  | some v =>
    have h := Bool.and_eq_true_iff.mp h
    have h1 := of_decide_eq_true h.1
    have h2 := of_decide_eq_true h.2
    rcases i_cases v with w | ⟨k, k1, k2⟩
    · exact absurd w h1
    · rw [k2, m_n_cl k1] at h2
      exact ⟨k, h2, k2⟩
theorem shr8 {m : Nat} (h : m < 65536) : ((Int32.ofNat m).toUInt32 >>> (((8 : Int32) : Int32).toUInt32 &&& Int32.toUInt32 31)).toInt32 = Int32.ofNat (m / 256) := by
  refine Int32.toBitVec_inj.mp (BitVec.eq_of_toNat_eq ?_)
  show (BitVec.ofNat 32 m >>> (8 % 32)).toNat = (BitVec.ofNat 32 (m / 256)).toNat
  rw [BitVec.toNat_ushiftRight, BitVec.toNat_ofNat, BitVec.toNat_ofNat, Nat.shiftRight_eq_div_pow, Nat.mod_eq_of_lt (show m < 2 ^ 32 by omega), Nat.mod_eq_of_lt (show m / 256 < 2 ^ 32 by omega)]
theorem ntzA : (List.range 257).all (fun m => b16 (D_ntz_34 0 (Int32.ofNat m) 1 S00)) = true := by decide +kernel
theorem ntzB : (List.range 128).all (fun m => b16 (D_ntz_49 0 (Int32.ofNat m) (1 + Int32.ofInt 8) S00)) = true := by decide +kernel
theorem nlzA : (List.range 256).all (fun m => m == 0 || b16 ((D_nlz_33 0 (Int32.ofNat m) 31 S00).map (fun v => 31 - v))) = true := by decide +kernel
theorem nlzB : (List.range 256).all (fun m => m == 0 || b16 ((D_nlz_48 0 (Int32.ofNat m) (31 + Int32.ofInt (-8)) S00).map (fun v => 31 - v))) = true := by decide +kernel
theorem ntz_few {k : Nat} (h0 : 0 < k) (h : k < 65536) : few 16 (v_ntz (Int32.ofNat k)) := by
  obtain ⟨m, m1, m2⟩ := u_and h0 h
  unfold v_ntz D_ntz
  rw [m2]
  have g1 : m_c1 .gt (Int32.ofNat m) = decide (0 < m) := (gt_n (a := m) (b := 0) (by omega) (by decide))
  have g2 : m_c2 .le (Int32.ofNat m) (65536 : Int32) = true := (le_n (a := m) (b := 65536) (by omega) (by decide)).trans (decide_eq_true (by omega))
  rw [g1, g2, cond_true]
  by_cases w : 0 < m
  · rw [decide_eq_true w, cond_true]
    by_cases w2 : m ≤ 256
    · exact b16_few (List.all_eq_true.mp ntzA m (List.mem_range.mpr (by omega)))
    · have g3 : m_c2 .le (Int32.ofNat m) (256 : Int32) = false := (le_n (a := m) (b := 256) (by omega) (by decide)).trans (decide_eq_false (by omega))
      unfold D_ntz_34
      rw [g3, cond_false, shr8 (by omega)]
      exact b16_few (List.all_eq_true.mp ntzB (m / 256) (List.mem_range.mpr (by omega)))
  · have : m = 0 := by omega
    subst this
    exact ⟨0, by decide, rfl⟩
theorem nlz_few {k : Nat} (h0 : 0 < k) (h : k < 65536) : few 16 (31 - v_nlz (Int32.ofNat k)) := by
  have key : ∀ o : Option Int32, b16 (o.map (fun v => 31 - v)) = true → few 16 (31 - o.getD 99) := by
    intro o ho
    cases o with
    | none => cases ho
    | some v => exact b16_few ho
  unfold v_nlz D_nlz
  have g1 : m_c1 .gt (Int32.ofNat k) = true := (gt_n (a := k) (b := 0) (by omega) (by decide)).trans (decide_eq_true h0)
  have g2 : m_c2 .lt (Int32.ofNat k) (65536 : Int32) = true := (lt_n (a := k) (b := 65536) (by omega) (by decide)).trans (decide_eq_true h)
  rw [g1, g2, cond_true, cond_true]
  by_cases w2 : k < 256
  · have := List.all_eq_true.mp nlzA k (List.mem_range.mpr w2)
    exact key _ ((Bool.or_eq_true_iff.mp this).resolve_left (by simp; omega))
  · have g3 : m_c2 .lt (Int32.ofNat k) (256 : Int32) = false := (lt_n (a := k) (b := 256) (by omega) (by decide)).trans (decide_eq_false w2)
    unfold D_nlz_33
    rw [g3, cond_false, shr8 (by omega)]
    have := List.all_eq_true.mp nlzB (k / 256) (List.mem_range.mpr (by omega))
    exact key _ ((Bool.or_eq_true_iff.mp this).resolve_left (by simp; omega))
/-- what is missing lies in the lowest 16 bits -/
theorem and_few {a b : Int32} {k : Nat} (h : a = Int32.ofNat k) (hk : k < 65536) : ∃ m, m ≤ k ∧ a &&& b = Int32.ofNat m := by
  refine ⟨(a &&& b).toBitVec.toNat, ?_, ?_⟩
  · rw [Int32.toBitVec_and, BitVec.toNat_and, h]
    refine Nat.le_trans Nat.and_le_left ?_
    show (BitVec.ofNat 32 k).toNat ≤ k
    rw [BitVec.toNat_ofNat]
    exact Nat.mod_le _ _
  · apply Int32.toBitVec_inj.mp
    show _ = BitVec.ofNat 32 (BitVec.toNat _)
    rw [BitVec.ofNat_toNat, BitVec.setWidth_eq]
theorem pw_all : (List.range 17).all (fun u => decide (((1 : Int32) <<< (Int32.ofNat u &&& 31)) - (1 : Int32) = Int32.ofNat (2 ^ u - 1))) = true := by decide +kernel
theorem blocks_few {z t : Nat} {f : Int32} (hz : z < 256) (ht : t < 16) : ∃ k, k < 65536 ∧ v_blocks (Int32.ofNat z) f (Int32.ofNat t) = Int32.ofNat k := by
  have e1 := of_decide_eq_true (List.all_eq_true.mp cnt_all z (List.mem_range.mpr hz))
  unfold v_blocks
  rw [e1, show Int32.ofNat t + (1 : Int32) = Int32.ofNat (t + 1) from p1 t]
  have e2 : ∃ u, u < 17 ∧ (if Int32.ofNat ((z + 15) / 16) < Int32.ofNat (t + 1) then Int32.ofNat ((z + 15) / 16) else Int32.ofNat (t + 1)) = Int32.ofNat u := by
    split
    · exact ⟨_, by omega, rfl⟩
    · exact ⟨_, by omega, rfl⟩
  obtain ⟨u, u1, u2⟩ := e2
  rw [u2, of_decide_eq_true (List.all_eq_true.mp pw_all u (List.mem_range.mpr u1))]
  have u3 : 2 ^ u ≤ 2 ^ 16 := Nat.pow_le_pow_right (by decide) (by omega)
  obtain ⟨m, m1, m2⟩ := and_few (a := Int32.ofNat (2 ^ u - 1)) (b := (((-1) : Int32) <<< (f &&& 31))) rfl (by omega)
  exact ⟨m, by omega, m2⟩
/-- what is missing of a thing -/
theorem need_few {S : mS} {w z : Nat} {g : Nat → Int32} {cd : Option (Nat → Int32)} (h : isRow S w g cd) (hz : z < 256) (tag : Int32) : ∃ k, k < 65536 ∧ v_need g cd (Int32.ofNat z) tag = Int32.ofNat k := by
  obtain ⟨_, h⟩ := h
  cases cd with
  | none =>
    obtain ⟨_, f, t, f1, t1, _, _, g4, g5⟩ := h
    show ∃ k, k < 65536 ∧ v_blocks (Int32.ofNat z) (g 4) (g 5) = Int32.ofNat k
    rw [g5]
    exact blocks_few hz t1
  | some k =>
    obtain ⟨r, _, h2⟩ := h
    unfold v_need
    simp only []
    split
    · rename_i le
      have c1 := c_nFrom (tag := tag) h2 hz
      have c2 := c_nEnd (tag := tag) h2 hz
      have : 1 ≤ nEnd (v_counts k tag) k z := by
        rcases Nat.eq_zero_or_pos (nEnd (v_counts k tag) k z) with w | w
        · rw [c1.1, c2.1, w] at le
          have := c1.2
          exfalso
          have l2 := Int32.le_iff_toInt_le.mp le
          rw [Int32.toInt_ofNat_of_lt (by omega)] at l2
          have l3 : (Int32.ofNat 0 - 1 : Int32).toInt = -1 := by decide
          omega
        · exact w
      have e9 : v_to k (v_counts k tag) (Int32.ofNat z) >>> ((4 : Int32) &&& 31) = Int32.ofNat ((nEnd (v_counts k tag) k z - 1) / 16) := by
        rw [c2.1]
        have : Int32.ofNat (nEnd (v_counts k tag) k z) - 1 = Int32.ofNat (nEnd (v_counts k tag) k z - 1) := by
          rw [Int32.ofNat_sub _ _ this]
          rfl
        rw [this]
        exact shr4 (by have := c2.2; omega)
      rw [e9]
      exact blocks_few hz (by have := c2.2; omega)
    · exact ⟨0, by decide, rfl⟩
theorem missing_few {S : mS} {w z : Nat} {g d : Nat → Int32} {cd : Option (Nat → Int32)} {wh bl : Int32} (h : isRow S w g cd) (hz : z < 256) (hd : d 1 = Int32.ofNat z) : ∃ k, k < 65536 ∧ v_missing g cd d wh bl = Int32.ofNat k := by
  rw [v_miss_need, hd]
  obtain ⟨k, k1, k2⟩ := need_few h hz (8 * d 0 + wh)
  obtain ⟨m, m1, m2⟩ := and_few (b := (bl ^^^ -1)) k2 k1
  exact ⟨m, by omega, m2⟩
