/-! Further steps: outside arrays, statics, references compared; halves. -/
section
variable {ic : mI → mF → Option mR} {I : mI} {pc pc' n k a : Nat} {lv : List (Nat × Value)} {st r : List Value} {w : List mM} {v : Value}
theorem x_alenE (hd : m_dn I pc .arraylength 1 pc') : m_nx ic I (pc, lv, .ref 0 :: r, w) = some ((pc', lv, .int 0 :: r, w), 0, 0, 0, 0) := by
  refine x_xs hd rfl rfl rfl ?_ rfl
  simp only [m_hs, m_alen]
  rfl
theorem x_gst {kk : Nat} (hd : m_dn I pc (.getstatic k) 3 pc') (h : m_oe I 4 k = some (kk, v)) : m_nx ic I (pc, lv, st, w) = some ((pc', lv, v :: st, w), 0, 0, 0, 0) := by
  refine x_hs hd rfl rfl rfl ?_
  simp only [m_hs, m_gst, h]
theorem x_acmpe {off : Int} {t : Nat} (hd : m_dn I pc (.if_acmp .eq off) 3 pc') (hj : m_jmp pc off = some t) : m_nx ic I (pc, lv, .ref a :: .ref a :: r, w) = some ((t, lv, r, w), 0, 0, 0, 0) := by
  refine x_br hd rfl rfl ?_
  simp only [m_br, m_ba, m_rf, true_or, and_self, if_true, hj, Option.map_some, decide_true]
end
theorem m_shr1_k : (List.range 400).all (fun N => decide (Int32.ofNat N >>> ((1 : Int32) &&& 31) = Int32.ofNat (N / 2))) = true := by decide +kernel
theorem m_n_shr1 {N : Nat} (h : N < 400) : Int32.ofNat N >>> ((1 : Int32) &&& 31) = Int32.ofNat (N / 2) := of_decide_eq_true (List.all_eq_true.mp m_shr1_k N (List.mem_range.mpr h))
theorem m_max_n {x y : Nat} (h : x ≤ y) (hx : x < 2147483648) (hy : y < 2147483648) : (if Int32.ofNat x < Int32.ofNat y then Int32.ofNat y else Int32.ofNat x) = Int32.ofNat y := by
  by_cases h1 : x = y
  · subst h1
    split <;> rfl
  · rw [if_pos (by rw [m_n_lt hx hy]; omega)]
