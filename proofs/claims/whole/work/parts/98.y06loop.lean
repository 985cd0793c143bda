/-! The law's loop: its head, the way back. -/
def lawOps : List Nat := [132, 201, 245, 270, 283, 296, 321, 346, 359, 396, 452, 477, 502, 539, 607, 644, 681, 754, 791, 816]
theorem c2_gt6 : ∀ k : Nat, k < 6 → ∀ i, i < 7 → m_c2 .gt (Int32.ofNat i) (Int32.ofNat k - 6) = true := by decide +kernel
section
variable {l : Launch} {n i c0 s0 : Nat} {sc : Nat → Int32} {w : List mM}
theorem w_head (hn : n < 2147483648) (hi : i ≤ n) (k : i + 5 < n → ∀ t, t ∈ lawOps → m_Law l n sc (t, [(4, .int (Int32.ofNat i)), (3, .ref 630), (2, .ref 583), (1, .ref 512), (0, .ref 500)], [], w) c0 s0) : m_Law l n sc (23, [(4, .int (Int32.ofNat i)), (3, .ref 630), (2, .ref 583), (1, .ref 512), (0, .ref 500)], [], w) c0 s0 := by
  refine m_Law.n0 (x_iload d_law_23 rfl) ?_
  refine m_Law.n0 (x_aload_n d_law_25 rfl) ?_
  refine m_Law.len d_law_26.1 ?_
  refine m_Law.n0 (x_bipush (z := 6) d_law_27 (by decide)) ?_
  refine m_Law.n0 (x_isub d_law_29 rfl) ?_
  by_cases h : i + 5 < n
  · have e6 : Int32.ofNat n - 6 = Int32.ofNat (n - 6) := m_n_sub (b := 6) (by omega)
    have e : m_c2 .gt (Int32.ofNat i) (Int32.ofNat n - 6) = false := by
      rw [e6, gt_n (by omega) (by omega)]
      exact decide_eq_false (by omega)
    refine m_Law.n0 (x_icf d_law_30 rfl e) ?_
    refine m_Law.n0 (x_aload_n d_law_33 rfl) ?_
    refine m_Law.n0 (x_iload d_law_34 rfl) ?_
    refine m_Law.ld i d_law_36.1 (m_n_neg (by omega)) (m_n_cl (by omega)) (by omega) ?_
    refine m_Law.n0 (x_bipush (z := 31) d_law_37 (by decide)) ?_
    refine m_Law.n0 (x_iand d_law_39 rfl) ?_
    obtain ⟨x, hx⟩ : ∃ x, x = sc i &&& 31 := ⟨_, rfl⟩
    rw [← hx]
    by_cases q : ∀ k, k < 19 → ¬ x = Int32.ofNat k
    · exact m_Law.n0 (x_tsw (t := 816) d_law_40 (m_tsw_0 (n := 19) rfl q rfl)) (k h 816 (by decide))
    · obtain ⟨j, hj, e⟩ : ∃ j, j < 19 ∧ x = Int32.ofNat j := by
        refine Classical.byContradiction (fun w => q (fun k hk e => w ⟨k, hk, e⟩))
      rw [e]
      have h19 : j = 0 ∨ j = 1 ∨ j = 2 ∨ j = 3 ∨ j = 4 ∨ j = 5 ∨ j = 6 ∨ j = 7 ∨ j = 8 ∨ j = 9 ∨ j = 10 ∨ j = 11 ∨ j = 12 ∨ j = 13 ∨ j = 14 ∨ j = 15 ∨ j = 16 ∨ j = 17 ∨ j = 18 := by omega
      rcases h19 with q | q | q | q | q | q | q | q | q | q | q | q | q | q | q | q | q | q | q
      · rw [q]; exact m_Law.n0 (x_tsw (t := 132) d_law_40 rfl) (k h 132 (by decide))
      · rw [q]; exact m_Law.n0 (x_tsw (t := 201) d_law_40 rfl) (k h 201 (by decide))
      · rw [q]; exact m_Law.n0 (x_tsw (t := 245) d_law_40 rfl) (k h 245 (by decide))
      · rw [q]; exact m_Law.n0 (x_tsw (t := 270) d_law_40 rfl) (k h 270 (by decide))
      · rw [q]; exact m_Law.n0 (x_tsw (t := 283) d_law_40 rfl) (k h 283 (by decide))
      · rw [q]; exact m_Law.n0 (x_tsw (t := 296) d_law_40 rfl) (k h 296 (by decide))
      · rw [q]; exact m_Law.n0 (x_tsw (t := 321) d_law_40 rfl) (k h 321 (by decide))
      · rw [q]; exact m_Law.n0 (x_tsw (t := 346) d_law_40 rfl) (k h 346 (by decide))
      · rw [q]; exact m_Law.n0 (x_tsw (t := 359) d_law_40 rfl) (k h 359 (by decide))
      · rw [q]; exact m_Law.n0 (x_tsw (t := 396) d_law_40 rfl) (k h 396 (by decide))
      · rw [q]; exact m_Law.n0 (x_tsw (t := 452) d_law_40 rfl) (k h 452 (by decide))
      · rw [q]; exact m_Law.n0 (x_tsw (t := 477) d_law_40 rfl) (k h 477 (by decide))
      · rw [q]; exact m_Law.n0 (x_tsw (t := 502) d_law_40 rfl) (k h 502 (by decide))
      · rw [q]; exact m_Law.n0 (x_tsw (t := 539) d_law_40 rfl) (k h 539 (by decide))
      · rw [q]; exact m_Law.n0 (x_tsw (t := 607) d_law_40 rfl) (k h 607 (by decide))
      · rw [q]; exact m_Law.n0 (x_tsw (t := 644) d_law_40 rfl) (k h 644 (by decide))
      · rw [q]; exact m_Law.n0 (x_tsw (t := 681) d_law_40 rfl) (k h 681 (by decide))
      · rw [q]; exact m_Law.n0 (x_tsw (t := 754) d_law_40 rfl) (k h 754 (by decide))
      · rw [q]; exact m_Law.n0 (x_tsw (t := 791) d_law_40 rfl) (k h 791 (by decide))
  · have e : m_c2 .gt (Int32.ofNat i) (Int32.ofNat n - 6) = true := by
      by_cases h6 : n < 6
      · exact c2_gt6 n h6 i (by omega)
      · rw [show Int32.ofNat n - 6 = Int32.ofNat (n - 6) from m_n_sub (b := 6) (by omega), gt_n (by omega) (by omega)]
        exact decide_eq_true (by omega)
    exact m_Law.n0 (x_ict (t := 822) d_law_30 rfl e) m_Law.fin
theorem w_next (hi : i + 6 < 2147483648) (k : m_Law l n sc (23, [(4, .int (Int32.ofNat (i + 6))), (3, .ref 630), (2, .ref 583), (1, .ref 512), (0, .ref 500)], [], w) c0 s0) : m_Law l n sc (816, [(4, .int (Int32.ofNat i)), (3, .ref 630), (2, .ref 583), (1, .ref 512), (0, .ref 500)], [], w) c0 s0 := by
  refine m_Law.n0 (x_iinc (z := Int32.ofNat (i + 6)) d_law_816 rfl rfl (m_n_add i 6) (show m_put1 _ _ _ = [(4, _), (3, _), (2, _), (1, _), (0, _)] from rfl)) ?_
  exact m_Law.n0 (x_goto d_law_819 rfl) k
end
