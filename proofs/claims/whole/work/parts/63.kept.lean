/-! Rows that later parts stand on: steps, bitCount, reads of the reference's cells. -/
theorem x_iushr {ic : mI → mF → Option mR} {I : mI} {pc pc' : Nat} {lv : List (Nat × Value)} {r : List Value} {w : List mM} {x y z : Int32} (hd : m_dn I pc .iushr 1 pc') (hz : (x.toUInt32 >>> (y.toUInt32 &&& Int32.toUInt32 31)).toInt32 = z) : m_nx ic I (pc, lv, .int y :: .int x :: r, w) = some ((pc', lv, .int z :: r, w), 0, 0, 0, 0) := x_b2 hd (fun _ => rfl) hz
theorem x_ineg {ic : mI → mF → Option mR} {I : mI} {pc pc' : Nat} {lv : List (Nat × Value)} {r : List Value} {w : List mM} {x z : Int32} (hd : m_dn I pc .ineg 1 pc') (hz : -x = z) : m_nx ic I (pc, lv, .int x :: r, w) = some ((pc', lv, .int z :: r, w), 0, 0, 0, 0) := x_ps hd (by rw [← hz]; rfl)
theorem x_ldcw {ic : mI → mF → Option mR} {I : mI} {pc pc' k kk : Nat} {lv : List (Nat × Value)} {st : List Value} {w : List mM} {v : Value} (hd : m_dn I pc (.ldc_w k) 3 pc') (h : m_oe I 2 k = some (kk, v)) : m_nx ic I (pc, lv, st, w) = some ((pc', lv, v :: st, w), 0, 0, 0, 0) := by
  refine x_hs hd rfl rfl rfl ?_
  simp only [m_hs, m_ldc, h]
theorem q_100 : m_mt[100]? = some M_100 := by rfl
theorem b_100 : m_bOk M_100 := (m_mt_ok M_100 (List.mem_of_getElem? q_100)).body
theorem d_100_0 : m_dn M_100 0 (.iload_n 0) 1 1 := by decide +kernel
theorem d_100_1 : m_dn M_100 1 (.iload_n 0) 1 2 := by decide +kernel
theorem d_100_10 : m_dn M_100 10 (.iload_n 0) 1 11 := by decide +kernel
theorem d_100_11 : m_dn M_100 11 (.ldc_w 266) 3 14 := by decide +kernel
theorem d_100_14 : m_dn M_100 14 (.iand) 1 15 := by decide +kernel
theorem d_100_15 : m_dn M_100 15 (.iload_n 0) 1 16 := by decide +kernel
theorem d_100_16 : m_dn M_100 16 (.iconst 2) 1 17 := by decide +kernel
theorem d_100_17 : m_dn M_100 17 (.iushr) 1 18 := by decide +kernel
theorem d_100_18 : m_dn M_100 18 (.ldc_w 266) 3 21 := by decide +kernel
theorem d_100_2 : m_dn M_100 2 (.iconst 1) 1 3 := by decide +kernel
theorem d_100_21 : m_dn M_100 21 (.iand) 1 22 := by decide +kernel
theorem d_100_22 : m_dn M_100 22 (.iadd) 1 23 := by decide +kernel
theorem d_100_23 : m_dn M_100 23 (.istore_n 0) 1 24 := by decide +kernel
theorem d_100_24 : m_dn M_100 24 (.iload_n 0) 1 25 := by decide +kernel
theorem d_100_25 : m_dn M_100 25 (.iload_n 0) 1 26 := by decide +kernel
theorem d_100_26 : m_dn M_100 26 (.iconst 4) 1 27 := by decide +kernel
theorem d_100_27 : m_dn M_100 27 (.iushr) 1 28 := by decide +kernel
theorem d_100_28 : m_dn M_100 28 (.iadd) 1 29 := by decide +kernel
theorem d_100_29 : m_dn M_100 29 (.ldc_w 267) 3 32 := by decide +kernel
theorem d_100_3 : m_dn M_100 3 (.iushr) 1 4 := by decide +kernel
theorem d_100_32 : m_dn M_100 32 (.iand) 1 33 := by decide +kernel
theorem d_100_33 : m_dn M_100 33 (.istore_n 0) 1 34 := by decide +kernel
theorem d_100_34 : m_dn M_100 34 (.iload_n 0) 1 35 := by decide +kernel
theorem d_100_35 : m_dn M_100 35 (.iload_n 0) 1 36 := by decide +kernel
theorem d_100_36 : m_dn M_100 36 (.bipush 8) 2 38 := by decide +kernel
theorem d_100_38 : m_dn M_100 38 (.iushr) 1 39 := by decide +kernel
theorem d_100_39 : m_dn M_100 39 (.iadd) 1 40 := by decide +kernel
theorem d_100_4 : m_dn M_100 4 (.ldc_w 265) 3 7 := by decide +kernel
theorem d_100_40 : m_dn M_100 40 (.istore_n 0) 1 41 := by decide +kernel
theorem d_100_41 : m_dn M_100 41 (.iload_n 0) 1 42 := by decide +kernel
theorem d_100_42 : m_dn M_100 42 (.iload_n 0) 1 43 := by decide +kernel
theorem d_100_43 : m_dn M_100 43 (.bipush 16) 2 45 := by decide +kernel
theorem d_100_45 : m_dn M_100 45 (.iushr) 1 46 := by decide +kernel
theorem d_100_46 : m_dn M_100 46 (.iadd) 1 47 := by decide +kernel
theorem d_100_47 : m_dn M_100 47 (.istore_n 0) 1 48 := by decide +kernel
theorem d_100_48 : m_dn M_100 48 (.iload_n 0) 1 49 := by decide +kernel
theorem d_100_49 : m_dn M_100 49 (.bipush 63) 2 51 := by decide +kernel
theorem d_100_51 : m_dn M_100 51 (.iand) 1 52 := by decide +kernel
theorem d_100_52 : m_dn M_100 52 (.ireturn) 1 53 := by decide +kernel
theorem d_100_7 : m_dn M_100 7 (.iand) 1 8 := by decide +kernel
theorem d_100_8 : m_dn M_100 8 (.isub) 1 9 := by decide +kernel
theorem d_100_9 : m_dn M_100 9 (.istore_n 0) 1 10 := by decide +kernel
def F_bc (x : Int32) : Int32 := ((((((((x - (((x : Int32).toUInt32 >>> (((1 : Int32) : Int32).toUInt32 &&& Int32.toUInt32 31)).toInt32 &&& (1431655765 : Int32))) &&& (858993459 : Int32)) + ((((x - (((x : Int32).toUInt32 >>> (((1 : Int32) : Int32).toUInt32 &&& Int32.toUInt32 31)).toInt32 &&& (1431655765 : Int32))) : Int32).toUInt32 >>> (((2 : Int32) : Int32).toUInt32 &&& Int32.toUInt32 31)).toInt32 &&& (858993459 : Int32))) + (((((x - (((x : Int32).toUInt32 >>> (((1 : Int32) : Int32).toUInt32 &&& Int32.toUInt32 31)).toInt32 &&& (1431655765 : Int32))) &&& (858993459 : Int32)) + ((((x - (((x : Int32).toUInt32 >>> (((1 : Int32) : Int32).toUInt32 &&& Int32.toUInt32 31)).toInt32 &&& (1431655765 : Int32))) : Int32).toUInt32 >>> (((2 : Int32) : Int32).toUInt32 &&& Int32.toUInt32 31)).toInt32 &&& (858993459 : Int32))) : Int32).toUInt32 >>> (((4 : Int32) : Int32).toUInt32 &&& Int32.toUInt32 31)).toInt32) &&& (252645135 : Int32)) + (((((((x - (((x : Int32).toUInt32 >>> (((1 : Int32) : Int32).toUInt32 &&& Int32.toUInt32 31)).toInt32 &&& (1431655765 : Int32))) &&& (858993459 : Int32)) + ((((x - (((x : Int32).toUInt32 >>> (((1 : Int32) : Int32).toUInt32 &&& Int32.toUInt32 31)).toInt32 &&& (1431655765 : Int32))) : Int32).toUInt32 >>> (((2 : Int32) : Int32).toUInt32 &&& Int32.toUInt32 31)).toInt32 &&& (858993459 : Int32))) + (((((x - (((x : Int32).toUInt32 >>> (((1 : Int32) : Int32).toUInt32 &&& Int32.toUInt32 31)).toInt32 &&& (1431655765 : Int32))) &&& (858993459 : Int32)) + ((((x - (((x : Int32).toUInt32 >>> (((1 : Int32) : Int32).toUInt32 &&& Int32.toUInt32 31)).toInt32 &&& (1431655765 : Int32))) : Int32).toUInt32 >>> (((2 : Int32) : Int32).toUInt32 &&& Int32.toUInt32 31)).toInt32 &&& (858993459 : Int32))) : Int32).toUInt32 >>> (((4 : Int32) : Int32).toUInt32 &&& Int32.toUInt32 31)).toInt32) &&& (252645135 : Int32)) : Int32).toUInt32 >>> (((8 : Int32) : Int32).toUInt32 &&& Int32.toUInt32 31)).toInt32) + ((((((((x - (((x : Int32).toUInt32 >>> (((1 : Int32) : Int32).toUInt32 &&& Int32.toUInt32 31)).toInt32 &&& (1431655765 : Int32))) &&& (858993459 : Int32)) + ((((x - (((x : Int32).toUInt32 >>> (((1 : Int32) : Int32).toUInt32 &&& Int32.toUInt32 31)).toInt32 &&& (1431655765 : Int32))) : Int32).toUInt32 >>> (((2 : Int32) : Int32).toUInt32 &&& Int32.toUInt32 31)).toInt32 &&& (858993459 : Int32))) + (((((x - (((x : Int32).toUInt32 >>> (((1 : Int32) : Int32).toUInt32 &&& Int32.toUInt32 31)).toInt32 &&& (1431655765 : Int32))) &&& (858993459 : Int32)) + ((((x - (((x : Int32).toUInt32 >>> (((1 : Int32) : Int32).toUInt32 &&& Int32.toUInt32 31)).toInt32 &&& (1431655765 : Int32))) : Int32).toUInt32 >>> (((2 : Int32) : Int32).toUInt32 &&& Int32.toUInt32 31)).toInt32 &&& (858993459 : Int32))) : Int32).toUInt32 >>> (((4 : Int32) : Int32).toUInt32 &&& Int32.toUInt32 31)).toInt32) &&& (252645135 : Int32)) + (((((((x - (((x : Int32).toUInt32 >>> (((1 : Int32) : Int32).toUInt32 &&& Int32.toUInt32 31)).toInt32 &&& (1431655765 : Int32))) &&& (858993459 : Int32)) + ((((x - (((x : Int32).toUInt32 >>> (((1 : Int32) : Int32).toUInt32 &&& Int32.toUInt32 31)).toInt32 &&& (1431655765 : Int32))) : Int32).toUInt32 >>> (((2 : Int32) : Int32).toUInt32 &&& Int32.toUInt32 31)).toInt32 &&& (858993459 : Int32))) + (((((x - (((x : Int32).toUInt32 >>> (((1 : Int32) : Int32).toUInt32 &&& Int32.toUInt32 31)).toInt32 &&& (1431655765 : Int32))) &&& (858993459 : Int32)) + ((((x - (((x : Int32).toUInt32 >>> (((1 : Int32) : Int32).toUInt32 &&& Int32.toUInt32 31)).toInt32 &&& (1431655765 : Int32))) : Int32).toUInt32 >>> (((2 : Int32) : Int32).toUInt32 &&& Int32.toUInt32 31)).toInt32 &&& (858993459 : Int32))) : Int32).toUInt32 >>> (((4 : Int32) : Int32).toUInt32 &&& Int32.toUInt32 31)).toInt32) &&& (252645135 : Int32)) : Int32).toUInt32 >>> (((8 : Int32) : Int32).toUInt32 &&& Int32.toUInt32 31)).toInt32) : Int32).toUInt32 >>> (((16 : Int32) : Int32).toUInt32 &&& Int32.toUInt32 31)).toInt32) &&& (63 : Int32))
theorem P_bc {l : Launch} {w : List mM} {x : Int32}  : m_Rs l M_100 (m_ent M_100 [.int x] w) (fun v w' => v = some (.int (F_bc x)) ∧ w' = w) 0 0 0 0 := by
  show m_Rs l M_100 (0, [(0, .int x)], [], w) _ 0 0 0 0
  refine m_Rs.n0 b_100 (x_iload_n d_100_0 rfl) ?_
  refine m_Rs.n0 b_100 (x_iload_n d_100_1 rfl) ?_
  refine m_Rs.n0 b_100 (x_iconst (z := 1) d_100_2 (by decide)) ?_
  refine m_Rs.n0 b_100 (x_iushr d_100_3 rfl) ?_
  refine m_Rs.n0 b_100 (x_ldcw (v := .int 1431655765) d_100_4 rfl) ?_
  refine m_Rs.n0 b_100 (x_iand d_100_7 rfl) ?_
  refine m_Rs.n0 b_100 (x_isub d_100_8 rfl) ?_
  refine m_Rs.n0 b_100 (x_istore_n d_100_9 rfl (show m_put1 _ _ _ = [(0, _)] from rfl)) ?_
  refine m_Rs.n0 b_100 (x_iload_n d_100_10 rfl) ?_
  refine m_Rs.n0 b_100 (x_ldcw (v := .int 858993459) d_100_11 rfl) ?_
  refine m_Rs.n0 b_100 (x_iand d_100_14 rfl) ?_
  refine m_Rs.n0 b_100 (x_iload_n d_100_15 rfl) ?_
  refine m_Rs.n0 b_100 (x_iconst (z := 2) d_100_16 (by decide)) ?_
  refine m_Rs.n0 b_100 (x_iushr d_100_17 rfl) ?_
  refine m_Rs.n0 b_100 (x_ldcw (v := .int 858993459) d_100_18 rfl) ?_
  refine m_Rs.n0 b_100 (x_iand d_100_21 rfl) ?_
  refine m_Rs.n0 b_100 (x_iadd d_100_22 rfl) ?_
  refine m_Rs.n0 b_100 (x_istore_n d_100_23 rfl (show m_put1 _ _ _ = [(0, _)] from rfl)) ?_
  refine m_Rs.n0 b_100 (x_iload_n d_100_24 rfl) ?_
  refine m_Rs.n0 b_100 (x_iload_n d_100_25 rfl) ?_
  refine m_Rs.n0 b_100 (x_iconst (z := 4) d_100_26 (by decide)) ?_
  refine m_Rs.n0 b_100 (x_iushr d_100_27 rfl) ?_
  refine m_Rs.n0 b_100 (x_iadd d_100_28 rfl) ?_
  refine m_Rs.n0 b_100 (x_ldcw (v := .int 252645135) d_100_29 rfl) ?_
  refine m_Rs.n0 b_100 (x_iand d_100_32 rfl) ?_
  refine m_Rs.n0 b_100 (x_istore_n d_100_33 rfl (show m_put1 _ _ _ = [(0, _)] from rfl)) ?_
  refine m_Rs.n0 b_100 (x_iload_n d_100_34 rfl) ?_
  refine m_Rs.n0 b_100 (x_iload_n d_100_35 rfl) ?_
  refine m_Rs.n0 b_100 (x_bipush (z := 8) d_100_36 (by decide)) ?_
  refine m_Rs.n0 b_100 (x_iushr d_100_38 rfl) ?_
  refine m_Rs.n0 b_100 (x_iadd d_100_39 rfl) ?_
  refine m_Rs.n0 b_100 (x_istore_n d_100_40 rfl (show m_put1 _ _ _ = [(0, _)] from rfl)) ?_
  refine m_Rs.n0 b_100 (x_iload_n d_100_41 rfl) ?_
  refine m_Rs.n0 b_100 (x_iload_n d_100_42 rfl) ?_
  refine m_Rs.n0 b_100 (x_bipush (z := 16) d_100_43 (by decide)) ?_
  refine m_Rs.n0 b_100 (x_iushr d_100_45 rfl) ?_
  refine m_Rs.n0 b_100 (x_iadd d_100_46 rfl) ?_
  refine m_Rs.n0 b_100 (x_istore_n d_100_47 rfl (show m_put1 _ _ _ = [(0, _)] from rfl)) ?_
  refine m_Rs.n0 b_100 (x_iload_n d_100_48 rfl) ?_
  refine m_Rs.n0 b_100 (x_bipush (z := 63) d_100_49 (by decide)) ?_
  refine m_Rs.n0 b_100 (x_iand d_100_51 rfl) ?_
  refine m_Rs.ret b_100 (m_rt_ir d_100_52 rfl rfl) ?_
  exact ⟨by simp only [F_bc], rfl⟩
def f_M (gm : Nat → Int32) : List Value := [.int (gm 0), .ref 584, .int (gm 2), .int (gm 3), .int (gm 4), .int (gm 5), .int (gm 6), .int (gm 7), .int (gm 8), .int (gm 9), .int (gm 10), .int (gm 11), .int (gm 12), .int (gm 13), .int (gm 14), .int (gm 15), .int (gm 16), .int (gm 17), .int (gm 18), .int (gm 19), .int (gm 20), .ref 585, .ref 586, .int (gm 23), .int (gm 24), .int (gm 25), .int (gm 26), .int (gm 27), .int (gm 28), .int (gm 29), .int (gm 30), .int (gm 31), .ref 587, .ref 588, .ref 589, .ref 590, .int (gm 36), .int (gm 37), .int (gm 38), .int (gm 39), .ref 591, .ref 592, .ref 593, .ref 594, .ref 595, .ref 596, .ref 597, .ref 598, .ref 599, .ref 600, .ref 601, .ref 602, .ref 603, .ref 604, .ref 605, .ref 606, .ref 607, .ref 608, .int (gm 58), .ref 609, .ref 610, .ref 611, .ref 612, .ref 613, .ref 614, .ref 615, .ref 616, .ref 617, .ref 618, .ref 619, .int (gm 70), .int (gm 71), .ref 620, .ref 621, .int (gm 74), .ref 622, .ref 623, .int (gm 77), .ref 624, .ref 625, .int (gm 80), .int (gm 81), .int (gm 82), .ref 626, .int (gm 84), .int (gm 85), .int (gm 86), .int (gm 87), .ref 627, .ref 628, .ref 629, .int (gm 91)]
def m_ix (y : Int32) (N : Nat) : Prop := ¬ y < 0 ∧ y.toNatClampNeg < N
def m_rd (t : Nat) (els : List (Nat × Value)) (y : Int32) : Int32 := m_toI (m_el t els y.toNatClampNeg)
theorem x_ldG {ic : mI → mF → Option mR} {I : mI} {pc pc' a N : Nat} {lv : List (Nat × Value)} {r : List Value} {w : List mM} {y : Int32} {t : Nat} {els : List (Nat × Value)} (hd : m_dn I pc .iaload 1 pc') (hw : m_at w a = some (.inl (t, N, els))) (ht : decide (t = 0) = true) (hi : m_ix y N) : m_nx ic I (pc, lv, .int y :: .ref a :: r, w) = some ((pc', lv, .int (m_rd t els y) :: r, w), 0, 0, 0, 0) := by
  refine x_hs hd rfl rfl rfl ?_
  have h0 : t = 0 := of_decide_eq_true ht
  subst h0
  have h2 : ¬ (y < 0 ∨ N ≤ y.toNatClampNeg) := fun h => h.elim hi.1 (fun h => absurd hi.2 (Nat.not_lt.mpr h))
  have e1 : ¬ ((0 : Nat) = 1) := by decide
  simp only [m_hs, m_ald, hw, m_rd, decide_true]
  rw [if_pos ⟨trivial, h2⟩, if_neg e1]
theorem x_bdG {ic : mI → mF → Option mR} {I : mI} {pc pc' a N : Nat} {lv : List (Nat × Value)} {r : List Value} {w : List mM} {y : Int32} {t : Nat} {els : List (Nat × Value)} (hd : m_dn I pc .baload 1 pc') (hw : m_at w a = some (.inl (t, N, els))) (ht : decide (t = 4) = true) (hi : m_ix y N) : m_nx ic I (pc, lv, .int y :: .ref a :: r, w) = some ((pc', lv, .int (m_rd t els y) :: r, w), 0, 0, 0, 0) := by
  refine x_hs hd rfl rfl rfl ?_
  have h0 : t = 4 := of_decide_eq_true ht
  subst h0
  have h2 : ¬ (y < 0 ∨ N ≤ y.toNatClampNeg) := fun h => h.elim hi.1 (fun h => absurd hi.2 (Nat.not_lt.mpr h))
  have e1 : ¬ ((4 : Nat) = 1) := by decide
  simp only [m_hs, m_ald, hw, m_rd]
  rw [if_pos ⟨by decide, h2⟩, if_neg e1]
abbrev m_nb (x : Int32) : Prop := narrow .boolean (.int x) = .int x
theorem m_nb0 : m_nb 0 := by decide
theorem m_nb1 : m_nb 1 := by decide
