/-! Loops over what is empty. Written by wip/tool/loops.py. -/
theorem a_601 : m_at w_1 601 = some (.inl (4, 7168, [])) := rfl
theorem a_609 : m_at w_1 609 = some (.inl (4, 896, [])) := rfl
theorem d_297_0 : m_dn M_297 0 (.iconst 0) 1 1 := by decide +kernel
theorem d_297_1 : m_dn M_297 1 (.istore_n 3) 1 2 := by decide +kernel
theorem d_297_11 : m_dn M_297 11 (.sipush 1024) 3 14 := by decide +kernel
theorem d_297_14 : m_dn M_297 14 (.iload_n 1) 1 15 := by decide +kernel
theorem d_297_15 : m_dn M_297 15 (.imul) 1 16 := by decide +kernel
theorem d_297_16 : m_dn M_297 16 (.sipush 1024) 3 19 := by decide +kernel
theorem d_297_19 : m_dn M_297 19 (.iadd) 1 20 := by decide +kernel
theorem d_297_2 : m_dn M_297 2 (.sipush 1024) 3 5 := by decide +kernel
theorem d_297_20 : m_dn M_297 20 (.if_icmp .ge 46) 3 23 := by decide +kernel
theorem d_297_23 : m_dn M_297 23 (.iload_n 3) 1 24 := by decide +kernel
theorem d_297_24 : m_dn M_297 24 (.aload_n 0) 1 25 := by decide +kernel
theorem d_297_25 : m_dn M_297 25 (.getfield 66) 3 28 := by decide +kernel
theorem d_297_28 : m_dn M_297 28 (.iload 4) 2 30 := by decide +kernel
theorem d_297_30 : m_dn M_297 30 (.baload) 1 31 := by decide +kernel
theorem d_297_31 : m_dn M_297 31 (.ifCond .eq 26) 3 34 := by decide +kernel
theorem d_297_5 : m_dn M_297 5 (.iload_n 1) 1 6 := by decide +kernel
theorem d_297_57 : m_dn M_297 57 (.iconst 0) 1 58 := by decide +kernel
theorem d_297_58 : m_dn M_297 58 (.iadd) 1 59 := by decide +kernel
theorem d_297_59 : m_dn M_297 59 (.istore_n 3) 1 60 := by decide +kernel
theorem d_297_6 : m_dn M_297 6 (.imul) 1 7 := by decide +kernel
theorem d_297_60 : m_dn M_297 60 (.iinc 4 1) 3 63 := by decide +kernel
theorem d_297_63 : m_dn M_297 63 (.goto (-54)) 3 66 := by decide +kernel
theorem d_297_66 : m_dn M_297 66 (.iload_n 3) 1 67 := by decide +kernel
theorem d_297_67 : m_dn M_297 67 (.ireturn) 1 68 := by decide +kernel
theorem d_297_7 : m_dn M_297 7 (.istore 4) 2 9 := by decide +kernel
theorem d_297_9 : m_dn M_297 9 (.iload 4) 2 11 := by decide +kernel
theorem d_330_0 : m_dn M_330 0 (.iconst 0) 1 1 := by decide +kernel
theorem d_330_1 : m_dn M_330 1 (.istore_n 2) 1 2 := by decide +kernel
theorem d_330_118 : m_dn M_330 118 (.return_) 1 119 := by decide +kernel
theorem d_330_12 : m_dn M_330 12 (.iload_n 1) 1 13 := by decide +kernel
theorem d_330_13 : m_dn M_330 13 (.imul) 1 14 := by decide +kernel
theorem d_330_14 : m_dn M_330 14 (.istore_n 3) 1 15 := by decide +kernel
theorem d_330_15 : m_dn M_330 15 (.iload_n 3) 1 16 := by decide +kernel
theorem d_330_16 : m_dn M_330 16 (.sipush 128) 3 19 := by decide +kernel
theorem d_330_19 : m_dn M_330 19 (.iload_n 1) 1 20 := by decide +kernel
theorem d_330_2 : m_dn M_330 2 (.iload_n 2) 1 3 := by decide +kernel
theorem d_330_20 : m_dn M_330 20 (.imul) 1 21 := by decide +kernel
theorem d_330_21 : m_dn M_330 21 (.sipush 128) 3 24 := by decide +kernel
theorem d_330_24 : m_dn M_330 24 (.iadd) 1 25 := by decide +kernel
theorem d_330_25 : m_dn M_330 25 (.if_icmp .ge 56) 3 28 := by decide +kernel
theorem d_330_28 : m_dn M_330 28 (.aload_n 0) 1 29 := by decide +kernel
theorem d_330_29 : m_dn M_330 29 (.getfield 91) 3 32 := by decide +kernel
theorem d_330_3 : m_dn M_330 3 (.iconst (-1)) 1 4 := by decide +kernel
theorem d_330_32 : m_dn M_330 32 (.iload_n 3) 1 33 := by decide +kernel
theorem d_330_33 : m_dn M_330 33 (.baload) 1 34 := by decide +kernel
theorem d_330_34 : m_dn M_330 34 (.ifCond .eq 41) 3 37 := by decide +kernel
theorem d_330_4 : m_dn M_330 4 (.if_icmp .eq 114) 3 7 := by decide +kernel
theorem d_330_7 : m_dn M_330 7 (.iconst (-1)) 1 8 := by decide +kernel
theorem d_330_75 : m_dn M_330 75 (.iinc 3 1) 3 78 := by decide +kernel
theorem d_330_78 : m_dn M_330 78 (.goto (-63)) 3 81 := by decide +kernel
theorem d_330_8 : m_dn M_330 8 (.istore_n 2) 1 9 := by decide +kernel
theorem d_330_81 : m_dn M_330 81 (.iload_n 2) 1 82 := by decide +kernel
theorem d_330_82 : m_dn M_330 82 (.iconst (-1)) 1 83 := by decide +kernel
theorem d_330_83 : m_dn M_330 83 (.if_icmp .ne 6) 3 86 := by decide +kernel
theorem d_330_86 : m_dn M_330 86 (.goto (-84)) 3 89 := by decide +kernel
theorem d_330_9 : m_dn M_330 9 (.sipush 128) 3 12 := by decide +kernel
theorem d_345_104 : m_dn M_345 104 (.iload 6) 2 106 := by decide +kernel
theorem d_345_106 : m_dn M_345 106 (.sipush 128) 3 109 := by decide +kernel
theorem d_345_109 : m_dn M_345 109 (.iload_n 1) 1 110 := by decide +kernel
theorem d_345_110 : m_dn M_345 110 (.imul) 1 111 := by decide +kernel
theorem d_345_111 : m_dn M_345 111 (.sipush 128) 3 114 := by decide +kernel
theorem d_345_114 : m_dn M_345 114 (.iadd) 1 115 := by decide +kernel
theorem d_345_115 : m_dn M_345 115 (.if_icmp .ge 29) 3 118 := by decide +kernel
theorem d_345_118 : m_dn M_345 118 (.iload 5) 2 120 := by decide +kernel
theorem d_345_120 : m_dn M_345 120 (.aload_n 0) 1 121 := by decide +kernel
theorem d_345_121 : m_dn M_345 121 (.getfield 91) 3 124 := by decide +kernel
theorem d_345_124 : m_dn M_345 124 (.iload 6) 2 126 := by decide +kernel
theorem d_345_126 : m_dn M_345 126 (.baload) 1 127 := by decide +kernel
theorem d_345_127 : m_dn M_345 127 (.ifCond .eq 7) 3 130 := by decide +kernel
theorem d_345_134 : m_dn M_345 134 (.iconst 0) 1 135 := by decide +kernel
theorem d_345_135 : m_dn M_345 135 (.iadd) 1 136 := by decide +kernel
theorem d_345_136 : m_dn M_345 136 (.istore 5) 2 138 := by decide +kernel
theorem d_345_138 : m_dn M_345 138 (.iinc 6 1) 3 141 := by decide +kernel
theorem d_345_141 : m_dn M_345 141 (.goto (-37)) 3 144 := by decide +kernel
theorem d_345_29 : m_dn M_345 29 (.iload 6) 2 31 := by decide +kernel
theorem d_345_31 : m_dn M_345 31 (.sipush 1024) 3 34 := by decide +kernel
theorem d_345_34 : m_dn M_345 34 (.iload_n 1) 1 35 := by decide +kernel
theorem d_345_35 : m_dn M_345 35 (.imul) 1 36 := by decide +kernel
theorem d_345_36 : m_dn M_345 36 (.sipush 1024) 3 39 := by decide +kernel
theorem d_345_39 : m_dn M_345 39 (.iadd) 1 40 := by decide +kernel
theorem d_345_40 : m_dn M_345 40 (.if_icmp .ge 57) 3 43 := by decide +kernel
theorem d_345_43 : m_dn M_345 43 (.iload_n 3) 1 44 := by decide +kernel
theorem d_345_44 : m_dn M_345 44 (.aload_n 0) 1 45 := by decide +kernel
theorem d_345_45 : m_dn M_345 45 (.getfield 66) 3 48 := by decide +kernel
theorem d_345_48 : m_dn M_345 48 (.iload 6) 2 50 := by decide +kernel
theorem d_345_50 : m_dn M_345 50 (.baload) 1 51 := by decide +kernel
theorem d_345_51 : m_dn M_345 51 (.ifCond .eq 7) 3 54 := by decide +kernel
theorem d_345_58 : m_dn M_345 58 (.iconst 0) 1 59 := by decide +kernel
theorem d_345_59 : m_dn M_345 59 (.iadd) 1 60 := by decide +kernel
theorem d_345_60 : m_dn M_345 60 (.istore_n 3) 1 61 := by decide +kernel
theorem d_345_61 : m_dn M_345 61 (.iload 4) 2 63 := by decide +kernel
theorem d_345_63 : m_dn M_345 63 (.aload_n 0) 1 64 := by decide +kernel
theorem d_345_64 : m_dn M_345 64 (.getfield 66) 3 67 := by decide +kernel
theorem d_345_67 : m_dn M_345 67 (.iload 6) 2 69 := by decide +kernel
theorem d_345_69 : m_dn M_345 69 (.baload) 1 70 := by decide +kernel
theorem d_345_70 : m_dn M_345 70 (.ifCond .eq 17) 3 73 := by decide +kernel
theorem d_345_87 : m_dn M_345 87 (.iconst 0) 1 88 := by decide +kernel
theorem d_345_88 : m_dn M_345 88 (.iadd) 1 89 := by decide +kernel
theorem d_345_89 : m_dn M_345 89 (.istore 4) 2 91 := by decide +kernel
theorem d_345_91 : m_dn M_345 91 (.iinc 6 1) 3 94 := by decide +kernel
theorem d_345_94 : m_dn M_345 94 (.goto (-65)) 3 97 := by decide +kernel
def f_m (c : Int32) : List Value := [.int 0, .ref 584, .int 0, .int (-1), .int 0, .int 0, .int 0, .int 0, .int 0, .int 0, .int 0, .int 0, .int 0, .int 0, .int 0, .int 0, .int 0, .int 0, .int 0, .int 0, .int 0, .ref 585, .ref 586, .int 0, .int 0, .int 0, .int 0, .int 0, .int 0, .int 0, .int 0, .int 0, .ref 587, .ref 588, .ref 589, .ref 590, .int c, .int 0, .int 0, .int 0, .ref 591, .ref 592, .ref 593, .ref 594, .ref 595, .ref 596, .ref 597, .ref 598, .ref 599, .ref 600, .ref 601, .ref 602, .ref 603, .ref 604, .ref 605, .ref 606, .ref 607, .ref 608, .int 0, .ref 609, .ref 610, .ref 611, .ref 612, .ref 613, .ref 614, .ref 615, .ref 616, .ref 617, .ref 618, .ref 619, .int 0, .int 0, .ref 620, .ref 621, .int 0, .ref 622, .ref 623, .int 0, .ref 624, .ref 625, .int 0, .int 0, .int 0, .ref 626, .int 0, .int 0, .int 0, .int 0, .ref 627, .ref 628, .ref 629, .int 0]
theorem l_sizes {w : List mM} {c g : Int32} (hm : m_at w 583 = some (.inr (14, f_m c))) (ht : m_at w 601 = some (.inl (4, 7168, []))) {n : Nat} (hn : n < 7) : ∀ (d e : Nat), e + d = 1024 * n + 1024 → m_Rq M_297 (9, [(4, .int (Int32.ofNat e)), (3, .int 0), (0, .ref 583), (1, .int (Int32.ofNat n)), (2, .int g)], [], w) (fun v w' => v = some (.int 0) ∧ w' = w) 0 0 0 0 := by
  intro d
  induction d with
  | zero =>
    intro e he
    refine m_Rq.n0 (x_iload d_297_9 rfl) ?_
    refine m_Rq.n0 (x_sipush (z := 1024) d_297_11 (by decide)) ?_
    refine m_Rq.n0 (x_iload_n d_297_14 rfl) ?_
    refine m_Rq.n0 (x_imul (z := Int32.ofNat (1024 * n)) d_297_15 (m_n_mul _ _)) ?_
    refine m_Rq.n0 (x_sipush (z := 1024) d_297_16 (by decide)) ?_
    refine m_Rq.n0 (x_iadd (z := Int32.ofNat ((1024 * n) + 1024)) d_297_19 (m_n_add _ _)) ?_
    refine m_Rq.n0 (x_ict d_297_20 rfl (m_c2n (a := e) (b := ((1024 * n) + 1024)) (by omega) (by omega) (decide_eq_true (by omega)))) ?_
    refine m_Rq.n0 (x_iload_n d_297_66 rfl) ?_
    refine m_Rq.ir d_297_67 rfl rfl ?_
    exact ⟨rfl, rfl⟩
  | succ d ih =>
    intro e he
    refine m_Rq.n0 (x_iload d_297_9 rfl) ?_
    refine m_Rq.n0 (x_sipush (z := 1024) d_297_11 (by decide)) ?_
    refine m_Rq.n0 (x_iload_n d_297_14 rfl) ?_
    refine m_Rq.n0 (x_imul (z := Int32.ofNat (1024 * n)) d_297_15 (m_n_mul _ _)) ?_
    refine m_Rq.n0 (x_sipush (z := 1024) d_297_16 (by decide)) ?_
    refine m_Rq.n0 (x_iadd (z := Int32.ofNat ((1024 * n) + 1024)) d_297_19 (m_n_add _ _)) ?_
    refine m_Rq.n0 (x_icf d_297_20 rfl (m_c2n (a := e) (b := ((1024 * n) + 1024)) (by omega) (by omega) (decide_eq_false (by omega)))) ?_
    refine m_Rq.n0 (x_iload_n d_297_23 rfl) ?_
    refine m_Rq.n0 (x_aload_n d_297_24 rfl) ?_
    refine m_Rq.n0 (x_getf d_297_25 rfl hm rfl) ?_
    refine m_Rq.n0 (x_iload d_297_28 rfl) ?_
    refine m_Rq.n0 (x_baload (j := e) d_297_30 ht rfl (m_n_neg (by omega)) (m_n_cl (by omega)) (by omega) rfl) ?_
    refine m_Rq.n0 (x_ift d_297_31 rfl (by decide)) ?_
    refine m_Rq.n0 (x_iconst (z := 0) d_297_57 (by decide)) ?_
    refine m_Rq.n0 (x_iadd (z := 0) d_297_58 (by decide)) ?_
    refine m_Rq.n0 (x_istore_n d_297_59 rfl (show m_put1 _ _ _ = [(3, _), (4, _), (0, _), (1, _), (2, _)] from rfl)) ?_
    refine m_Rq.n0 (x_iinc (z := Int32.ofNat (e + 1)) d_297_60 rfl rfl (m_n_inc _) (show m_put1 _ _ _ = [(4, _), (3, _), (0, _), (1, _), (2, _)] from rfl)) ?_
    refine m_Rq.n0 (x_goto d_297_63 rfl) ?_
    exact ih (e + 1) (by omega)
theorem s_sizes {w : List mM} {c g : Int32} (hm : m_at w 583 = some (.inr (14, f_m c))) (ht : m_at w 601 = some (.inl (4, 7168, []))) {n : Nat} (hn : n < 7) : m_Rq M_297 (m_ent M_297 [.ref 583, .int (Int32.ofNat n), .int g] w) (fun v w' => v = some (.int 0) ∧ w' = w) 0 0 0 0 := by
  show m_Rq M_297 (0, [(0, .ref 583), (1, .int (Int32.ofNat n)), (2, .int g)], [], w) _ 0 0 0 0
  refine m_Rq.n0 (x_iconst (z := 0) d_297_0 (by decide)) ?_
  refine m_Rq.n0 (x_istore_n d_297_1 rfl (show m_put1 _ _ _ = [(3, _), (0, _), (1, _), (2, _)] from rfl)) ?_
  refine m_Rq.n0 (x_sipush (z := 1024) d_297_2 (by decide)) ?_
  refine m_Rq.n0 (x_iload_n d_297_5 rfl) ?_
  refine m_Rq.n0 (x_imul (z := Int32.ofNat (1024 * n)) d_297_6 (m_n_mul _ _)) ?_
  refine m_Rq.n0 (x_istore d_297_7 rfl (show m_put1 _ _ _ = [(4, _), (3, _), (0, _), (1, _), (2, _)] from rfl)) ?_
  exact l_sizes hm ht hn 1024 (1024 * n) rfl
theorem l_lapse {w : List mM} {c : Int32} (hm : m_at w 583 = some (.inr (14, f_m c))) (ho : m_at w 609 = some (.inl (4, 896, []))) {n : Nat} (hn : n < 7) : ∀ (d e : Nat), e + d = 128 * n + 128 → m_Rq M_330 (15, [(3, .int (Int32.ofNat e)), (2, .int (-1)), (0, .ref 583), (1, .int (Int32.ofNat n))], [], w) (fun v w' => v = none ∧ w' = w) 0 0 0 0 := by
  intro d
  induction d with
  | zero =>
    intro e he
    refine m_Rq.n0 (x_iload_n d_330_15 rfl) ?_
    refine m_Rq.n0 (x_sipush (z := 128) d_330_16 (by decide)) ?_
    refine m_Rq.n0 (x_iload_n d_330_19 rfl) ?_
    refine m_Rq.n0 (x_imul (z := Int32.ofNat (128 * n)) d_330_20 (m_n_mul _ _)) ?_
    refine m_Rq.n0 (x_sipush (z := 128) d_330_21 (by decide)) ?_
    refine m_Rq.n0 (x_iadd (z := Int32.ofNat ((128 * n) + 128)) d_330_24 (m_n_add _ _)) ?_
    refine m_Rq.n0 (x_ict d_330_25 rfl (m_c2n (a := e) (b := ((128 * n) + 128)) (by omega) (by omega) (decide_eq_true (by omega)))) ?_
    refine m_Rq.n0 (x_iload_n d_330_81 rfl) ?_
    refine m_Rq.n0 (x_iconst (z := (-1)) d_330_82 (by decide)) ?_
    refine m_Rq.n0 (x_icf d_330_83 rfl (by decide)) ?_
    refine m_Rq.n0 (x_goto d_330_86 rfl) ?_
    refine m_Rq.n0 (x_iload_n d_330_2 rfl) ?_
    refine m_Rq.n0 (x_iconst (z := (-1)) d_330_3 (by decide)) ?_
    refine m_Rq.n0 (x_ict d_330_4 rfl (by decide)) ?_
    refine m_Rq.vr d_330_118 rfl ?_
    exact ⟨rfl, rfl⟩
  | succ d ih =>
    intro e he
    refine m_Rq.n0 (x_iload_n d_330_15 rfl) ?_
    refine m_Rq.n0 (x_sipush (z := 128) d_330_16 (by decide)) ?_
    refine m_Rq.n0 (x_iload_n d_330_19 rfl) ?_
    refine m_Rq.n0 (x_imul (z := Int32.ofNat (128 * n)) d_330_20 (m_n_mul _ _)) ?_
    refine m_Rq.n0 (x_sipush (z := 128) d_330_21 (by decide)) ?_
    refine m_Rq.n0 (x_iadd (z := Int32.ofNat ((128 * n) + 128)) d_330_24 (m_n_add _ _)) ?_
    refine m_Rq.n0 (x_icf d_330_25 rfl (m_c2n (a := e) (b := ((128 * n) + 128)) (by omega) (by omega) (decide_eq_false (by omega)))) ?_
    refine m_Rq.n0 (x_aload_n d_330_28 rfl) ?_
    refine m_Rq.n0 (x_getf d_330_29 rfl hm rfl) ?_
    refine m_Rq.n0 (x_iload_n d_330_32 rfl) ?_
    refine m_Rq.n0 (x_baload (j := e) d_330_33 ho rfl (m_n_neg (by omega)) (m_n_cl (by omega)) (by omega) rfl) ?_
    refine m_Rq.n0 (x_ift d_330_34 rfl (by decide)) ?_
    refine m_Rq.n0 (x_iinc (z := Int32.ofNat (e + 1)) d_330_75 rfl rfl (m_n_inc _) (show m_put1 _ _ _ = [(3, _), (2, _), (0, _), (1, _)] from rfl)) ?_
    refine m_Rq.n0 (x_goto d_330_78 rfl) ?_
    exact ih (e + 1) (by omega)
theorem s_lapse {w : List mM} {c : Int32} (hm : m_at w 583 = some (.inr (14, f_m c))) (ho : m_at w 609 = some (.inl (4, 896, []))) {n : Nat} (hn : n < 7) : m_Rq M_330 (m_ent M_330 [.ref 583, .int (Int32.ofNat n)] w) (fun v w' => v = none ∧ w' = w) 0 0 0 0 := by
  show m_Rq M_330 (0, [(0, .ref 583), (1, .int (Int32.ofNat n))], [], w) _ 0 0 0 0
  refine m_Rq.n0 (x_iconst (z := 0) d_330_0 (by decide)) ?_
  refine m_Rq.n0 (x_istore_n d_330_1 rfl (show m_put1 _ _ _ = [(2, _), (0, _), (1, _)] from rfl)) ?_
  refine m_Rq.n0 (x_iload_n d_330_2 rfl) ?_
  refine m_Rq.n0 (x_iconst (z := (-1)) d_330_3 (by decide)) ?_
  refine m_Rq.n0 (x_icf d_330_4 rfl (by decide)) ?_
  refine m_Rq.n0 (x_iconst (z := (-1)) d_330_7 (by decide)) ?_
  refine m_Rq.n0 (x_istore_n d_330_8 rfl (show m_put1 _ _ _ = [(2, _), (0, _), (1, _)] from rfl)) ?_
  refine m_Rq.n0 (x_sipush (z := 128) d_330_9 (by decide)) ?_
  refine m_Rq.n0 (x_iload_n d_330_12 rfl) ?_
  refine m_Rq.n0 (x_imul (z := Int32.ofNat (128 * n)) d_330_13 (m_n_mul _ _)) ?_
  refine m_Rq.n0 (x_istore_n d_330_14 rfl (show m_put1 _ _ _ = [(3, _), (2, _), (0, _), (1, _)] from rfl)) ?_
  exact l_lapse hm ho hn 128 (128 * n) rfl
theorem l_node1 {q z : Int32} {n : Nat} (hn : n < 7) (kk : m_Rq M_345 (97, [(6, .int (Int32.ofNat (1024 * n + 1024))), (4, .int 0), (3, .int 0), (5, .int 0), (0, .ref 583), (1, .int (Int32.ofNat n)), (2, .int q)], [], w_1) (fun v w' => v = some (.int z) ∧ w' = w_1) 0 0 10 1000) : ∀ (d e : Nat), e + d = 1024 * n + 1024 → m_Rq M_345 (29, [(6, .int (Int32.ofNat e)), (4, .int 0), (3, .int 0), (5, .int 0), (0, .ref 583), (1, .int (Int32.ofNat n)), (2, .int q)], [], w_1) (fun v w' => v = some (.int z) ∧ w' = w_1) 0 0 10 1000 := by
  intro d
  induction d with
  | zero =>
    intro e he
    refine m_Rq.n0 (x_iload d_345_29 rfl) ?_
    refine m_Rq.n0 (x_sipush (z := 1024) d_345_31 (by decide)) ?_
    refine m_Rq.n0 (x_iload_n d_345_34 rfl) ?_
    refine m_Rq.n0 (x_imul (z := Int32.ofNat (1024 * n)) d_345_35 (m_n_mul _ _)) ?_
    refine m_Rq.n0 (x_sipush (z := 1024) d_345_36 (by decide)) ?_
    refine m_Rq.n0 (x_iadd (z := Int32.ofNat ((1024 * n) + 1024)) d_345_39 (m_n_add _ _)) ?_
    refine m_Rq.n0 (x_ict d_345_40 rfl (m_c2n (a := e) (b := ((1024 * n) + 1024)) (by omega) (by omega) (decide_eq_true (by omega)))) ?_
    rw [show e = 1024 * n + 1024 from he]; exact kk
  | succ d ih =>
    intro e he
    refine m_Rq.n0 (x_iload d_345_29 rfl) ?_
    refine m_Rq.n0 (x_sipush (z := 1024) d_345_31 (by decide)) ?_
    refine m_Rq.n0 (x_iload_n d_345_34 rfl) ?_
    refine m_Rq.n0 (x_imul (z := Int32.ofNat (1024 * n)) d_345_35 (m_n_mul _ _)) ?_
    refine m_Rq.n0 (x_sipush (z := 1024) d_345_36 (by decide)) ?_
    refine m_Rq.n0 (x_iadd (z := Int32.ofNat ((1024 * n) + 1024)) d_345_39 (m_n_add _ _)) ?_
    refine m_Rq.n0 (x_icf d_345_40 rfl (m_c2n (a := e) (b := ((1024 * n) + 1024)) (by omega) (by omega) (decide_eq_false (by omega)))) ?_
    refine m_Rq.n0 (x_iload_n d_345_43 rfl) ?_
    refine m_Rq.n0 (x_aload_n d_345_44 rfl) ?_
    refine m_Rq.n0 (x_getf d_345_45 rfl a_583 rfl) ?_
    refine m_Rq.n0 (x_iload d_345_48 rfl) ?_
    refine m_Rq.n0 (x_baload (j := e) d_345_50 a_601 rfl (m_n_neg (by omega)) (m_n_cl (by omega)) (by omega) rfl) ?_
    refine m_Rq.n0 (x_ift d_345_51 rfl (by decide)) ?_
    refine m_Rq.n0 (x_iconst (z := 0) d_345_58 (by decide)) ?_
    refine m_Rq.n0 (x_iadd (z := 0) d_345_59 (by decide)) ?_
    refine m_Rq.n0 (x_istore_n d_345_60 rfl (show m_put1 _ _ _ = [(3, _), (6, _), (4, _), (5, _), (0, _), (1, _), (2, _)] from rfl)) ?_
    refine m_Rq.n0 (x_iload d_345_61 rfl) ?_
    refine m_Rq.n0 (x_aload_n d_345_63 rfl) ?_
    refine m_Rq.n0 (x_getf d_345_64 rfl a_583 rfl) ?_
    refine m_Rq.n0 (x_iload d_345_67 rfl) ?_
    refine m_Rq.n0 (x_baload (j := e) d_345_69 a_601 rfl (m_n_neg (by omega)) (m_n_cl (by omega)) (by omega) rfl) ?_
    refine m_Rq.n0 (x_ift d_345_70 rfl (by decide)) ?_
    refine m_Rq.n0 (x_iconst (z := 0) d_345_87 (by decide)) ?_
    refine m_Rq.n0 (x_iadd (z := 0) d_345_88 (by decide)) ?_
    refine m_Rq.n0 (x_istore d_345_89 rfl (show m_put1 _ _ _ = [(4, _), (3, _), (6, _), (5, _), (0, _), (1, _), (2, _)] from rfl)) ?_
    refine m_Rq.n0 (x_iinc (z := Int32.ofNat (e + 1)) d_345_91 rfl rfl (m_n_inc _) (show m_put1 _ _ _ = [(6, _), (4, _), (3, _), (5, _), (0, _), (1, _), (2, _)] from rfl)) ?_
    refine m_Rq.n0 (x_goto d_345_94 rfl) ?_
    exact ih (e + 1) (by omega)
theorem l_node2 {q z : Int32} {n : Nat} (hn : n < 7) (kk : m_Rq M_345 (144, [(6, .int (Int32.ofNat (128 * n + 128))), (5, .int 0), (4, .int 0), (3, .int 0), (0, .ref 583), (1, .int (Int32.ofNat n)), (2, .int q)], [], w_1) (fun v w' => v = some (.int z) ∧ w' = w_1) 0 0 10 1000) : ∀ (d e : Nat), e + d = 128 * n + 128 → m_Rq M_345 (104, [(6, .int (Int32.ofNat e)), (5, .int 0), (4, .int 0), (3, .int 0), (0, .ref 583), (1, .int (Int32.ofNat n)), (2, .int q)], [], w_1) (fun v w' => v = some (.int z) ∧ w' = w_1) 0 0 10 1000 := by
  intro d
  induction d with
  | zero =>
    intro e he
    refine m_Rq.n0 (x_iload d_345_104 rfl) ?_
    refine m_Rq.n0 (x_sipush (z := 128) d_345_106 (by decide)) ?_
    refine m_Rq.n0 (x_iload_n d_345_109 rfl) ?_
    refine m_Rq.n0 (x_imul (z := Int32.ofNat (128 * n)) d_345_110 (m_n_mul _ _)) ?_
    refine m_Rq.n0 (x_sipush (z := 128) d_345_111 (by decide)) ?_
    refine m_Rq.n0 (x_iadd (z := Int32.ofNat ((128 * n) + 128)) d_345_114 (m_n_add _ _)) ?_
    refine m_Rq.n0 (x_ict d_345_115 rfl (m_c2n (a := e) (b := ((128 * n) + 128)) (by omega) (by omega) (decide_eq_true (by omega)))) ?_
    rw [show e = 128 * n + 128 from he]; exact kk
  | succ d ih =>
    intro e he
    refine m_Rq.n0 (x_iload d_345_104 rfl) ?_
    refine m_Rq.n0 (x_sipush (z := 128) d_345_106 (by decide)) ?_
    refine m_Rq.n0 (x_iload_n d_345_109 rfl) ?_
    refine m_Rq.n0 (x_imul (z := Int32.ofNat (128 * n)) d_345_110 (m_n_mul _ _)) ?_
    refine m_Rq.n0 (x_sipush (z := 128) d_345_111 (by decide)) ?_
    refine m_Rq.n0 (x_iadd (z := Int32.ofNat ((128 * n) + 128)) d_345_114 (m_n_add _ _)) ?_
    refine m_Rq.n0 (x_icf d_345_115 rfl (m_c2n (a := e) (b := ((128 * n) + 128)) (by omega) (by omega) (decide_eq_false (by omega)))) ?_
    refine m_Rq.n0 (x_iload d_345_118 rfl) ?_
    refine m_Rq.n0 (x_aload_n d_345_120 rfl) ?_
    refine m_Rq.n0 (x_getf d_345_121 rfl a_583 rfl) ?_
    refine m_Rq.n0 (x_iload d_345_124 rfl) ?_
    refine m_Rq.n0 (x_baload (j := e) d_345_126 a_609 rfl (m_n_neg (by omega)) (m_n_cl (by omega)) (by omega) rfl) ?_
    refine m_Rq.n0 (x_ift d_345_127 rfl (by decide)) ?_
    refine m_Rq.n0 (x_iconst (z := 0) d_345_134 (by decide)) ?_
    refine m_Rq.n0 (x_iadd (z := 0) d_345_135 (by decide)) ?_
    refine m_Rq.n0 (x_istore d_345_136 rfl (show m_put1 _ _ _ = [(5, _), (6, _), (4, _), (3, _), (0, _), (1, _), (2, _)] from rfl)) ?_
    refine m_Rq.n0 (x_iinc (z := Int32.ofNat (e + 1)) d_345_138 rfl rfl (m_n_inc _) (show m_put1 _ _ _ = [(6, _), (5, _), (4, _), (3, _), (0, _), (1, _), (2, _)] from rfl)) ?_
    refine m_Rq.n0 (x_goto d_345_141 rfl) ?_
    exact ih (e + 1) (by omega)
