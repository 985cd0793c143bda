/-! fail on a fresh object. Written by wip/tool/fail.py. -/
theorem a_591 : m_at w_1 591 = some (.inl (4, 7, [(6, .int 1), (5, .int 1), (4, .int 1), (3, .int 1), (2, .int 1), (1, .int 1)])) := rfl
theorem a_593 : m_at w_1 593 = some (.inl (0, 7, [])) := rfl
theorem a_597 : m_at w_1 597 = some (.inl (0, 7, [])) := rfl
theorem a_618 : m_at w_1 618 = some (.inl (0, 14, [])) := rfl
theorem a_619 : m_at w_1 619 = some (.inl (0, 14, [])) := rfl
theorem q_320 : m_mt[320]? = some M_320 := by rfl
theorem q_319 : m_mt[319]? = some M_319 := by rfl
theorem d_319_0 : m_dn M_319 0 (.aload_n 0) 1 1 := by decide +kernel
theorem d_319_1 : m_dn M_319 1 (.getfield 118) 3 4 := by decide +kernel
theorem d_319_10 : m_dn M_319 10 (.isub) 1 11 := by decide +kernel
theorem d_319_11 : m_dn M_319 11 (.iconst 0) 1 12 := by decide +kernel
theorem d_319_12 : m_dn M_319 12 (.iastore) 1 13 := by decide +kernel
theorem d_319_13 : m_dn M_319 13 (.aload_n 0) 1 14 := by decide +kernel
theorem d_319_14 : m_dn M_319 14 (.getfield 121) 3 17 := by decide +kernel
theorem d_319_17 : m_dn M_319 17 (.iconst 2) 1 18 := by decide +kernel
theorem d_319_18 : m_dn M_319 18 (.iload_n 1) 1 19 := by decide +kernel
theorem d_319_19 : m_dn M_319 19 (.imul) 1 20 := by decide +kernel
theorem d_319_20 : m_dn M_319 20 (.iload_n 2) 1 21 := by decide +kernel
theorem d_319_21 : m_dn M_319 21 (.iadd) 1 22 := by decide +kernel
theorem d_319_22 : m_dn M_319 22 (.iconst 1) 1 23 := by decide +kernel
theorem d_319_23 : m_dn M_319 23 (.isub) 1 24 := by decide +kernel
theorem d_319_24 : m_dn M_319 24 (.iconst 0) 1 25 := by decide +kernel
theorem d_319_25 : m_dn M_319 25 (.iastore) 1 26 := by decide +kernel
theorem d_319_26 : m_dn M_319 26 (.return_) 1 27 := by decide +kernel
theorem d_319_4 : m_dn M_319 4 (.iconst 2) 1 5 := by decide +kernel
theorem d_319_5 : m_dn M_319 5 (.iload_n 1) 1 6 := by decide +kernel
theorem d_319_6 : m_dn M_319 6 (.imul) 1 7 := by decide +kernel
theorem d_319_7 : m_dn M_319 7 (.iload_n 2) 1 8 := by decide +kernel
theorem d_319_8 : m_dn M_319 8 (.iadd) 1 9 := by decide +kernel
theorem d_319_9 : m_dn M_319 9 (.iconst 1) 1 10 := by decide +kernel
theorem d_320_0 : m_dn M_320 0 (.iconst 0) 1 1 := by decide +kernel
theorem d_320_1 : m_dn M_320 1 (.istore_n 3) 1 2 := by decide +kernel
theorem d_320_10 : m_dn M_320 10 (.aload_n 0) 1 11 := by decide +kernel
theorem d_320_11 : m_dn M_320 11 (.getfield 507) 3 14 := by decide +kernel
theorem d_320_14 : m_dn M_320 14 (.if_icmp .ge 154) 3 17 := by decide +kernel
theorem d_320_168 : m_dn M_320 168 (.aload_n 0) 1 169 := by decide +kernel
theorem d_320_169 : m_dn M_320 169 (.iload 4) 2 171 := by decide +kernel
theorem d_320_171 : m_dn M_320 171 (.putfield 507) 3 174 := by decide +kernel
theorem d_320_174 : m_dn M_320 174 (.iload_n 3) 1 175 := by decide +kernel
theorem d_320_175 : m_dn M_320 175 (.ireturn) 1 176 := by decide +kernel
theorem d_320_2 : m_dn M_320 2 (.iconst 0) 1 3 := by decide +kernel
theorem d_320_3 : m_dn M_320 3 (.istore 4) 2 5 := by decide +kernel
theorem d_320_5 : m_dn M_320 5 (.iconst 0) 1 6 := by decide +kernel
theorem d_320_6 : m_dn M_320 6 (.istore 5) 2 8 := by decide +kernel
theorem d_320_8 : m_dn M_320 8 (.iload 5) 2 10 := by decide +kernel
theorem d_332_101 : m_dn M_332 101 (.iload_n 1) 1 102 := by decide +kernel
theorem d_332_102 : m_dn M_332 102 (.iconst 2) 1 103 := by decide +kernel
theorem d_332_103 : m_dn M_332 103 (.if_icmp .le 15) 3 106 := by decide +kernel
theorem d_332_106 : m_dn M_332 106 (.aload_n 0) 1 107 := by decide +kernel
theorem d_332_107 : m_dn M_332 107 (.iload_n 1) 1 108 := by decide +kernel
theorem d_332_108 : m_dn M_332 108 (.iload_n 2) 1 109 := by decide +kernel
theorem d_332_109 : m_dn M_332 109 (.invokevirtual 596) 3 112 := by decide +kernel
theorem d_332_112 : m_dn M_332 112 (.iinc 2 1) 3 115 := by decide +kernel
theorem d_332_115 : m_dn M_332 115 (.goto (-19)) 3 118 := by decide +kernel
theorem d_332_118 : m_dn M_332 118 (.aload_n 0) 1 119 := by decide +kernel
theorem d_332_119 : m_dn M_332 119 (.getfield 54) 3 122 := by decide +kernel
theorem d_332_12 : m_dn M_332 12 (.aload_n 0) 1 13 := by decide +kernel
theorem d_332_122 : m_dn M_332 122 (.iload_n 1) 1 123 := by decide +kernel
theorem d_332_123 : m_dn M_332 123 (.iconst 0) 1 124 := by decide +kernel
theorem d_332_124 : m_dn M_332 124 (.iastore) 1 125 := by decide +kernel
theorem d_332_125 : m_dn M_332 125 (.aload_n 0) 1 126 := by decide +kernel
theorem d_332_126 : m_dn M_332 126 (.getfield 42) 3 129 := by decide +kernel
theorem d_332_129 : m_dn M_332 129 (.iload_n 1) 1 130 := by decide +kernel
theorem d_332_13 : m_dn M_332 13 (.getfield 35) 3 16 := by decide +kernel
theorem d_332_130 : m_dn M_332 130 (.iconst 0) 1 131 := by decide +kernel
theorem d_332_131 : m_dn M_332 131 (.iastore) 1 132 := by decide +kernel
theorem d_332_132 : m_dn M_332 132 (.aload_n 0) 1 133 := by decide +kernel
theorem d_332_133 : m_dn M_332 133 (.iload_n 1) 1 134 := by decide +kernel
theorem d_332_134 : m_dn M_332 134 (.iconst (-1)) 1 135 := by decide +kernel
theorem d_332_135 : m_dn M_332 135 (.invokevirtual 590) 3 138 := by decide +kernel
theorem d_332_138 : m_dn M_332 138 (.istore_n 2) 1 139 := by decide +kernel
theorem d_332_139 : m_dn M_332 139 (.iconst 0) 1 140 := by decide +kernel
theorem d_332_140 : m_dn M_332 140 (.istore_n 3) 1 141 := by decide +kernel
theorem d_332_141 : m_dn M_332 141 (.iload_n 3) 1 142 := by decide +kernel
theorem d_332_142 : m_dn M_332 142 (.iload_n 2) 1 143 := by decide +kernel
theorem d_332_143 : m_dn M_332 143 (.if_icmp .ge 44) 3 146 := by decide +kernel
theorem d_332_16 : m_dn M_332 16 (.iload_n 1) 1 17 := by decide +kernel
theorem d_332_17 : m_dn M_332 17 (.baload) 1 18 := by decide +kernel
theorem d_332_18 : m_dn M_332 18 (.ifCond .ne 5) 3 21 := by decide +kernel
theorem d_332_187 : m_dn M_332 187 (.iconst 1) 1 188 := by decide +kernel
theorem d_332_188 : m_dn M_332 188 (.ireturn) 1 189 := by decide +kernel
theorem d_332_23 : m_dn M_332 23 (.aload_n 0) 1 24 := by decide +kernel
theorem d_332_24 : m_dn M_332 24 (.getfield 35) 3 27 := by decide +kernel
theorem d_332_27 : m_dn M_332 27 (.iload_n 1) 1 28 := by decide +kernel
theorem d_332_28 : m_dn M_332 28 (.iconst 0) 1 29 := by decide +kernel
theorem d_332_29 : m_dn M_332 29 (.bastore) 1 30 := by decide +kernel
theorem d_332_30 : m_dn M_332 30 (.sipush 1024) 3 33 := by decide +kernel
theorem d_332_33 : m_dn M_332 33 (.iload_n 1) 1 34 := by decide +kernel
theorem d_332_34 : m_dn M_332 34 (.imul) 1 35 := by decide +kernel
theorem d_332_35 : m_dn M_332 35 (.istore_n 2) 1 36 := by decide +kernel
theorem d_332_36 : m_dn M_332 36 (.iload_n 2) 1 37 := by decide +kernel
theorem d_332_37 : m_dn M_332 37 (.sipush 1024) 3 40 := by decide +kernel
theorem d_332_40 : m_dn M_332 40 (.iload_n 1) 1 41 := by decide +kernel
theorem d_332_41 : m_dn M_332 41 (.imul) 1 42 := by decide +kernel
theorem d_332_42 : m_dn M_332 42 (.sipush 1024) 3 45 := by decide +kernel
theorem d_332_45 : m_dn M_332 45 (.iadd) 1 46 := by decide +kernel
theorem d_332_46 : m_dn M_332 46 (.if_icmp .ge 16) 3 49 := by decide +kernel
theorem d_332_49 : m_dn M_332 49 (.aload_n 0) 1 50 := by decide +kernel
theorem d_332_50 : m_dn M_332 50 (.getfield 66) 3 53 := by decide +kernel
theorem d_332_53 : m_dn M_332 53 (.iload_n 2) 1 54 := by decide +kernel
theorem d_332_54 : m_dn M_332 54 (.iconst 0) 1 55 := by decide +kernel
theorem d_332_55 : m_dn M_332 55 (.bastore) 1 56 := by decide +kernel
theorem d_332_56 : m_dn M_332 56 (.iinc 2 1) 3 59 := by decide +kernel
theorem d_332_59 : m_dn M_332 59 (.goto (-23)) 3 62 := by decide +kernel
theorem d_332_62 : m_dn M_332 62 (.sipush 128) 3 65 := by decide +kernel
theorem d_332_65 : m_dn M_332 65 (.iload_n 1) 1 66 := by decide +kernel
theorem d_332_66 : m_dn M_332 66 (.imul) 1 67 := by decide +kernel
theorem d_332_67 : m_dn M_332 67 (.istore_n 2) 1 68 := by decide +kernel
theorem d_332_68 : m_dn M_332 68 (.iload_n 2) 1 69 := by decide +kernel
theorem d_332_69 : m_dn M_332 69 (.sipush 128) 3 72 := by decide +kernel
theorem d_332_72 : m_dn M_332 72 (.iload_n 1) 1 73 := by decide +kernel
theorem d_332_73 : m_dn M_332 73 (.imul) 1 74 := by decide +kernel
theorem d_332_74 : m_dn M_332 74 (.sipush 128) 3 77 := by decide +kernel
theorem d_332_77 : m_dn M_332 77 (.iadd) 1 78 := by decide +kernel
theorem d_332_78 : m_dn M_332 78 (.if_icmp .ge 16) 3 81 := by decide +kernel
theorem d_332_81 : m_dn M_332 81 (.aload_n 0) 1 82 := by decide +kernel
theorem d_332_82 : m_dn M_332 82 (.getfield 91) 3 85 := by decide +kernel
theorem d_332_85 : m_dn M_332 85 (.iload_n 2) 1 86 := by decide +kernel
theorem d_332_86 : m_dn M_332 86 (.iconst 0) 1 87 := by decide +kernel
theorem d_332_87 : m_dn M_332 87 (.bastore) 1 88 := by decide +kernel
theorem d_332_88 : m_dn M_332 88 (.iinc 2 1) 3 91 := by decide +kernel
theorem d_332_91 : m_dn M_332 91 (.goto (-23)) 3 94 := by decide +kernel
theorem d_332_94 : m_dn M_332 94 (.iconst 1) 1 95 := by decide +kernel
theorem d_332_95 : m_dn M_332 95 (.istore_n 2) 1 96 := by decide +kernel
theorem d_332_96 : m_dn M_332 96 (.iload_n 2) 1 97 := by decide +kernel
theorem d_332_97 : m_dn M_332 97 (.iconst 3) 1 98 := by decide +kernel
theorem d_332_98 : m_dn M_332 98 (.if_icmp .ge 20) 3 101 := by decide +kernel
def l_F : List (Nat × Nat × Nat) := [(591, 4, 7), (601, 4, 7168), (609, 4, 896), (618, 0, 14), (619, 0, 14), (597, 0, 7), (593, 0, 7)]
theorem wfF : m_wf 583 l_F [] = true := by decide
theorem s_forgive1 {w : List mM} {n : Nat} (hn : n < 7) (h : m_FW 583 14 (f_m 0) l_F [] w) : m_Rq M_319 (m_ent M_319 [.ref 583, .int (Int32.ofNat n), .int 1] w) (fun v w => v = none ∧ m_FW 583 14 (f_m 0) l_F [] w) 0 0 0 0 := by
  show m_Rq M_319 (0, [(0, .ref 583), (1, .int (Int32.ofNat n)), (2, .int 1)], [], w) _ 0 0 0 0
  refine m_Rq.n0 (x_aload_n d_319_0 rfl) ?_
  refine m_Rq.n0 (x_getf d_319_1 rfl h.2.1 rfl) ?_
  refine m_Rq.n0 (x_iconst (z := 2) d_319_4 (by decide)) ?_
  refine m_Rq.n0 (x_iload_n d_319_5 rfl) ?_
  refine m_Rq.n0 (x_imul (z := Int32.ofNat (2 * n)) d_319_6 (m_n_mul _ _)) ?_
  refine m_Rq.n0 (x_iload_n d_319_7 rfl) ?_
  refine m_Rq.n0 (x_iadd (z := Int32.ofNat ((2 * n) + 1)) d_319_8 (m_n_add _ _)) ?_
  refine m_Rq.n0 (x_iconst (z := 1) d_319_9 (by decide)) ?_
  refine m_Rq.n0 (x_isub (z := Int32.ofNat (((2 * n) + 1) - 1)) d_319_10 (m_n_sub (a := ((2 * n) + 1)) (b := 1) (by omega))) ?_
  refine m_Rq.n0 (x_iconst (z := 0) d_319_11 (by decide)) ?_
  refine m_Rq.fwI d_319_12 wfF h 3 rfl (m_n_neg (by omega)) (m_n_cl (by omega)) (by omega) (fun w h => ?_)
  refine m_Rq.n0 (x_aload_n d_319_13 rfl) ?_
  refine m_Rq.n0 (x_getf d_319_14 rfl h.2.1 rfl) ?_
  refine m_Rq.n0 (x_iconst (z := 2) d_319_17 (by decide)) ?_
  refine m_Rq.n0 (x_iload_n d_319_18 rfl) ?_
  refine m_Rq.n0 (x_imul (z := Int32.ofNat (2 * n)) d_319_19 (m_n_mul _ _)) ?_
  refine m_Rq.n0 (x_iload_n d_319_20 rfl) ?_
  refine m_Rq.n0 (x_iadd (z := Int32.ofNat ((2 * n) + 1)) d_319_21 (m_n_add _ _)) ?_
  refine m_Rq.n0 (x_iconst (z := 1) d_319_22 (by decide)) ?_
  refine m_Rq.n0 (x_isub (z := Int32.ofNat (((2 * n) + 1) - 1)) d_319_23 (m_n_sub (a := ((2 * n) + 1)) (b := 1) (by omega))) ?_
  refine m_Rq.n0 (x_iconst (z := 0) d_319_24 (by decide)) ?_
  refine m_Rq.fwI d_319_25 wfF h 4 rfl (m_n_neg (by omega)) (m_n_cl (by omega)) (by omega) (fun w h => ?_)
  refine m_Rq.vr d_319_26 rfl ?_
  exact ⟨rfl, h⟩
theorem s_forgive2 {w : List mM} {n : Nat} (hn : n < 7) (h : m_FW 583 14 (f_m 0) l_F [] w) : m_Rq M_319 (m_ent M_319 [.ref 583, .int (Int32.ofNat n), .int 2] w) (fun v w => v = none ∧ m_FW 583 14 (f_m 0) l_F [] w) 0 0 0 0 := by
  show m_Rq M_319 (0, [(0, .ref 583), (1, .int (Int32.ofNat n)), (2, .int 2)], [], w) _ 0 0 0 0
  refine m_Rq.n0 (x_aload_n d_319_0 rfl) ?_
  refine m_Rq.n0 (x_getf d_319_1 rfl h.2.1 rfl) ?_
  refine m_Rq.n0 (x_iconst (z := 2) d_319_4 (by decide)) ?_
  refine m_Rq.n0 (x_iload_n d_319_5 rfl) ?_
  refine m_Rq.n0 (x_imul (z := Int32.ofNat (2 * n)) d_319_6 (m_n_mul _ _)) ?_
  refine m_Rq.n0 (x_iload_n d_319_7 rfl) ?_
  refine m_Rq.n0 (x_iadd (z := Int32.ofNat ((2 * n) + 2)) d_319_8 (m_n_add _ _)) ?_
  refine m_Rq.n0 (x_iconst (z := 1) d_319_9 (by decide)) ?_
  refine m_Rq.n0 (x_isub (z := Int32.ofNat (((2 * n) + 2) - 1)) d_319_10 (m_n_sub (a := ((2 * n) + 2)) (b := 1) (by omega))) ?_
  refine m_Rq.n0 (x_iconst (z := 0) d_319_11 (by decide)) ?_
  refine m_Rq.fwI d_319_12 wfF h 3 rfl (m_n_neg (by omega)) (m_n_cl (by omega)) (by omega) (fun w h => ?_)
  refine m_Rq.n0 (x_aload_n d_319_13 rfl) ?_
  refine m_Rq.n0 (x_getf d_319_14 rfl h.2.1 rfl) ?_
  refine m_Rq.n0 (x_iconst (z := 2) d_319_17 (by decide)) ?_
  refine m_Rq.n0 (x_iload_n d_319_18 rfl) ?_
  refine m_Rq.n0 (x_imul (z := Int32.ofNat (2 * n)) d_319_19 (m_n_mul _ _)) ?_
  refine m_Rq.n0 (x_iload_n d_319_20 rfl) ?_
  refine m_Rq.n0 (x_iadd (z := Int32.ofNat ((2 * n) + 2)) d_319_21 (m_n_add _ _)) ?_
  refine m_Rq.n0 (x_iconst (z := 1) d_319_22 (by decide)) ?_
  refine m_Rq.n0 (x_isub (z := Int32.ofNat (((2 * n) + 2) - 1)) d_319_23 (m_n_sub (a := ((2 * n) + 2)) (b := 1) (by omega))) ?_
  refine m_Rq.n0 (x_iconst (z := 0) d_319_24 (by decide)) ?_
  refine m_Rq.fwI d_319_25 wfF h 4 rfl (m_n_neg (by omega)) (m_n_cl (by omega)) (by omega) (fun w h => ?_)
  refine m_Rq.vr d_319_26 rfl ?_
  exact ⟨rfl, h⟩
theorem s_take {w : List mM} {n : Nat} (h : m_FW 583 14 (f_m 0) l_F [] w) : m_Rq M_320 (m_ent M_320 [.ref 583, .int (Int32.ofNat n), .int (-1)] w) (fun v w => v = some (.int 0) ∧ m_FW 583 14 (f_m 0) l_F [] w) 0 0 0 0 := by
  show m_Rq M_320 (0, [(0, .ref 583), (1, .int (Int32.ofNat n)), (2, .int (-1))], [], w) _ 0 0 0 0
  refine m_Rq.n0 (x_iconst (z := 0) d_320_0 (by decide)) ?_
  refine m_Rq.n0 (x_istore_n d_320_1 rfl (show m_put1 _ _ _ = [(3, _), (0, _), (1, _), (2, _)] from rfl)) ?_
  refine m_Rq.n0 (x_iconst (z := 0) d_320_2 (by decide)) ?_
  refine m_Rq.n0 (x_istore d_320_3 rfl (show m_put1 _ _ _ = [(4, _), (3, _), (0, _), (1, _), (2, _)] from rfl)) ?_
  refine m_Rq.n0 (x_iconst (z := 0) d_320_5 (by decide)) ?_
  refine m_Rq.n0 (x_istore d_320_6 rfl (show m_put1 _ _ _ = [(5, _), (4, _), (3, _), (0, _), (1, _), (2, _)] from rfl)) ?_
  refine m_Rq.n0 (x_iload d_320_8 rfl) ?_
  refine m_Rq.n0 (x_aload_n d_320_10 rfl) ?_
  refine m_Rq.n0 (x_getf d_320_11 rfl h.2.1 rfl) ?_
  refine m_Rq.n0 (x_ict d_320_14 rfl (by decide)) ?_
  refine m_Rq.n0 (x_aload_n d_320_168 rfl) ?_
  refine m_Rq.n0 (x_iload d_320_169 rfl) ?_
  refine m_Rq.n0 (x_putfs d_320_171 rfl h.2.1 rfl rfl (by decide) rfl rfl rfl) ?_
  refine m_Rq.n0 (x_iload_n d_320_174 rfl) ?_
  refine m_Rq.ir d_320_175 rfl rfl ?_
  exact ⟨rfl, h⟩
theorem l_fail1 {n : Nat} (hn : n < 7) (kk : ∀ w, m_FW 583 14 (f_m 0) l_F [] w → m_Rq M_332 (62, [(2, .int (Int32.ofNat (1024 * n + 1024))), (0, .ref 583), (1, .int (Int32.ofNat n))], [], w) (fun v _ => v = some (.int 1)) 0 0 10 1000) : ∀ (d e : Nat) (w : List mM), m_FW 583 14 (f_m 0) l_F [] w → e + d = 1024 * n + 1024 → m_Rq M_332 (36, [(2, .int (Int32.ofNat (e))), (0, .ref 583), (1, .int (Int32.ofNat n))], [], w) (fun v _ => v = some (.int 1)) 0 0 10 1000 := by
  intro d
  induction d with
  | zero =>
    intro e w h he
    refine m_Rq.n0 (x_iload_n d_332_36 rfl) ?_
    refine m_Rq.n0 (x_sipush (z := 1024) d_332_37 (by decide)) ?_
    refine m_Rq.n0 (x_iload_n d_332_40 rfl) ?_
    refine m_Rq.n0 (x_imul (z := Int32.ofNat (1024 * n)) d_332_41 (m_n_mul _ _)) ?_
    refine m_Rq.n0 (x_sipush (z := 1024) d_332_42 (by decide)) ?_
    refine m_Rq.n0 (x_iadd (z := Int32.ofNat ((1024 * n) + 1024)) d_332_45 (m_n_add _ _)) ?_
    refine m_Rq.n0 (x_ict d_332_46 rfl (m_c2n (a := e) (b := ((1024 * n) + 1024)) (by omega) (by omega) (decide_eq_true (by omega)))) ?_
    rw [show e = 1024 * n + 1024 from he]
    exact kk w h
  | succ d ih =>
    intro e w h he
    refine m_Rq.n0 (x_iload_n d_332_36 rfl) ?_
    refine m_Rq.n0 (x_sipush (z := 1024) d_332_37 (by decide)) ?_
    refine m_Rq.n0 (x_iload_n d_332_40 rfl) ?_
    refine m_Rq.n0 (x_imul (z := Int32.ofNat (1024 * n)) d_332_41 (m_n_mul _ _)) ?_
    refine m_Rq.n0 (x_sipush (z := 1024) d_332_42 (by decide)) ?_
    refine m_Rq.n0 (x_iadd (z := Int32.ofNat ((1024 * n) + 1024)) d_332_45 (m_n_add _ _)) ?_
    refine m_Rq.n0 (x_icf d_332_46 rfl (m_c2n (a := e) (b := ((1024 * n) + 1024)) (by omega) (by omega) (decide_eq_false (by omega)))) ?_
    refine m_Rq.n0 (x_aload_n d_332_49 rfl) ?_
    refine m_Rq.n0 (x_getf d_332_50 rfl h.2.1 rfl) ?_
    refine m_Rq.n0 (x_iload_n d_332_53 rfl) ?_
    refine m_Rq.n0 (x_iconst (z := 0) d_332_54 (by decide)) ?_
    refine m_Rq.fwB d_332_55 wfF h 1 rfl (m_n_neg (by omega)) (m_n_cl (by omega)) (by omega) (fun w h => ?_)
    refine m_Rq.n0 (x_iinc (z := Int32.ofNat (e + 1)) d_332_56 rfl rfl (m_n_inc _) (show m_put1 _ _ _ = [(2, _), (0, _), (1, _)] from rfl)) ?_
    refine m_Rq.n0 (x_goto d_332_59 rfl) ?_
    exact ih (e + 1) w h (by omega)
theorem l_fail2 {n : Nat} (hn : n < 7) (kk : ∀ w, m_FW 583 14 (f_m 0) l_F [] w → m_Rq M_332 (94, [(2, .int (Int32.ofNat (128 * n + 128))), (0, .ref 583), (1, .int (Int32.ofNat n))], [], w) (fun v _ => v = some (.int 1)) 0 0 10 1000) : ∀ (d e : Nat) (w : List mM), m_FW 583 14 (f_m 0) l_F [] w → e + d = 128 * n + 128 → m_Rq M_332 (68, [(2, .int (Int32.ofNat (e))), (0, .ref 583), (1, .int (Int32.ofNat n))], [], w) (fun v _ => v = some (.int 1)) 0 0 10 1000 := by
  intro d
  induction d with
  | zero =>
    intro e w h he
    refine m_Rq.n0 (x_iload_n d_332_68 rfl) ?_
    refine m_Rq.n0 (x_sipush (z := 128) d_332_69 (by decide)) ?_
    refine m_Rq.n0 (x_iload_n d_332_72 rfl) ?_
    refine m_Rq.n0 (x_imul (z := Int32.ofNat (128 * n)) d_332_73 (m_n_mul _ _)) ?_
    refine m_Rq.n0 (x_sipush (z := 128) d_332_74 (by decide)) ?_
    refine m_Rq.n0 (x_iadd (z := Int32.ofNat ((128 * n) + 128)) d_332_77 (m_n_add _ _)) ?_
    refine m_Rq.n0 (x_ict d_332_78 rfl (m_c2n (a := e) (b := ((128 * n) + 128)) (by omega) (by omega) (decide_eq_true (by omega)))) ?_
    rw [show e = 128 * n + 128 from he]
    exact kk w h
  | succ d ih =>
    intro e w h he
    refine m_Rq.n0 (x_iload_n d_332_68 rfl) ?_
    refine m_Rq.n0 (x_sipush (z := 128) d_332_69 (by decide)) ?_
    refine m_Rq.n0 (x_iload_n d_332_72 rfl) ?_
    refine m_Rq.n0 (x_imul (z := Int32.ofNat (128 * n)) d_332_73 (m_n_mul _ _)) ?_
    refine m_Rq.n0 (x_sipush (z := 128) d_332_74 (by decide)) ?_
    refine m_Rq.n0 (x_iadd (z := Int32.ofNat ((128 * n) + 128)) d_332_77 (m_n_add _ _)) ?_
    refine m_Rq.n0 (x_icf d_332_78 rfl (m_c2n (a := e) (b := ((128 * n) + 128)) (by omega) (by omega) (decide_eq_false (by omega)))) ?_
    refine m_Rq.n0 (x_aload_n d_332_81 rfl) ?_
    refine m_Rq.n0 (x_getf d_332_82 rfl h.2.1 rfl) ?_
    refine m_Rq.n0 (x_iload_n d_332_85 rfl) ?_
    refine m_Rq.n0 (x_iconst (z := 0) d_332_86 (by decide)) ?_
    refine m_Rq.fwB d_332_87 wfF h 2 rfl (m_n_neg (by omega)) (m_n_cl (by omega)) (by omega) (fun w h => ?_)
    refine m_Rq.n0 (x_iinc (z := Int32.ofNat (e + 1)) d_332_88 rfl rfl (m_n_inc _) (show m_put1 _ _ _ = [(2, _), (0, _), (1, _)] from rfl)) ?_
    refine m_Rq.n0 (x_goto d_332_91 rfl) ?_
    exact ih (e + 1) w h (by omega)
theorem e_fail_e2 {n : Nat} (hn : n < 7) (h2 : n ≤ 2) (w : List mM) (h : m_FW 583 14 (f_m 0) l_F [] w) : m_Rq M_332 (94, [(2, .int (Int32.ofNat (128 * n + 128))), (0, .ref 583), (1, .int (Int32.ofNat n))], [], w) (fun v _ => v = some (.int 1)) 0 0 10 1000 := by
  refine m_Rq.n0 (x_iconst (z := 1) d_332_94 (by decide)) ?_
  refine m_Rq.n0 (x_istore_n d_332_95 rfl (show m_put1 _ _ _ = [(2, _), (0, _), (1, _)] from rfl)) ?_
  refine m_Rq.n0 (x_iload_n d_332_96 rfl) ?_
  refine m_Rq.n0 (x_iconst (z := 3) d_332_97 (by decide)) ?_
  refine m_Rq.n0 (x_icf d_332_98 rfl (by decide)) ?_
  refine m_Rq.n0 (x_iload_n d_332_101 rfl) ?_
  refine m_Rq.n0 (x_iconst (z := 2) d_332_102 (by decide)) ?_
  refine m_Rq.n0 (x_ict d_332_103 rfl (m_c2n (a := n) (b := 2) (by omega) (by omega) (decide_eq_true (by omega)))) ?_
  refine m_Rq.n0 (x_aload_n d_332_118 rfl) ?_
  refine m_Rq.n0 (x_getf d_332_119 rfl h.2.1 rfl) ?_
  refine m_Rq.n0 (x_iload_n d_332_122 rfl) ?_
  refine m_Rq.n0 (x_iconst (z := 0) d_332_123 (by decide)) ?_
  refine m_Rq.fwI d_332_124 wfF h 5 rfl (m_n_neg (by omega)) (m_n_cl (by omega)) (by omega) (fun w h => ?_)
  refine m_Rq.n0 (x_aload_n d_332_125 rfl) ?_
  refine m_Rq.n0 (x_getf d_332_126 rfl h.2.1 rfl) ?_
  refine m_Rq.n0 (x_iload_n d_332_129 rfl) ?_
  refine m_Rq.n0 (x_iconst (z := 0) d_332_130 (by decide)) ?_
  refine m_Rq.fwI d_332_131 wfF h 6 rfl (m_n_neg (by omega)) (m_n_cl (by omega)) (by omega) (fun w h => ?_)
  refine m_Rq.n0 (x_aload_n d_332_132 rfl) ?_
  refine m_Rq.n0 (x_iload_n d_332_133 rfl) ?_
  refine m_Rq.n0 (x_iconst (z := (-1)) d_332_134 (by decide)) ?_
  refine m_Rq.callR (x_cv (n := 119) d_332_135 rfl q_320 (m_isRecv_of rfl h.2.1) rfl rfl h.1 rfl) (s_take h) rfl (fun w h => ?_) (by decide) (by decide)
  refine m_Rq.n0 (x_istore_n d_332_138 rfl (show m_put1 _ _ _ = [(2, _), (0, _), (1, _)] from rfl)) ?_
  refine m_Rq.n0 (x_iconst (z := 0) d_332_139 (by decide)) ?_
  refine m_Rq.n0 (x_istore_n d_332_140 rfl (show m_put1 _ _ _ = [(3, _), (2, _), (0, _), (1, _)] from rfl)) ?_
  refine m_Rq.n0 (x_iload_n d_332_141 rfl) ?_
  refine m_Rq.n0 (x_iload_n d_332_142 rfl) ?_
  refine m_Rq.n0 (x_ict d_332_143 rfl (by decide)) ?_
  refine m_Rq.n0 (x_iconst (z := 1) d_332_187 (by decide)) ?_
  refine m_Rq.ir d_332_188 rfl rfl ?_
  exact rfl
theorem e_fail_e3 {n : Nat} (hn : n < 7) (h2 : ¬ n ≤ 2) (w : List mM) (h : m_FW 583 14 (f_m 0) l_F [] w) : m_Rq M_332 (94, [(2, .int (Int32.ofNat (128 * n + 128))), (0, .ref 583), (1, .int (Int32.ofNat n))], [], w) (fun v _ => v = some (.int 1)) 0 0 10 1000 := by
  refine m_Rq.n0 (x_iconst (z := 1) d_332_94 (by decide)) ?_
  refine m_Rq.n0 (x_istore_n d_332_95 rfl (show m_put1 _ _ _ = [(2, _), (0, _), (1, _)] from rfl)) ?_
  refine m_Rq.n0 (x_iload_n d_332_96 rfl) ?_
  refine m_Rq.n0 (x_iconst (z := 3) d_332_97 (by decide)) ?_
  refine m_Rq.n0 (x_icf d_332_98 rfl (by decide)) ?_
  refine m_Rq.n0 (x_iload_n d_332_101 rfl) ?_
  refine m_Rq.n0 (x_iconst (z := 2) d_332_102 (by decide)) ?_
  refine m_Rq.n0 (x_icf d_332_103 rfl (m_c2n (a := n) (b := 2) (by omega) (by omega) (decide_eq_false (by omega)))) ?_
  refine m_Rq.n0 (x_aload_n d_332_106 rfl) ?_
  refine m_Rq.n0 (x_iload_n d_332_107 rfl) ?_
  refine m_Rq.n0 (x_iload_n d_332_108 rfl) ?_
  refine m_Rq.callQ (x_cv (n := 119) d_332_109 rfl q_319 (m_isRecv_of rfl h.2.1) rfl rfl h.1 rfl) (s_forgive1 hn h) rfl (fun w h => ?_) (by decide) (by decide)
  refine m_Rq.n0 (x_iinc (z := 2) d_332_112 rfl rfl (by decide) (show m_put1 _ _ _ = [(2, _), (0, _), (1, _)] from rfl)) ?_
  refine m_Rq.n0 (x_goto d_332_115 rfl) ?_
  refine m_Rq.n0 (x_iload_n d_332_96 rfl) ?_
  refine m_Rq.n0 (x_iconst (z := 3) d_332_97 (by decide)) ?_
  refine m_Rq.n0 (x_icf d_332_98 rfl (by decide)) ?_
  refine m_Rq.n0 (x_iload_n d_332_101 rfl) ?_
  refine m_Rq.n0 (x_iconst (z := 2) d_332_102 (by decide)) ?_
  refine m_Rq.n0 (x_icf d_332_103 rfl (m_c2n (a := n) (b := 2) (by omega) (by omega) (decide_eq_false (by omega)))) ?_
  refine m_Rq.n0 (x_aload_n d_332_106 rfl) ?_
  refine m_Rq.n0 (x_iload_n d_332_107 rfl) ?_
  refine m_Rq.n0 (x_iload_n d_332_108 rfl) ?_
  refine m_Rq.callQ (x_cv (n := 119) d_332_109 rfl q_319 (m_isRecv_of rfl h.2.1) rfl rfl h.1 rfl) (s_forgive2 hn h) rfl (fun w h => ?_) (by decide) (by decide)
  refine m_Rq.n0 (x_iinc (z := 3) d_332_112 rfl rfl (by decide) (show m_put1 _ _ _ = [(2, _), (0, _), (1, _)] from rfl)) ?_
  refine m_Rq.n0 (x_goto d_332_115 rfl) ?_
  refine m_Rq.n0 (x_iload_n d_332_96 rfl) ?_
  refine m_Rq.n0 (x_iconst (z := 3) d_332_97 (by decide)) ?_
  refine m_Rq.n0 (x_ict d_332_98 rfl (by decide)) ?_
  refine m_Rq.n0 (x_aload_n d_332_118 rfl) ?_
  refine m_Rq.n0 (x_getf d_332_119 rfl h.2.1 rfl) ?_
  refine m_Rq.n0 (x_iload_n d_332_122 rfl) ?_
  refine m_Rq.n0 (x_iconst (z := 0) d_332_123 (by decide)) ?_
  refine m_Rq.fwI d_332_124 wfF h 5 rfl (m_n_neg (by omega)) (m_n_cl (by omega)) (by omega) (fun w h => ?_)
  refine m_Rq.n0 (x_aload_n d_332_125 rfl) ?_
  refine m_Rq.n0 (x_getf d_332_126 rfl h.2.1 rfl) ?_
  refine m_Rq.n0 (x_iload_n d_332_129 rfl) ?_
  refine m_Rq.n0 (x_iconst (z := 0) d_332_130 (by decide)) ?_
  refine m_Rq.fwI d_332_131 wfF h 6 rfl (m_n_neg (by omega)) (m_n_cl (by omega)) (by omega) (fun w h => ?_)
  refine m_Rq.n0 (x_aload_n d_332_132 rfl) ?_
  refine m_Rq.n0 (x_iload_n d_332_133 rfl) ?_
  refine m_Rq.n0 (x_iconst (z := (-1)) d_332_134 (by decide)) ?_
  refine m_Rq.callR (x_cv (n := 119) d_332_135 rfl q_320 (m_isRecv_of rfl h.2.1) rfl rfl h.1 rfl) (s_take h) rfl (fun w h => ?_) (by decide) (by decide)
  refine m_Rq.n0 (x_istore_n d_332_138 rfl (show m_put1 _ _ _ = [(2, _), (0, _), (1, _)] from rfl)) ?_
  refine m_Rq.n0 (x_iconst (z := 0) d_332_139 (by decide)) ?_
  refine m_Rq.n0 (x_istore_n d_332_140 rfl (show m_put1 _ _ _ = [(3, _), (2, _), (0, _), (1, _)] from rfl)) ?_
  refine m_Rq.n0 (x_iload_n d_332_141 rfl) ?_
  refine m_Rq.n0 (x_iload_n d_332_142 rfl) ?_
  refine m_Rq.n0 (x_ict d_332_143 rfl (by decide)) ?_
  refine m_Rq.n0 (x_iconst (z := 1) d_332_187 (by decide)) ?_
  refine m_Rq.ir d_332_188 rfl rfl ?_
  exact rfl
theorem e_fail_m {n : Nat} (hn : n < 7) (w : List mM) (h : m_FW 583 14 (f_m 0) l_F [] w) : m_Rq M_332 (62, [(2, .int (Int32.ofNat (1024 * n + 1024))), (0, .ref 583), (1, .int (Int32.ofNat n))], [], w) (fun v _ => v = some (.int 1)) 0 0 10 1000 := by
  refine m_Rq.n0 (x_sipush (z := 128) d_332_62 (by decide)) ?_
  refine m_Rq.n0 (x_iload_n d_332_65 rfl) ?_
  refine m_Rq.n0 (x_imul (z := Int32.ofNat (128 * n)) d_332_66 (m_n_mul _ _)) ?_
  refine m_Rq.n0 (x_istore_n d_332_67 rfl (show m_put1 _ _ _ = [(2, _), (0, _), (1, _)] from rfl)) ?_
  refine l_fail2 hn (fun w h => ?_) 128 (128 * n) w h rfl
  by_cases h2 : n ≤ 2
  · exact e_fail_e2 hn h2 w h
  · exact e_fail_e3 hn h2 w h
theorem e_fail_1 {n : Nat} (hn : n < 7) (hd : m_nd (Int32.ofNat n)) {w : List mM} (h : m_FW 583 14 (f_m 0) l_F [] w) (hu : m_at w 591 = some (.inl (4, 7, [(6, .int 1), (5, .int 1), (4, .int 1), (3, .int 1), (2, .int 1), (1, .int 1)]))) (hup : m_el 4 [(6, .int 1), (5, .int 1), (4, .int 1), (3, .int 1), (2, .int 1), (1, .int 1)] n = .int 1) : m_Rq M_332 (m_ent M_332 [.ref 583, .int (Int32.ofNat n)] w) (fun v _ => v = some (.int 1)) 0 0 10 1000 := by
  show m_Rq M_332 (0, [(0, .ref 583), (1, .int (Int32.ofNat n))], [], w) _ 0 0 10 1000
  refine m_Rq.n0 (x_aload_n d_332_0 rfl) ?_
  refine m_Rq.n0 (x_iconst (z := 0) d_332_1 (by decide)) ?_
  refine m_Rq.n0 (x_putfs d_332_2 rfl h.2.1 rfl rfl (by decide) rfl rfl rfl) ?_
  refine m_Rq.n0 (x_iload_n d_332_5 rfl) ?_
  refine m_Rq.callE (x_cs (n := 119) d_332_6 rfl q_333 rfl rfl h.1 rfl rfl) (s_mNode1 (m_nd_m.mp hd).1 (m_nd_m.mp hd).2) rfl ?_ (by decide) (by decide)
  refine m_Rq.n0 (x_iff d_332_9 rfl (by decide)) ?_
  refine m_Rq.n0 (x_aload_n d_332_12 rfl) ?_
  refine m_Rq.n0 (x_getf d_332_13 rfl h.2.1 rfl) ?_
  refine m_Rq.n0 (x_iload_n d_332_16 rfl) ?_
  refine m_Rq.n0 (x_baload (j := n) d_332_17 hu rfl (m_n_neg (by omega)) (m_n_cl (by omega)) (by omega) hup) ?_
  refine m_Rq.n0 (x_ift d_332_18 rfl (by decide)) ?_
  refine m_Rq.n0 (x_aload_n d_332_23 rfl) ?_
  refine m_Rq.n0 (x_getf d_332_24 rfl h.2.1 rfl) ?_
  refine m_Rq.n0 (x_iload_n d_332_27 rfl) ?_
  refine m_Rq.n0 (x_iconst (z := 0) d_332_28 (by decide)) ?_
  refine m_Rq.fwB d_332_29 wfF h 0 rfl (m_n_neg (by omega)) (m_n_cl (by omega)) (by omega) (fun w h => ?_)
  refine m_Rq.n0 (x_sipush (z := 1024) d_332_30 (by decide)) ?_
  refine m_Rq.n0 (x_iload_n d_332_33 rfl) ?_
  refine m_Rq.n0 (x_imul (z := Int32.ofNat (1024 * n)) d_332_34 (m_n_mul _ _)) ?_
  refine m_Rq.n0 (x_istore_n d_332_35 rfl (show m_put1 _ _ _ = [(2, _), (0, _), (1, _)] from rfl)) ?_
  exact l_fail1 hn (e_fail_m hn) 1024 (1024 * n) w h rfl
theorem m_FW_F {w : List mM} (h : m_mwb w = true) : m_FW 583 14 (f_m 0) l_F [] w := by
  obtain ⟨h1, h2⟩ := m_mwb_at h
  refine ⟨h1, (h2 583 (by decide) (by decide)).trans a_583, ?_, fun q hq => absurd hq List.not_mem_nil⟩
  intro q hq
  have hh : ∀ q ∈ l_F, 583 ≤ q.1 ∧ q.1 < 631 := by decide
  have hk : ∀ q ∈ l_F, ∃ e, m_at w_1 q.1 = some (.inl (q.2.1, q.2.2, e)) := by
    unfold l_F
    simp only [List.forall_mem_cons]
    exact ⟨⟨_, a_591⟩, ⟨_, a_601⟩, ⟨_, a_609⟩, ⟨_, a_618⟩, ⟨_, a_619⟩, ⟨_, a_597⟩, ⟨_, a_593⟩, fun q hq => absurd hq List.not_mem_nil⟩
  obtain ⟨e, he⟩ := hk q hq
  exact ⟨e, (h2 q.1 (hh q hq).1 (hh q hq).2).trans he⟩
theorem k_fail_1 : m_ck2 (m_exec 1500 M_151 (m_ent M_151 [.ref 512, .int 1] w_1)) 1 = true := by decide +kernel
theorem k_fail_2 : m_ck2 (m_exec 1500 M_151 (m_ent M_151 [.ref 512, .int 2] w_1)) 1 = true := by decide +kernel
theorem k_fail_3 : m_ck2 (m_exec 1500 M_151 (m_ent M_151 [.ref 512, .int 3] w_1)) 1 = true := by decide +kernel
theorem k_fail_4 : m_ck2 (m_exec 1500 M_151 (m_ent M_151 [.ref 512, .int 4] w_1)) 1 = true := by decide +kernel
theorem k_fail_5 : m_ck2 (m_exec 1500 M_151 (m_ent M_151 [.ref 512, .int 5] w_1)) 1 = true := by decide +kernel
theorem k_fail_6 : m_ck2 (m_exec 1500 M_151 (m_ent M_151 [.ref 512, .int 6] w_1)) 1 = true := by decide +kernel
theorem t_fail_n {j : Nat} (hj : j < 7) (hd : m_nd (Int32.ofNat j)) (hup : m_el 4 [(6, .int 1), (5, .int 1), (4, .int 1), (3, .int 1), (2, .int 1), (1, .int 1)] j = .int 1) (hk : m_Rq M_151 (m_ent M_151 [.ref 512, .int (Int32.ofNat j)] w_1) (fun v w => v = some (.int 1) ∧ m_mwb w = true) 400 400000 100 20000) : m_Two M_151 M_332 [.ref 512, .int (Int32.ofNat j)] [.ref 583, .int (Int32.ofNat j)] :=
  m_Two.gen 1 hk (fun w hw => m_mwb_mdl hw) (c' := 0) (s' := 0) (f' := 10) (l' := 1000) (fun w hw => e_fail_1 hj hd (m_FW_F hw) (((m_mwb_at hw).2 591 (by decide) (by decide)).trans a_591) hup) rfl
theorem t_fail (p : Int32) : m_Two M_151 M_332 [.ref 512, .int p] [.ref 583, .int p] := by
  by_cases h0 : m_nd p
  · obtain ⟨j, hj, rfl⟩ := m_nd_in h0
    match j, hj with
    | 0, _ => exact t_fail_n (j := 1) (by decide) h0 rfl (m_ck2_rq k_fail_1)
    | 1, _ => exact t_fail_n (j := 2) (by decide) h0 rfl (m_ck2_rq k_fail_2)
    | 2, _ => exact t_fail_n (j := 3) (by decide) h0 rfl (m_ck2_rq k_fail_3)
    | 3, _ => exact t_fail_n (j := 4) (by decide) h0 rfl (m_ck2_rq k_fail_4)
    | 4, _ => exact t_fail_n (j := 5) (by decide) h0 rfl (m_ck2_rq k_fail_5)
    | 5, _ => exact t_fail_n (j := 6) (by decide) h0 rfl (m_ck2_rq k_fail_6)
    | j + 6, hj => omega
  · exact m_Two.same2 0 (c_fail_a h0) (e_fail_a h0) rfl
