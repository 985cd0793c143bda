/-! type on a fresh object. Written by wip/tool/type.py. -/
theorem a_513 : m_at w_1 513 = some (.inr (1, [.ref 514, .int 0, .int 0, .int (-1), .ref 515, .int 0, .int 0, .int 0, .int 0, .int 0, .int 0, .int 0, .ref 516, .null, .null, .null])) := rfl
theorem a_514 : m_at w_1 514 = some (.inl (2, 300, [])) := rfl
theorem a_584 : m_at w_1 584 = some (.inl (0, 300, [])) := rfl
theorem q_13 : m_mt[13]? = some M_13 := by rfl
theorem d_12_0 : m_dn M_12 0 (.aload_n 0) 1 1 := by decide +kernel
theorem d_12_1 : m_dn M_12 1 (.getfield 10) 3 4 := by decide +kernel
theorem d_12_4 : m_dn M_12 4 (.lload_n 1) 1 5 := by decide +kernel
theorem d_12_5 : m_dn M_12 5 (.iload_n 3) 1 6 := by decide +kernel
theorem d_12_6 : m_dn M_12 6 (.invokevirtual 65) 3 9 := by decide +kernel
theorem d_12_9 : m_dn M_12 9 (.ireturn) 1 10 := by decide +kernel
theorem d_13_0 : m_dn M_13 0 (.iload_n 3) 1 1 := by decide +kernel
theorem d_13_1 : m_dn M_13 1 (.iconst 1) 1 2 := by decide +kernel
theorem d_13_100 : m_dn M_13 100 (.imul) 1 101 := by decide +kernel
theorem d_13_101 : m_dn M_13 101 (.lushr) 1 102 := by decide +kernel
theorem d_13_102 : m_dn M_13 102 (.ldc2_w 29) 3 105 := by decide +kernel
theorem d_13_105 : m_dn M_13 105 (.land) 1 106 := by decide +kernel
theorem d_13_106 : m_dn M_13 106 (.l2i) 1 107 := by decide +kernel
theorem d_13_107 : m_dn M_13 107 (.i2c) 1 108 := by decide +kernel
theorem d_13_108 : m_dn M_13 108 (.castore) 1 109 := by decide +kernel
theorem d_13_109 : m_dn M_13 109 (.aload_n 0) 1 110 := by decide +kernel
theorem d_13_11 : m_dn M_13 11 (.aload_n 0) 1 12 := by decide +kernel
theorem d_13_110 : m_dn M_13 110 (.dup) 1 111 := by decide +kernel
theorem d_13_111 : m_dn M_13 111 (.getfield 26) 3 114 := by decide +kernel
theorem d_13_114 : m_dn M_13 114 (.iconst 1) 1 115 := by decide +kernel
theorem d_13_115 : m_dn M_13 115 (.iadd) 1 116 := by decide +kernel
theorem d_13_116 : m_dn M_13 116 (.putfield 26) 3 119 := by decide +kernel
theorem d_13_119 : m_dn M_13 119 (.iinc 4 (-1)) 3 122 := by decide +kernel
theorem d_13_12 : m_dn M_13 12 (.getfield 26) 3 15 := by decide +kernel
theorem d_13_122 : m_dn M_13 122 (.goto (-40)) 3 125 := by decide +kernel
theorem d_13_125 : m_dn M_13 125 (.iconst 1) 1 126 := by decide +kernel
theorem d_13_126 : m_dn M_13 126 (.ireturn) 1 127 := by decide +kernel
theorem d_13_15 : m_dn M_13 15 (.iload_n 3) 1 16 := by decide +kernel
theorem d_13_16 : m_dn M_13 16 (.iadd) 1 17 := by decide +kernel
theorem d_13_17 : m_dn M_13 17 (.sipush 300) 3 20 := by decide +kernel
theorem d_13_2 : m_dn M_13 2 (.if_icmp .lt 21) 3 5 := by decide +kernel
theorem d_13_20 : m_dn M_13 20 (.if_icmp .le 5) 3 23 := by decide +kernel
theorem d_13_23 : m_dn M_13 23 (.iconst 0) 1 24 := by decide +kernel
theorem d_13_24 : m_dn M_13 24 (.ireturn) 1 25 := by decide +kernel
theorem d_13_25 : m_dn M_13 25 (.iconst 0) 1 26 := by decide +kernel
theorem d_13_26 : m_dn M_13 26 (.istore 4) 2 28 := by decide +kernel
theorem d_13_28 : m_dn M_13 28 (.iload 4) 2 30 := by decide +kernel
theorem d_13_30 : m_dn M_13 30 (.iload_n 3) 1 31 := by decide +kernel
theorem d_13_31 : m_dn M_13 31 (.if_icmp .ge 46) 3 34 := by decide +kernel
theorem d_13_34 : m_dn M_13 34 (.lload_n 1) 1 35 := by decide +kernel
theorem d_13_35 : m_dn M_13 35 (.bipush 8) 2 37 := by decide +kernel
theorem d_13_37 : m_dn M_13 37 (.iload 4) 2 39 := by decide +kernel
theorem d_13_39 : m_dn M_13 39 (.imul) 1 40 := by decide +kernel
theorem d_13_40 : m_dn M_13 40 (.lushr) 1 41 := by decide +kernel
theorem d_13_41 : m_dn M_13 41 (.ldc2_w 29) 3 44 := by decide +kernel
theorem d_13_44 : m_dn M_13 44 (.land) 1 45 := by decide +kernel
theorem d_13_45 : m_dn M_13 45 (.l2i) 1 46 := by decide +kernel
theorem d_13_46 : m_dn M_13 46 (.istore 5) 2 48 := by decide +kernel
theorem d_13_48 : m_dn M_13 48 (.iload 5) 2 50 := by decide +kernel
theorem d_13_5 : m_dn M_13 5 (.iload_n 3) 1 6 := by decide +kernel
theorem d_13_50 : m_dn M_13 50 (.bipush 10) 2 52 := by decide +kernel
theorem d_13_52 : m_dn M_13 52 (.if_icmp .eq 19) 3 55 := by decide +kernel
theorem d_13_55 : m_dn M_13 55 (.iload 5) 2 57 := by decide +kernel
theorem d_13_57 : m_dn M_13 57 (.bipush 32) 2 59 := by decide +kernel
theorem d_13_59 : m_dn M_13 59 (.if_icmp .lt 10) 3 62 := by decide +kernel
theorem d_13_6 : m_dn M_13 6 (.bipush 8) 2 8 := by decide +kernel
theorem d_13_62 : m_dn M_13 62 (.iload 5) 2 64 := by decide +kernel
theorem d_13_64 : m_dn M_13 64 (.bipush 126) 2 66 := by decide +kernel
theorem d_13_66 : m_dn M_13 66 (.if_icmp .le 5) 3 69 := by decide +kernel
theorem d_13_69 : m_dn M_13 69 (.iconst 0) 1 70 := by decide +kernel
theorem d_13_70 : m_dn M_13 70 (.ireturn) 1 71 := by decide +kernel
theorem d_13_71 : m_dn M_13 71 (.iinc 4 1) 3 74 := by decide +kernel
theorem d_13_74 : m_dn M_13 74 (.goto (-46)) 3 77 := by decide +kernel
theorem d_13_77 : m_dn M_13 77 (.iload_n 3) 1 78 := by decide +kernel
theorem d_13_78 : m_dn M_13 78 (.iconst 1) 1 79 := by decide +kernel
theorem d_13_79 : m_dn M_13 79 (.isub) 1 80 := by decide +kernel
theorem d_13_8 : m_dn M_13 8 (.if_icmp .gt 15) 3 11 := by decide +kernel
theorem d_13_80 : m_dn M_13 80 (.istore 4) 2 82 := by decide +kernel
theorem d_13_82 : m_dn M_13 82 (.iload 4) 2 84 := by decide +kernel
theorem d_13_84 : m_dn M_13 84 (.ifCond .lt 41) 3 87 := by decide +kernel
theorem d_13_87 : m_dn M_13 87 (.aload_n 0) 1 88 := by decide +kernel
theorem d_13_88 : m_dn M_13 88 (.getfield 11) 3 91 := by decide +kernel
theorem d_13_91 : m_dn M_13 91 (.aload_n 0) 1 92 := by decide +kernel
theorem d_13_92 : m_dn M_13 92 (.getfield 26) 3 95 := by decide +kernel
theorem d_13_95 : m_dn M_13 95 (.lload_n 1) 1 96 := by decide +kernel
theorem d_13_96 : m_dn M_13 96 (.bipush 8) 2 98 := by decide +kernel
theorem d_13_98 : m_dn M_13 98 (.iload 4) 2 100 := by decide +kernel
theorem d_242_0 : m_dn M_242 0 (.aload_n 0) 1 1 := by decide +kernel
theorem d_242_1 : m_dn M_242 1 (.iconst 0) 1 2 := by decide +kernel
theorem d_242_10 : m_dn M_242 10 (.iload_n 3) 1 11 := by decide +kernel
theorem d_242_100 : m_dn M_242 100 (.lload_n 1) 1 101 := by decide +kernel
theorem d_242_101 : m_dn M_242 101 (.bipush 8) 2 103 := by decide +kernel
theorem d_242_103 : m_dn M_242 103 (.iload 4) 2 105 := by decide +kernel
theorem d_242_105 : m_dn M_242 105 (.imul) 1 106 := by decide +kernel
theorem d_242_106 : m_dn M_242 106 (.lshr) 1 107 := by decide +kernel
theorem d_242_107 : m_dn M_242 107 (.ldc2_w 161) 3 110 := by decide +kernel
theorem d_242_11 : m_dn M_242 11 (.bipush 8) 2 13 := by decide +kernel
theorem d_242_110 : m_dn M_242 110 (.land) 1 111 := by decide +kernel
theorem d_242_111 : m_dn M_242 111 (.l2i) 1 112 := by decide +kernel
theorem d_242_112 : m_dn M_242 112 (.iastore) 1 113 := by decide +kernel
theorem d_242_113 : m_dn M_242 113 (.aload_n 0) 1 114 := by decide +kernel
theorem d_242_114 : m_dn M_242 114 (.dup) 1 115 := by decide +kernel
theorem d_242_115 : m_dn M_242 115 (.getfield 158) 3 118 := by decide +kernel
theorem d_242_118 : m_dn M_242 118 (.iconst 1) 1 119 := by decide +kernel
theorem d_242_119 : m_dn M_242 119 (.iadd) 1 120 := by decide +kernel
theorem d_242_120 : m_dn M_242 120 (.putfield 158) 3 123 := by decide +kernel
theorem d_242_123 : m_dn M_242 123 (.iinc 4 (-1)) 3 126 := by decide +kernel
theorem d_242_126 : m_dn M_242 126 (.goto (-39)) 3 129 := by decide +kernel
theorem d_242_129 : m_dn M_242 129 (.iconst 1) 1 130 := by decide +kernel
theorem d_242_13 : m_dn M_242 13 (.if_icmp .gt 15) 3 16 := by decide +kernel
theorem d_242_130 : m_dn M_242 130 (.ireturn) 1 131 := by decide +kernel
theorem d_242_16 : m_dn M_242 16 (.aload_n 0) 1 17 := by decide +kernel
theorem d_242_17 : m_dn M_242 17 (.getfield 158) 3 20 := by decide +kernel
theorem d_242_2 : m_dn M_242 2 (.putfield 155) 3 5 := by decide +kernel
theorem d_242_20 : m_dn M_242 20 (.iload_n 3) 1 21 := by decide +kernel
theorem d_242_21 : m_dn M_242 21 (.iadd) 1 22 := by decide +kernel
theorem d_242_22 : m_dn M_242 22 (.sipush 300) 3 25 := by decide +kernel
theorem d_242_25 : m_dn M_242 25 (.if_icmp .le 5) 3 28 := by decide +kernel
theorem d_242_28 : m_dn M_242 28 (.iconst 0) 1 29 := by decide +kernel
theorem d_242_29 : m_dn M_242 29 (.ireturn) 1 30 := by decide +kernel
theorem d_242_30 : m_dn M_242 30 (.iconst 0) 1 31 := by decide +kernel
theorem d_242_31 : m_dn M_242 31 (.istore 4) 2 33 := by decide +kernel
theorem d_242_33 : m_dn M_242 33 (.iload 4) 2 35 := by decide +kernel
theorem d_242_35 : m_dn M_242 35 (.iload_n 3) 1 36 := by decide +kernel
theorem d_242_36 : m_dn M_242 36 (.if_icmp .ge 46) 3 39 := by decide +kernel
theorem d_242_39 : m_dn M_242 39 (.lload_n 1) 1 40 := by decide +kernel
theorem d_242_40 : m_dn M_242 40 (.bipush 8) 2 42 := by decide +kernel
theorem d_242_42 : m_dn M_242 42 (.iload 4) 2 44 := by decide +kernel
theorem d_242_44 : m_dn M_242 44 (.imul) 1 45 := by decide +kernel
theorem d_242_45 : m_dn M_242 45 (.lshr) 1 46 := by decide +kernel
theorem d_242_46 : m_dn M_242 46 (.ldc2_w 161) 3 49 := by decide +kernel
theorem d_242_49 : m_dn M_242 49 (.land) 1 50 := by decide +kernel
theorem d_242_5 : m_dn M_242 5 (.iload_n 3) 1 6 := by decide +kernel
theorem d_242_50 : m_dn M_242 50 (.l2i) 1 51 := by decide +kernel
theorem d_242_51 : m_dn M_242 51 (.istore 5) 2 53 := by decide +kernel
theorem d_242_53 : m_dn M_242 53 (.iload 5) 2 55 := by decide +kernel
theorem d_242_55 : m_dn M_242 55 (.bipush 10) 2 57 := by decide +kernel
theorem d_242_57 : m_dn M_242 57 (.if_icmp .eq 19) 3 60 := by decide +kernel
theorem d_242_6 : m_dn M_242 6 (.iconst 1) 1 7 := by decide +kernel
theorem d_242_60 : m_dn M_242 60 (.iload 5) 2 62 := by decide +kernel
theorem d_242_62 : m_dn M_242 62 (.bipush 32) 2 64 := by decide +kernel
theorem d_242_64 : m_dn M_242 64 (.if_icmp .lt 10) 3 67 := by decide +kernel
theorem d_242_67 : m_dn M_242 67 (.iload 5) 2 69 := by decide +kernel
theorem d_242_69 : m_dn M_242 69 (.bipush 126) 2 71 := by decide +kernel
theorem d_242_7 : m_dn M_242 7 (.if_icmp .lt 21) 3 10 := by decide +kernel
theorem d_242_71 : m_dn M_242 71 (.if_icmp .le 5) 3 74 := by decide +kernel
theorem d_242_74 : m_dn M_242 74 (.iconst 0) 1 75 := by decide +kernel
theorem d_242_75 : m_dn M_242 75 (.ireturn) 1 76 := by decide +kernel
theorem d_242_76 : m_dn M_242 76 (.iinc 4 1) 3 79 := by decide +kernel
theorem d_242_79 : m_dn M_242 79 (.goto (-46)) 3 82 := by decide +kernel
theorem d_242_82 : m_dn M_242 82 (.iload_n 3) 1 83 := by decide +kernel
theorem d_242_83 : m_dn M_242 83 (.iconst 1) 1 84 := by decide +kernel
theorem d_242_84 : m_dn M_242 84 (.isub) 1 85 := by decide +kernel
theorem d_242_85 : m_dn M_242 85 (.istore 4) 2 87 := by decide +kernel
theorem d_242_87 : m_dn M_242 87 (.iload 4) 2 89 := by decide +kernel
theorem d_242_89 : m_dn M_242 89 (.ifCond .lt 40) 3 92 := by decide +kernel
theorem d_242_92 : m_dn M_242 92 (.aload_n 0) 1 93 := by decide +kernel
theorem d_242_93 : m_dn M_242 93 (.getfield 7) 3 96 := by decide +kernel
theorem d_242_96 : m_dn M_242 96 (.aload_n 0) 1 97 := by decide +kernel
theorem d_242_97 : m_dn M_242 97 (.getfield 158) 3 100 := by decide +kernel
/-- byte k of a word: as the class takes it, as the reference does -/
def m_by (word : Int64) (k : Nat) : Int32 := ((word.toUInt64 >>> ((Int32.ofNat (8 * k)).toInt64.toUInt64 &&& Int64.toUInt64 63)).toInt64 &&& 255).toInt32
def m_by2 (word : Int64) (k : Nat) : Int32 := ((word >>> ((Int32.ofNat (8 * k)).toInt64 &&& 63)) &&& 255).toInt32
def m_gb (c : Int32) : Bool := decide (c = 10) || (decide (¬ c < 32) && decide (c ≤ 126))
def m_gd (word : Int64) : Nat → Nat → Bool
  | _, 0 => true
  | k, d + 1 => m_gb (m_by word k) && m_gd word (k + 1) d
def m_gd2 (word : Int64) : Nat → Nat → Bool
  | _, 0 => true
  | k, d + 1 => m_gb (m_by2 word k) && m_gd2 word (k + 1) d
theorem m_gb_a {c : Int32} (h : c = 10) : m_gb c = true := by
  unfold m_gb
  rw [decide_eq_true h]
  rfl
theorem m_gb_b {c : Int32} (h1 : ¬ c < 32) (h2 : c ≤ 126) : m_gb c = true := by
  unfold m_gb
  rw [decide_eq_true h1, decide_eq_true h2]
  simp
theorem m_gb_c {c : Int32} (h : ¬ c = 10) (h1 : c < 32) : m_gb c = false := by
  unfold m_gb
  rw [decide_eq_false h, decide_eq_false (fun g : ¬ c < 32 => g h1)]
  rfl
theorem m_gb_d {c : Int32} (h : ¬ c = 10) (h2 : ¬ c ≤ 126) : m_gb c = false := by
  unfold m_gb
  rw [decide_eq_false h, decide_eq_false h2]
  simp
theorem m_bv8 (x : BitVec 64) (s : Nat) (hs : s ≤ 56) : (x >>> s) &&& 255#64 = (x.sshiftRight s) &&& 255#64 := by
  apply BitVec.eq_of_getLsbD_eq
  intro i hi
  rw [BitVec.getLsbD_and, BitVec.getLsbD_and, BitVec.getLsbD_ushiftRight, BitVec.getLsbD_sshiftRight]
  by_cases h8 : i < 8
  · have h1 : ¬ 64 ≤ i := by omega
    have h2 : s + i < 64 := by omega
    simp [h1, h2]
  · have h255 : (255#64).getLsbD i = false := by
      have : ∀ i, i < 64 → ¬ i < 8 → (255#64).getLsbD i = false := by decide
      exact this i hi h8
    rw [h255, Bool.and_false, Bool.and_false]
theorem m_by_eq8 : ∀ k, k < 8 → ∀ word : Int64, m_by word k = m_by2 word k := by
  intro k hk word
  unfold m_by m_by2
  congr 1
  apply Int64.toBitVec_inj.mp
  match k, hk with
  | 0, _ => exact m_bv8 word.toBitVec 0 (by decide)
  | 1, _ => exact m_bv8 word.toBitVec 8 (by decide)
  | 2, _ => exact m_bv8 word.toBitVec 16 (by decide)
  | 3, _ => exact m_bv8 word.toBitVec 24 (by decide)
  | 4, _ => exact m_bv8 word.toBitVec 32 (by decide)
  | 5, _ => exact m_bv8 word.toBitVec 40 (by decide)
  | 6, _ => exact m_bv8 word.toBitVec 48 (by decide)
  | 7, _ => exact m_bv8 word.toBitVec 56 (by decide)
  | k + 8, hk => omega
theorem m_gd_eq (word : Int64) : ∀ d k, k + d ≤ 8 → m_gd word k d = m_gd2 word k d := by
  intro d
  induction d with
  | zero => intro k _; rfl
  | succ d ih =>
    intro k hk
    show (m_gb (m_by word k) && m_gd word (k + 1) d) = (m_gb (m_by2 word k) && m_gd2 word (k + 1) d)
    rw [m_by_eq8 k (by omega), ih (k + 1) (by omega)]
theorem m_n_dec (k : Nat) : Int32.ofNat (k + 1) + Int32.ofInt (-1) = Int32.ofNat k := by
  rw [← m_n_add]
  show Int32.ofNat k + 1 + (-1) = Int32.ofNat k
  rw [Int32.add_assoc]
  exact Int32.add_zero _
def f_r (c : Int32) : List Value := [.ref 514, .int c, .int 0, .int (-1), .ref 515, .int 0, .int 0, .int 0, .int 0, .int 0, .int 0, .int 0, .ref 516, .null, .null, .null]
def f_t (c : Int32) : List Value := [.int 0, .ref 584, .int c, .int (-1), .int 0, .int 0, .int 0, .int 0, .int 0, .int 0, .int 0, .int 0, .int 0, .int 0, .int 0, .int 0, .int 0, .int 0, .int 0, .int 0, .int 0, .ref 585, .ref 586, .int 0, .int 0, .int 0, .int 0, .int 0, .int 0, .int 0, .int 0, .int 0, .ref 587, .ref 588, .ref 589, .ref 590, .int 0, .int 0, .int 0, .int 0, .ref 591, .ref 592, .ref 593, .ref 594, .ref 595, .ref 596, .ref 597, .ref 598, .ref 599, .ref 600, .ref 601, .ref 602, .ref 603, .ref 604, .ref 605, .ref 606, .ref 607, .ref 608, .int 0, .ref 609, .ref 610, .ref 611, .ref 612, .ref 613, .ref 614, .ref 615, .ref 616, .ref 617, .ref 618, .ref 619, .int 0, .int 0, .ref 620, .ref 621, .int 0, .ref 622, .ref 623, .int 0, .ref 624, .ref 625, .int 0, .int 0, .int 0, .ref 626, .int 0, .int 0, .int 0, .int 0, .ref 627, .ref 628, .ref 629, .int 0]
def g_R : List (Nat × mM) := [(583, .inr (14, [.int 0, .ref 584, .int 0, .int (-1), .int 0, .int 0, .int 0, .int 0, .int 0, .int 0, .int 0, .int 0, .int 0, .int 0, .int 0, .int 0, .int 0, .int 0, .int 0, .int 0, .int 0, .ref 585, .ref 586, .int 0, .int 0, .int 0, .int 0, .int 0, .int 0, .int 0, .int 0, .int 0, .ref 587, .ref 588, .ref 589, .ref 590, .int 0, .int 0, .int 0, .int 0, .ref 591, .ref 592, .ref 593, .ref 594, .ref 595, .ref 596, .ref 597, .ref 598, .ref 599, .ref 600, .ref 601, .ref 602, .ref 603, .ref 604, .ref 605, .ref 606, .ref 607, .ref 608, .int 0, .ref 609, .ref 610, .ref 611, .ref 612, .ref 613, .ref 614, .ref 615, .ref 616, .ref 617, .ref 618, .ref 619, .int 0, .int 0, .ref 620, .ref 621, .int 0, .ref 622, .ref 623, .int 0, .ref 624, .ref 625, .int 0, .int 0, .int 0, .ref 626, .int 0, .int 0, .int 0, .int 0, .ref 627, .ref 628, .ref 629, .int 0])), (584, .inl (0, 300, []))]
theorem wfR : m_wf 513 [(514, 2, 300)] g_R = true := by decide
theorem wfT : m_wf 583 [(584, 0, 300)] [] = true := by decide
theorem l_c1 {word : Int64} {m : Nat} (hm : m ≤ 8) {w : List mM} {P : Option Value → List mM → Prop} : ∀ (d k : Nat) (c : Int32), k + d = m → (m_gd word k d = true → ∀ c, m_Rq M_13 (77, [(4, .int (Int32.ofNat m)), (5, .int c), (0, .ref 513), (1, .long word), (3, .int (Int32.ofNat m))], [], w) P 0 0 0 0) → (m_gd word k d = false → P (some (.int 0)) w) → m_Rq M_13 (28, [(4, .int (Int32.ofNat k)), (5, .int c), (0, .ref 513), (1, .long word), (3, .int (Int32.ofNat m))], [], w) P 0 0 0 0 := by
  intro d
  induction d with
  | zero =>
    intro k c he k1 k0
    refine m_Rq.n0 (x_iload d_13_28 rfl) ?_
    refine m_Rq.n0 (x_iload_n d_13_30 rfl) ?_
    refine m_Rq.n0 (x_ict d_13_31 rfl (m_c2n (a := k) (b := m) (by omega) (by omega) (decide_eq_true (p := m ≤ k) (by omega)))) ?_
    rw [show k = m from he]
    exact k1 rfl c
  | succ d ih =>
    intro k c he k1 k0
    refine m_Rq.n0 (x_iload d_13_28 rfl) ?_
    refine m_Rq.n0 (x_iload_n d_13_30 rfl) ?_
    refine m_Rq.n0 (x_icf d_13_31 rfl (m_c2n (a := k) (b := m) (by omega) (by omega) (decide_eq_false (p := m ≤ k) (by omega)))) ?_
    refine m_Rq.n0 (x_lload_n d_13_34 rfl) ?_
    refine m_Rq.n0 (x_bipush (z := 8) d_13_35 (by decide)) ?_
    refine m_Rq.n0 (x_iload d_13_37 rfl) ?_
    refine m_Rq.n0 (x_imul (z := Int32.ofNat (8 * k)) d_13_39 (m_n_mul _ _)) ?_
    refine m_Rq.n0 (x_lushr d_13_40 rfl) ?_
    refine m_Rq.n0 (x_ldc2 d_13_41 rfl) ?_
    refine m_Rq.n0 (x_land d_13_44 rfl) ?_
    refine m_Rq.n0 (x_l2i d_13_45 rfl) ?_
    refine m_Rq.n0 (x_istore d_13_46 rfl (show m_put1 _ _ _ = [(5, _), (4, _), (0, _), (1, _), (3, _)] from rfl)) ?_
    refine m_Rq.n0 (x_iload d_13_48 rfl) ?_
    refine m_Rq.n0 (x_bipush (z := 10) d_13_50 (by decide)) ?_
    by_cases h10 : m_by word k = 10
    · refine m_Rq.n0 (x_ict d_13_52 rfl (decide_eq_true h10)) ?_
      refine m_Rq.n0 (x_iinc (z := Int32.ofNat (k + 1)) d_13_71 rfl rfl (m_n_inc _) (show m_put1 _ _ _ = [(4, _), (5, _), (0, _), (1, _), (3, _)] from rfl)) ?_
      refine m_Rq.n0 (x_goto d_13_74 rfl) ?_
      have e : m_gd word k (d + 1) = m_gd word (k + 1) d := by
        show (m_gb (m_by word k) && m_gd word (k + 1) d) = _
        rw [m_gb_a h10]
        rfl
      exact ih (k + 1) _ (by omega) (fun g => k1 (e.trans g)) (fun g => k0 (e.trans g))
    · by_cases h32 : m_by word k < 32
      · refine m_Rq.n0 (x_icf d_13_52 rfl (decide_eq_false h10)) ?_
        refine m_Rq.n0 (x_iload d_13_55 rfl) ?_
        refine m_Rq.n0 (x_bipush (z := 32) d_13_57 (by decide)) ?_
        refine m_Rq.n0 (x_ict d_13_59 rfl (decide_eq_true h32)) ?_
        refine m_Rq.n0 (x_iconst (z := 0) d_13_69 (by decide)) ?_
        refine m_Rq.ir d_13_70 rfl rfl ?_
        have e : m_gd word k (d + 1) = false := by
          show (m_gb (m_by word k) && m_gd word (k + 1) d) = _
          rw [m_gb_c h10 h32]
          rfl
        exact k0 e
      · by_cases h126 : m_by word k ≤ 126
        · refine m_Rq.n0 (x_icf d_13_52 rfl (decide_eq_false h10)) ?_
          refine m_Rq.n0 (x_iload d_13_55 rfl) ?_
          refine m_Rq.n0 (x_bipush (z := 32) d_13_57 (by decide)) ?_
          refine m_Rq.n0 (x_icf d_13_59 rfl (decide_eq_false h32)) ?_
          refine m_Rq.n0 (x_iload d_13_62 rfl) ?_
          refine m_Rq.n0 (x_bipush (z := 126) d_13_64 (by decide)) ?_
          refine m_Rq.n0 (x_ict d_13_66 rfl (decide_eq_true h126)) ?_
          refine m_Rq.n0 (x_iinc (z := Int32.ofNat (k + 1)) d_13_71 rfl rfl (m_n_inc _) (show m_put1 _ _ _ = [(4, _), (5, _), (0, _), (1, _), (3, _)] from rfl)) ?_
          refine m_Rq.n0 (x_goto d_13_74 rfl) ?_
          have e : m_gd word k (d + 1) = m_gd word (k + 1) d := by
            show (m_gb (m_by word k) && m_gd word (k + 1) d) = _
            rw [m_gb_b h32 h126]
            rfl
          exact ih (k + 1) _ (by omega) (fun g => k1 (e.trans g)) (fun g => k0 (e.trans g))
        · refine m_Rq.n0 (x_icf d_13_52 rfl (decide_eq_false h10)) ?_
          refine m_Rq.n0 (x_iload d_13_55 rfl) ?_
          refine m_Rq.n0 (x_bipush (z := 32) d_13_57 (by decide)) ?_
          refine m_Rq.n0 (x_icf d_13_59 rfl (decide_eq_false h32)) ?_
          refine m_Rq.n0 (x_iload d_13_62 rfl) ?_
          refine m_Rq.n0 (x_bipush (z := 126) d_13_64 (by decide)) ?_
          refine m_Rq.n0 (x_icf d_13_66 rfl (decide_eq_false h126)) ?_
          refine m_Rq.n0 (x_iconst (z := 0) d_13_69 (by decide)) ?_
          refine m_Rq.ir d_13_70 rfl rfl ?_
          have e : m_gd word k (d + 1) = false := by
            show (m_gb (m_by word k) && m_gd word (k + 1) d) = _
            rw [m_gb_d h10 h126]
            rfl
          exact k0 e
theorem l_c0 {word : Int64} {m d : Nat} (hm : m ≤ 8) (he : 0 + (d + 1) = m) {w : List mM} {P : Option Value → List mM → Prop} (k1 : (m_gd word 0 (d + 1) = true → ∀ c, m_Rq M_13 (77, [(4, .int (Int32.ofNat m)), (5, .int c), (0, .ref 513), (1, .long word), (3, .int (Int32.ofNat m))], [], w) P 0 0 0 0)) (k0 : (m_gd word 0 (d + 1) = false → P (some (.int 0)) w)) : m_Rq M_13 (28, [(4, .int 0), (0, .ref 513), (1, .long word), (3, .int (Int32.ofNat m))], [], w) P 0 0 0 0 := by
  refine m_Rq.n0 (x_iload d_13_28 rfl) ?_
  refine m_Rq.n0 (x_iload_n d_13_30 rfl) ?_
  refine m_Rq.n0 (x_icf d_13_31 rfl (m_c2n (a := 0) (b := m) (by omega) (by omega) (decide_eq_false (p := m ≤ 0) (by omega)))) ?_
  refine m_Rq.n0 (x_lload_n d_13_34 rfl) ?_
  refine m_Rq.n0 (x_bipush (z := 8) d_13_35 (by decide)) ?_
  refine m_Rq.n0 (x_iload d_13_37 rfl) ?_
  refine m_Rq.n0 (x_imul (z := Int32.ofNat (8 * 0)) d_13_39 (m_n_mul _ _)) ?_
  refine m_Rq.n0 (x_lushr d_13_40 rfl) ?_
  refine m_Rq.n0 (x_ldc2 d_13_41 rfl) ?_
  refine m_Rq.n0 (x_land d_13_44 rfl) ?_
  refine m_Rq.n0 (x_l2i d_13_45 rfl) ?_
  refine m_Rq.n0 (x_istore d_13_46 rfl (show m_put1 _ _ _ = [(5, _), (4, _), (0, _), (1, _), (3, _)] from rfl)) ?_
  refine m_Rq.n0 (x_iload d_13_48 rfl) ?_
  refine m_Rq.n0 (x_bipush (z := 10) d_13_50 (by decide)) ?_
  by_cases h10 : m_by word 0 = 10
  · refine m_Rq.n0 (x_ict d_13_52 rfl (decide_eq_true h10)) ?_
    refine m_Rq.n0 (x_iinc (z := Int32.ofNat (0 + 1)) d_13_71 rfl rfl (m_n_inc _) (show m_put1 _ _ _ = [(4, _), (5, _), (0, _), (1, _), (3, _)] from rfl)) ?_
    refine m_Rq.n0 (x_goto d_13_74 rfl) ?_
    have e : m_gd word 0 (d + 1) = m_gd word 1 d := by
      show (m_gb (m_by word 0) && m_gd word 1 d) = _
      rw [m_gb_a h10]
      rfl
    exact l_c1 hm d 1 _ (by omega) (fun g => k1 (e.trans g)) (fun g => k0 (e.trans g))
  · by_cases h32 : m_by word 0 < 32
    · refine m_Rq.n0 (x_icf d_13_52 rfl (decide_eq_false h10)) ?_
      refine m_Rq.n0 (x_iload d_13_55 rfl) ?_
      refine m_Rq.n0 (x_bipush (z := 32) d_13_57 (by decide)) ?_
      refine m_Rq.n0 (x_ict d_13_59 rfl (decide_eq_true h32)) ?_
      refine m_Rq.n0 (x_iconst (z := 0) d_13_69 (by decide)) ?_
      refine m_Rq.ir d_13_70 rfl rfl ?_
      have e : m_gd word 0 (d + 1) = false := by
        show (m_gb (m_by word 0) && m_gd word 1 d) = _
        rw [m_gb_c h10 h32]
        rfl
      exact k0 e
    · by_cases h126 : m_by word 0 ≤ 126
      · refine m_Rq.n0 (x_icf d_13_52 rfl (decide_eq_false h10)) ?_
        refine m_Rq.n0 (x_iload d_13_55 rfl) ?_
        refine m_Rq.n0 (x_bipush (z := 32) d_13_57 (by decide)) ?_
        refine m_Rq.n0 (x_icf d_13_59 rfl (decide_eq_false h32)) ?_
        refine m_Rq.n0 (x_iload d_13_62 rfl) ?_
        refine m_Rq.n0 (x_bipush (z := 126) d_13_64 (by decide)) ?_
        refine m_Rq.n0 (x_ict d_13_66 rfl (decide_eq_true h126)) ?_
        refine m_Rq.n0 (x_iinc (z := Int32.ofNat (0 + 1)) d_13_71 rfl rfl (m_n_inc _) (show m_put1 _ _ _ = [(4, _), (5, _), (0, _), (1, _), (3, _)] from rfl)) ?_
        refine m_Rq.n0 (x_goto d_13_74 rfl) ?_
        have e : m_gd word 0 (d + 1) = m_gd word 1 d := by
          show (m_gb (m_by word 0) && m_gd word 1 d) = _
          rw [m_gb_b h32 h126]
          rfl
        exact l_c1 hm d 1 _ (by omega) (fun g => k1 (e.trans g)) (fun g => k0 (e.trans g))
      · refine m_Rq.n0 (x_icf d_13_52 rfl (decide_eq_false h10)) ?_
        refine m_Rq.n0 (x_iload d_13_55 rfl) ?_
        refine m_Rq.n0 (x_bipush (z := 32) d_13_57 (by decide)) ?_
        refine m_Rq.n0 (x_icf d_13_59 rfl (decide_eq_false h32)) ?_
        refine m_Rq.n0 (x_iload d_13_62 rfl) ?_
        refine m_Rq.n0 (x_bipush (z := 126) d_13_64 (by decide)) ?_
        refine m_Rq.n0 (x_icf d_13_66 rfl (decide_eq_false h126)) ?_
        refine m_Rq.n0 (x_iconst (z := 0) d_13_69 (by decide)) ?_
        refine m_Rq.ir d_13_70 rfl rfl ?_
        have e : m_gd word 0 (d + 1) = false := by
          show (m_gb (m_by word 0) && m_gd word 1 d) = _
          rw [m_gb_d h10 h126]
          rfl
        exact k0 e
theorem l_e1 {word : Int64} {m : Nat} (hm : m ≤ 8) {w : List mM} {P : Option Value → List mM → Prop} : ∀ (d k : Nat) (c : Int32), k + d = m → (m_gd2 word k d = true → ∀ c, m_Rq M_242 (82, [(4, .int (Int32.ofNat m)), (5, .int c), (0, .ref 583), (1, .long word), (3, .int (Int32.ofNat m))], [], w) P 0 0 0 0) → (m_gd2 word k d = false → P (some (.int 0)) w) → m_Rq M_242 (33, [(4, .int (Int32.ofNat k)), (5, .int c), (0, .ref 583), (1, .long word), (3, .int (Int32.ofNat m))], [], w) P 0 0 0 0 := by
  intro d
  induction d with
  | zero =>
    intro k c he k1 k0
    refine m_Rq.n0 (x_iload d_242_33 rfl) ?_
    refine m_Rq.n0 (x_iload_n d_242_35 rfl) ?_
    refine m_Rq.n0 (x_ict d_242_36 rfl (m_c2n (a := k) (b := m) (by omega) (by omega) (decide_eq_true (p := m ≤ k) (by omega)))) ?_
    rw [show k = m from he]
    exact k1 rfl c
  | succ d ih =>
    intro k c he k1 k0
    refine m_Rq.n0 (x_iload d_242_33 rfl) ?_
    refine m_Rq.n0 (x_iload_n d_242_35 rfl) ?_
    refine m_Rq.n0 (x_icf d_242_36 rfl (m_c2n (a := k) (b := m) (by omega) (by omega) (decide_eq_false (p := m ≤ k) (by omega)))) ?_
    refine m_Rq.n0 (x_lload_n d_242_39 rfl) ?_
    refine m_Rq.n0 (x_bipush (z := 8) d_242_40 (by decide)) ?_
    refine m_Rq.n0 (x_iload d_242_42 rfl) ?_
    refine m_Rq.n0 (x_imul (z := Int32.ofNat (8 * k)) d_242_44 (m_n_mul _ _)) ?_
    refine m_Rq.n0 (x_lshr d_242_45 rfl) ?_
    refine m_Rq.n0 (x_ldc2 d_242_46 rfl) ?_
    refine m_Rq.n0 (x_land d_242_49 rfl) ?_
    refine m_Rq.n0 (x_l2i d_242_50 rfl) ?_
    refine m_Rq.n0 (x_istore d_242_51 rfl (show m_put1 _ _ _ = [(5, _), (4, _), (0, _), (1, _), (3, _)] from rfl)) ?_
    refine m_Rq.n0 (x_iload d_242_53 rfl) ?_
    refine m_Rq.n0 (x_bipush (z := 10) d_242_55 (by decide)) ?_
    by_cases h10 : m_by2 word k = 10
    · refine m_Rq.n0 (x_ict d_242_57 rfl (decide_eq_true h10)) ?_
      refine m_Rq.n0 (x_iinc (z := Int32.ofNat (k + 1)) d_242_76 rfl rfl (m_n_inc _) (show m_put1 _ _ _ = [(4, _), (5, _), (0, _), (1, _), (3, _)] from rfl)) ?_
      refine m_Rq.n0 (x_goto d_242_79 rfl) ?_
      have e : m_gd2 word k (d + 1) = m_gd2 word (k + 1) d := by
        show (m_gb (m_by2 word k) && m_gd2 word (k + 1) d) = _
        rw [m_gb_a h10]
        rfl
      exact ih (k + 1) _ (by omega) (fun g => k1 (e.trans g)) (fun g => k0 (e.trans g))
    · by_cases h32 : m_by2 word k < 32
      · refine m_Rq.n0 (x_icf d_242_57 rfl (decide_eq_false h10)) ?_
        refine m_Rq.n0 (x_iload d_242_60 rfl) ?_
        refine m_Rq.n0 (x_bipush (z := 32) d_242_62 (by decide)) ?_
        refine m_Rq.n0 (x_ict d_242_64 rfl (decide_eq_true h32)) ?_
        refine m_Rq.n0 (x_iconst (z := 0) d_242_74 (by decide)) ?_
        refine m_Rq.ir d_242_75 rfl rfl ?_
        have e : m_gd2 word k (d + 1) = false := by
          show (m_gb (m_by2 word k) && m_gd2 word (k + 1) d) = _
          rw [m_gb_c h10 h32]
          rfl
        exact k0 e
      · by_cases h126 : m_by2 word k ≤ 126
        · refine m_Rq.n0 (x_icf d_242_57 rfl (decide_eq_false h10)) ?_
          refine m_Rq.n0 (x_iload d_242_60 rfl) ?_
          refine m_Rq.n0 (x_bipush (z := 32) d_242_62 (by decide)) ?_
          refine m_Rq.n0 (x_icf d_242_64 rfl (decide_eq_false h32)) ?_
          refine m_Rq.n0 (x_iload d_242_67 rfl) ?_
          refine m_Rq.n0 (x_bipush (z := 126) d_242_69 (by decide)) ?_
          refine m_Rq.n0 (x_ict d_242_71 rfl (decide_eq_true h126)) ?_
          refine m_Rq.n0 (x_iinc (z := Int32.ofNat (k + 1)) d_242_76 rfl rfl (m_n_inc _) (show m_put1 _ _ _ = [(4, _), (5, _), (0, _), (1, _), (3, _)] from rfl)) ?_
          refine m_Rq.n0 (x_goto d_242_79 rfl) ?_
          have e : m_gd2 word k (d + 1) = m_gd2 word (k + 1) d := by
            show (m_gb (m_by2 word k) && m_gd2 word (k + 1) d) = _
            rw [m_gb_b h32 h126]
            rfl
          exact ih (k + 1) _ (by omega) (fun g => k1 (e.trans g)) (fun g => k0 (e.trans g))
        · refine m_Rq.n0 (x_icf d_242_57 rfl (decide_eq_false h10)) ?_
          refine m_Rq.n0 (x_iload d_242_60 rfl) ?_
          refine m_Rq.n0 (x_bipush (z := 32) d_242_62 (by decide)) ?_
          refine m_Rq.n0 (x_icf d_242_64 rfl (decide_eq_false h32)) ?_
          refine m_Rq.n0 (x_iload d_242_67 rfl) ?_
          refine m_Rq.n0 (x_bipush (z := 126) d_242_69 (by decide)) ?_
          refine m_Rq.n0 (x_icf d_242_71 rfl (decide_eq_false h126)) ?_
          refine m_Rq.n0 (x_iconst (z := 0) d_242_74 (by decide)) ?_
          refine m_Rq.ir d_242_75 rfl rfl ?_
          have e : m_gd2 word k (d + 1) = false := by
            show (m_gb (m_by2 word k) && m_gd2 word (k + 1) d) = _
            rw [m_gb_d h10 h126]
            rfl
          exact k0 e
theorem l_e0 {word : Int64} {m d : Nat} (hm : m ≤ 8) (he : 0 + (d + 1) = m) {w : List mM} {P : Option Value → List mM → Prop} (k1 : (m_gd2 word 0 (d + 1) = true → ∀ c, m_Rq M_242 (82, [(4, .int (Int32.ofNat m)), (5, .int c), (0, .ref 583), (1, .long word), (3, .int (Int32.ofNat m))], [], w) P 0 0 0 0)) (k0 : (m_gd2 word 0 (d + 1) = false → P (some (.int 0)) w)) : m_Rq M_242 (33, [(4, .int 0), (0, .ref 583), (1, .long word), (3, .int (Int32.ofNat m))], [], w) P 0 0 0 0 := by
  refine m_Rq.n0 (x_iload d_242_33 rfl) ?_
  refine m_Rq.n0 (x_iload_n d_242_35 rfl) ?_
  refine m_Rq.n0 (x_icf d_242_36 rfl (m_c2n (a := 0) (b := m) (by omega) (by omega) (decide_eq_false (p := m ≤ 0) (by omega)))) ?_
  refine m_Rq.n0 (x_lload_n d_242_39 rfl) ?_
  refine m_Rq.n0 (x_bipush (z := 8) d_242_40 (by decide)) ?_
  refine m_Rq.n0 (x_iload d_242_42 rfl) ?_
  refine m_Rq.n0 (x_imul (z := Int32.ofNat (8 * 0)) d_242_44 (m_n_mul _ _)) ?_
  refine m_Rq.n0 (x_lshr d_242_45 rfl) ?_
  refine m_Rq.n0 (x_ldc2 d_242_46 rfl) ?_
  refine m_Rq.n0 (x_land d_242_49 rfl) ?_
  refine m_Rq.n0 (x_l2i d_242_50 rfl) ?_
  refine m_Rq.n0 (x_istore d_242_51 rfl (show m_put1 _ _ _ = [(5, _), (4, _), (0, _), (1, _), (3, _)] from rfl)) ?_
  refine m_Rq.n0 (x_iload d_242_53 rfl) ?_
  refine m_Rq.n0 (x_bipush (z := 10) d_242_55 (by decide)) ?_
  by_cases h10 : m_by2 word 0 = 10
  · refine m_Rq.n0 (x_ict d_242_57 rfl (decide_eq_true h10)) ?_
    refine m_Rq.n0 (x_iinc (z := Int32.ofNat (0 + 1)) d_242_76 rfl rfl (m_n_inc _) (show m_put1 _ _ _ = [(4, _), (5, _), (0, _), (1, _), (3, _)] from rfl)) ?_
    refine m_Rq.n0 (x_goto d_242_79 rfl) ?_
    have e : m_gd2 word 0 (d + 1) = m_gd2 word 1 d := by
      show (m_gb (m_by2 word 0) && m_gd2 word 1 d) = _
      rw [m_gb_a h10]
      rfl
    exact l_e1 hm d 1 _ (by omega) (fun g => k1 (e.trans g)) (fun g => k0 (e.trans g))
  · by_cases h32 : m_by2 word 0 < 32
    · refine m_Rq.n0 (x_icf d_242_57 rfl (decide_eq_false h10)) ?_
      refine m_Rq.n0 (x_iload d_242_60 rfl) ?_
      refine m_Rq.n0 (x_bipush (z := 32) d_242_62 (by decide)) ?_
      refine m_Rq.n0 (x_ict d_242_64 rfl (decide_eq_true h32)) ?_
      refine m_Rq.n0 (x_iconst (z := 0) d_242_74 (by decide)) ?_
      refine m_Rq.ir d_242_75 rfl rfl ?_
      have e : m_gd2 word 0 (d + 1) = false := by
        show (m_gb (m_by2 word 0) && m_gd2 word 1 d) = _
        rw [m_gb_c h10 h32]
        rfl
      exact k0 e
    · by_cases h126 : m_by2 word 0 ≤ 126
      · refine m_Rq.n0 (x_icf d_242_57 rfl (decide_eq_false h10)) ?_
        refine m_Rq.n0 (x_iload d_242_60 rfl) ?_
        refine m_Rq.n0 (x_bipush (z := 32) d_242_62 (by decide)) ?_
        refine m_Rq.n0 (x_icf d_242_64 rfl (decide_eq_false h32)) ?_
        refine m_Rq.n0 (x_iload d_242_67 rfl) ?_
        refine m_Rq.n0 (x_bipush (z := 126) d_242_69 (by decide)) ?_
        refine m_Rq.n0 (x_ict d_242_71 rfl (decide_eq_true h126)) ?_
        refine m_Rq.n0 (x_iinc (z := Int32.ofNat (0 + 1)) d_242_76 rfl rfl (m_n_inc _) (show m_put1 _ _ _ = [(4, _), (5, _), (0, _), (1, _), (3, _)] from rfl)) ?_
        refine m_Rq.n0 (x_goto d_242_79 rfl) ?_
        have e : m_gd2 word 0 (d + 1) = m_gd2 word 1 d := by
          show (m_gb (m_by2 word 0) && m_gd2 word 1 d) = _
          rw [m_gb_b h32 h126]
          rfl
        exact l_e1 hm d 1 _ (by omega) (fun g => k1 (e.trans g)) (fun g => k0 (e.trans g))
      · refine m_Rq.n0 (x_icf d_242_57 rfl (decide_eq_false h10)) ?_
        refine m_Rq.n0 (x_iload d_242_60 rfl) ?_
        refine m_Rq.n0 (x_bipush (z := 32) d_242_62 (by decide)) ?_
        refine m_Rq.n0 (x_icf d_242_64 rfl (decide_eq_false h32)) ?_
        refine m_Rq.n0 (x_iload d_242_67 rfl) ?_
        refine m_Rq.n0 (x_bipush (z := 126) d_242_69 (by decide)) ?_
        refine m_Rq.n0 (x_icf d_242_71 rfl (decide_eq_false h126)) ?_
        refine m_Rq.n0 (x_iconst (z := 0) d_242_74 (by decide)) ?_
        refine m_Rq.ir d_242_75 rfl rfl ?_
        have e : m_gd2 word 0 (d + 1) = false := by
          show (m_gb (m_by2 word 0) && m_gd2 word 1 d) = _
          rw [m_gb_d h10 h126]
          rfl
        exact k0 e
theorem l_c2 {word : Int64} {m : Nat} {c : Int32} : ∀ (k j : Nat) (w : List mM), m_FW 513 1 (f_r (Int32.ofNat j)) [(514, 2, 300)] g_R w → j + k < 300 → k < 8 → m_Rq M_13 (82, [(4, .int (Int32.ofNat k)), (5, .int c), (0, .ref 513), (1, .long word), (3, .int (Int32.ofNat m))], [], w) (fun v w => v = some (.int 1) ∧ ∃ j, m_FW 513 1 (f_r (Int32.ofNat j)) [(514, 2, 300)] g_R w) 0 0 0 0 := by
  intro k
  induction k with
  | zero =>
    intro j w h hj hk
    refine m_Rq.n0 (x_iload d_13_82 rfl) ?_
    refine m_Rq.n0 (x_iff d_13_84 rfl (m_c1_ltf (a := 0) (by omega))) ?_
    refine m_Rq.n0 (x_aload_n d_13_87 rfl) ?_
    refine m_Rq.n0 (x_getf d_13_88 rfl h.2.1 rfl) ?_
    refine m_Rq.n0 (x_aload_n d_13_91 rfl) ?_
    refine m_Rq.n0 (x_getf d_13_92 rfl h.2.1 rfl) ?_
    refine m_Rq.n0 (x_lload_n d_13_95 rfl) ?_
    refine m_Rq.n0 (x_bipush (z := 8) d_13_96 (by decide)) ?_
    refine m_Rq.n0 (x_iload d_13_98 rfl) ?_
    refine m_Rq.n0 (x_imul (z := Int32.ofNat (8 * 0)) d_13_100 (m_n_mul _ _)) ?_
    refine m_Rq.n0 (x_lushr d_13_101 rfl) ?_
    refine m_Rq.n0 (x_ldc2 d_13_102 rfl) ?_
    refine m_Rq.n0 (x_land d_13_105 rfl) ?_
    refine m_Rq.n0 (x_l2i d_13_106 rfl) ?_
    refine m_Rq.n0 (x_i2c d_13_107 rfl) ?_
    refine m_Rq.fwC d_13_108 wfR h 0 rfl (m_n_neg (by omega)) (m_n_cl (by omega)) (by omega) (fun w h => ?_)
    refine m_Rq.n0 (x_aload_n d_13_109 rfl) ?_
    refine m_Rq.n0 (x_dup d_13_110 rfl) ?_
    refine m_Rq.n0 (x_getf d_13_111 rfl h.2.1 rfl) ?_
    refine m_Rq.n0 (x_iconst (z := 1) d_13_114 (by decide)) ?_
    refine m_Rq.n0 (x_iadd (z := Int32.ofNat (j + 1)) d_13_115 (m_n_add _ _)) ?_
    refine m_Rq.fwP (fs' := f_r (Int32.ofNat (j + 1))) d_13_116 wfR h rfl rfl (by decide) rfl rfl rfl rfl (fun w h => ?_)
    refine m_Rq.n0 (x_iinc (z := -1) d_13_119 rfl rfl (by decide) (show m_put1 _ _ _ = [(4, _), (5, _), (0, _), (1, _), (3, _)] from rfl)) ?_
    refine m_Rq.n0 (x_goto d_13_122 rfl) ?_
    refine m_Rq.n0 (x_iload d_13_82 rfl) ?_
    refine m_Rq.n0 (x_ift d_13_84 rfl (by decide)) ?_
    refine m_Rq.n0 (x_iconst (z := 1) d_13_125 (by decide)) ?_
    refine m_Rq.ir d_13_126 rfl rfl ?_
    exact ⟨rfl, _, h⟩
  | succ k ih =>
    intro j w h hj hk
    refine m_Rq.n0 (x_iload d_13_82 rfl) ?_
    refine m_Rq.n0 (x_iff d_13_84 rfl (m_c1_ltf (a := (k + 1)) (by omega))) ?_
    refine m_Rq.n0 (x_aload_n d_13_87 rfl) ?_
    refine m_Rq.n0 (x_getf d_13_88 rfl h.2.1 rfl) ?_
    refine m_Rq.n0 (x_aload_n d_13_91 rfl) ?_
    refine m_Rq.n0 (x_getf d_13_92 rfl h.2.1 rfl) ?_
    refine m_Rq.n0 (x_lload_n d_13_95 rfl) ?_
    refine m_Rq.n0 (x_bipush (z := 8) d_13_96 (by decide)) ?_
    refine m_Rq.n0 (x_iload d_13_98 rfl) ?_
    refine m_Rq.n0 (x_imul (z := Int32.ofNat (8 * (k + 1))) d_13_100 (m_n_mul _ _)) ?_
    refine m_Rq.n0 (x_lushr d_13_101 rfl) ?_
    refine m_Rq.n0 (x_ldc2 d_13_102 rfl) ?_
    refine m_Rq.n0 (x_land d_13_105 rfl) ?_
    refine m_Rq.n0 (x_l2i d_13_106 rfl) ?_
    refine m_Rq.n0 (x_i2c d_13_107 rfl) ?_
    refine m_Rq.fwC d_13_108 wfR h 0 rfl (m_n_neg (by omega)) (m_n_cl (by omega)) (by omega) (fun w h => ?_)
    refine m_Rq.n0 (x_aload_n d_13_109 rfl) ?_
    refine m_Rq.n0 (x_dup d_13_110 rfl) ?_
    refine m_Rq.n0 (x_getf d_13_111 rfl h.2.1 rfl) ?_
    refine m_Rq.n0 (x_iconst (z := 1) d_13_114 (by decide)) ?_
    refine m_Rq.n0 (x_iadd (z := Int32.ofNat (j + 1)) d_13_115 (m_n_add _ _)) ?_
    refine m_Rq.fwP (fs' := f_r (Int32.ofNat (j + 1))) d_13_116 wfR h rfl rfl (by decide) rfl rfl rfl rfl (fun w h => ?_)
    refine m_Rq.n0 (x_iinc (z := Int32.ofNat k) d_13_119 rfl rfl (m_n_dec k) (show m_put1 _ _ _ = [(4, _), (5, _), (0, _), (1, _), (3, _)] from rfl)) ?_
    refine m_Rq.n0 (x_goto d_13_122 rfl) ?_
    exact ih (j + 1) w h (by omega) (by omega)
theorem l_e2 {word : Int64} {m : Nat} {c : Int32} : ∀ (k j : Nat) (w : List mM), m_FW 583 14 (f_t (Int32.ofNat j)) [(584, 0, 300)] [] w → j + k < 300 → k < 8 → m_Rq M_242 (87, [(4, .int (Int32.ofNat k)), (5, .int c), (0, .ref 583), (1, .long word), (3, .int (Int32.ofNat m))], [], w) (fun v w => v = some (.int 1) ∧ ∃ j, m_FW 583 14 (f_t (Int32.ofNat j)) [(584, 0, 300)] [] w) 0 0 0 0 := by
  intro k
  induction k with
  | zero =>
    intro j w h hj hk
    refine m_Rq.n0 (x_iload d_242_87 rfl) ?_
    refine m_Rq.n0 (x_iff d_242_89 rfl (m_c1_ltf (a := 0) (by omega))) ?_
    refine m_Rq.n0 (x_aload_n d_242_92 rfl) ?_
    refine m_Rq.n0 (x_getf d_242_93 rfl h.2.1 rfl) ?_
    refine m_Rq.n0 (x_aload_n d_242_96 rfl) ?_
    refine m_Rq.n0 (x_getf d_242_97 rfl h.2.1 rfl) ?_
    refine m_Rq.n0 (x_lload_n d_242_100 rfl) ?_
    refine m_Rq.n0 (x_bipush (z := 8) d_242_101 (by decide)) ?_
    refine m_Rq.n0 (x_iload d_242_103 rfl) ?_
    refine m_Rq.n0 (x_imul (z := Int32.ofNat (8 * 0)) d_242_105 (m_n_mul _ _)) ?_
    refine m_Rq.n0 (x_lshr d_242_106 rfl) ?_
    refine m_Rq.n0 (x_ldc2 d_242_107 rfl) ?_
    refine m_Rq.n0 (x_land d_242_110 rfl) ?_
    refine m_Rq.n0 (x_l2i d_242_111 rfl) ?_
    refine m_Rq.fwI d_242_112 wfT h 0 rfl (m_n_neg (by omega)) (m_n_cl (by omega)) (by omega) (fun w h => ?_)
    refine m_Rq.n0 (x_aload_n d_242_113 rfl) ?_
    refine m_Rq.n0 (x_dup d_242_114 rfl) ?_
    refine m_Rq.n0 (x_getf d_242_115 rfl h.2.1 rfl) ?_
    refine m_Rq.n0 (x_iconst (z := 1) d_242_118 (by decide)) ?_
    refine m_Rq.n0 (x_iadd (z := Int32.ofNat (j + 1)) d_242_119 (m_n_add _ _)) ?_
    refine m_Rq.fwP (fs' := f_t (Int32.ofNat (j + 1))) d_242_120 wfT h rfl rfl (by decide) rfl rfl rfl rfl (fun w h => ?_)
    refine m_Rq.n0 (x_iinc (z := -1) d_242_123 rfl rfl (by decide) (show m_put1 _ _ _ = [(4, _), (5, _), (0, _), (1, _), (3, _)] from rfl)) ?_
    refine m_Rq.n0 (x_goto d_242_126 rfl) ?_
    refine m_Rq.n0 (x_iload d_242_87 rfl) ?_
    refine m_Rq.n0 (x_ift d_242_89 rfl (by decide)) ?_
    refine m_Rq.n0 (x_iconst (z := 1) d_242_129 (by decide)) ?_
    refine m_Rq.ir d_242_130 rfl rfl ?_
    exact ⟨rfl, _, h⟩
  | succ k ih =>
    intro j w h hj hk
    refine m_Rq.n0 (x_iload d_242_87 rfl) ?_
    refine m_Rq.n0 (x_iff d_242_89 rfl (m_c1_ltf (a := (k + 1)) (by omega))) ?_
    refine m_Rq.n0 (x_aload_n d_242_92 rfl) ?_
    refine m_Rq.n0 (x_getf d_242_93 rfl h.2.1 rfl) ?_
    refine m_Rq.n0 (x_aload_n d_242_96 rfl) ?_
    refine m_Rq.n0 (x_getf d_242_97 rfl h.2.1 rfl) ?_
    refine m_Rq.n0 (x_lload_n d_242_100 rfl) ?_
    refine m_Rq.n0 (x_bipush (z := 8) d_242_101 (by decide)) ?_
    refine m_Rq.n0 (x_iload d_242_103 rfl) ?_
    refine m_Rq.n0 (x_imul (z := Int32.ofNat (8 * (k + 1))) d_242_105 (m_n_mul _ _)) ?_
    refine m_Rq.n0 (x_lshr d_242_106 rfl) ?_
    refine m_Rq.n0 (x_ldc2 d_242_107 rfl) ?_
    refine m_Rq.n0 (x_land d_242_110 rfl) ?_
    refine m_Rq.n0 (x_l2i d_242_111 rfl) ?_
    refine m_Rq.fwI d_242_112 wfT h 0 rfl (m_n_neg (by omega)) (m_n_cl (by omega)) (by omega) (fun w h => ?_)
    refine m_Rq.n0 (x_aload_n d_242_113 rfl) ?_
    refine m_Rq.n0 (x_dup d_242_114 rfl) ?_
    refine m_Rq.n0 (x_getf d_242_115 rfl h.2.1 rfl) ?_
    refine m_Rq.n0 (x_iconst (z := 1) d_242_118 (by decide)) ?_
    refine m_Rq.n0 (x_iadd (z := Int32.ofNat (j + 1)) d_242_119 (m_n_add _ _)) ?_
    refine m_Rq.fwP (fs' := f_t (Int32.ofNat (j + 1))) d_242_120 wfT h rfl rfl (by decide) rfl rfl rfl rfl (fun w h => ?_)
    refine m_Rq.n0 (x_iinc (z := Int32.ofNat k) d_242_123 rfl rfl (m_n_dec k) (show m_put1 _ _ _ = [(4, _), (5, _), (0, _), (1, _), (3, _)] from rfl)) ?_
    refine m_Rq.n0 (x_goto d_242_126 rfl) ?_
    exact ih (j + 1) w h (by omega) (by omega)
theorem c_w1 {word : Int64} {d : Nat} (hd : d < 8) {w : List mM} (h : m_FW 513 1 (f_r 0) [(514, 2, 300)] g_R w) (hg : m_gd word 0 (d + 1) = true) : m_Rq M_13 (m_ent M_13 [.ref 513, .long word, .int (Int32.ofNat (d + 1))] w) (fun v w => v = some (.int 1) ∧ ∃ j, m_FW 513 1 (f_r (Int32.ofNat j)) [(514, 2, 300)] g_R w) 0 0 0 0 := by
  show m_Rq M_13 (0, [(0, .ref 513), (1, .long word), (3, .int (Int32.ofNat (d + 1)))], [], w) _ 0 0 0 0
  refine m_Rq.n0 (x_iload_n d_13_0 rfl) ?_
  refine m_Rq.n0 (x_iconst (z := 1) d_13_1 (by decide)) ?_
  refine m_Rq.n0 (x_icf d_13_2 rfl (m_c2n (a := (d + 1)) (b := 1) (by omega) (by omega) (decide_eq_false (p := (d + 1) < 1) (by omega)))) ?_
  refine m_Rq.n0 (x_iload_n d_13_5 rfl) ?_
  refine m_Rq.n0 (x_bipush (z := 8) d_13_6 (by decide)) ?_
  refine m_Rq.n0 (x_icf d_13_8 rfl (m_c2n (a := (d + 1)) (b := 8) (by omega) (by omega) (decide_eq_false (p := 8 < (d + 1)) (by omega)))) ?_
  refine m_Rq.n0 (x_aload_n d_13_11 rfl) ?_
  refine m_Rq.n0 (x_getf d_13_12 rfl h.2.1 rfl) ?_
  refine m_Rq.n0 (x_iload_n d_13_15 rfl) ?_
  refine m_Rq.n0 (x_iadd (z := Int32.ofNat (0 + (d + 1))) d_13_16 (m_n_add _ _)) ?_
  refine m_Rq.n0 (x_sipush (z := 300) d_13_17 (by decide)) ?_
  refine m_Rq.n0 (x_ict d_13_20 rfl (m_c2n (a := (0 + (d + 1))) (b := 300) (by omega) (by omega) (decide_eq_true (p := (0 + (d + 1)) ≤ 300) (by omega)))) ?_
  refine m_Rq.n0 (x_iconst (z := 0) d_13_25 (by decide)) ?_
  refine m_Rq.n0 (x_istore d_13_26 rfl (show m_put1 _ _ _ = [(4, _), (0, _), (1, _), (3, _)] from rfl)) ?_
  refine l_c0 (m := d + 1) (d := d) (by omega) (by omega) (fun _ c => ?_) (fun g => absurd (hg.symm.trans g) (by decide))
  refine m_Rq.n0 (x_iload_n d_13_77 rfl) ?_
  refine m_Rq.n0 (x_iconst (z := 1) d_13_78 (by decide)) ?_
  refine m_Rq.n0 (x_isub (z := Int32.ofNat ((d + 1) - 1)) d_13_79 (m_n_sub (a := (d + 1)) (b := 1) (by omega))) ?_
  refine m_Rq.n0 (x_istore d_13_80 rfl (show m_put1 _ _ _ = [(4, _), (5, _), (0, _), (1, _), (3, _)] from rfl)) ?_
  exact l_c2 d 0 w h (by omega) hd
theorem c_w0 {word : Int64} {d : Nat} (hd : d < 8) {w : List mM} (h : m_FW 513 1 (f_r 0) [(514, 2, 300)] g_R w) (hg : m_gd word 0 (d + 1) = false) : m_Rq M_13 (m_ent M_13 [.ref 513, .long word, .int (Int32.ofNat (d + 1))] w) (fun v w => v = some (.int 0) ∧ ∃ j, m_FW 513 1 (f_r (Int32.ofNat j)) [(514, 2, 300)] g_R w) 0 0 0 0 := by
  show m_Rq M_13 (0, [(0, .ref 513), (1, .long word), (3, .int (Int32.ofNat (d + 1)))], [], w) _ 0 0 0 0
  refine m_Rq.n0 (x_iload_n d_13_0 rfl) ?_
  refine m_Rq.n0 (x_iconst (z := 1) d_13_1 (by decide)) ?_
  refine m_Rq.n0 (x_icf d_13_2 rfl (m_c2n (a := (d + 1)) (b := 1) (by omega) (by omega) (decide_eq_false (p := (d + 1) < 1) (by omega)))) ?_
  refine m_Rq.n0 (x_iload_n d_13_5 rfl) ?_
  refine m_Rq.n0 (x_bipush (z := 8) d_13_6 (by decide)) ?_
  refine m_Rq.n0 (x_icf d_13_8 rfl (m_c2n (a := (d + 1)) (b := 8) (by omega) (by omega) (decide_eq_false (p := 8 < (d + 1)) (by omega)))) ?_
  refine m_Rq.n0 (x_aload_n d_13_11 rfl) ?_
  refine m_Rq.n0 (x_getf d_13_12 rfl h.2.1 rfl) ?_
  refine m_Rq.n0 (x_iload_n d_13_15 rfl) ?_
  refine m_Rq.n0 (x_iadd (z := Int32.ofNat (0 + (d + 1))) d_13_16 (m_n_add _ _)) ?_
  refine m_Rq.n0 (x_sipush (z := 300) d_13_17 (by decide)) ?_
  refine m_Rq.n0 (x_ict d_13_20 rfl (m_c2n (a := (0 + (d + 1))) (b := 300) (by omega) (by omega) (decide_eq_true (p := (0 + (d + 1)) ≤ 300) (by omega)))) ?_
  refine m_Rq.n0 (x_iconst (z := 0) d_13_25 (by decide)) ?_
  refine m_Rq.n0 (x_istore d_13_26 rfl (show m_put1 _ _ _ = [(4, _), (0, _), (1, _), (3, _)] from rfl)) ?_
  exact l_c0 (m := d + 1) (d := d) (by omega) (by omega) (fun g => absurd (hg.symm.trans g) (by decide)) (fun _ => ⟨rfl, 0, h⟩)
theorem c_wa {word : Int64} {n : Int32} (h0 : n < 1) {w : List mM} (h : m_FW 513 1 (f_r 0) [(514, 2, 300)] g_R w) : m_Rq M_13 (m_ent M_13 [.ref 513, .long word, .int n] w) (fun v w => v = some (.int 0) ∧ ∃ j, m_FW 513 1 (f_r (Int32.ofNat j)) [(514, 2, 300)] g_R w) 0 0 0 0 := by
  show m_Rq M_13 (0, [(0, .ref 513), (1, .long word), (3, .int n)], [], w) _ 0 0 0 0
  refine m_Rq.n0 (x_iload_n d_13_0 rfl) ?_
  refine m_Rq.n0 (x_iconst (z := 1) d_13_1 (by decide)) ?_
  refine m_Rq.n0 (x_ict d_13_2 rfl (decide_eq_true h0)) ?_
  refine m_Rq.n0 (x_iconst (z := 0) d_13_23 (by decide)) ?_
  refine m_Rq.ir d_13_24 rfl rfl ?_
  exact ⟨rfl, 0, h⟩
theorem c_wb {word : Int64} {n : Int32} (h0 : ¬ n < 1) (h1 : 8 < n) {w : List mM} (h : m_FW 513 1 (f_r 0) [(514, 2, 300)] g_R w) : m_Rq M_13 (m_ent M_13 [.ref 513, .long word, .int n] w) (fun v w => v = some (.int 0) ∧ ∃ j, m_FW 513 1 (f_r (Int32.ofNat j)) [(514, 2, 300)] g_R w) 0 0 0 0 := by
  show m_Rq M_13 (0, [(0, .ref 513), (1, .long word), (3, .int n)], [], w) _ 0 0 0 0
  refine m_Rq.n0 (x_iload_n d_13_0 rfl) ?_
  refine m_Rq.n0 (x_iconst (z := 1) d_13_1 (by decide)) ?_
  refine m_Rq.n0 (x_icf d_13_2 rfl (decide_eq_false h0)) ?_
  refine m_Rq.n0 (x_iload_n d_13_5 rfl) ?_
  refine m_Rq.n0 (x_bipush (z := 8) d_13_6 (by decide)) ?_
  refine m_Rq.n0 (x_ict d_13_8 rfl (decide_eq_true h1)) ?_
  refine m_Rq.n0 (x_iconst (z := 0) d_13_23 (by decide)) ?_
  refine m_Rq.ir d_13_24 rfl rfl ?_
  exact ⟨rfl, 0, h⟩
theorem e_w1 {word : Int64} {d : Nat} (hd : d < 8) {w : List mM} (h : m_FW 583 14 (f_t 0) [(584, 0, 300)] [] w) (hg : m_gd2 word 0 (d + 1) = true) : m_Rq M_242 (m_ent M_242 [.ref 583, .long word, .int (Int32.ofNat (d + 1))] w) (fun v w => v = some (.int 1) ∧ ∃ j, m_FW 583 14 (f_t (Int32.ofNat j)) [(584, 0, 300)] [] w) 0 0 0 0 := by
  show m_Rq M_242 (0, [(0, .ref 583), (1, .long word), (3, .int (Int32.ofNat (d + 1)))], [], w) _ 0 0 0 0
  refine m_Rq.n0 (x_aload_n d_242_0 rfl) ?_
  refine m_Rq.n0 (x_iconst (z := 0) d_242_1 (by decide)) ?_
  refine m_Rq.n0 (x_putfs d_242_2 rfl h.2.1 rfl rfl (by decide) rfl rfl rfl) ?_
  refine m_Rq.n0 (x_iload_n d_242_5 rfl) ?_
  refine m_Rq.n0 (x_iconst (z := 1) d_242_6 (by decide)) ?_
  refine m_Rq.n0 (x_icf d_242_7 rfl (m_c2n (a := (d + 1)) (b := 1) (by omega) (by omega) (decide_eq_false (p := (d + 1) < 1) (by omega)))) ?_
  refine m_Rq.n0 (x_iload_n d_242_10 rfl) ?_
  refine m_Rq.n0 (x_bipush (z := 8) d_242_11 (by decide)) ?_
  refine m_Rq.n0 (x_icf d_242_13 rfl (m_c2n (a := (d + 1)) (b := 8) (by omega) (by omega) (decide_eq_false (p := 8 < (d + 1)) (by omega)))) ?_
  refine m_Rq.n0 (x_aload_n d_242_16 rfl) ?_
  refine m_Rq.n0 (x_getf d_242_17 rfl h.2.1 rfl) ?_
  refine m_Rq.n0 (x_iload_n d_242_20 rfl) ?_
  refine m_Rq.n0 (x_iadd (z := Int32.ofNat (0 + (d + 1))) d_242_21 (m_n_add _ _)) ?_
  refine m_Rq.n0 (x_sipush (z := 300) d_242_22 (by decide)) ?_
  refine m_Rq.n0 (x_ict d_242_25 rfl (m_c2n (a := (0 + (d + 1))) (b := 300) (by omega) (by omega) (decide_eq_true (p := (0 + (d + 1)) ≤ 300) (by omega)))) ?_
  refine m_Rq.n0 (x_iconst (z := 0) d_242_30 (by decide)) ?_
  refine m_Rq.n0 (x_istore d_242_31 rfl (show m_put1 _ _ _ = [(4, _), (0, _), (1, _), (3, _)] from rfl)) ?_
  refine l_e0 (m := d + 1) (d := d) (by omega) (by omega) (fun _ c => ?_) (fun g => absurd (hg.symm.trans g) (by decide))
  refine m_Rq.n0 (x_iload_n d_242_82 rfl) ?_
  refine m_Rq.n0 (x_iconst (z := 1) d_242_83 (by decide)) ?_
  refine m_Rq.n0 (x_isub (z := Int32.ofNat ((d + 1) - 1)) d_242_84 (m_n_sub (a := (d + 1)) (b := 1) (by omega))) ?_
  refine m_Rq.n0 (x_istore d_242_85 rfl (show m_put1 _ _ _ = [(4, _), (5, _), (0, _), (1, _), (3, _)] from rfl)) ?_
  exact l_e2 d 0 w h (by omega) hd
theorem e_w0 {word : Int64} {d : Nat} (hd : d < 8) {w : List mM} (h : m_FW 583 14 (f_t 0) [(584, 0, 300)] [] w) (hg : m_gd2 word 0 (d + 1) = false) : m_Rq M_242 (m_ent M_242 [.ref 583, .long word, .int (Int32.ofNat (d + 1))] w) (fun v w => v = some (.int 0) ∧ ∃ j, m_FW 583 14 (f_t (Int32.ofNat j)) [(584, 0, 300)] [] w) 0 0 0 0 := by
  show m_Rq M_242 (0, [(0, .ref 583), (1, .long word), (3, .int (Int32.ofNat (d + 1)))], [], w) _ 0 0 0 0
  refine m_Rq.n0 (x_aload_n d_242_0 rfl) ?_
  refine m_Rq.n0 (x_iconst (z := 0) d_242_1 (by decide)) ?_
  refine m_Rq.n0 (x_putfs d_242_2 rfl h.2.1 rfl rfl (by decide) rfl rfl rfl) ?_
  refine m_Rq.n0 (x_iload_n d_242_5 rfl) ?_
  refine m_Rq.n0 (x_iconst (z := 1) d_242_6 (by decide)) ?_
  refine m_Rq.n0 (x_icf d_242_7 rfl (m_c2n (a := (d + 1)) (b := 1) (by omega) (by omega) (decide_eq_false (p := (d + 1) < 1) (by omega)))) ?_
  refine m_Rq.n0 (x_iload_n d_242_10 rfl) ?_
  refine m_Rq.n0 (x_bipush (z := 8) d_242_11 (by decide)) ?_
  refine m_Rq.n0 (x_icf d_242_13 rfl (m_c2n (a := (d + 1)) (b := 8) (by omega) (by omega) (decide_eq_false (p := 8 < (d + 1)) (by omega)))) ?_
  refine m_Rq.n0 (x_aload_n d_242_16 rfl) ?_
  refine m_Rq.n0 (x_getf d_242_17 rfl h.2.1 rfl) ?_
  refine m_Rq.n0 (x_iload_n d_242_20 rfl) ?_
  refine m_Rq.n0 (x_iadd (z := Int32.ofNat (0 + (d + 1))) d_242_21 (m_n_add _ _)) ?_
  refine m_Rq.n0 (x_sipush (z := 300) d_242_22 (by decide)) ?_
  refine m_Rq.n0 (x_ict d_242_25 rfl (m_c2n (a := (0 + (d + 1))) (b := 300) (by omega) (by omega) (decide_eq_true (p := (0 + (d + 1)) ≤ 300) (by omega)))) ?_
  refine m_Rq.n0 (x_iconst (z := 0) d_242_30 (by decide)) ?_
  refine m_Rq.n0 (x_istore d_242_31 rfl (show m_put1 _ _ _ = [(4, _), (0, _), (1, _), (3, _)] from rfl)) ?_
  exact l_e0 (m := d + 1) (d := d) (by omega) (by omega) (fun g => absurd (hg.symm.trans g) (by decide)) (fun _ => ⟨rfl, 0, h⟩)
theorem e_wa {word : Int64} {n : Int32} (h0 : n < 1) {w : List mM} (h : m_FW 583 14 (f_t 0) [(584, 0, 300)] [] w) : m_Rq M_242 (m_ent M_242 [.ref 583, .long word, .int n] w) (fun v w => v = some (.int 0) ∧ ∃ j, m_FW 583 14 (f_t (Int32.ofNat j)) [(584, 0, 300)] [] w) 0 0 0 0 := by
  show m_Rq M_242 (0, [(0, .ref 583), (1, .long word), (3, .int n)], [], w) _ 0 0 0 0
  refine m_Rq.n0 (x_aload_n d_242_0 rfl) ?_
  refine m_Rq.n0 (x_iconst (z := 0) d_242_1 (by decide)) ?_
  refine m_Rq.n0 (x_putfs d_242_2 rfl h.2.1 rfl rfl (by decide) rfl rfl rfl) ?_
  refine m_Rq.n0 (x_iload_n d_242_5 rfl) ?_
  refine m_Rq.n0 (x_iconst (z := 1) d_242_6 (by decide)) ?_
  refine m_Rq.n0 (x_ict d_242_7 rfl (decide_eq_true h0)) ?_
  refine m_Rq.n0 (x_iconst (z := 0) d_242_28 (by decide)) ?_
  refine m_Rq.ir d_242_29 rfl rfl ?_
  exact ⟨rfl, 0, h⟩
theorem e_wb {word : Int64} {n : Int32} (h0 : ¬ n < 1) (h1 : 8 < n) {w : List mM} (h : m_FW 583 14 (f_t 0) [(584, 0, 300)] [] w) : m_Rq M_242 (m_ent M_242 [.ref 583, .long word, .int n] w) (fun v w => v = some (.int 0) ∧ ∃ j, m_FW 583 14 (f_t (Int32.ofNat j)) [(584, 0, 300)] [] w) 0 0 0 0 := by
  show m_Rq M_242 (0, [(0, .ref 583), (1, .long word), (3, .int n)], [], w) _ 0 0 0 0
  refine m_Rq.n0 (x_aload_n d_242_0 rfl) ?_
  refine m_Rq.n0 (x_iconst (z := 0) d_242_1 (by decide)) ?_
  refine m_Rq.n0 (x_putfs d_242_2 rfl h.2.1 rfl rfl (by decide) rfl rfl rfl) ?_
  refine m_Rq.n0 (x_iload_n d_242_5 rfl) ?_
  refine m_Rq.n0 (x_iconst (z := 1) d_242_6 (by decide)) ?_
  refine m_Rq.n0 (x_icf d_242_7 rfl (decide_eq_false h0)) ?_
  refine m_Rq.n0 (x_iload_n d_242_10 rfl) ?_
  refine m_Rq.n0 (x_bipush (z := 8) d_242_11 (by decide)) ?_
  refine m_Rq.n0 (x_ict d_242_13 rfl (decide_eq_true h1)) ?_
  refine m_Rq.n0 (x_iconst (z := 0) d_242_28 (by decide)) ?_
  refine m_Rq.ir d_242_29 rfl rfl ?_
  exact ⟨rfl, 0, h⟩
theorem c_type0 {word : Int64} {n : Int32} (hw : m_Rq M_13 (m_ent M_13 [.ref 513, .long word, .int n] w_1) (fun v w => v = some (.int 0) ∧ ∃ j, m_FW 513 1 (f_r (Int32.ofNat j)) [(514, 2, 300)] g_R w) 0 0 0 0) : m_Rq M_12 (m_ent M_12 [.ref 512, .long word, .int n] w_1) (fun v w => v = some (.int 0) ∧ ∃ j, m_FW 513 1 (f_r (Int32.ofNat j)) [(514, 2, 300)] g_R w) 0 0 10 1000 := by
  show m_Rq M_12 (0, [(0, .ref 512), (1, .long word), (3, .int n)], [], w_1) _ 0 0 10 1000
  refine m_Rq.n0 (x_aload_n d_12_0 rfl) ?_
  refine m_Rq.n0 (x_getf d_12_1 rfl a_512 rfl) ?_
  refine m_Rq.n0 (x_lload_n d_12_4 rfl) ?_
  refine m_Rq.n0 (x_iload_n d_12_5 rfl) ?_
  refine m_Rq.callR (x_cv (n := 119) d_12_6 rfl q_13 (m_isRecv_of rfl a_513) rfl rfl m_hn1 rfl) hw rfl (fun w h => ?_) (by decide) (by decide)
  refine m_Rq.ir d_12_9 rfl rfl ?_
  exact ⟨rfl, h⟩
theorem c_type1 {word : Int64} {n : Int32} (hw : m_Rq M_13 (m_ent M_13 [.ref 513, .long word, .int n] w_1) (fun v w => v = some (.int 1) ∧ ∃ j, m_FW 513 1 (f_r (Int32.ofNat j)) [(514, 2, 300)] g_R w) 0 0 0 0) : m_Rq M_12 (m_ent M_12 [.ref 512, .long word, .int n] w_1) (fun v w => v = some (.int 1) ∧ ∃ j, m_FW 513 1 (f_r (Int32.ofNat j)) [(514, 2, 300)] g_R w) 0 0 10 1000 := by
  show m_Rq M_12 (0, [(0, .ref 512), (1, .long word), (3, .int n)], [], w_1) _ 0 0 10 1000
  refine m_Rq.n0 (x_aload_n d_12_0 rfl) ?_
  refine m_Rq.n0 (x_getf d_12_1 rfl a_512 rfl) ?_
  refine m_Rq.n0 (x_lload_n d_12_4 rfl) ?_
  refine m_Rq.n0 (x_iload_n d_12_5 rfl) ?_
  refine m_Rq.callR (x_cv (n := 119) d_12_6 rfl q_13 (m_isRecv_of rfl a_513) rfl rfl m_hn1 rfl) hw rfl (fun w h => ?_) (by decide) (by decide)
  refine m_Rq.ir d_12_9 rfl rfl ?_
  exact ⟨rfl, h⟩
theorem m_FW_R : m_FW 513 1 (f_r 0) [(514, 2, 300)] g_R w_1 := by
  refine ⟨m_hn1, a_513, ?_, ?_⟩
  · simp only [List.forall_mem_cons]
    exact ⟨⟨_, a_514⟩, fun q hq => absurd hq List.not_mem_nil⟩
  · unfold g_R
    simp only [List.forall_mem_cons]
    exact ⟨a_583, a_584, fun q hq => absurd hq List.not_mem_nil⟩
theorem m_FW_T {w : List mM} (h : ∃ j, m_FW 513 1 (f_r (Int32.ofNat j)) [(514, 2, 300)] g_R w) : m_FW 583 14 (f_t 0) [(584, 0, 300)] [] w := by
  obtain ⟨j, h⟩ := h
  refine ⟨h.1, h.g 0 rfl, ?_, fun q hq => absurd hq List.not_mem_nil⟩
  simp only [List.forall_mem_cons]
  exact ⟨⟨_, h.g 1 rfl⟩, fun q hq => absurd hq List.not_mem_nil⟩
theorem m_FW_Rm {w : List mM} (h : ∃ j, m_FW 513 1 (f_r (Int32.ofNat j)) [(514, 2, 300)] g_R w) : m_mdl w = true := by
  obtain ⟨j, h⟩ := h
  exact m_mdl_of h.1 (h.g 0 rfl)
theorem t_type0 {word : Int64} {n : Int32} (h1 : m_Rq M_13 (m_ent M_13 [.ref 513, .long word, .int n] w_1) (fun v w => v = some (.int 0) ∧ ∃ j, m_FW 513 1 (f_r (Int32.ofNat j)) [(514, 2, 300)] g_R w) 0 0 0 0) (h2 : ∀ w, m_FW 583 14 (f_t 0) [(584, 0, 300)] [] w → m_Rq M_242 (m_ent M_242 [.ref 583, .long word, .int n] w) (fun v w => v = some (.int 0) ∧ ∃ j, m_FW 583 14 (f_t (Int32.ofNat j)) [(584, 0, 300)] [] w) 0 0 0 0) : m_Two M_12 M_242 [.ref 512, .long word, .int n] [.ref 583, .long word, .int n] :=
  m_Two.gen 0 (c_type0 h1) (fun w hw => m_FW_Rm hw) (c' := 0) (s' := 0) (f' := 0) (l' := 0) (fun w hw => (h2 w (m_FW_T hw)).mono (fun _ _ h => h.1) (Nat.le_refl _) (Nat.le_refl _) (Nat.le_refl _) (Nat.le_refl _)) rfl
theorem t_type1 {word : Int64} {n : Int32} (h1 : m_Rq M_13 (m_ent M_13 [.ref 513, .long word, .int n] w_1) (fun v w => v = some (.int 1) ∧ ∃ j, m_FW 513 1 (f_r (Int32.ofNat j)) [(514, 2, 300)] g_R w) 0 0 0 0) (h2 : ∀ w, m_FW 583 14 (f_t 0) [(584, 0, 300)] [] w → m_Rq M_242 (m_ent M_242 [.ref 583, .long word, .int n] w) (fun v w => v = some (.int 1) ∧ ∃ j, m_FW 583 14 (f_t (Int32.ofNat j)) [(584, 0, 300)] [] w) 0 0 0 0) : m_Two M_12 M_242 [.ref 512, .long word, .int n] [.ref 583, .long word, .int n] :=
  m_Two.gen 1 (c_type1 h1) (fun w hw => m_FW_Rm hw) (c' := 0) (s' := 0) (f' := 0) (l' := 0) (fun w hw => (h2 w (m_FW_T hw)).mono (fun _ _ h => h.1) (Nat.le_refl _) (Nat.le_refl _) (Nat.le_refl _) (Nat.le_refl _)) rfl
theorem t_type (word : Int64) (n : Int32) : m_Two M_12 M_242 [.ref 512, .long word, .int n] [.ref 583, .long word, .int n] := by
  by_cases h0 : n < 1
  · exact t_type0 (c_wa h0 m_FW_R) (fun w h => e_wa h0 h)
  · by_cases h1 : 8 < n
    · exact t_type0 (c_wb h0 h1 m_FW_R) (fun w h => e_wb h0 h1 h)
    · have g0 : ¬ n < 0 := by
        rw [Int32.lt_iff_toInt_lt] at h0 ⊢
        have h9 : ¬ n.toInt < 1 := h0
        show ¬ n.toInt < 0
        omega
      obtain ⟨j, hj, rfl⟩ := m_lt_of (k := 8) (by decide) rfl g0 h1
      match j, hj with
      | 0, _ => exact absurd (by decide) h0
      | d + 1, hj =>
        cases hg : m_gd word 0 (d + 1) with
        | true => exact t_type1 (c_w1 (by omega) m_FW_R hg) (fun w h => e_w1 (by omega) h ((m_gd_eq word (d + 1) 0 (by omega)).symm.trans hg))
        | false => exact t_type0 (c_w0 (by omega) m_FW_R hg) (fun w h => e_w0 (by omega) h ((m_gd_eq word (d + 1) 0 (by omega)).symm.trans hg))
