/-! Pure methods of the value objects. Written by wip/tool/values.py. -/
theorem x_iushr {ic : mI → mF → Option mR} {I : mI} {pc pc' : Nat} {lv : List (Nat × Value)} {r : List Value} {w : List mM} {x y z : Int32} (hd : m_dn I pc .iushr 1 pc') (hz : (x.toUInt32 >>> (y.toUInt32 &&& Int32.toUInt32 31)).toInt32 = z) : m_nx ic I (pc, lv, .int y :: .int x :: r, w) = some ((pc', lv, .int z :: r, w), 0, 0, 0, 0) := x_b2 hd (fun _ => rfl) hz
theorem x_ineg {ic : mI → mF → Option mR} {I : mI} {pc pc' : Nat} {lv : List (Nat × Value)} {r : List Value} {w : List mM} {x z : Int32} (hd : m_dn I pc .ineg 1 pc') (hz : -x = z) : m_nx ic I (pc, lv, .int x :: r, w) = some ((pc', lv, .int z :: r, w), 0, 0, 0, 0) := x_ps hd (by rw [← hz]; rfl)
theorem x_ldcw {ic : mI → mF → Option mR} {I : mI} {pc pc' k kk : Nat} {lv : List (Nat × Value)} {st : List Value} {w : List mM} {v : Value} (hd : m_dn I pc (.ldc_w k) 3 pc') (h : m_oe I 2 k = some (kk, v)) : m_nx ic I (pc, lv, st, w) = some ((pc', lv, v :: st, w), 0, 0, 0, 0) := by
  refine x_hs hd rfl rfl rfl ?_
  simp only [m_hs, m_ldc, h]
theorem q_100 : m_mt[100]? = some M_100 := by rfl
theorem q_91 : m_mt[91]? = some M_91 := by rfl
theorem q_124 : m_mt[124]? = some M_124 := by rfl
theorem q_82 : m_mt[82]? = some M_82 := by rfl
theorem q_85 : m_mt[85]? = some M_85 := by rfl
theorem q_135 : m_mt[135]? = some M_135 := by rfl
theorem q_81 : m_mt[81]? = some M_81 := by rfl
theorem q_86 : m_mt[86]? = some M_86 := by rfl
theorem q_83 : m_mt[83]? = some M_83 := by rfl
theorem q_99 : m_mt[99]? = some M_99 := by rfl
theorem q_80 : m_mt[80]? = some M_80 := by rfl
theorem q_87 : m_mt[87]? = some M_87 := by rfl
theorem q_88 : m_mt[88]? = some M_88 := by rfl
theorem q_89 : m_mt[89]? = some M_89 := by rfl
theorem q_84 : m_mt[84]? = some M_84 := by rfl
theorem q_90 : m_mt[90]? = some M_90 := by rfl
theorem q_108 : m_mt[108]? = some M_108 := by rfl
theorem q_115 : m_mt[115]? = some M_115 := by rfl
theorem b_100 : m_bOk M_100 := (m_mt_ok M_100 (List.mem_of_getElem? q_100)).body
theorem b_91 : m_bOk M_91 := (m_mt_ok M_91 (List.mem_of_getElem? q_91)).body
theorem b_124 : m_bOk M_124 := (m_mt_ok M_124 (List.mem_of_getElem? q_124)).body
theorem b_82 : m_bOk M_82 := (m_mt_ok M_82 (List.mem_of_getElem? q_82)).body
theorem b_85 : m_bOk M_85 := (m_mt_ok M_85 (List.mem_of_getElem? q_85)).body
theorem b_135 : m_bOk M_135 := (m_mt_ok M_135 (List.mem_of_getElem? q_135)).body
theorem b_81 : m_bOk M_81 := (m_mt_ok M_81 (List.mem_of_getElem? q_81)).body
theorem b_86 : m_bOk M_86 := (m_mt_ok M_86 (List.mem_of_getElem? q_86)).body
theorem b_83 : m_bOk M_83 := (m_mt_ok M_83 (List.mem_of_getElem? q_83)).body
theorem b_99 : m_bOk M_99 := (m_mt_ok M_99 (List.mem_of_getElem? q_99)).body
theorem b_80 : m_bOk M_80 := (m_mt_ok M_80 (List.mem_of_getElem? q_80)).body
theorem b_87 : m_bOk M_87 := (m_mt_ok M_87 (List.mem_of_getElem? q_87)).body
theorem b_88 : m_bOk M_88 := (m_mt_ok M_88 (List.mem_of_getElem? q_88)).body
theorem b_89 : m_bOk M_89 := (m_mt_ok M_89 (List.mem_of_getElem? q_89)).body
theorem b_84 : m_bOk M_84 := (m_mt_ok M_84 (List.mem_of_getElem? q_84)).body
theorem b_90 : m_bOk M_90 := (m_mt_ok M_90 (List.mem_of_getElem? q_90)).body
theorem b_108 : m_bOk M_108 := (m_mt_ok M_108 (List.mem_of_getElem? q_108)).body
theorem b_115 : m_bOk M_115 := (m_mt_ok M_115 (List.mem_of_getElem? q_115)).body
theorem d_100_0 : m_dn M_100 0 (.iload_n 0) 1 1 := by decide +kernel
theorem d_100_1 : m_dn M_100 1 (.iload_n 0) 1 2 := by decide +kernel
theorem d_100_10 : m_dn M_100 10 (.iload_n 0) 1 11 := by decide +kernel
theorem d_100_11 : m_dn M_100 11 (.ldc_w 266) 3 14 := by decide +kernel
theorem d_100_14 : m_dn M_100 14 (.iand) 1 15 := by decide +kernel
theorem d_100_15 : m_dn M_100 15 (.iload_n 0) 1 16 := by decide +kernel
theorem d_100_16 : m_dn M_100 16 (.iconst 2) 1 17 := by decide +kernel
theorem d_100_17 : m_dn M_100 17 (.iushr) 1 18 := by decide +kernel
theorem d_100_18 : m_dn M_100 18 (.ldc_w 266) 3 21 := by decide +kernel
theorem d_100_2 : m_dn M_100 2 (.iconst 1) 1 3 := by decide +kernel
theorem d_100_21 : m_dn M_100 21 (.iand) 1 22 := by decide +kernel
theorem d_100_22 : m_dn M_100 22 (.iadd) 1 23 := by decide +kernel
theorem d_100_23 : m_dn M_100 23 (.istore_n 0) 1 24 := by decide +kernel
theorem d_100_24 : m_dn M_100 24 (.iload_n 0) 1 25 := by decide +kernel
theorem d_100_25 : m_dn M_100 25 (.iload_n 0) 1 26 := by decide +kernel
theorem d_100_26 : m_dn M_100 26 (.iconst 4) 1 27 := by decide +kernel
theorem d_100_27 : m_dn M_100 27 (.iushr) 1 28 := by decide +kernel
theorem d_100_28 : m_dn M_100 28 (.iadd) 1 29 := by decide +kernel
theorem d_100_29 : m_dn M_100 29 (.ldc_w 267) 3 32 := by decide +kernel
theorem d_100_3 : m_dn M_100 3 (.iushr) 1 4 := by decide +kernel
theorem d_100_32 : m_dn M_100 32 (.iand) 1 33 := by decide +kernel
theorem d_100_33 : m_dn M_100 33 (.istore_n 0) 1 34 := by decide +kernel
theorem d_100_34 : m_dn M_100 34 (.iload_n 0) 1 35 := by decide +kernel
theorem d_100_35 : m_dn M_100 35 (.iload_n 0) 1 36 := by decide +kernel
theorem d_100_36 : m_dn M_100 36 (.bipush 8) 2 38 := by decide +kernel
theorem d_100_38 : m_dn M_100 38 (.iushr) 1 39 := by decide +kernel
theorem d_100_39 : m_dn M_100 39 (.iadd) 1 40 := by decide +kernel
theorem d_100_4 : m_dn M_100 4 (.ldc_w 265) 3 7 := by decide +kernel
theorem d_100_40 : m_dn M_100 40 (.istore_n 0) 1 41 := by decide +kernel
theorem d_100_41 : m_dn M_100 41 (.iload_n 0) 1 42 := by decide +kernel
theorem d_100_42 : m_dn M_100 42 (.iload_n 0) 1 43 := by decide +kernel
theorem d_100_43 : m_dn M_100 43 (.bipush 16) 2 45 := by decide +kernel
theorem d_100_45 : m_dn M_100 45 (.iushr) 1 46 := by decide +kernel
theorem d_100_46 : m_dn M_100 46 (.iadd) 1 47 := by decide +kernel
theorem d_100_47 : m_dn M_100 47 (.istore_n 0) 1 48 := by decide +kernel
theorem d_100_48 : m_dn M_100 48 (.iload_n 0) 1 49 := by decide +kernel
theorem d_100_49 : m_dn M_100 49 (.bipush 63) 2 51 := by decide +kernel
theorem d_100_51 : m_dn M_100 51 (.iand) 1 52 := by decide +kernel
theorem d_100_52 : m_dn M_100 52 (.ireturn) 1 53 := by decide +kernel
theorem d_100_7 : m_dn M_100 7 (.iand) 1 8 := by decide +kernel
theorem d_100_8 : m_dn M_100 8 (.isub) 1 9 := by decide +kernel
theorem d_100_9 : m_dn M_100 9 (.istore_n 0) 1 10 := by decide +kernel
theorem d_108_0 : m_dn M_108 0 (.aload_n 0) 1 1 := by decide +kernel
theorem d_108_1 : m_dn M_108 1 (.getfield 21) 3 4 := by decide +kernel
theorem d_108_10 : m_dn M_108 10 (.invokevirtual 125) 3 13 := by decide +kernel
theorem d_108_13 : m_dn M_108 13 (.aload_n 0) 1 14 := by decide +kernel
theorem d_108_14 : m_dn M_108 14 (.getfield 21) 3 17 := by decide +kernel
theorem d_108_17 : m_dn M_108 17 (.iadd) 1 18 := by decide +kernel
theorem d_108_18 : m_dn M_108 18 (.if_icmp .ge 5) 3 21 := by decide +kernel
theorem d_108_21 : m_dn M_108 21 (.iconst 1) 1 22 := by decide +kernel
theorem d_108_22 : m_dn M_108 22 (.ireturn) 1 23 := by decide +kernel
theorem d_108_23 : m_dn M_108 23 (.aload_n 0) 1 24 := by decide +kernel
theorem d_108_24 : m_dn M_108 24 (.getfield 15) 3 27 := by decide +kernel
theorem d_108_27 : m_dn M_108 27 (.iconst (-1)) 1 28 := by decide +kernel
theorem d_108_28 : m_dn M_108 28 (.if_icmp .ne 28) 3 31 := by decide +kernel
theorem d_108_31 : m_dn M_108 31 (.aload_n 0) 1 32 := by decide +kernel
theorem d_108_32 : m_dn M_108 32 (.getfield 18) 3 35 := by decide +kernel
theorem d_108_35 : m_dn M_108 35 (.iconst (-1)) 1 36 := by decide +kernel
theorem d_108_36 : m_dn M_108 36 (.if_icmp .ne 20) 3 39 := by decide +kernel
theorem d_108_39 : m_dn M_108 39 (.iload_n 2) 1 40 := by decide +kernel
theorem d_108_4 : m_dn M_108 4 (.iconst (-1)) 1 5 := by decide +kernel
theorem d_108_40 : m_dn M_108 40 (.aload_n 1) 1 41 := by decide +kernel
theorem d_108_41 : m_dn M_108 41 (.invokevirtual 125) 3 44 := by decide +kernel
theorem d_108_44 : m_dn M_108 44 (.aload_n 1) 1 45 := by decide +kernel
theorem d_108_45 : m_dn M_108 45 (.getfield 128) 3 48 := by decide +kernel
theorem d_108_48 : m_dn M_108 48 (.iadd) 1 49 := by decide +kernel
theorem d_108_49 : m_dn M_108 49 (.if_icmp .ge 7) 3 52 := by decide +kernel
theorem d_108_5 : m_dn M_108 5 (.if_icmp .eq 18) 3 8 := by decide +kernel
theorem d_108_52 : m_dn M_108 52 (.iconst 1) 1 53 := by decide +kernel
theorem d_108_53 : m_dn M_108 53 (.goto 4) 3 56 := by decide +kernel
theorem d_108_56 : m_dn M_108 56 (.iconst 0) 1 57 := by decide +kernel
theorem d_108_57 : m_dn M_108 57 (.ireturn) 1 58 := by decide +kernel
theorem d_108_8 : m_dn M_108 8 (.iload_n 2) 1 9 := by decide +kernel
theorem d_108_9 : m_dn M_108 9 (.aload_n 1) 1 10 := by decide +kernel
theorem d_115_0 : m_dn M_115 0 (.aload_n 1) 1 1 := by decide +kernel
theorem d_115_1 : m_dn M_115 1 (.aload_n 0) 1 2 := by decide +kernel
theorem d_115_12 : m_dn M_115 12 (.ifCond .eq 25) 3 15 := by decide +kernel
theorem d_115_15 : m_dn M_115 15 (.aload_n 1) 1 16 := by decide +kernel
theorem d_115_16 : m_dn M_115 16 (.getfield 60) 3 19 := by decide +kernel
theorem d_115_19 : m_dn M_115 19 (.aload_n 1) 1 20 := by decide +kernel
theorem d_115_2 : m_dn M_115 2 (.getfield 13) 3 5 := by decide +kernel
theorem d_115_20 : m_dn M_115 20 (.getfield 63) 3 23 := by decide +kernel
theorem d_115_23 : m_dn M_115 23 (.aload_n 0) 1 24 := by decide +kernel
theorem d_115_24 : m_dn M_115 24 (.getfield 23) 3 27 := by decide +kernel
theorem d_115_27 : m_dn M_115 27 (.aload_n 0) 1 28 := by decide +kernel
theorem d_115_28 : m_dn M_115 28 (.getfield 27) 3 31 := by decide +kernel
theorem d_115_31 : m_dn M_115 31 (.invokevirtual 67) 3 34 := by decide +kernel
theorem d_115_34 : m_dn M_115 34 (.if_icmp .eq 5) 3 37 := by decide +kernel
theorem d_115_37 : m_dn M_115 37 (.iconst 0) 1 38 := by decide +kernel
theorem d_115_38 : m_dn M_115 38 (.ireturn) 1 39 := by decide +kernel
theorem d_115_39 : m_dn M_115 39 (.aload_n 1) 1 40 := by decide +kernel
theorem d_115_40 : m_dn M_115 40 (.getfield 73) 3 43 := by decide +kernel
theorem d_115_43 : m_dn M_115 43 (.aload_n 0) 1 44 := by decide +kernel
theorem d_115_44 : m_dn M_115 44 (.getfield 76) 3 47 := by decide +kernel
theorem d_115_47 : m_dn M_115 47 (.if_icmp .lt 32) 3 50 := by decide +kernel
theorem d_115_5 : m_dn M_115 5 (.aload_n 0) 1 6 := by decide +kernel
theorem d_115_50 : m_dn M_115 50 (.aload_n 1) 1 51 := by decide +kernel
theorem d_115_51 : m_dn M_115 51 (.getfield 63) 3 54 := by decide +kernel
theorem d_115_54 : m_dn M_115 54 (.aload_n 0) 1 55 := by decide +kernel
theorem d_115_55 : m_dn M_115 55 (.getfield 36) 3 58 := by decide +kernel
theorem d_115_58 : m_dn M_115 58 (.aload_n 0) 1 59 := by decide +kernel
theorem d_115_59 : m_dn M_115 59 (.getfield 40) 3 62 := by decide +kernel
theorem d_115_6 : m_dn M_115 6 (.getfield 19) 3 9 := by decide +kernel
theorem d_115_62 : m_dn M_115 62 (.invokevirtual 79) 3 65 := by decide +kernel
theorem d_115_65 : m_dn M_115 65 (.aload_n 1) 1 66 := by decide +kernel
theorem d_115_66 : m_dn M_115 66 (.getfield 82) 3 69 := by decide +kernel
theorem d_115_69 : m_dn M_115 69 (.iconst (-1)) 1 70 := by decide +kernel
theorem d_115_70 : m_dn M_115 70 (.ixor) 1 71 := by decide +kernel
theorem d_115_71 : m_dn M_115 71 (.iand) 1 72 := by decide +kernel
theorem d_115_72 : m_dn M_115 72 (.ifCond .ne 7) 3 75 := by decide +kernel
theorem d_115_75 : m_dn M_115 75 (.iconst 1) 1 76 := by decide +kernel
theorem d_115_76 : m_dn M_115 76 (.goto 4) 3 79 := by decide +kernel
theorem d_115_79 : m_dn M_115 79 (.iconst 0) 1 80 := by decide +kernel
theorem d_115_80 : m_dn M_115 80 (.ireturn) 1 81 := by decide +kernel
theorem d_115_9 : m_dn M_115 9 (.invokevirtual 54) 3 12 := by decide +kernel
theorem d_124_0 : m_dn M_124 0 (.iload_n 1) 1 1 := by decide +kernel
theorem d_124_1 : m_dn M_124 1 (.aload_n 0) 1 2 := by decide +kernel
theorem d_124_10 : m_dn M_124 10 (.if_icmp .ge 7) 3 13 := by decide +kernel
theorem d_124_13 : m_dn M_124 13 (.iconst 1) 1 14 := by decide +kernel
theorem d_124_14 : m_dn M_124 14 (.goto 4) 3 17 := by decide +kernel
theorem d_124_17 : m_dn M_124 17 (.iconst 0) 1 18 := by decide +kernel
theorem d_124_18 : m_dn M_124 18 (.ireturn) 1 19 := by decide +kernel
theorem d_124_2 : m_dn M_124 2 (.invokevirtual 17) 3 5 := by decide +kernel
theorem d_124_5 : m_dn M_124 5 (.aload_n 0) 1 6 := by decide +kernel
theorem d_124_6 : m_dn M_124 6 (.getfield 21) 3 9 := by decide +kernel
theorem d_124_9 : m_dn M_124 9 (.iadd) 1 10 := by decide +kernel
theorem d_135_0 : m_dn M_135 0 (.iload_n 1) 1 1 := by decide +kernel
theorem d_135_1 : m_dn M_135 1 (.ifCond .ne 19) 3 4 := by decide +kernel
theorem d_135_12 : m_dn M_135 12 (.iconst 1) 1 13 := by decide +kernel
theorem d_135_13 : m_dn M_135 13 (.goto 23) 3 16 := by decide +kernel
theorem d_135_16 : m_dn M_135 16 (.iconst 0) 1 17 := by decide +kernel
theorem d_135_17 : m_dn M_135 17 (.goto 19) 3 20 := by decide +kernel
theorem d_135_20 : m_dn M_135 20 (.aload_n 0) 1 21 := by decide +kernel
theorem d_135_21 : m_dn M_135 21 (.getfield 39) 3 24 := by decide +kernel
theorem d_135_24 : m_dn M_135 24 (.iconst 1) 1 25 := by decide +kernel
theorem d_135_25 : m_dn M_135 25 (.iload_n 2) 1 26 := by decide +kernel
theorem d_135_26 : m_dn M_135 26 (.ishl) 1 27 := by decide +kernel
theorem d_135_27 : m_dn M_135 27 (.iand) 1 28 := by decide +kernel
theorem d_135_28 : m_dn M_135 28 (.ifCond .eq 7) 3 31 := by decide +kernel
theorem d_135_31 : m_dn M_135 31 (.iconst 1) 1 32 := by decide +kernel
theorem d_135_32 : m_dn M_135 32 (.goto 4) 3 35 := by decide +kernel
theorem d_135_35 : m_dn M_135 35 (.iconst 0) 1 36 := by decide +kernel
theorem d_135_36 : m_dn M_135 36 (.ireturn) 1 37 := by decide +kernel
theorem d_135_4 : m_dn M_135 4 (.aload_n 0) 1 5 := by decide +kernel
theorem d_135_5 : m_dn M_135 5 (.getfield 36) 3 8 := by decide +kernel
theorem d_135_8 : m_dn M_135 8 (.iload_n 2) 1 9 := by decide +kernel
theorem d_135_9 : m_dn M_135 9 (.if_icmp .ne 7) 3 12 := by decide +kernel
theorem d_80_0 : m_dn M_80 0 (.aload_n 0) 1 1 := by decide +kernel
theorem d_80_1 : m_dn M_80 1 (.aload_n 1) 1 2 := by decide +kernel
theorem d_80_12 : m_dn M_80 12 (.ifCond .eq 29) 3 15 := by decide +kernel
theorem d_80_15 : m_dn M_80 15 (.aload_n 0) 1 16 := by decide +kernel
theorem d_80_16 : m_dn M_80 16 (.getfield 22) 3 19 := by decide +kernel
theorem d_80_19 : m_dn M_80 19 (.aload_n 0) 1 20 := by decide +kernel
theorem d_80_2 : m_dn M_80 2 (.getfield 25) 3 5 := by decide +kernel
theorem d_80_20 : m_dn M_80 20 (.getfield 18) 3 23 := by decide +kernel
theorem d_80_23 : m_dn M_80 23 (.aload_n 1) 1 24 := by decide +kernel
theorem d_80_24 : m_dn M_80 24 (.getfield 33) 3 27 := by decide +kernel
theorem d_80_27 : m_dn M_80 27 (.aload_n 1) 1 28 := by decide +kernel
theorem d_80_28 : m_dn M_80 28 (.getfield 36) 3 31 := by decide +kernel
theorem d_80_31 : m_dn M_80 31 (.invokevirtual 39) 3 34 := by decide +kernel
theorem d_80_34 : m_dn M_80 34 (.if_icmp .ne 7) 3 37 := by decide +kernel
theorem d_80_37 : m_dn M_80 37 (.iconst 1) 1 38 := by decide +kernel
theorem d_80_38 : m_dn M_80 38 (.goto 4) 3 41 := by decide +kernel
theorem d_80_41 : m_dn M_80 41 (.iconst 0) 1 42 := by decide +kernel
theorem d_80_42 : m_dn M_80 42 (.ireturn) 1 43 := by decide +kernel
theorem d_80_5 : m_dn M_80 5 (.aload_n 1) 1 6 := by decide +kernel
theorem d_80_6 : m_dn M_80 6 (.getfield 28) 3 9 := by decide +kernel
theorem d_80_9 : m_dn M_80 9 (.invokevirtual 29) 3 12 := by decide +kernel
theorem d_81_0 : m_dn M_81 0 (.aload_n 0) 1 1 := by decide +kernel
theorem d_81_1 : m_dn M_81 1 (.getfield 9) 3 4 := by decide +kernel
theorem d_81_12 : m_dn M_81 12 (.iload_n 2) 1 13 := by decide +kernel
theorem d_81_13 : m_dn M_81 13 (.if_icmp .ne 7) 3 16 := by decide +kernel
theorem d_81_16 : m_dn M_81 16 (.iconst 1) 1 17 := by decide +kernel
theorem d_81_17 : m_dn M_81 17 (.goto 4) 3 20 := by decide +kernel
theorem d_81_20 : m_dn M_81 20 (.iconst 0) 1 21 := by decide +kernel
theorem d_81_21 : m_dn M_81 21 (.ireturn) 1 22 := by decide +kernel
theorem d_81_4 : m_dn M_81 4 (.iload_n 1) 1 5 := by decide +kernel
theorem d_81_5 : m_dn M_81 5 (.if_icmp .ne 15) 3 8 := by decide +kernel
theorem d_81_8 : m_dn M_81 8 (.aload_n 0) 1 9 := by decide +kernel
theorem d_81_9 : m_dn M_81 9 (.getfield 15) 3 12 := by decide +kernel
theorem d_82_0 : m_dn M_82 0 (.aload_n 0) 1 1 := by decide +kernel
theorem d_82_1 : m_dn M_82 1 (.getfield 24) 3 4 := by decide +kernel
theorem d_82_10 : m_dn M_82 10 (.goto 4) 3 13 := by decide +kernel
theorem d_82_13 : m_dn M_82 13 (.iconst 0) 1 14 := by decide +kernel
theorem d_82_14 : m_dn M_82 14 (.aload_n 0) 1 15 := by decide +kernel
theorem d_82_15 : m_dn M_82 15 (.getfield 24) 3 18 := by decide +kernel
theorem d_82_18 : m_dn M_82 18 (.iconst 2) 1 19 := by decide +kernel
theorem d_82_19 : m_dn M_82 19 (.iand) 1 20 := by decide +kernel
theorem d_82_20 : m_dn M_82 20 (.ifCond .eq 9) 3 23 := by decide +kernel
theorem d_82_23 : m_dn M_82 23 (.iconst 4) 1 24 := by decide +kernel
theorem d_82_24 : m_dn M_82 24 (.iload_n 2) 1 25 := by decide +kernel
theorem d_82_25 : m_dn M_82 25 (.imul) 1 26 := by decide +kernel
theorem d_82_26 : m_dn M_82 26 (.goto 4) 3 29 := by decide +kernel
theorem d_82_29 : m_dn M_82 29 (.iconst 0) 1 30 := by decide +kernel
theorem d_82_30 : m_dn M_82 30 (.iadd) 1 31 := by decide +kernel
theorem d_82_31 : m_dn M_82 31 (.ireturn) 1 32 := by decide +kernel
theorem d_82_4 : m_dn M_82 4 (.iconst 1) 1 5 := by decide +kernel
theorem d_82_5 : m_dn M_82 5 (.iand) 1 6 := by decide +kernel
theorem d_82_6 : m_dn M_82 6 (.ifCond .eq 7) 3 9 := by decide +kernel
theorem d_82_9 : m_dn M_82 9 (.iload_n 1) 1 10 := by decide +kernel
theorem d_83_0 : m_dn M_83 0 (.aload_n 0) 1 1 := by decide +kernel
theorem d_83_1 : m_dn M_83 1 (.getfield 62) 3 4 := by decide +kernel
theorem d_83_10 : m_dn M_83 10 (.isub) 1 11 := by decide +kernel
theorem d_83_11 : m_dn M_83 11 (.ireturn) 1 12 := by decide +kernel
theorem d_83_4 : m_dn M_83 4 (.iload_n 1) 1 5 := by decide +kernel
theorem d_83_5 : m_dn M_83 5 (.iadd) 1 6 := by decide +kernel
theorem d_83_6 : m_dn M_83 6 (.aload_n 0) 1 7 := by decide +kernel
theorem d_83_7 : m_dn M_83 7 (.getfield 65) 3 10 := by decide +kernel
theorem d_84_0 : m_dn M_84 0 (.aload_n 1) 1 1 := by decide +kernel
theorem d_84_1 : m_dn M_84 1 (.getfield 72) 3 4 := by decide +kernel
theorem d_84_100 : m_dn M_84 100 (.ixor) 1 101 := by decide +kernel
theorem d_84_101 : m_dn M_84 101 (.iand) 1 102 := by decide +kernel
theorem d_84_102 : m_dn M_84 102 (.ireturn) 1 103 := by decide +kernel
theorem d_84_12 : m_dn M_84 12 (.aload_n 2) 1 13 := by decide +kernel
theorem d_84_13 : m_dn M_84 13 (.aload_n 0) 1 14 := by decide +kernel
theorem d_84_14 : m_dn M_84 14 (.getfield 45) 3 17 := by decide +kernel
theorem d_84_17 : m_dn M_84 17 (.aload_n 0) 1 18 := by decide +kernel
theorem d_84_18 : m_dn M_84 18 (.getfield 9) 3 21 := by decide +kernel
theorem d_84_21 : m_dn M_84 21 (.invokevirtual 82) 3 24 := by decide +kernel
theorem d_84_24 : m_dn M_84 24 (.aload_n 1) 1 25 := by decide +kernel
theorem d_84_25 : m_dn M_84 25 (.getfield 88) 3 28 := by decide +kernel
theorem d_84_28 : m_dn M_84 28 (.iconst (-1)) 1 29 := by decide +kernel
theorem d_84_29 : m_dn M_84 29 (.ixor) 1 30 := by decide +kernel
theorem d_84_30 : m_dn M_84 30 (.iand) 1 31 := by decide +kernel
theorem d_84_31 : m_dn M_84 31 (.ireturn) 1 32 := by decide +kernel
theorem d_84_32 : m_dn M_84 32 (.aload_n 0) 1 33 := by decide +kernel
theorem d_84_33 : m_dn M_84 33 (.getfield 78) 3 36 := by decide +kernel
theorem d_84_36 : m_dn M_84 36 (.aload_n 1) 1 37 := by decide +kernel
theorem d_84_37 : m_dn M_84 37 (.invokevirtual 90) 3 40 := by decide +kernel
theorem d_84_4 : m_dn M_84 4 (.astore_n 2) 1 5 := by decide +kernel
theorem d_84_40 : m_dn M_84 40 (.invokevirtual 94) 3 43 := by decide +kernel
theorem d_84_43 : m_dn M_84 43 (.istore_n 3) 1 44 := by decide +kernel
theorem d_84_44 : m_dn M_84 44 (.aload_n 0) 1 45 := by decide +kernel
theorem d_84_45 : m_dn M_84 45 (.getfield 78) 3 48 := by decide +kernel
theorem d_84_48 : m_dn M_84 48 (.iload_n 3) 1 49 := by decide +kernel
theorem d_84_49 : m_dn M_84 49 (.aload_n 2) 1 50 := by decide +kernel
theorem d_84_5 : m_dn M_84 5 (.aload_n 0) 1 6 := by decide +kernel
theorem d_84_50 : m_dn M_84 50 (.getfield 100) 3 53 := by decide +kernel
theorem d_84_53 : m_dn M_84 53 (.invokevirtual 103) 3 56 := by decide +kernel
theorem d_84_56 : m_dn M_84 56 (.istore 4) 2 58 := by decide +kernel
theorem d_84_58 : m_dn M_84 58 (.aload_n 0) 1 59 := by decide +kernel
theorem d_84_59 : m_dn M_84 59 (.getfield 78) 3 62 := by decide +kernel
theorem d_84_6 : m_dn M_84 6 (.getfield 78) 3 9 := by decide +kernel
theorem d_84_62 : m_dn M_84 62 (.iload_n 3) 1 63 := by decide +kernel
theorem d_84_63 : m_dn M_84 63 (.aload_n 2) 1 64 := by decide +kernel
theorem d_84_64 : m_dn M_84 64 (.getfield 100) 3 67 := by decide +kernel
theorem d_84_67 : m_dn M_84 67 (.invokevirtual 106) 3 70 := by decide +kernel
theorem d_84_70 : m_dn M_84 70 (.istore 5) 2 72 := by decide +kernel
theorem d_84_72 : m_dn M_84 72 (.iload 4) 2 74 := by decide +kernel
theorem d_84_74 : m_dn M_84 74 (.iload 5) 2 76 := by decide +kernel
theorem d_84_76 : m_dn M_84 76 (.if_icmp .le 7) 3 79 := by decide +kernel
theorem d_84_79 : m_dn M_84 79 (.iconst 0) 1 80 := by decide +kernel
theorem d_84_80 : m_dn M_84 80 (.goto 22) 3 83 := by decide +kernel
theorem d_84_83 : m_dn M_84 83 (.aload_n 2) 1 84 := by decide +kernel
theorem d_84_84 : m_dn M_84 84 (.iload 4) 2 86 := by decide +kernel
theorem d_84_86 : m_dn M_84 86 (.iconst 4) 1 87 := by decide +kernel
theorem d_84_87 : m_dn M_84 87 (.ishr) 1 88 := by decide +kernel
theorem d_84_88 : m_dn M_84 88 (.iload 5) 2 90 := by decide +kernel
theorem d_84_9 : m_dn M_84 9 (.ifnonnull 23) 3 12 := by decide +kernel
theorem d_84_90 : m_dn M_84 90 (.iconst 4) 1 91 := by decide +kernel
theorem d_84_91 : m_dn M_84 91 (.ishr) 1 92 := by decide +kernel
theorem d_84_92 : m_dn M_84 92 (.invokevirtual 82) 3 95 := by decide +kernel
theorem d_84_95 : m_dn M_84 95 (.aload_n 1) 1 96 := by decide +kernel
theorem d_84_96 : m_dn M_84 96 (.getfield 88) 3 99 := by decide +kernel
theorem d_84_99 : m_dn M_84 99 (.iconst (-1)) 1 100 := by decide +kernel
theorem d_85_0 : m_dn M_85 0 (.aload_n 0) 1 1 := by decide +kernel
theorem d_85_1 : m_dn M_85 1 (.getfield 27) 3 4 := by decide +kernel
theorem d_85_10 : m_dn M_85 10 (.iload_n 2) 1 11 := by decide +kernel
theorem d_85_11 : m_dn M_85 11 (.iconst 1) 1 12 := by decide +kernel
theorem d_85_12 : m_dn M_85 12 (.iadd) 1 13 := by decide +kernel
theorem d_85_13 : m_dn M_85 13 (.iload_n 3) 1 14 := by decide +kernel
theorem d_85_14 : m_dn M_85 14 (.invokestatic 30) 3 17 := by decide +kernel
theorem d_85_17 : m_dn M_85 17 (.istore 4) 2 19 := by decide +kernel
theorem d_85_19 : m_dn M_85 19 (.iconst 1) 1 20 := by decide +kernel
theorem d_85_20 : m_dn M_85 20 (.iload 4) 2 22 := by decide +kernel
theorem d_85_22 : m_dn M_85 22 (.ishl) 1 23 := by decide +kernel
theorem d_85_23 : m_dn M_85 23 (.iconst 1) 1 24 := by decide +kernel
theorem d_85_24 : m_dn M_85 24 (.isub) 1 25 := by decide +kernel
theorem d_85_25 : m_dn M_85 25 (.iconst (-1)) 1 26 := by decide +kernel
theorem d_85_26 : m_dn M_85 26 (.iload_n 1) 1 27 := by decide +kernel
theorem d_85_27 : m_dn M_85 27 (.ishl) 1 28 := by decide +kernel
theorem d_85_28 : m_dn M_85 28 (.iand) 1 29 := by decide +kernel
theorem d_85_29 : m_dn M_85 29 (.ireturn) 1 30 := by decide +kernel
theorem d_85_4 : m_dn M_85 4 (.bipush 15) 2 6 := by decide +kernel
theorem d_85_6 : m_dn M_85 6 (.iadd) 1 7 := by decide +kernel
theorem d_85_7 : m_dn M_85 7 (.iconst 4) 1 8 := by decide +kernel
theorem d_85_8 : m_dn M_85 8 (.ishr) 1 9 := by decide +kernel
theorem d_85_9 : m_dn M_85 9 (.istore_n 3) 1 10 := by decide +kernel
theorem d_86_0 : m_dn M_86 0 (.bipush 8) 2 2 := by decide +kernel
theorem d_86_10 : m_dn M_86 10 (.aload_n 0) 1 11 := by decide +kernel
theorem d_86_11 : m_dn M_86 11 (.getfield 22) 3 14 := by decide +kernel
theorem d_86_14 : m_dn M_86 14 (.iadd) 1 15 := by decide +kernel
theorem d_86_15 : m_dn M_86 15 (.ireturn) 1 16 := by decide +kernel
theorem d_86_2 : m_dn M_86 2 (.aload_n 0) 1 3 := by decide +kernel
theorem d_86_3 : m_dn M_86 3 (.getfield 18) 3 6 := by decide +kernel
theorem d_86_6 : m_dn M_86 6 (.getfield 59) 3 9 := by decide +kernel
theorem d_86_9 : m_dn M_86 9 (.imul) 1 10 := by decide +kernel
theorem d_87_0 : m_dn M_87 0 (.aload_n 0) 1 1 := by decide +kernel
theorem d_87_1 : m_dn M_87 1 (.getfield 11) 3 4 := by decide +kernel
theorem d_87_11 : m_dn M_87 11 (.iconst (-1)) 1 12 := by decide +kernel
theorem d_87_12 : m_dn M_87 12 (.if_icmp .eq 11) 3 15 := by decide +kernel
theorem d_87_15 : m_dn M_87 15 (.aload_n 0) 1 16 := by decide +kernel
theorem d_87_16 : m_dn M_87 16 (.getfield 19) 3 19 := by decide +kernel
theorem d_87_19 : m_dn M_87 19 (.iload_n 1) 1 20 := by decide +kernel
theorem d_87_20 : m_dn M_87 20 (.if_icmp .ne 7) 3 23 := by decide +kernel
theorem d_87_23 : m_dn M_87 23 (.iconst 1) 1 24 := by decide +kernel
theorem d_87_24 : m_dn M_87 24 (.goto 4) 3 27 := by decide +kernel
theorem d_87_27 : m_dn M_87 27 (.iconst 0) 1 28 := by decide +kernel
theorem d_87_28 : m_dn M_87 28 (.ireturn) 1 29 := by decide +kernel
theorem d_87_4 : m_dn M_87 4 (.ifCond .eq 23) 3 7 := by decide +kernel
theorem d_87_7 : m_dn M_87 7 (.aload_n 0) 1 8 := by decide +kernel
theorem d_87_8 : m_dn M_87 8 (.getfield 19) 3 11 := by decide +kernel
theorem d_88_0 : m_dn M_88 0 (.iload_n 1) 1 1 := by decide +kernel
theorem d_88_1 : m_dn M_88 1 (.ifCond .ne 5) 3 4 := by decide +kernel
theorem d_88_10 : m_dn M_88 10 (.iconst 1) 1 11 := by decide +kernel
theorem d_88_11 : m_dn M_88 11 (.if_icmp .ne 10) 3 14 := by decide +kernel
theorem d_88_14 : m_dn M_88 14 (.aload_n 0) 1 15 := by decide +kernel
theorem d_88_15 : m_dn M_88 15 (.getfield 22) 3 18 := by decide +kernel
theorem d_88_18 : m_dn M_88 18 (.goto 13) 3 21 := by decide +kernel
theorem d_88_21 : m_dn M_88 21 (.iconst 0) 1 22 := by decide +kernel
theorem d_88_22 : m_dn M_88 22 (.iload_n 2) 1 23 := by decide +kernel
theorem d_88_23 : m_dn M_88 23 (.aload_n 0) 1 24 := by decide +kernel
theorem d_88_24 : m_dn M_88 24 (.getfield 22) 3 27 := by decide +kernel
theorem d_88_27 : m_dn M_88 27 (.isub) 1 28 := by decide +kernel
theorem d_88_28 : m_dn M_88 28 (.invokestatic 25) 3 31 := by decide +kernel
theorem d_88_31 : m_dn M_88 31 (.ireturn) 1 32 := by decide +kernel
theorem d_88_4 : m_dn M_88 4 (.iconst 0) 1 5 := by decide +kernel
theorem d_88_5 : m_dn M_88 5 (.ireturn) 1 6 := by decide +kernel
theorem d_88_6 : m_dn M_88 6 (.aload_n 0) 1 7 := by decide +kernel
theorem d_88_7 : m_dn M_88 7 (.getfield 11) 3 10 := by decide +kernel
theorem d_89_0 : m_dn M_89 0 (.iload_n 1) 1 1 := by decide +kernel
theorem d_89_1 : m_dn M_89 1 (.ifCond .eq 24) 3 4 := by decide +kernel
theorem d_89_12 : m_dn M_89 12 (.aload_n 0) 1 13 := by decide +kernel
theorem d_89_13 : m_dn M_89 13 (.getfield 31) 3 16 := by decide +kernel
theorem d_89_16 : m_dn M_89 16 (.iload_n 2) 1 17 := by decide +kernel
theorem d_89_17 : m_dn M_89 17 (.iconst 1) 1 18 := by decide +kernel
theorem d_89_18 : m_dn M_89 18 (.isub) 1 19 := by decide +kernel
theorem d_89_19 : m_dn M_89 19 (.invokestatic 34) 3 22 := by decide +kernel
theorem d_89_22 : m_dn M_89 22 (.goto 6) 3 25 := by decide +kernel
theorem d_89_25 : m_dn M_89 25 (.iload_n 2) 1 26 := by decide +kernel
theorem d_89_26 : m_dn M_89 26 (.iconst 1) 1 27 := by decide +kernel
theorem d_89_27 : m_dn M_89 27 (.isub) 1 28 := by decide +kernel
theorem d_89_28 : m_dn M_89 28 (.ireturn) 1 29 := by decide +kernel
theorem d_89_4 : m_dn M_89 4 (.aload_n 0) 1 5 := by decide +kernel
theorem d_89_5 : m_dn M_89 5 (.getfield 11) 3 8 := by decide +kernel
theorem d_89_8 : m_dn M_89 8 (.iconst 1) 1 9 := by decide +kernel
theorem d_89_9 : m_dn M_89 9 (.if_icmp .ne 16) 3 12 := by decide +kernel
theorem d_90_0 : m_dn M_90 0 (.aload_n 0) 1 1 := by decide +kernel
theorem d_90_1 : m_dn M_90 1 (.getfield 15) 3 4 := by decide +kernel
theorem d_90_10 : m_dn M_90 10 (.getfield 15) 3 13 := by decide +kernel
theorem d_90_13 : m_dn M_90 13 (.if_icmp .gt 7) 3 16 := by decide +kernel
theorem d_90_16 : m_dn M_90 16 (.iconst 1) 1 17 := by decide +kernel
theorem d_90_17 : m_dn M_90 17 (.goto 4) 3 20 := by decide +kernel
theorem d_90_20 : m_dn M_90 20 (.iconst 0) 1 21 := by decide +kernel
theorem d_90_21 : m_dn M_90 21 (.istore_n 3) 1 22 := by decide +kernel
theorem d_90_22 : m_dn M_90 22 (.iload_n 3) 1 23 := by decide +kernel
theorem d_90_23 : m_dn M_90 23 (.ifCond .eq 24) 3 26 := by decide +kernel
theorem d_90_26 : m_dn M_90 26 (.iload_n 2) 1 27 := by decide +kernel
theorem d_90_27 : m_dn M_90 27 (.aload_n 0) 1 28 := by decide +kernel
theorem d_90_28 : m_dn M_90 28 (.getfield 18) 3 31 := by decide +kernel
theorem d_90_31 : m_dn M_90 31 (.iconst 0) 1 32 := by decide +kernel
theorem d_90_32 : m_dn M_90 32 (.invokestatic 122) 3 35 := by decide +kernel
theorem d_90_35 : m_dn M_90 35 (.iadd) 1 36 := by decide +kernel
theorem d_90_36 : m_dn M_90 36 (.aload_n 1) 1 37 := by decide +kernel
theorem d_90_37 : m_dn M_90 37 (.invokevirtual 125) 3 40 := by decide +kernel
theorem d_90_4 : m_dn M_90 4 (.iconst (-1)) 1 5 := by decide +kernel
theorem d_90_40 : m_dn M_90 40 (.if_icmp .ge 7) 3 43 := by decide +kernel
theorem d_90_43 : m_dn M_90 43 (.iconst 1) 1 44 := by decide +kernel
theorem d_90_44 : m_dn M_90 44 (.goto 4) 3 47 := by decide +kernel
theorem d_90_47 : m_dn M_90 47 (.iconst 0) 1 48 := by decide +kernel
theorem d_90_48 : m_dn M_90 48 (.ireturn) 1 49 := by decide +kernel
theorem d_90_5 : m_dn M_90 5 (.if_icmp .eq 11) 3 8 := by decide +kernel
theorem d_90_8 : m_dn M_90 8 (.iload_n 2) 1 9 := by decide +kernel
theorem d_90_9 : m_dn M_90 9 (.aload_n 0) 1 10 := by decide +kernel
theorem d_91_0 : m_dn M_91 0 (.aload_n 0) 1 1 := by decide +kernel
theorem d_91_1 : m_dn M_91 1 (.getfield 7) 3 4 := by decide +kernel
theorem d_91_11 : m_dn M_91 11 (.aload_n 0) 1 12 := by decide +kernel
theorem d_91_12 : m_dn M_91 12 (.getfield 13) 3 15 := by decide +kernel
theorem d_91_15 : m_dn M_91 15 (.ireturn) 1 16 := by decide +kernel
theorem d_91_4 : m_dn M_91 4 (.ifCond .eq 7) 3 7 := by decide +kernel
theorem d_91_7 : m_dn M_91 7 (.iconst 0) 1 8 := by decide +kernel
theorem d_91_8 : m_dn M_91 8 (.goto 7) 3 11 := by decide +kernel
theorem d_99_0 : m_dn M_99 0 (.bipush 16) 2 2 := by decide +kernel
theorem d_99_11 : m_dn M_99 11 (.imul) 1 12 := by decide +kernel
theorem d_99_12 : m_dn M_99 12 (.iadd) 1 13 := by decide +kernel
theorem d_99_13 : m_dn M_99 13 (.ireturn) 1 14 := by decide +kernel
theorem d_99_2 : m_dn M_99 2 (.bipush 16) 2 4 := by decide +kernel
theorem d_99_4 : m_dn M_99 4 (.aload_n 0) 1 5 := by decide +kernel
theorem d_99_5 : m_dn M_99 5 (.getfield 68) 3 8 := by decide +kernel
theorem d_99_8 : m_dn M_99 8 (.invokestatic 71) 3 11 := by decide +kernel
def F_bc (x : Int32) : Int32 := ((((((((x - (((x : Int32).toUInt32 >>> (((1 : Int32) : Int32).toUInt32 &&& Int32.toUInt32 31)).toInt32 &&& (1431655765 : Int32))) &&& (858993459 : Int32)) + ((((x - (((x : Int32).toUInt32 >>> (((1 : Int32) : Int32).toUInt32 &&& Int32.toUInt32 31)).toInt32 &&& (1431655765 : Int32))) : Int32).toUInt32 >>> (((2 : Int32) : Int32).toUInt32 &&& Int32.toUInt32 31)).toInt32 &&& (858993459 : Int32))) + (((((x - (((x : Int32).toUInt32 >>> (((1 : Int32) : Int32).toUInt32 &&& Int32.toUInt32 31)).toInt32 &&& (1431655765 : Int32))) &&& (858993459 : Int32)) + ((((x - (((x : Int32).toUInt32 >>> (((1 : Int32) : Int32).toUInt32 &&& Int32.toUInt32 31)).toInt32 &&& (1431655765 : Int32))) : Int32).toUInt32 >>> (((2 : Int32) : Int32).toUInt32 &&& Int32.toUInt32 31)).toInt32 &&& (858993459 : Int32))) : Int32).toUInt32 >>> (((4 : Int32) : Int32).toUInt32 &&& Int32.toUInt32 31)).toInt32) &&& (252645135 : Int32)) + (((((((x - (((x : Int32).toUInt32 >>> (((1 : Int32) : Int32).toUInt32 &&& Int32.toUInt32 31)).toInt32 &&& (1431655765 : Int32))) &&& (858993459 : Int32)) + ((((x - (((x : Int32).toUInt32 >>> (((1 : Int32) : Int32).toUInt32 &&& Int32.toUInt32 31)).toInt32 &&& (1431655765 : Int32))) : Int32).toUInt32 >>> (((2 : Int32) : Int32).toUInt32 &&& Int32.toUInt32 31)).toInt32 &&& (858993459 : Int32))) + (((((x - (((x : Int32).toUInt32 >>> (((1 : Int32) : Int32).toUInt32 &&& Int32.toUInt32 31)).toInt32 &&& (1431655765 : Int32))) &&& (858993459 : Int32)) + ((((x - (((x : Int32).toUInt32 >>> (((1 : Int32) : Int32).toUInt32 &&& Int32.toUInt32 31)).toInt32 &&& (1431655765 : Int32))) : Int32).toUInt32 >>> (((2 : Int32) : Int32).toUInt32 &&& Int32.toUInt32 31)).toInt32 &&& (858993459 : Int32))) : Int32).toUInt32 >>> (((4 : Int32) : Int32).toUInt32 &&& Int32.toUInt32 31)).toInt32) &&& (252645135 : Int32)) : Int32).toUInt32 >>> (((8 : Int32) : Int32).toUInt32 &&& Int32.toUInt32 31)).toInt32) + ((((((((x - (((x : Int32).toUInt32 >>> (((1 : Int32) : Int32).toUInt32 &&& Int32.toUInt32 31)).toInt32 &&& (1431655765 : Int32))) &&& (858993459 : Int32)) + ((((x - (((x : Int32).toUInt32 >>> (((1 : Int32) : Int32).toUInt32 &&& Int32.toUInt32 31)).toInt32 &&& (1431655765 : Int32))) : Int32).toUInt32 >>> (((2 : Int32) : Int32).toUInt32 &&& Int32.toUInt32 31)).toInt32 &&& (858993459 : Int32))) + (((((x - (((x : Int32).toUInt32 >>> (((1 : Int32) : Int32).toUInt32 &&& Int32.toUInt32 31)).toInt32 &&& (1431655765 : Int32))) &&& (858993459 : Int32)) + ((((x - (((x : Int32).toUInt32 >>> (((1 : Int32) : Int32).toUInt32 &&& Int32.toUInt32 31)).toInt32 &&& (1431655765 : Int32))) : Int32).toUInt32 >>> (((2 : Int32) : Int32).toUInt32 &&& Int32.toUInt32 31)).toInt32 &&& (858993459 : Int32))) : Int32).toUInt32 >>> (((4 : Int32) : Int32).toUInt32 &&& Int32.toUInt32 31)).toInt32) &&& (252645135 : Int32)) + (((((((x - (((x : Int32).toUInt32 >>> (((1 : Int32) : Int32).toUInt32 &&& Int32.toUInt32 31)).toInt32 &&& (1431655765 : Int32))) &&& (858993459 : Int32)) + ((((x - (((x : Int32).toUInt32 >>> (((1 : Int32) : Int32).toUInt32 &&& Int32.toUInt32 31)).toInt32 &&& (1431655765 : Int32))) : Int32).toUInt32 >>> (((2 : Int32) : Int32).toUInt32 &&& Int32.toUInt32 31)).toInt32 &&& (858993459 : Int32))) + (((((x - (((x : Int32).toUInt32 >>> (((1 : Int32) : Int32).toUInt32 &&& Int32.toUInt32 31)).toInt32 &&& (1431655765 : Int32))) &&& (858993459 : Int32)) + ((((x - (((x : Int32).toUInt32 >>> (((1 : Int32) : Int32).toUInt32 &&& Int32.toUInt32 31)).toInt32 &&& (1431655765 : Int32))) : Int32).toUInt32 >>> (((2 : Int32) : Int32).toUInt32 &&& Int32.toUInt32 31)).toInt32 &&& (858993459 : Int32))) : Int32).toUInt32 >>> (((4 : Int32) : Int32).toUInt32 &&& Int32.toUInt32 31)).toInt32) &&& (252645135 : Int32)) : Int32).toUInt32 >>> (((8 : Int32) : Int32).toUInt32 &&& Int32.toUInt32 31)).toInt32) : Int32).toUInt32 >>> (((16 : Int32) : Int32).toUInt32 &&& Int32.toUInt32 31)).toInt32) &&& (63 : Int32))
theorem P_bc {l : Launch} {w : List mM} {x : Int32}  : m_Rs l M_100 (m_ent M_100 [.int x] w) (fun v w' => v = some (.int (F_bc x)) ∧ w' = w) 0 0 0 0 := by
  show m_Rs l M_100 (0, [(0, .int x)], [], w) _ 0 0 0 0
  refine m_Rs.n0 b_100 (x_iload_n d_100_0 rfl) ?_
  refine m_Rs.n0 b_100 (x_iload_n d_100_1 rfl) ?_
  refine m_Rs.n0 b_100 (x_iconst (z := 1) d_100_2 (by decide)) ?_
  refine m_Rs.n0 b_100 (x_iushr d_100_3 rfl) ?_
  refine m_Rs.n0 b_100 (x_ldcw (v := .int 1431655765) d_100_4 rfl) ?_
  refine m_Rs.n0 b_100 (x_iand d_100_7 rfl) ?_
  refine m_Rs.n0 b_100 (x_isub d_100_8 rfl) ?_
  refine m_Rs.n0 b_100 (x_istore_n d_100_9 rfl (show m_put1 _ _ _ = [(0, _)] from rfl)) ?_
  refine m_Rs.n0 b_100 (x_iload_n d_100_10 rfl) ?_
  refine m_Rs.n0 b_100 (x_ldcw (v := .int 858993459) d_100_11 rfl) ?_
  refine m_Rs.n0 b_100 (x_iand d_100_14 rfl) ?_
  refine m_Rs.n0 b_100 (x_iload_n d_100_15 rfl) ?_
  refine m_Rs.n0 b_100 (x_iconst (z := 2) d_100_16 (by decide)) ?_
  refine m_Rs.n0 b_100 (x_iushr d_100_17 rfl) ?_
  refine m_Rs.n0 b_100 (x_ldcw (v := .int 858993459) d_100_18 rfl) ?_
  refine m_Rs.n0 b_100 (x_iand d_100_21 rfl) ?_
  refine m_Rs.n0 b_100 (x_iadd d_100_22 rfl) ?_
  refine m_Rs.n0 b_100 (x_istore_n d_100_23 rfl (show m_put1 _ _ _ = [(0, _)] from rfl)) ?_
  refine m_Rs.n0 b_100 (x_iload_n d_100_24 rfl) ?_
  refine m_Rs.n0 b_100 (x_iload_n d_100_25 rfl) ?_
  refine m_Rs.n0 b_100 (x_iconst (z := 4) d_100_26 (by decide)) ?_
  refine m_Rs.n0 b_100 (x_iushr d_100_27 rfl) ?_
  refine m_Rs.n0 b_100 (x_iadd d_100_28 rfl) ?_
  refine m_Rs.n0 b_100 (x_ldcw (v := .int 252645135) d_100_29 rfl) ?_
  refine m_Rs.n0 b_100 (x_iand d_100_32 rfl) ?_
  refine m_Rs.n0 b_100 (x_istore_n d_100_33 rfl (show m_put1 _ _ _ = [(0, _)] from rfl)) ?_
  refine m_Rs.n0 b_100 (x_iload_n d_100_34 rfl) ?_
  refine m_Rs.n0 b_100 (x_iload_n d_100_35 rfl) ?_
  refine m_Rs.n0 b_100 (x_bipush (z := 8) d_100_36 (by decide)) ?_
  refine m_Rs.n0 b_100 (x_iushr d_100_38 rfl) ?_
  refine m_Rs.n0 b_100 (x_iadd d_100_39 rfl) ?_
  refine m_Rs.n0 b_100 (x_istore_n d_100_40 rfl (show m_put1 _ _ _ = [(0, _)] from rfl)) ?_
  refine m_Rs.n0 b_100 (x_iload_n d_100_41 rfl) ?_
  refine m_Rs.n0 b_100 (x_iload_n d_100_42 rfl) ?_
  refine m_Rs.n0 b_100 (x_bipush (z := 16) d_100_43 (by decide)) ?_
  refine m_Rs.n0 b_100 (x_iushr d_100_45 rfl) ?_
  refine m_Rs.n0 b_100 (x_iadd d_100_46 rfl) ?_
  refine m_Rs.n0 b_100 (x_istore_n d_100_47 rfl (show m_put1 _ _ _ = [(0, _)] from rfl)) ?_
  refine m_Rs.n0 b_100 (x_iload_n d_100_48 rfl) ?_
  refine m_Rs.n0 b_100 (x_bipush (z := 63) d_100_49 (by decide)) ?_
  refine m_Rs.n0 b_100 (x_iand d_100_51 rfl) ?_
  refine m_Rs.ret b_100 (m_rt_ir d_100_52 rfl rfl) ?_
  exact ⟨by simp only [F_bc], rfl⟩
def F_life (t_maxAge t_noCache : Int32) : Int32 := (cond (m_c1 .eq t_noCache) t_maxAge (0 : Int32))
theorem P_life {l : Launch} {w : List mM} {t : Nat} {t_path t_version t_length t_maxAge t_staleIfError t_staleWhile t_noStore t_noCache t_keys t_vary : Int32} (h_t : m_at w t = some (.inr (13, [.int t_path, .int t_version, .int t_length, .int t_maxAge, .int t_staleIfError, .int t_staleWhile, .int t_noStore, .int t_noCache, .int t_keys, .int t_vary]))) : m_Rs l M_91 (m_ent M_91 [.ref t] w) (fun v w' => v = some (.int (F_life t_maxAge t_noCache)) ∧ w' = w) 0 0 0 0 := by
  show m_Rs l M_91 (0, [(0, .ref t)], [], w) _ 0 0 0 0
  refine m_Rs.n0 b_91 (x_aload_n d_91_0 rfl) ?_
  refine m_Rs.n0 b_91 (x_getf d_91_1 rfl h_t rfl) ?_
  cases hc1 : m_c1 .eq t_noCache with
  | true =>
    refine m_Rs.n0 b_91 (x_ift d_91_4 rfl hc1) ?_
    refine m_Rs.n0 b_91 (x_aload_n d_91_11 rfl) ?_
    refine m_Rs.n0 b_91 (x_getf d_91_12 rfl h_t rfl) ?_
    refine m_Rs.ret b_91 (m_rt_ir d_91_15 rfl rfl) ?_
    exact ⟨by simp only [F_life, hc1, cond_true, cond_false], rfl⟩
  | false =>
    refine m_Rs.n0 b_91 (x_iff d_91_4 rfl hc1) ?_
    refine m_Rs.n0 b_91 (x_iconst (z := 0) d_91_7 (by decide)) ?_
    refine m_Rs.n0 b_91 (x_goto d_91_8 rfl) ?_
    refine m_Rs.ret b_91 (m_rt_ir d_91_15 rfl rfl) ?_
    exact ⟨by simp only [F_life, hc1, cond_true, cond_false], rfl⟩
def F_helps (t_maxAge t_staleIfError t_noCache age : Int32) : Int32 := (cond (m_c2 .ge age ((F_life t_maxAge t_noCache) + t_staleIfError)) (0 : Int32) (1 : Int32))
theorem P_helps {l : Launch} {w : List mM} {t : Nat} {t_path t_version t_length t_maxAge t_staleIfError t_staleWhile t_noStore t_noCache t_keys t_vary age : Int32} (h_t : m_at w t = some (.inr (13, [.int t_path, .int t_version, .int t_length, .int t_maxAge, .int t_staleIfError, .int t_staleWhile, .int t_noStore, .int t_noCache, .int t_keys, .int t_vary]))) : m_Rs l M_124 (m_ent M_124 [.ref t, .int age] w) (fun v w' => v = some (.int (F_helps t_maxAge t_staleIfError t_noCache age)) ∧ w' = w) 0 0 1 100 := by
  show m_Rs l M_124 (0, [(0, .ref t), (1, .int age)], [], w) _ 0 0 1 100
  refine m_Rs.n0 b_124 (x_iload_n d_124_0 rfl) ?_
  refine m_Rs.n0 b_124 (x_aload_n d_124_1 rfl) ?_
  refine m_Rs.callE b_124 (y_cv d_124_2 rfl q_91 (m_isRecv_of rfl h_t) (show m_takeI _ _ = some (_, [_], [_]) from rfl) (by simp only [m_okf, List.all_cons, List.all_nil, Bool.and_true, Bool.and_self, m_okv_i, m_okv_l, m_okv_0, m_okv_t, m_okv_at h_t]) rfl) (P_life h_t) rfl ?_ (by decide) (by decide)
  refine m_Rs.n0 b_124 (x_aload_n d_124_5 rfl) ?_
  refine m_Rs.n0 b_124 (x_getf d_124_6 rfl h_t rfl) ?_
  refine m_Rs.n0 b_124 (x_iadd d_124_9 rfl) ?_
  cases hc1 : m_c2 .ge age ((F_life t_maxAge t_noCache) + t_staleIfError) with
  | true =>
    refine m_Rs.n0 b_124 (x_ict d_124_10 rfl hc1) ?_
    refine m_Rs.n0 b_124 (x_iconst (z := 0) d_124_17 (by decide)) ?_
    refine m_Rs.ret b_124 (m_rt_ir d_124_18 rfl rfl) ?_
    exact ⟨by simp only [F_helps, hc1, cond_true, cond_false], rfl⟩
  | false =>
    refine m_Rs.n0 b_124 (x_icf d_124_10 rfl hc1) ?_
    refine m_Rs.n0 b_124 (x_iconst (z := 1) d_124_13 (by decide)) ?_
    refine m_Rs.n0 b_124 (x_goto d_124_14 rfl) ?_
    refine m_Rs.ret b_124 (m_rt_ir d_124_18 rfl rfl) ?_
    exact ⟨by simp only [F_helps, hc1, cond_true, cond_false], rfl⟩
def F_which (t_vary lang form : Int32) : Int32 := (cond (m_c1 .eq (t_vary &&& (1 : Int32))) (cond (m_c1 .eq (t_vary &&& (2 : Int32))) ((0 : Int32) + (0 : Int32)) ((0 : Int32) + ((4 : Int32) * form))) (cond (m_c1 .eq (t_vary &&& (2 : Int32))) (lang + (0 : Int32)) (lang + ((4 : Int32) * form))))
theorem P_which {l : Launch} {w : List mM} {t : Nat} {t_path t_version t_length t_maxAge t_staleIfError t_staleWhile t_noStore t_noCache t_keys t_vary lang form : Int32} (h_t : m_at w t = some (.inr (13, [.int t_path, .int t_version, .int t_length, .int t_maxAge, .int t_staleIfError, .int t_staleWhile, .int t_noStore, .int t_noCache, .int t_keys, .int t_vary]))) : m_Rs l M_82 (m_ent M_82 [.ref t, .int lang, .int form] w) (fun v w' => v = some (.int (F_which t_vary lang form)) ∧ w' = w) 0 0 0 0 := by
  show m_Rs l M_82 (0, [(0, .ref t), (1, .int lang), (2, .int form)], [], w) _ 0 0 0 0
  refine m_Rs.n0 b_82 (x_aload_n d_82_0 rfl) ?_
  refine m_Rs.n0 b_82 (x_getf d_82_1 rfl h_t rfl) ?_
  refine m_Rs.n0 b_82 (x_iconst (z := 1) d_82_4 (by decide)) ?_
  refine m_Rs.n0 b_82 (x_iand d_82_5 rfl) ?_
  cases hc1 : m_c1 .eq (t_vary &&& (1 : Int32)) with
  | true =>
    refine m_Rs.n0 b_82 (x_ift d_82_6 rfl hc1) ?_
    refine m_Rs.n0 b_82 (x_iconst (z := 0) d_82_13 (by decide)) ?_
    refine m_Rs.n0 b_82 (x_aload_n d_82_14 rfl) ?_
    refine m_Rs.n0 b_82 (x_getf d_82_15 rfl h_t rfl) ?_
    refine m_Rs.n0 b_82 (x_iconst (z := 2) d_82_18 (by decide)) ?_
    refine m_Rs.n0 b_82 (x_iand d_82_19 rfl) ?_
    cases hc2 : m_c1 .eq (t_vary &&& (2 : Int32)) with
    | true =>
      refine m_Rs.n0 b_82 (x_ift d_82_20 rfl hc2) ?_
      refine m_Rs.n0 b_82 (x_iconst (z := 0) d_82_29 (by decide)) ?_
      refine m_Rs.n0 b_82 (x_iadd d_82_30 rfl) ?_
      refine m_Rs.ret b_82 (m_rt_ir d_82_31 rfl rfl) ?_
      exact ⟨by simp only [F_which, hc1, hc2, cond_true, cond_false], rfl⟩
    | false =>
      refine m_Rs.n0 b_82 (x_iff d_82_20 rfl hc2) ?_
      refine m_Rs.n0 b_82 (x_iconst (z := 4) d_82_23 (by decide)) ?_
      refine m_Rs.n0 b_82 (x_iload_n d_82_24 rfl) ?_
      refine m_Rs.n0 b_82 (x_imul d_82_25 rfl) ?_
      refine m_Rs.n0 b_82 (x_goto d_82_26 rfl) ?_
      refine m_Rs.n0 b_82 (x_iadd d_82_30 rfl) ?_
      refine m_Rs.ret b_82 (m_rt_ir d_82_31 rfl rfl) ?_
      exact ⟨by simp only [F_which, hc1, hc2, cond_true, cond_false], rfl⟩
  | false =>
    refine m_Rs.n0 b_82 (x_iff d_82_6 rfl hc1) ?_
    refine m_Rs.n0 b_82 (x_iload_n d_82_9 rfl) ?_
    refine m_Rs.n0 b_82 (x_goto d_82_10 rfl) ?_
    refine m_Rs.n0 b_82 (x_aload_n d_82_14 rfl) ?_
    refine m_Rs.n0 b_82 (x_getf d_82_15 rfl h_t rfl) ?_
    refine m_Rs.n0 b_82 (x_iconst (z := 2) d_82_18 (by decide)) ?_
    refine m_Rs.n0 b_82 (x_iand d_82_19 rfl) ?_
    cases hc3 : m_c1 .eq (t_vary &&& (2 : Int32)) with
    | true =>
      refine m_Rs.n0 b_82 (x_ift d_82_20 rfl hc3) ?_
      refine m_Rs.n0 b_82 (x_iconst (z := 0) d_82_29 (by decide)) ?_
      refine m_Rs.n0 b_82 (x_iadd d_82_30 rfl) ?_
      refine m_Rs.ret b_82 (m_rt_ir d_82_31 rfl rfl) ?_
      exact ⟨by simp only [F_which, hc1, hc3, cond_true, cond_false], rfl⟩
    | false =>
      refine m_Rs.n0 b_82 (x_iff d_82_20 rfl hc3) ?_
      refine m_Rs.n0 b_82 (x_iconst (z := 4) d_82_23 (by decide)) ?_
      refine m_Rs.n0 b_82 (x_iload_n d_82_24 rfl) ?_
      refine m_Rs.n0 b_82 (x_imul d_82_25 rfl) ?_
      refine m_Rs.n0 b_82 (x_goto d_82_26 rfl) ?_
      refine m_Rs.n0 b_82 (x_iadd d_82_30 rfl) ?_
      refine m_Rs.ret b_82 (m_rt_ir d_82_31 rfl rfl) ?_
      exact ⟨by simp only [F_which, hc1, hc3, cond_true, cond_false], rfl⟩
def F_blk (t_length first last : Int32) : Int32 := ((((1 : Int32) <<< ((if ((t_length + (15 : Int32)) >>> ((4 : Int32) &&& 31)) < (last + (1 : Int32)) then ((t_length + (15 : Int32)) >>> ((4 : Int32) &&& 31)) else (last + (1 : Int32))) &&& 31)) - (1 : Int32)) &&& (((-1) : Int32) <<< (first &&& 31)))
theorem P_blk {l : Launch} {w : List mM} {t : Nat} {t_path t_version t_length t_maxAge t_staleIfError t_staleWhile t_noStore t_noCache t_keys t_vary first last : Int32} (h_t : m_at w t = some (.inr (13, [.int t_path, .int t_version, .int t_length, .int t_maxAge, .int t_staleIfError, .int t_staleWhile, .int t_noStore, .int t_noCache, .int t_keys, .int t_vary]))) : m_Rs l M_85 (m_ent M_85 [.ref t, .int first, .int last] w) (fun v w' => v = some (.int (F_blk t_length first last)) ∧ w' = w) 0 0 1 100 := by
  show m_Rs l M_85 (0, [(0, .ref t), (1, .int first), (2, .int last)], [], w) _ 0 0 1 100
  refine m_Rs.n0 b_85 (x_aload_n d_85_0 rfl) ?_
  refine m_Rs.n0 b_85 (x_getf d_85_1 rfl h_t rfl) ?_
  refine m_Rs.n0 b_85 (x_bipush (z := 15) d_85_4 (by decide)) ?_
  refine m_Rs.n0 b_85 (x_iadd d_85_6 rfl) ?_
  refine m_Rs.n0 b_85 (x_iconst (z := 4) d_85_7 (by decide)) ?_
  refine m_Rs.n0 b_85 (x_ishr d_85_8 rfl) ?_
  refine m_Rs.n0 b_85 (x_istore_n d_85_9 rfl (show m_put1 _ _ _ = [(3, _), (0, _), (1, _), (2, _)] from rfl)) ?_
  refine m_Rs.n0 b_85 (x_iload_n d_85_10 rfl) ?_
  refine m_Rs.n0 b_85 (x_iconst (z := 1) d_85_11 (by decide)) ?_
  refine m_Rs.n0 b_85 (x_iadd d_85_12 rfl) ?_
  refine m_Rs.n0 b_85 (x_iload_n d_85_13 rfl) ?_
  refine m_Rs.nz b_85 (x_min d_85_14 rfl (Nat.le_of_ble_eq_true rfl) rfl) ?_ (by decide) (by decide)
  refine m_Rs.n0 b_85 (x_istore d_85_17 rfl (show m_put1 _ _ _ = [(4, _), (3, _), (0, _), (1, _), (2, _)] from rfl)) ?_
  refine m_Rs.n0 b_85 (x_iconst (z := 1) d_85_19 (by decide)) ?_
  refine m_Rs.n0 b_85 (x_iload d_85_20 rfl) ?_
  refine m_Rs.n0 b_85 (x_ishl d_85_22 rfl) ?_
  refine m_Rs.n0 b_85 (x_iconst (z := 1) d_85_23 (by decide)) ?_
  refine m_Rs.n0 b_85 (x_isub d_85_24 rfl) ?_
  refine m_Rs.n0 b_85 (x_iconst (z := (-1)) d_85_25 (by decide)) ?_
  refine m_Rs.n0 b_85 (x_iload_n d_85_26 rfl) ?_
  refine m_Rs.n0 b_85 (x_ishl d_85_27 rfl) ?_
  refine m_Rs.n0 b_85 (x_iand d_85_28 rfl) ?_
  refine m_Rs.ret b_85 (m_rt_ir d_85_29 rfl rfl) ?_
  exact ⟨by simp only [F_blk], rfl⟩
def F_purged (t_path t_keys by_ what : Int32) : Int32 := (cond (m_c1 .ne by_) (cond (m_c1 .eq (t_keys &&& ((1 : Int32) <<< (what &&& 31)))) (0 : Int32) (1 : Int32)) (cond (m_c2 .ne t_path what) (0 : Int32) (1 : Int32)))
theorem P_purged {l : Launch} {w : List mM} {t : Nat} {t_path t_version t_length t_maxAge t_staleIfError t_staleWhile t_noStore t_noCache t_keys t_vary by_ what : Int32} (h_t : m_at w t = some (.inr (13, [.int t_path, .int t_version, .int t_length, .int t_maxAge, .int t_staleIfError, .int t_staleWhile, .int t_noStore, .int t_noCache, .int t_keys, .int t_vary]))) : m_Rs l M_135 (m_ent M_135 [.ref t, .int by_, .int what] w) (fun v w' => v = some (.int (F_purged t_path t_keys by_ what)) ∧ w' = w) 0 0 0 0 := by
  show m_Rs l M_135 (0, [(0, .ref t), (1, .int by_), (2, .int what)], [], w) _ 0 0 0 0
  refine m_Rs.n0 b_135 (x_iload_n d_135_0 rfl) ?_
  cases hc1 : m_c1 .ne by_ with
  | true =>
    refine m_Rs.n0 b_135 (x_ift d_135_1 rfl hc1) ?_
    refine m_Rs.n0 b_135 (x_aload_n d_135_20 rfl) ?_
    refine m_Rs.n0 b_135 (x_getf d_135_21 rfl h_t rfl) ?_
    refine m_Rs.n0 b_135 (x_iconst (z := 1) d_135_24 (by decide)) ?_
    refine m_Rs.n0 b_135 (x_iload_n d_135_25 rfl) ?_
    refine m_Rs.n0 b_135 (x_ishl d_135_26 rfl) ?_
    refine m_Rs.n0 b_135 (x_iand d_135_27 rfl) ?_
    cases hc2 : m_c1 .eq (t_keys &&& ((1 : Int32) <<< (what &&& 31))) with
    | true =>
      refine m_Rs.n0 b_135 (x_ift d_135_28 rfl hc2) ?_
      refine m_Rs.n0 b_135 (x_iconst (z := 0) d_135_35 (by decide)) ?_
      refine m_Rs.ret b_135 (m_rt_ir d_135_36 rfl rfl) ?_
      exact ⟨by simp only [F_purged, hc1, hc2, cond_true, cond_false], rfl⟩
    | false =>
      refine m_Rs.n0 b_135 (x_iff d_135_28 rfl hc2) ?_
      refine m_Rs.n0 b_135 (x_iconst (z := 1) d_135_31 (by decide)) ?_
      refine m_Rs.n0 b_135 (x_goto d_135_32 rfl) ?_
      refine m_Rs.ret b_135 (m_rt_ir d_135_36 rfl rfl) ?_
      exact ⟨by simp only [F_purged, hc1, hc2, cond_true, cond_false], rfl⟩
  | false =>
    refine m_Rs.n0 b_135 (x_iff d_135_1 rfl hc1) ?_
    refine m_Rs.n0 b_135 (x_aload_n d_135_4 rfl) ?_
    refine m_Rs.n0 b_135 (x_getf d_135_5 rfl h_t rfl) ?_
    refine m_Rs.n0 b_135 (x_iload_n d_135_8 rfl) ?_
    cases hc3 : m_c2 .ne t_path what with
    | true =>
      refine m_Rs.n0 b_135 (x_ict d_135_9 rfl hc3) ?_
      refine m_Rs.n0 b_135 (x_iconst (z := 0) d_135_16 (by decide)) ?_
      refine m_Rs.n0 b_135 (x_goto d_135_17 rfl) ?_
      refine m_Rs.ret b_135 (m_rt_ir d_135_36 rfl rfl) ?_
      exact ⟨by simp only [F_purged, hc1, hc3, cond_true, cond_false], rfl⟩
    | false =>
      refine m_Rs.n0 b_135 (x_icf d_135_9 rfl hc3) ?_
      refine m_Rs.n0 b_135 (x_iconst (z := 1) d_135_12 (by decide)) ?_
      refine m_Rs.n0 b_135 (x_goto d_135_13 rfl) ?_
      refine m_Rs.ret b_135 (m_rt_ir d_135_36 rfl rfl) ?_
      exact ⟨by simp only [F_purged, hc1, hc3, cond_true, cond_false], rfl⟩
def F_isOf (e_path e_variant pa va : Int32) : Int32 := (cond (m_c2 .ne e_path pa) (0 : Int32) (cond (m_c2 .ne e_variant va) (0 : Int32) (1 : Int32)))
theorem P_isOf {l : Launch} {w : List mM} {e t : Nat} {e_path e_variant e_which e_mark e_age e_came e_blocks e_kept pa va : Int32} (h_e : m_at w e = some (.inr (11, [.int e_path, .int e_variant, .ref t, .int e_which, .int e_mark, .int e_age, .int e_came, .int e_blocks, .int e_kept]))) : m_Rs l M_81 (m_ent M_81 [.ref e, .int pa, .int va] w) (fun v w' => v = some (.int (F_isOf e_path e_variant pa va)) ∧ w' = w) 0 0 0 0 := by
  show m_Rs l M_81 (0, [(0, .ref e), (1, .int pa), (2, .int va)], [], w) _ 0 0 0 0
  refine m_Rs.n0 b_81 (x_aload_n d_81_0 rfl) ?_
  refine m_Rs.n0 b_81 (x_getf d_81_1 rfl h_e rfl) ?_
  refine m_Rs.n0 b_81 (x_iload_n d_81_4 rfl) ?_
  cases hc1 : m_c2 .ne e_path pa with
  | true =>
    refine m_Rs.n0 b_81 (x_ict d_81_5 rfl hc1) ?_
    refine m_Rs.n0 b_81 (x_iconst (z := 0) d_81_20 (by decide)) ?_
    refine m_Rs.ret b_81 (m_rt_ir d_81_21 rfl rfl) ?_
    exact ⟨by simp only [F_isOf, hc1, cond_true, cond_false], rfl⟩
  | false =>
    refine m_Rs.n0 b_81 (x_icf d_81_5 rfl hc1) ?_
    refine m_Rs.n0 b_81 (x_aload_n d_81_8 rfl) ?_
    refine m_Rs.n0 b_81 (x_getf d_81_9 rfl h_e rfl) ?_
    refine m_Rs.n0 b_81 (x_iload_n d_81_12 rfl) ?_
    cases hc2 : m_c2 .ne e_variant va with
    | true =>
      refine m_Rs.n0 b_81 (x_ict d_81_13 rfl hc2) ?_
      refine m_Rs.n0 b_81 (x_iconst (z := 0) d_81_20 (by decide)) ?_
      refine m_Rs.ret b_81 (m_rt_ir d_81_21 rfl rfl) ?_
      exact ⟨by simp only [F_isOf, hc1, hc2, cond_true, cond_false], rfl⟩
    | false =>
      refine m_Rs.n0 b_81 (x_icf d_81_13 rfl hc2) ?_
      refine m_Rs.n0 b_81 (x_iconst (z := 1) d_81_16 (by decide)) ?_
      refine m_Rs.n0 b_81 (x_goto d_81_17 rfl) ?_
      refine m_Rs.ret b_81 (m_rt_ir d_81_21 rfl rfl) ?_
      exact ⟨by simp only [F_isOf, hc1, hc2, cond_true, cond_false], rfl⟩
def F_tag (t_version e_which : Int32) : Int32 := (((8 : Int32) * t_version) + e_which)
theorem P_tag {l : Launch} {w : List mM} {e t : Nat} {e_path e_variant t_path t_version t_length t_maxAge t_staleIfError t_staleWhile t_noStore t_noCache t_keys t_vary e_which e_mark e_age e_came e_blocks e_kept : Int32} (h_e : m_at w e = some (.inr (11, [.int e_path, .int e_variant, .ref t, .int e_which, .int e_mark, .int e_age, .int e_came, .int e_blocks, .int e_kept]))) (h_t : m_at w t = some (.inr (13, [.int t_path, .int t_version, .int t_length, .int t_maxAge, .int t_staleIfError, .int t_staleWhile, .int t_noStore, .int t_noCache, .int t_keys, .int t_vary]))) : m_Rs l M_86 (m_ent M_86 [.ref e] w) (fun v w' => v = some (.int (F_tag t_version e_which)) ∧ w' = w) 0 0 0 0 := by
  show m_Rs l M_86 (0, [(0, .ref e)], [], w) _ 0 0 0 0
  refine m_Rs.n0 b_86 (x_bipush (z := 8) d_86_0 (by decide)) ?_
  refine m_Rs.n0 b_86 (x_aload_n d_86_2 rfl) ?_
  refine m_Rs.n0 b_86 (x_getf d_86_3 rfl h_e rfl) ?_
  refine m_Rs.n0 b_86 (x_getf d_86_6 rfl h_t rfl) ?_
  refine m_Rs.n0 b_86 (x_imul d_86_9 rfl) ?_
  refine m_Rs.n0 b_86 (x_aload_n d_86_10 rfl) ?_
  refine m_Rs.n0 b_86 (x_getf d_86_11 rfl h_e rfl) ?_
  refine m_Rs.n0 b_86 (x_iadd d_86_14 rfl) ?_
  refine m_Rs.ret b_86 (m_rt_ir d_86_15 rfl rfl) ?_
  exact ⟨by simp only [F_tag], rfl⟩
def F_ageAt (e_age e_came now : Int32) : Int32 := ((e_age + now) - e_came)
theorem P_ageAt {l : Launch} {w : List mM} {e t : Nat} {e_path e_variant e_which e_mark e_age e_came e_blocks e_kept now : Int32} (h_e : m_at w e = some (.inr (11, [.int e_path, .int e_variant, .ref t, .int e_which, .int e_mark, .int e_age, .int e_came, .int e_blocks, .int e_kept]))) : m_Rs l M_83 (m_ent M_83 [.ref e, .int now] w) (fun v w' => v = some (.int (F_ageAt e_age e_came now)) ∧ w' = w) 0 0 0 0 := by
  show m_Rs l M_83 (0, [(0, .ref e), (1, .int now)], [], w) _ 0 0 0 0
  refine m_Rs.n0 b_83 (x_aload_n d_83_0 rfl) ?_
  refine m_Rs.n0 b_83 (x_getf d_83_1 rfl h_e rfl) ?_
  refine m_Rs.n0 b_83 (x_iload_n d_83_4 rfl) ?_
  refine m_Rs.n0 b_83 (x_iadd d_83_5 rfl) ?_
  refine m_Rs.n0 b_83 (x_aload_n d_83_6 rfl) ?_
  refine m_Rs.n0 b_83 (x_getf d_83_7 rfl h_e rfl) ?_
  refine m_Rs.n0 b_83 (x_isub d_83_10 rfl) ?_
  refine m_Rs.ret b_83 (m_rt_ir d_83_11 rfl rfl) ?_
  exact ⟨by simp only [F_ageAt], rfl⟩
def F_esize (e_blocks : Int32) : Int32 := ((16 : Int32) + ((16 : Int32) * (F_bc e_blocks)))
theorem P_esize {l : Launch} {w : List mM} {e t : Nat} {e_path e_variant e_which e_mark e_age e_came e_blocks e_kept : Int32} (h_e : m_at w e = some (.inr (11, [.int e_path, .int e_variant, .ref t, .int e_which, .int e_mark, .int e_age, .int e_came, .int e_blocks, .int e_kept]))) : m_Rs l M_99 (m_ent M_99 [.ref e] w) (fun v w' => v = some (.int (F_esize e_blocks)) ∧ w' = w) 0 0 1 100 := by
  show m_Rs l M_99 (0, [(0, .ref e)], [], w) _ 0 0 1 100
  refine m_Rs.n0 b_99 (x_bipush (z := 16) d_99_0 (by decide)) ?_
  refine m_Rs.n0 b_99 (x_bipush (z := 16) d_99_2 (by decide)) ?_
  refine m_Rs.n0 b_99 (x_aload_n d_99_4 rfl) ?_
  refine m_Rs.n0 b_99 (x_getf d_99_5 rfl h_e rfl) ?_
  refine m_Rs.callE b_99 (y_cs d_99_8 rfl q_100 (show m_takeS _ _ = some (_, [_], [_, _]) from rfl) (by simp only [m_okf, List.all_cons, List.all_nil, Bool.and_true, Bool.and_self, m_okv_i, m_okv_l, m_okv_0, m_okv_t, m_okv_at h_e]) rfl) (P_bc) rfl ?_ (by decide) (by decide)
  refine m_Rs.n0 b_99 (x_imul d_99_11 rfl) ?_
  refine m_Rs.n0 b_99 (x_iadd d_99_12 rfl) ?_
  refine m_Rs.ret b_99 (m_rt_ir d_99_13 rfl rfl) ?_
  exact ⟨by simp only [F_esize], rfl⟩
def F_suits (e_path e_variant t_vary e_which q_path q_variant q_language q_form : Int32) : Int32 := (cond (m_c1 .eq (F_isOf e_path e_variant q_path q_variant)) (0 : Int32) (cond (m_c2 .ne e_which (F_which t_vary q_language q_form)) (0 : Int32) (1 : Int32)))
theorem P_suits {l : Launch} {w : List mM} {e t q : Nat} {e_path e_variant t_path t_version t_length t_maxAge t_staleIfError t_staleWhile t_noStore t_noCache t_keys t_vary e_which e_mark e_age e_came e_blocks e_kept q_path q_variant q_language q_form q_first q_last q_forced q_onlyIfCached q_maxAge q_minFresh q_maxStale q_least q_again q_edge q_number q_has : Int32} {q_reply q_behind : Value} (h_e : m_at w e = some (.inr (11, [.int e_path, .int e_variant, .ref t, .int e_which, .int e_mark, .int e_age, .int e_came, .int e_blocks, .int e_kept]))) (h_t : m_at w t = some (.inr (13, [.int t_path, .int t_version, .int t_length, .int t_maxAge, .int t_staleIfError, .int t_staleWhile, .int t_noStore, .int t_noCache, .int t_keys, .int t_vary]))) (h_q : m_at w q = some (.inr (6, [.int q_path, .int q_variant, .int q_language, .int q_form, .int q_first, .int q_last, .int q_forced, .int q_onlyIfCached, .int q_maxAge, .int q_minFresh, .int q_maxStale, .int q_least, .int q_again, .null, q_reply, .int q_edge, .int q_number, .int q_has, q_behind]))) : m_Rs l M_80 (m_ent M_80 [.ref e, .ref q] w) (fun v w' => v = some (.int (F_suits e_path e_variant t_vary e_which q_path q_variant q_language q_form)) ∧ w' = w) 0 0 1 100 := by
  show m_Rs l M_80 (0, [(0, .ref e), (1, .ref q)], [], w) _ 0 0 1 100
  refine m_Rs.n0 b_80 (x_aload_n d_80_0 rfl) ?_
  refine m_Rs.n0 b_80 (x_aload_n d_80_1 rfl) ?_
  refine m_Rs.n0 b_80 (x_getf d_80_2 rfl h_q rfl) ?_
  refine m_Rs.n0 b_80 (x_aload_n d_80_5 rfl) ?_
  refine m_Rs.n0 b_80 (x_getf d_80_6 rfl h_q rfl) ?_
  refine m_Rs.callE b_80 (y_cv d_80_9 rfl q_81 (m_isRecv_of rfl h_e) (show m_takeI _ _ = some (_, [_, _, _], []) from rfl) (by simp only [m_okf, List.all_cons, List.all_nil, Bool.and_true, Bool.and_self, m_okv_i, m_okv_l, m_okv_0, m_okv_t, m_okv_at h_e, m_okv_at h_q]) rfl) (P_isOf h_e) rfl ?_ (by decide) (by decide)
  cases hc1 : m_c1 .eq (F_isOf e_path e_variant q_path q_variant) with
  | true =>
    refine m_Rs.n0 b_80 (x_ift d_80_12 rfl hc1) ?_
    refine m_Rs.n0 b_80 (x_iconst (z := 0) d_80_41 (by decide)) ?_
    refine m_Rs.ret b_80 (m_rt_ir d_80_42 rfl rfl) ?_
    exact ⟨by simp only [F_suits, hc1, cond_true, cond_false], rfl⟩
  | false =>
    refine m_Rs.n0 b_80 (x_iff d_80_12 rfl hc1) ?_
    refine m_Rs.n0 b_80 (x_aload_n d_80_15 rfl) ?_
    refine m_Rs.n0 b_80 (x_getf d_80_16 rfl h_e rfl) ?_
    refine m_Rs.n0 b_80 (x_aload_n d_80_19 rfl) ?_
    refine m_Rs.n0 b_80 (x_getf d_80_20 rfl h_e rfl) ?_
    refine m_Rs.n0 b_80 (x_aload_n d_80_23 rfl) ?_
    refine m_Rs.n0 b_80 (x_getf d_80_24 rfl h_q rfl) ?_
    refine m_Rs.n0 b_80 (x_aload_n d_80_27 rfl) ?_
    refine m_Rs.n0 b_80 (x_getf d_80_28 rfl h_q rfl) ?_
    refine m_Rs.callE b_80 (y_cv d_80_31 rfl q_82 (m_isRecv_of rfl h_t) (show m_takeI _ _ = some (_, [_, _, _], [_]) from rfl) (by simp only [m_okf, List.all_cons, List.all_nil, Bool.and_true, Bool.and_self, m_okv_i, m_okv_l, m_okv_0, m_okv_t, m_okv_at h_e, m_okv_at h_q, m_okv_at h_t]) rfl) (P_which h_t) rfl ?_ (by decide) (by decide)
    cases hc2 : m_c2 .ne e_which (F_which t_vary q_language q_form) with
    | true =>
      refine m_Rs.n0 b_80 (x_ict d_80_34 rfl hc2) ?_
      refine m_Rs.n0 b_80 (x_iconst (z := 0) d_80_41 (by decide)) ?_
      refine m_Rs.ret b_80 (m_rt_ir d_80_42 rfl rfl) ?_
      exact ⟨by simp only [F_suits, hc1, hc2, cond_true, cond_false], rfl⟩
    | false =>
      refine m_Rs.n0 b_80 (x_icf d_80_34 rfl hc2) ?_
      refine m_Rs.n0 b_80 (x_iconst (z := 1) d_80_37 (by decide)) ?_
      refine m_Rs.n0 b_80 (x_goto d_80_38 rfl) ?_
      refine m_Rs.ret b_80 (m_rt_ir d_80_42 rfl rfl) ?_
      exact ⟨by simp only [F_suits, hc1, hc2, cond_true, cond_false], rfl⟩
def F_rc (c_range c_ifRange tag : Int32) : Int32 := (cond (m_c1 .eq c_range) (0 : Int32) (cond (m_c2 .eq c_ifRange ((-1) : Int32)) (1 : Int32) (cond (m_c2 .ne c_ifRange tag) (0 : Int32) (1 : Int32))))
theorem P_rc {l : Launch} {w : List mM} {c : Nat} {c_head c_range c_first c_last c_anyTag c_tagCount c_ifRange tag : Int32} {c_tags : Value} (h_c : m_at w c = some (.inr (7, [.int c_head, .int c_range, .int c_first, .int c_last, .int c_anyTag, c_tags, .int c_tagCount, .int c_ifRange]))) : m_Rs l M_87 (m_ent M_87 [.ref c, .int tag] w) (fun v w' => v = some (.int (F_rc c_range c_ifRange tag)) ∧ w' = w) 0 0 0 0 := by
  show m_Rs l M_87 (0, [(0, .ref c), (1, .int tag)], [], w) _ 0 0 0 0
  refine m_Rs.n0 b_87 (x_aload_n d_87_0 rfl) ?_
  refine m_Rs.n0 b_87 (x_getf d_87_1 rfl h_c rfl) ?_
  cases hc1 : m_c1 .eq c_range with
  | true =>
    refine m_Rs.n0 b_87 (x_ift d_87_4 rfl hc1) ?_
    refine m_Rs.n0 b_87 (x_iconst (z := 0) d_87_27 (by decide)) ?_
    refine m_Rs.ret b_87 (m_rt_ir d_87_28 rfl rfl) ?_
    exact ⟨by simp only [F_rc, hc1, cond_true, cond_false], rfl⟩
  | false =>
    refine m_Rs.n0 b_87 (x_iff d_87_4 rfl hc1) ?_
    refine m_Rs.n0 b_87 (x_aload_n d_87_7 rfl) ?_
    refine m_Rs.n0 b_87 (x_getf d_87_8 rfl h_c rfl) ?_
    refine m_Rs.n0 b_87 (x_iconst (z := (-1)) d_87_11 (by decide)) ?_
    cases hc2 : m_c2 .eq c_ifRange ((-1) : Int32) with
    | true =>
      refine m_Rs.n0 b_87 (x_ict d_87_12 rfl hc2) ?_
      refine m_Rs.n0 b_87 (x_iconst (z := 1) d_87_23 (by decide)) ?_
      refine m_Rs.n0 b_87 (x_goto d_87_24 rfl) ?_
      refine m_Rs.ret b_87 (m_rt_ir d_87_28 rfl rfl) ?_
      exact ⟨by simp only [F_rc, hc1, hc2, cond_true, cond_false], rfl⟩
    | false =>
      refine m_Rs.n0 b_87 (x_icf d_87_12 rfl hc2) ?_
      refine m_Rs.n0 b_87 (x_aload_n d_87_15 rfl) ?_
      refine m_Rs.n0 b_87 (x_getf d_87_16 rfl h_c rfl) ?_
      refine m_Rs.n0 b_87 (x_iload_n d_87_19 rfl) ?_
      cases hc3 : m_c2 .ne c_ifRange tag with
      | true =>
        refine m_Rs.n0 b_87 (x_ict d_87_20 rfl hc3) ?_
        refine m_Rs.n0 b_87 (x_iconst (z := 0) d_87_27 (by decide)) ?_
        refine m_Rs.ret b_87 (m_rt_ir d_87_28 rfl rfl) ?_
        exact ⟨by simp only [F_rc, hc1, hc2, hc3, cond_true, cond_false], rfl⟩
      | false =>
        refine m_Rs.n0 b_87 (x_icf d_87_20 rfl hc3) ?_
        refine m_Rs.n0 b_87 (x_iconst (z := 1) d_87_23 (by decide)) ?_
        refine m_Rs.n0 b_87 (x_goto d_87_24 rfl) ?_
        refine m_Rs.ret b_87 (m_rt_ir d_87_28 rfl rfl) ?_
        exact ⟨by simp only [F_rc, hc1, hc2, hc3, cond_true, cond_false], rfl⟩
def F_from (c_range c_first counts len : Int32) : Int32 := (cond (m_c1 .ne counts) (cond (m_c2 .ne c_range (1 : Int32)) (if (0 : Int32) < (len - c_first) then (len - c_first) else (0 : Int32)) c_first) (0 : Int32))
theorem P_from {l : Launch} {w : List mM} {c : Nat} {c_head c_range c_first c_last c_anyTag c_tagCount c_ifRange counts len : Int32} {c_tags : Value} (h_c : m_at w c = some (.inr (7, [.int c_head, .int c_range, .int c_first, .int c_last, .int c_anyTag, c_tags, .int c_tagCount, .int c_ifRange]))) : m_Rs l M_88 (m_ent M_88 [.ref c, .int counts, .int len] w) (fun v w' => v = some (.int (F_from c_range c_first counts len)) ∧ w' = w) 0 0 1 100 := by
  show m_Rs l M_88 (0, [(0, .ref c), (1, .int counts), (2, .int len)], [], w) _ 0 0 1 100
  refine m_Rs.n0 b_88 (x_iload_n d_88_0 rfl) ?_
  cases hc1 : m_c1 .ne counts with
  | true =>
    refine m_Rs.n0 b_88 (x_ift d_88_1 rfl hc1) ?_
    refine m_Rs.n0 b_88 (x_aload_n d_88_6 rfl) ?_
    refine m_Rs.n0 b_88 (x_getf d_88_7 rfl h_c rfl) ?_
    refine m_Rs.n0 b_88 (x_iconst (z := 1) d_88_10 (by decide)) ?_
    cases hc2 : m_c2 .ne c_range (1 : Int32) with
    | true =>
      refine m_Rs.n0 b_88 (x_ict d_88_11 rfl hc2) ?_
      refine m_Rs.n0 b_88 (x_iconst (z := 0) d_88_21 (by decide)) ?_
      refine m_Rs.n0 b_88 (x_iload_n d_88_22 rfl) ?_
      refine m_Rs.n0 b_88 (x_aload_n d_88_23 rfl) ?_
      refine m_Rs.n0 b_88 (x_getf d_88_24 rfl h_c rfl) ?_
      refine m_Rs.n0 b_88 (x_isub d_88_27 rfl) ?_
      refine m_Rs.nz b_88 (x_max d_88_28 rfl (Nat.le_of_ble_eq_true rfl) rfl) ?_ (by decide) (by decide)
      refine m_Rs.ret b_88 (m_rt_ir d_88_31 rfl rfl) ?_
      exact ⟨by simp only [F_from, hc1, hc2, cond_true, cond_false], rfl⟩
    | false =>
      refine m_Rs.n0 b_88 (x_icf d_88_11 rfl hc2) ?_
      refine m_Rs.n0 b_88 (x_aload_n d_88_14 rfl) ?_
      refine m_Rs.n0 b_88 (x_getf d_88_15 rfl h_c rfl) ?_
      refine m_Rs.n0 b_88 (x_goto d_88_18 rfl) ?_
      refine m_Rs.ret b_88 (m_rt_ir d_88_31 rfl rfl) ?_
      exact ⟨by simp only [F_from, hc1, hc2, cond_true, cond_false], rfl⟩
  | false =>
    refine m_Rs.n0 b_88 (x_iff d_88_1 rfl hc1) ?_
    refine m_Rs.n0 b_88 (x_iconst (z := 0) d_88_4 (by decide)) ?_
    refine m_Rs.ret b_88 (m_rt_ir d_88_5 rfl rfl) ?_
    exact ⟨by simp only [F_from, hc1, cond_true, cond_false], rfl⟩
def F_to (c_range c_last counts len : Int32) : Int32 := (cond (m_c1 .eq counts) (len - (1 : Int32)) (cond (m_c2 .ne c_range (1 : Int32)) (len - (1 : Int32)) (if (len - (1 : Int32)) < c_last then (len - (1 : Int32)) else c_last)))
theorem P_to {l : Launch} {w : List mM} {c : Nat} {c_head c_range c_first c_last c_anyTag c_tagCount c_ifRange counts len : Int32} {c_tags : Value} (h_c : m_at w c = some (.inr (7, [.int c_head, .int c_range, .int c_first, .int c_last, .int c_anyTag, c_tags, .int c_tagCount, .int c_ifRange]))) : m_Rs l M_89 (m_ent M_89 [.ref c, .int counts, .int len] w) (fun v w' => v = some (.int (F_to c_range c_last counts len)) ∧ w' = w) 0 0 1 100 := by
  show m_Rs l M_89 (0, [(0, .ref c), (1, .int counts), (2, .int len)], [], w) _ 0 0 1 100
  refine m_Rs.n0 b_89 (x_iload_n d_89_0 rfl) ?_
  cases hc1 : m_c1 .eq counts with
  | true =>
    refine m_Rs.n0 b_89 (x_ift d_89_1 rfl hc1) ?_
    refine m_Rs.n0 b_89 (x_iload_n d_89_25 rfl) ?_
    refine m_Rs.n0 b_89 (x_iconst (z := 1) d_89_26 (by decide)) ?_
    refine m_Rs.n0 b_89 (x_isub d_89_27 rfl) ?_
    refine m_Rs.ret b_89 (m_rt_ir d_89_28 rfl rfl) ?_
    exact ⟨by simp only [F_to, hc1, cond_true, cond_false], rfl⟩
  | false =>
    refine m_Rs.n0 b_89 (x_iff d_89_1 rfl hc1) ?_
    refine m_Rs.n0 b_89 (x_aload_n d_89_4 rfl) ?_
    refine m_Rs.n0 b_89 (x_getf d_89_5 rfl h_c rfl) ?_
    refine m_Rs.n0 b_89 (x_iconst (z := 1) d_89_8 (by decide)) ?_
    cases hc2 : m_c2 .ne c_range (1 : Int32) with
    | true =>
      refine m_Rs.n0 b_89 (x_ict d_89_9 rfl hc2) ?_
      refine m_Rs.n0 b_89 (x_iload_n d_89_25 rfl) ?_
      refine m_Rs.n0 b_89 (x_iconst (z := 1) d_89_26 (by decide)) ?_
      refine m_Rs.n0 b_89 (x_isub d_89_27 rfl) ?_
      refine m_Rs.ret b_89 (m_rt_ir d_89_28 rfl rfl) ?_
      exact ⟨by simp only [F_to, hc1, hc2, cond_true, cond_false], rfl⟩
    | false =>
      refine m_Rs.n0 b_89 (x_icf d_89_9 rfl hc2) ?_
      refine m_Rs.n0 b_89 (x_aload_n d_89_12 rfl) ?_
      refine m_Rs.n0 b_89 (x_getf d_89_13 rfl h_c rfl) ?_
      refine m_Rs.n0 b_89 (x_iload_n d_89_16 rfl) ?_
      refine m_Rs.n0 b_89 (x_iconst (z := 1) d_89_17 (by decide)) ?_
      refine m_Rs.n0 b_89 (x_isub d_89_18 rfl) ?_
      refine m_Rs.nz b_89 (x_min d_89_19 rfl (Nat.le_of_ble_eq_true rfl) rfl) ?_ (by decide) (by decide)
      refine m_Rs.n0 b_89 (x_goto d_89_22 rfl) ?_
      refine m_Rs.ret b_89 (m_rt_ir d_89_28 rfl rfl) ?_
      exact ⟨by simp only [F_to, hc1, hc2, cond_true, cond_false], rfl⟩
def F_miss0 (q_first q_last t_length e_blocks : Int32) : Int32 := ((F_blk t_length q_first q_last) &&& (e_blocks ^^^ ((-1) : Int32)))
theorem P_miss0 {l : Launch} {w : List mM} {q e t : Nat} {q_path q_variant q_language q_form q_first q_last q_forced q_onlyIfCached q_maxAge q_minFresh q_maxStale q_least q_again q_edge q_number q_has e_path e_variant t_path t_version t_length t_maxAge t_staleIfError t_staleWhile t_noStore t_noCache t_keys t_vary e_which e_mark e_age e_came e_blocks e_kept : Int32} {q_reply q_behind : Value} (h_q : m_at w q = some (.inr (6, [.int q_path, .int q_variant, .int q_language, .int q_form, .int q_first, .int q_last, .int q_forced, .int q_onlyIfCached, .int q_maxAge, .int q_minFresh, .int q_maxStale, .int q_least, .int q_again, .null, q_reply, .int q_edge, .int q_number, .int q_has, q_behind]))) (h_e : m_at w e = some (.inr (11, [.int e_path, .int e_variant, .ref t, .int e_which, .int e_mark, .int e_age, .int e_came, .int e_blocks, .int e_kept]))) (h_t : m_at w t = some (.inr (13, [.int t_path, .int t_version, .int t_length, .int t_maxAge, .int t_staleIfError, .int t_staleWhile, .int t_noStore, .int t_noCache, .int t_keys, .int t_vary]))) : m_Rs l M_84 (m_ent M_84 [.ref q, .ref e] w) (fun v w' => v = some (.int (F_miss0 q_first q_last t_length e_blocks)) ∧ w' = w) 0 0 2 200 := by
  show m_Rs l M_84 (0, [(0, .ref q), (1, .ref e)], [], w) _ 0 0 2 200
  refine m_Rs.n0 b_84 (x_aload_n d_84_0 rfl) ?_
  refine m_Rs.n0 b_84 (x_getf d_84_1 rfl h_e rfl) ?_
  refine m_Rs.n0 b_84 (x_astore_n d_84_4 rfl (show m_put1 _ _ _ = [(2, _), (0, _), (1, _)] from rfl)) ?_
  refine m_Rs.n0 b_84 (x_aload_n d_84_5 rfl) ?_
  refine m_Rs.n0 b_84 (x_getf d_84_6 rfl h_q rfl) ?_
  refine m_Rs.n0 b_84 (x_ifnonnull0 d_84_9 rfl) ?_
  refine m_Rs.n0 b_84 (x_aload_n d_84_12 rfl) ?_
  refine m_Rs.n0 b_84 (x_aload_n d_84_13 rfl) ?_
  refine m_Rs.n0 b_84 (x_getf d_84_14 rfl h_q rfl) ?_
  refine m_Rs.n0 b_84 (x_aload_n d_84_17 rfl) ?_
  refine m_Rs.n0 b_84 (x_getf d_84_18 rfl h_q rfl) ?_
  refine m_Rs.callE b_84 (y_cv d_84_21 rfl q_85 (m_isRecv_of rfl h_t) (show m_takeI _ _ = some (_, [_, _, _], []) from rfl) (by simp only [m_okf, List.all_cons, List.all_nil, Bool.and_true, Bool.and_self, m_okv_i, m_okv_l, m_okv_0, m_okv_t, m_okv_at h_t, m_okv_at h_q, m_okv_at h_e]) rfl) (P_blk h_t) rfl ?_ (by decide) (by decide)
  refine m_Rs.n0 b_84 (x_aload_n d_84_24 rfl) ?_
  refine m_Rs.n0 b_84 (x_getf d_84_25 rfl h_e rfl) ?_
  refine m_Rs.n0 b_84 (x_iconst (z := (-1)) d_84_28 (by decide)) ?_
  refine m_Rs.n0 b_84 (x_ixor d_84_29 rfl) ?_
  refine m_Rs.n0 b_84 (x_iand d_84_30 rfl) ?_
  refine m_Rs.ret b_84 (m_rt_ir d_84_31 rfl rfl) ?_
  exact ⟨by simp only [F_miss0], rfl⟩
def F_miss1 (c_range c_first c_last c_ifRange t_version t_length e_which e_blocks : Int32) : Int32 := (cond (m_c2 .le (F_from c_range c_first (F_rc c_range c_ifRange (F_tag t_version e_which)) t_length) (F_to c_range c_last (F_rc c_range c_ifRange (F_tag t_version e_which)) t_length)) ((F_blk t_length ((F_from c_range c_first (F_rc c_range c_ifRange (F_tag t_version e_which)) t_length) >>> ((4 : Int32) &&& 31)) ((F_to c_range c_last (F_rc c_range c_ifRange (F_tag t_version e_which)) t_length) >>> ((4 : Int32) &&& 31))) &&& (e_blocks ^^^ ((-1) : Int32))) (0 : Int32))
theorem P_miss1 {l : Launch} {w : List mM} {q c e t : Nat} {q_path q_variant q_language q_form q_first q_last q_forced q_onlyIfCached q_maxAge q_minFresh q_maxStale q_least q_again c_head c_range c_first c_last c_anyTag c_tagCount c_ifRange q_edge q_number q_has e_path e_variant t_path t_version t_length t_maxAge t_staleIfError t_staleWhile t_noStore t_noCache t_keys t_vary e_which e_mark e_age e_came e_blocks e_kept : Int32} {c_tags q_reply q_behind : Value} (h_q : m_at w q = some (.inr (6, [.int q_path, .int q_variant, .int q_language, .int q_form, .int q_first, .int q_last, .int q_forced, .int q_onlyIfCached, .int q_maxAge, .int q_minFresh, .int q_maxStale, .int q_least, .int q_again, .ref c, q_reply, .int q_edge, .int q_number, .int q_has, q_behind]))) (h_c : m_at w c = some (.inr (7, [.int c_head, .int c_range, .int c_first, .int c_last, .int c_anyTag, c_tags, .int c_tagCount, .int c_ifRange]))) (h_e : m_at w e = some (.inr (11, [.int e_path, .int e_variant, .ref t, .int e_which, .int e_mark, .int e_age, .int e_came, .int e_blocks, .int e_kept]))) (h_t : m_at w t = some (.inr (13, [.int t_path, .int t_version, .int t_length, .int t_maxAge, .int t_staleIfError, .int t_staleWhile, .int t_noStore, .int t_noCache, .int t_keys, .int t_vary]))) : m_Rs l M_84 (m_ent M_84 [.ref q, .ref e] w) (fun v w' => v = some (.int (F_miss1 c_range c_first c_last c_ifRange t_version t_length e_which e_blocks)) ∧ w' = w) 0 0 2 200 := by
  show m_Rs l M_84 (0, [(0, .ref q), (1, .ref e)], [], w) _ 0 0 2 200
  refine m_Rs.n0 b_84 (x_aload_n d_84_0 rfl) ?_
  refine m_Rs.n0 b_84 (x_getf d_84_1 rfl h_e rfl) ?_
  refine m_Rs.n0 b_84 (x_astore_n d_84_4 rfl (show m_put1 _ _ _ = [(2, _), (0, _), (1, _)] from rfl)) ?_
  refine m_Rs.n0 b_84 (x_aload_n d_84_5 rfl) ?_
  refine m_Rs.n0 b_84 (x_getf d_84_6 rfl h_q rfl) ?_
  refine m_Rs.n0 b_84 (x_ifnonnull1 d_84_9 rfl) ?_
  refine m_Rs.n0 b_84 (x_aload_n d_84_32 rfl) ?_
  refine m_Rs.n0 b_84 (x_getf d_84_33 rfl h_q rfl) ?_
  refine m_Rs.n0 b_84 (x_aload_n d_84_36 rfl) ?_
  refine m_Rs.callE b_84 (y_cv d_84_37 rfl q_86 (m_isRecv_of rfl h_e) (show m_takeI _ _ = some (_, [_], [_]) from rfl) (by simp only [m_okf, List.all_cons, List.all_nil, Bool.and_true, Bool.and_self, m_okv_i, m_okv_l, m_okv_0, m_okv_t, m_okv_at h_t, m_okv_at h_q, m_okv_at h_e, m_okv_at h_c]) rfl) (P_tag h_e h_t) rfl ?_ (by decide) (by decide)
  refine m_Rs.callE b_84 (y_cv d_84_40 rfl q_87 (m_isRecv_of rfl h_c) (show m_takeI _ _ = some (_, [_, _], []) from rfl) (by simp only [m_okf, List.all_cons, List.all_nil, Bool.and_true, Bool.and_self, m_okv_i, m_okv_l, m_okv_0, m_okv_t, m_okv_at h_t, m_okv_at h_q, m_okv_at h_e, m_okv_at h_c]) rfl) (P_rc h_c) rfl ?_ (by decide) (by decide)
  refine m_Rs.n0 b_84 (x_istore_n d_84_43 rfl (show m_put1 _ _ _ = [(3, _), (2, _), (0, _), (1, _)] from rfl)) ?_
  refine m_Rs.n0 b_84 (x_aload_n d_84_44 rfl) ?_
  refine m_Rs.n0 b_84 (x_getf d_84_45 rfl h_q rfl) ?_
  refine m_Rs.n0 b_84 (x_iload_n d_84_48 rfl) ?_
  refine m_Rs.n0 b_84 (x_aload_n d_84_49 rfl) ?_
  refine m_Rs.n0 b_84 (x_getf d_84_50 rfl h_t rfl) ?_
  refine m_Rs.callE b_84 (y_cv d_84_53 rfl q_88 (m_isRecv_of rfl h_c) (show m_takeI _ _ = some (_, [_, _, _], []) from rfl) (by simp only [m_okf, List.all_cons, List.all_nil, Bool.and_true, Bool.and_self, m_okv_i, m_okv_l, m_okv_0, m_okv_t, m_okv_at h_t, m_okv_at h_q, m_okv_at h_e, m_okv_at h_c]) rfl) (P_from h_c) rfl ?_ (by decide) (by decide)
  refine m_Rs.n0 b_84 (x_istore d_84_56 rfl (show m_put1 _ _ _ = [(4, _), (3, _), (2, _), (0, _), (1, _)] from rfl)) ?_
  refine m_Rs.n0 b_84 (x_aload_n d_84_58 rfl) ?_
  refine m_Rs.n0 b_84 (x_getf d_84_59 rfl h_q rfl) ?_
  refine m_Rs.n0 b_84 (x_iload_n d_84_62 rfl) ?_
  refine m_Rs.n0 b_84 (x_aload_n d_84_63 rfl) ?_
  refine m_Rs.n0 b_84 (x_getf d_84_64 rfl h_t rfl) ?_
  refine m_Rs.callE b_84 (y_cv d_84_67 rfl q_89 (m_isRecv_of rfl h_c) (show m_takeI _ _ = some (_, [_, _, _], []) from rfl) (by simp only [m_okf, List.all_cons, List.all_nil, Bool.and_true, Bool.and_self, m_okv_i, m_okv_l, m_okv_0, m_okv_t, m_okv_at h_t, m_okv_at h_q, m_okv_at h_e, m_okv_at h_c]) rfl) (P_to h_c) rfl ?_ (by decide) (by decide)
  refine m_Rs.n0 b_84 (x_istore d_84_70 rfl (show m_put1 _ _ _ = [(5, _), (4, _), (3, _), (2, _), (0, _), (1, _)] from rfl)) ?_
  refine m_Rs.n0 b_84 (x_iload d_84_72 rfl) ?_
  refine m_Rs.n0 b_84 (x_iload d_84_74 rfl) ?_
  cases hc1 : m_c2 .le (F_from c_range c_first (F_rc c_range c_ifRange (F_tag t_version e_which)) t_length) (F_to c_range c_last (F_rc c_range c_ifRange (F_tag t_version e_which)) t_length) with
  | true =>
    refine m_Rs.n0 b_84 (x_ict d_84_76 rfl hc1) ?_
    refine m_Rs.n0 b_84 (x_aload_n d_84_83 rfl) ?_
    refine m_Rs.n0 b_84 (x_iload d_84_84 rfl) ?_
    refine m_Rs.n0 b_84 (x_iconst (z := 4) d_84_86 (by decide)) ?_
    refine m_Rs.n0 b_84 (x_ishr d_84_87 rfl) ?_
    refine m_Rs.n0 b_84 (x_iload d_84_88 rfl) ?_
    refine m_Rs.n0 b_84 (x_iconst (z := 4) d_84_90 (by decide)) ?_
    refine m_Rs.n0 b_84 (x_ishr d_84_91 rfl) ?_
    refine m_Rs.callE b_84 (y_cv d_84_92 rfl q_85 (m_isRecv_of rfl h_t) (show m_takeI _ _ = some (_, [_, _, _], []) from rfl) (by simp only [m_okf, List.all_cons, List.all_nil, Bool.and_true, Bool.and_self, m_okv_i, m_okv_l, m_okv_0, m_okv_t, m_okv_at h_t, m_okv_at h_q, m_okv_at h_e]) rfl) (P_blk h_t) rfl ?_ (by decide) (by decide)
    refine m_Rs.n0 b_84 (x_aload_n d_84_95 rfl) ?_
    refine m_Rs.n0 b_84 (x_getf d_84_96 rfl h_e rfl) ?_
    refine m_Rs.n0 b_84 (x_iconst (z := (-1)) d_84_99 (by decide)) ?_
    refine m_Rs.n0 b_84 (x_ixor d_84_100 rfl) ?_
    refine m_Rs.n0 b_84 (x_iand d_84_101 rfl) ?_
    refine m_Rs.ret b_84 (m_rt_ir d_84_102 rfl rfl) ?_
    exact ⟨by simp only [F_miss1, hc1, cond_true, cond_false], rfl⟩
  | false =>
    refine m_Rs.n0 b_84 (x_icf d_84_76 rfl hc1) ?_
    refine m_Rs.n0 b_84 (x_iconst (z := 0) d_84_79 (by decide)) ?_
    refine m_Rs.n0 b_84 (x_goto d_84_80 rfl) ?_
    refine m_Rs.ret b_84 (m_rt_ir d_84_102 rfl rfl) ?_
    exact ⟨by simp only [F_miss1, hc1, cond_true, cond_false], rfl⟩
def F_fresh (q_maxAge q_minFresh t_maxAge t_noCache age : Int32) : Int32 := (cond (m_c2 .eq q_maxAge ((-1) : Int32)) (cond (m_c1 .eq (1 : Int32)) (0 : Int32) (cond (m_c2 .ge (age + (if q_minFresh < (0 : Int32) then (0 : Int32) else q_minFresh)) (F_life t_maxAge t_noCache)) (0 : Int32) (1 : Int32))) (cond (m_c2 .gt age q_maxAge) (cond (m_c1 .eq (0 : Int32)) (0 : Int32) (cond (m_c2 .ge (age + (if q_minFresh < (0 : Int32) then (0 : Int32) else q_minFresh)) (F_life t_maxAge t_noCache)) (0 : Int32) (1 : Int32))) (cond (m_c1 .eq (1 : Int32)) (0 : Int32) (cond (m_c2 .ge (age + (if q_minFresh < (0 : Int32) then (0 : Int32) else q_minFresh)) (F_life t_maxAge t_noCache)) (0 : Int32) (1 : Int32)))))
theorem P_fresh {l : Launch} {w : List mM} {q t : Nat} {q_path q_variant q_language q_form q_first q_last q_forced q_onlyIfCached q_maxAge q_minFresh q_maxStale q_least q_again q_edge q_number q_has t_path t_version t_length t_maxAge t_staleIfError t_staleWhile t_noStore t_noCache t_keys t_vary age : Int32} {q_reply q_behind : Value} (h_q : m_at w q = some (.inr (6, [.int q_path, .int q_variant, .int q_language, .int q_form, .int q_first, .int q_last, .int q_forced, .int q_onlyIfCached, .int q_maxAge, .int q_minFresh, .int q_maxStale, .int q_least, .int q_again, .null, q_reply, .int q_edge, .int q_number, .int q_has, q_behind]))) (h_t : m_at w t = some (.inr (13, [.int t_path, .int t_version, .int t_length, .int t_maxAge, .int t_staleIfError, .int t_staleWhile, .int t_noStore, .int t_noCache, .int t_keys, .int t_vary]))) : m_Rs l M_90 (m_ent M_90 [.ref q, .ref t, .int age] w) (fun v w' => v = some (.int (F_fresh q_maxAge q_minFresh t_maxAge t_noCache age)) ∧ w' = w) 0 0 1 100 := by
  show m_Rs l M_90 (0, [(0, .ref q), (1, .ref t), (2, .int age)], [], w) _ 0 0 1 100
  refine m_Rs.n0 b_90 (x_aload_n d_90_0 rfl) ?_
  refine m_Rs.n0 b_90 (x_getf d_90_1 rfl h_q rfl) ?_
  refine m_Rs.n0 b_90 (x_iconst (z := (-1)) d_90_4 (by decide)) ?_
  cases hc1 : m_c2 .eq q_maxAge ((-1) : Int32) with
  | true =>
    refine m_Rs.n0 b_90 (x_ict d_90_5 rfl hc1) ?_
    refine m_Rs.n0 b_90 (x_iconst (z := 1) d_90_16 (by decide)) ?_
    refine m_Rs.n0 b_90 (x_goto d_90_17 rfl) ?_
    refine m_Rs.n0 b_90 (x_istore_n d_90_21 rfl (show m_put1 _ _ _ = [(3, _), (0, _), (1, _), (2, _)] from rfl)) ?_
    refine m_Rs.n0 b_90 (x_iload_n d_90_22 rfl) ?_
    cases hc2 : m_c1 .eq (1 : Int32) with
    | true =>
      refine m_Rs.n0 b_90 (x_ift d_90_23 rfl hc2) ?_
      refine m_Rs.n0 b_90 (x_iconst (z := 0) d_90_47 (by decide)) ?_
      refine m_Rs.ret b_90 (m_rt_ir d_90_48 rfl rfl) ?_
      exact ⟨by simp only [F_fresh, hc1, hc2, cond_true, cond_false], rfl⟩
    | false =>
      refine m_Rs.n0 b_90 (x_iff d_90_23 rfl hc2) ?_
      refine m_Rs.n0 b_90 (x_iload_n d_90_26 rfl) ?_
      refine m_Rs.n0 b_90 (x_aload_n d_90_27 rfl) ?_
      refine m_Rs.n0 b_90 (x_getf d_90_28 rfl h_q rfl) ?_
      refine m_Rs.n0 b_90 (x_iconst (z := 0) d_90_31 (by decide)) ?_
      refine m_Rs.nz b_90 (x_max d_90_32 rfl (Nat.le_of_ble_eq_true rfl) rfl) ?_ (by decide) (by decide)
      refine m_Rs.n0 b_90 (x_iadd d_90_35 rfl) ?_
      refine m_Rs.n0 b_90 (x_aload_n d_90_36 rfl) ?_
      refine m_Rs.callE b_90 (y_cv d_90_37 rfl q_91 (m_isRecv_of rfl h_t) (show m_takeI _ _ = some (_, [_], [_]) from rfl) (by simp only [m_okf, List.all_cons, List.all_nil, Bool.and_true, Bool.and_self, m_okv_i, m_okv_l, m_okv_0, m_okv_t, m_okv_at h_q, m_okv_at h_t]) rfl) (P_life h_t) rfl ?_ (by decide) (by decide)
      cases hc3 : m_c2 .ge (age + (if q_minFresh < (0 : Int32) then (0 : Int32) else q_minFresh)) (F_life t_maxAge t_noCache) with
      | true =>
        refine m_Rs.n0 b_90 (x_ict d_90_40 rfl hc3) ?_
        refine m_Rs.n0 b_90 (x_iconst (z := 0) d_90_47 (by decide)) ?_
        refine m_Rs.ret b_90 (m_rt_ir d_90_48 rfl rfl) ?_
        exact ⟨by simp only [F_fresh, hc1, hc2, hc3, cond_true, cond_false], rfl⟩
      | false =>
        refine m_Rs.n0 b_90 (x_icf d_90_40 rfl hc3) ?_
        refine m_Rs.n0 b_90 (x_iconst (z := 1) d_90_43 (by decide)) ?_
        refine m_Rs.n0 b_90 (x_goto d_90_44 rfl) ?_
        refine m_Rs.ret b_90 (m_rt_ir d_90_48 rfl rfl) ?_
        exact ⟨by simp only [F_fresh, hc1, hc2, hc3, cond_true, cond_false], rfl⟩
  | false =>
    refine m_Rs.n0 b_90 (x_icf d_90_5 rfl hc1) ?_
    refine m_Rs.n0 b_90 (x_iload_n d_90_8 rfl) ?_
    refine m_Rs.n0 b_90 (x_aload_n d_90_9 rfl) ?_
    refine m_Rs.n0 b_90 (x_getf d_90_10 rfl h_q rfl) ?_
    cases hc4 : m_c2 .gt age q_maxAge with
    | true =>
      refine m_Rs.n0 b_90 (x_ict d_90_13 rfl hc4) ?_
      refine m_Rs.n0 b_90 (x_iconst (z := 0) d_90_20 (by decide)) ?_
      refine m_Rs.n0 b_90 (x_istore_n d_90_21 rfl (show m_put1 _ _ _ = [(3, _), (0, _), (1, _), (2, _)] from rfl)) ?_
      refine m_Rs.n0 b_90 (x_iload_n d_90_22 rfl) ?_
      cases hc5 : m_c1 .eq (0 : Int32) with
      | true =>
        refine m_Rs.n0 b_90 (x_ift d_90_23 rfl hc5) ?_
        refine m_Rs.n0 b_90 (x_iconst (z := 0) d_90_47 (by decide)) ?_
        refine m_Rs.ret b_90 (m_rt_ir d_90_48 rfl rfl) ?_
        exact ⟨by simp only [F_fresh, hc1, hc4, hc5, cond_true, cond_false], rfl⟩
      | false =>
        refine m_Rs.n0 b_90 (x_iff d_90_23 rfl hc5) ?_
        refine m_Rs.n0 b_90 (x_iload_n d_90_26 rfl) ?_
        refine m_Rs.n0 b_90 (x_aload_n d_90_27 rfl) ?_
        refine m_Rs.n0 b_90 (x_getf d_90_28 rfl h_q rfl) ?_
        refine m_Rs.n0 b_90 (x_iconst (z := 0) d_90_31 (by decide)) ?_
        refine m_Rs.nz b_90 (x_max d_90_32 rfl (Nat.le_of_ble_eq_true rfl) rfl) ?_ (by decide) (by decide)
        refine m_Rs.n0 b_90 (x_iadd d_90_35 rfl) ?_
        refine m_Rs.n0 b_90 (x_aload_n d_90_36 rfl) ?_
        refine m_Rs.callE b_90 (y_cv d_90_37 rfl q_91 (m_isRecv_of rfl h_t) (show m_takeI _ _ = some (_, [_], [_]) from rfl) (by simp only [m_okf, List.all_cons, List.all_nil, Bool.and_true, Bool.and_self, m_okv_i, m_okv_l, m_okv_0, m_okv_t, m_okv_at h_q, m_okv_at h_t]) rfl) (P_life h_t) rfl ?_ (by decide) (by decide)
        cases hc6 : m_c2 .ge (age + (if q_minFresh < (0 : Int32) then (0 : Int32) else q_minFresh)) (F_life t_maxAge t_noCache) with
        | true =>
          refine m_Rs.n0 b_90 (x_ict d_90_40 rfl hc6) ?_
          refine m_Rs.n0 b_90 (x_iconst (z := 0) d_90_47 (by decide)) ?_
          refine m_Rs.ret b_90 (m_rt_ir d_90_48 rfl rfl) ?_
          exact ⟨by simp only [F_fresh, hc1, hc4, hc5, hc6, cond_true, cond_false], rfl⟩
        | false =>
          refine m_Rs.n0 b_90 (x_icf d_90_40 rfl hc6) ?_
          refine m_Rs.n0 b_90 (x_iconst (z := 1) d_90_43 (by decide)) ?_
          refine m_Rs.n0 b_90 (x_goto d_90_44 rfl) ?_
          refine m_Rs.ret b_90 (m_rt_ir d_90_48 rfl rfl) ?_
          exact ⟨by simp only [F_fresh, hc1, hc4, hc5, hc6, cond_true, cond_false], rfl⟩
    | false =>
      refine m_Rs.n0 b_90 (x_icf d_90_13 rfl hc4) ?_
      refine m_Rs.n0 b_90 (x_iconst (z := 1) d_90_16 (by decide)) ?_
      refine m_Rs.n0 b_90 (x_goto d_90_17 rfl) ?_
      refine m_Rs.n0 b_90 (x_istore_n d_90_21 rfl (show m_put1 _ _ _ = [(3, _), (0, _), (1, _), (2, _)] from rfl)) ?_
      refine m_Rs.n0 b_90 (x_iload_n d_90_22 rfl) ?_
      cases hc7 : m_c1 .eq (1 : Int32) with
      | true =>
        refine m_Rs.n0 b_90 (x_ift d_90_23 rfl hc7) ?_
        refine m_Rs.n0 b_90 (x_iconst (z := 0) d_90_47 (by decide)) ?_
        refine m_Rs.ret b_90 (m_rt_ir d_90_48 rfl rfl) ?_
        exact ⟨by simp only [F_fresh, hc1, hc4, hc7, cond_true, cond_false], rfl⟩
      | false =>
        refine m_Rs.n0 b_90 (x_iff d_90_23 rfl hc7) ?_
        refine m_Rs.n0 b_90 (x_iload_n d_90_26 rfl) ?_
        refine m_Rs.n0 b_90 (x_aload_n d_90_27 rfl) ?_
        refine m_Rs.n0 b_90 (x_getf d_90_28 rfl h_q rfl) ?_
        refine m_Rs.n0 b_90 (x_iconst (z := 0) d_90_31 (by decide)) ?_
        refine m_Rs.nz b_90 (x_max d_90_32 rfl (Nat.le_of_ble_eq_true rfl) rfl) ?_ (by decide) (by decide)
        refine m_Rs.n0 b_90 (x_iadd d_90_35 rfl) ?_
        refine m_Rs.n0 b_90 (x_aload_n d_90_36 rfl) ?_
        refine m_Rs.callE b_90 (y_cv d_90_37 rfl q_91 (m_isRecv_of rfl h_t) (show m_takeI _ _ = some (_, [_], [_]) from rfl) (by simp only [m_okf, List.all_cons, List.all_nil, Bool.and_true, Bool.and_self, m_okv_i, m_okv_l, m_okv_0, m_okv_t, m_okv_at h_q, m_okv_at h_t]) rfl) (P_life h_t) rfl ?_ (by decide) (by decide)
        cases hc8 : m_c2 .ge (age + (if q_minFresh < (0 : Int32) then (0 : Int32) else q_minFresh)) (F_life t_maxAge t_noCache) with
        | true =>
          refine m_Rs.n0 b_90 (x_ict d_90_40 rfl hc8) ?_
          refine m_Rs.n0 b_90 (x_iconst (z := 0) d_90_47 (by decide)) ?_
          refine m_Rs.ret b_90 (m_rt_ir d_90_48 rfl rfl) ?_
          exact ⟨by simp only [F_fresh, hc1, hc4, hc7, hc8, cond_true, cond_false], rfl⟩
        | false =>
          refine m_Rs.n0 b_90 (x_icf d_90_40 rfl hc8) ?_
          refine m_Rs.n0 b_90 (x_iconst (z := 1) d_90_43 (by decide)) ?_
          refine m_Rs.n0 b_90 (x_goto d_90_44 rfl) ?_
          refine m_Rs.ret b_90 (m_rt_ir d_90_48 rfl rfl) ?_
          exact ⟨by simp only [F_fresh, hc1, hc4, hc7, hc8, cond_true, cond_false], rfl⟩
def F_stale (q_maxAge q_minFresh q_maxStale t_maxAge t_staleWhile t_noCache age : Int32) : Int32 := (cond (m_c2 .eq q_maxStale ((-1) : Int32)) (cond (m_c2 .ne q_maxAge ((-1) : Int32)) (0 : Int32) (cond (m_c2 .ne q_minFresh ((-1) : Int32)) (0 : Int32) (cond (m_c2 .ge age ((F_life t_maxAge t_noCache) + t_staleWhile)) (0 : Int32) (1 : Int32)))) (cond (m_c2 .ge age ((F_life t_maxAge t_noCache) + q_maxStale)) (cond (m_c2 .ne q_maxAge ((-1) : Int32)) (0 : Int32) (cond (m_c2 .ne q_minFresh ((-1) : Int32)) (0 : Int32) (cond (m_c2 .ge age ((F_life t_maxAge t_noCache) + t_staleWhile)) (0 : Int32) (1 : Int32)))) (1 : Int32)))
theorem P_stale {l : Launch} {w : List mM} {q t : Nat} {q_path q_variant q_language q_form q_first q_last q_forced q_onlyIfCached q_maxAge q_minFresh q_maxStale q_least q_again q_edge q_number q_has t_path t_version t_length t_maxAge t_staleIfError t_staleWhile t_noStore t_noCache t_keys t_vary age : Int32} {q_reply q_behind : Value} (h_q : m_at w q = some (.inr (6, [.int q_path, .int q_variant, .int q_language, .int q_form, .int q_first, .int q_last, .int q_forced, .int q_onlyIfCached, .int q_maxAge, .int q_minFresh, .int q_maxStale, .int q_least, .int q_again, .null, q_reply, .int q_edge, .int q_number, .int q_has, q_behind]))) (h_t : m_at w t = some (.inr (13, [.int t_path, .int t_version, .int t_length, .int t_maxAge, .int t_staleIfError, .int t_staleWhile, .int t_noStore, .int t_noCache, .int t_keys, .int t_vary]))) : m_Rs l M_108 (m_ent M_108 [.ref q, .ref t, .int age] w) (fun v w' => v = some (.int (F_stale q_maxAge q_minFresh q_maxStale t_maxAge t_staleWhile t_noCache age)) ∧ w' = w) 0 0 1 100 := by
  show m_Rs l M_108 (0, [(0, .ref q), (1, .ref t), (2, .int age)], [], w) _ 0 0 1 100
  refine m_Rs.n0 b_108 (x_aload_n d_108_0 rfl) ?_
  refine m_Rs.n0 b_108 (x_getf d_108_1 rfl h_q rfl) ?_
  refine m_Rs.n0 b_108 (x_iconst (z := (-1)) d_108_4 (by decide)) ?_
  cases hc1 : m_c2 .eq q_maxStale ((-1) : Int32) with
  | true =>
    refine m_Rs.n0 b_108 (x_ict d_108_5 rfl hc1) ?_
    refine m_Rs.n0 b_108 (x_aload_n d_108_23 rfl) ?_
    refine m_Rs.n0 b_108 (x_getf d_108_24 rfl h_q rfl) ?_
    refine m_Rs.n0 b_108 (x_iconst (z := (-1)) d_108_27 (by decide)) ?_
    cases hc2 : m_c2 .ne q_maxAge ((-1) : Int32) with
    | true =>
      refine m_Rs.n0 b_108 (x_ict d_108_28 rfl hc2) ?_
      refine m_Rs.n0 b_108 (x_iconst (z := 0) d_108_56 (by decide)) ?_
      refine m_Rs.ret b_108 (m_rt_ir d_108_57 rfl rfl) ?_
      exact ⟨by simp only [F_stale, hc1, hc2, cond_true, cond_false], rfl⟩
    | false =>
      refine m_Rs.n0 b_108 (x_icf d_108_28 rfl hc2) ?_
      refine m_Rs.n0 b_108 (x_aload_n d_108_31 rfl) ?_
      refine m_Rs.n0 b_108 (x_getf d_108_32 rfl h_q rfl) ?_
      refine m_Rs.n0 b_108 (x_iconst (z := (-1)) d_108_35 (by decide)) ?_
      cases hc3 : m_c2 .ne q_minFresh ((-1) : Int32) with
      | true =>
        refine m_Rs.n0 b_108 (x_ict d_108_36 rfl hc3) ?_
        refine m_Rs.n0 b_108 (x_iconst (z := 0) d_108_56 (by decide)) ?_
        refine m_Rs.ret b_108 (m_rt_ir d_108_57 rfl rfl) ?_
        exact ⟨by simp only [F_stale, hc1, hc2, hc3, cond_true, cond_false], rfl⟩
      | false =>
        refine m_Rs.n0 b_108 (x_icf d_108_36 rfl hc3) ?_
        refine m_Rs.n0 b_108 (x_iload_n d_108_39 rfl) ?_
        refine m_Rs.n0 b_108 (x_aload_n d_108_40 rfl) ?_
        refine m_Rs.callE b_108 (y_cv d_108_41 rfl q_91 (m_isRecv_of rfl h_t) (show m_takeI _ _ = some (_, [_], [_]) from rfl) (by simp only [m_okf, List.all_cons, List.all_nil, Bool.and_true, Bool.and_self, m_okv_i, m_okv_l, m_okv_0, m_okv_t, m_okv_at h_q, m_okv_at h_t]) rfl) (P_life h_t) rfl ?_ (by decide) (by decide)
        refine m_Rs.n0 b_108 (x_aload_n d_108_44 rfl) ?_
        refine m_Rs.n0 b_108 (x_getf d_108_45 rfl h_t rfl) ?_
        refine m_Rs.n0 b_108 (x_iadd d_108_48 rfl) ?_
        cases hc4 : m_c2 .ge age ((F_life t_maxAge t_noCache) + t_staleWhile) with
        | true =>
          refine m_Rs.n0 b_108 (x_ict d_108_49 rfl hc4) ?_
          refine m_Rs.n0 b_108 (x_iconst (z := 0) d_108_56 (by decide)) ?_
          refine m_Rs.ret b_108 (m_rt_ir d_108_57 rfl rfl) ?_
          exact ⟨by simp only [F_stale, hc1, hc2, hc3, hc4, cond_true, cond_false], rfl⟩
        | false =>
          refine m_Rs.n0 b_108 (x_icf d_108_49 rfl hc4) ?_
          refine m_Rs.n0 b_108 (x_iconst (z := 1) d_108_52 (by decide)) ?_
          refine m_Rs.n0 b_108 (x_goto d_108_53 rfl) ?_
          refine m_Rs.ret b_108 (m_rt_ir d_108_57 rfl rfl) ?_
          exact ⟨by simp only [F_stale, hc1, hc2, hc3, hc4, cond_true, cond_false], rfl⟩
  | false =>
    refine m_Rs.n0 b_108 (x_icf d_108_5 rfl hc1) ?_
    refine m_Rs.n0 b_108 (x_iload_n d_108_8 rfl) ?_
    refine m_Rs.n0 b_108 (x_aload_n d_108_9 rfl) ?_
    refine m_Rs.callE b_108 (y_cv d_108_10 rfl q_91 (m_isRecv_of rfl h_t) (show m_takeI _ _ = some (_, [_], [_]) from rfl) (by simp only [m_okf, List.all_cons, List.all_nil, Bool.and_true, Bool.and_self, m_okv_i, m_okv_l, m_okv_0, m_okv_t, m_okv_at h_q, m_okv_at h_t]) rfl) (P_life h_t) rfl ?_ (by decide) (by decide)
    refine m_Rs.n0 b_108 (x_aload_n d_108_13 rfl) ?_
    refine m_Rs.n0 b_108 (x_getf d_108_14 rfl h_q rfl) ?_
    refine m_Rs.n0 b_108 (x_iadd d_108_17 rfl) ?_
    cases hc5 : m_c2 .ge age ((F_life t_maxAge t_noCache) + q_maxStale) with
    | true =>
      refine m_Rs.n0 b_108 (x_ict d_108_18 rfl hc5) ?_
      refine m_Rs.n0 b_108 (x_aload_n d_108_23 rfl) ?_
      refine m_Rs.n0 b_108 (x_getf d_108_24 rfl h_q rfl) ?_
      refine m_Rs.n0 b_108 (x_iconst (z := (-1)) d_108_27 (by decide)) ?_
      cases hc6 : m_c2 .ne q_maxAge ((-1) : Int32) with
      | true =>
        refine m_Rs.n0 b_108 (x_ict d_108_28 rfl hc6) ?_
        refine m_Rs.n0 b_108 (x_iconst (z := 0) d_108_56 (by decide)) ?_
        refine m_Rs.ret b_108 (m_rt_ir d_108_57 rfl rfl) ?_
        exact ⟨by simp only [F_stale, hc1, hc5, hc6, cond_true, cond_false], rfl⟩
      | false =>
        refine m_Rs.n0 b_108 (x_icf d_108_28 rfl hc6) ?_
        refine m_Rs.n0 b_108 (x_aload_n d_108_31 rfl) ?_
        refine m_Rs.n0 b_108 (x_getf d_108_32 rfl h_q rfl) ?_
        refine m_Rs.n0 b_108 (x_iconst (z := (-1)) d_108_35 (by decide)) ?_
        cases hc7 : m_c2 .ne q_minFresh ((-1) : Int32) with
        | true =>
          refine m_Rs.n0 b_108 (x_ict d_108_36 rfl hc7) ?_
          refine m_Rs.n0 b_108 (x_iconst (z := 0) d_108_56 (by decide)) ?_
          refine m_Rs.ret b_108 (m_rt_ir d_108_57 rfl rfl) ?_
          exact ⟨by simp only [F_stale, hc1, hc5, hc6, hc7, cond_true, cond_false], rfl⟩
        | false =>
          refine m_Rs.n0 b_108 (x_icf d_108_36 rfl hc7) ?_
          refine m_Rs.n0 b_108 (x_iload_n d_108_39 rfl) ?_
          refine m_Rs.n0 b_108 (x_aload_n d_108_40 rfl) ?_
          refine m_Rs.callE b_108 (y_cv d_108_41 rfl q_91 (m_isRecv_of rfl h_t) (show m_takeI _ _ = some (_, [_], [_]) from rfl) (by simp only [m_okf, List.all_cons, List.all_nil, Bool.and_true, Bool.and_self, m_okv_i, m_okv_l, m_okv_0, m_okv_t, m_okv_at h_q, m_okv_at h_t]) rfl) (P_life h_t) rfl ?_ (by decide) (by decide)
          refine m_Rs.n0 b_108 (x_aload_n d_108_44 rfl) ?_
          refine m_Rs.n0 b_108 (x_getf d_108_45 rfl h_t rfl) ?_
          refine m_Rs.n0 b_108 (x_iadd d_108_48 rfl) ?_
          cases hc8 : m_c2 .ge age ((F_life t_maxAge t_noCache) + t_staleWhile) with
          | true =>
            refine m_Rs.n0 b_108 (x_ict d_108_49 rfl hc8) ?_
            refine m_Rs.n0 b_108 (x_iconst (z := 0) d_108_56 (by decide)) ?_
            refine m_Rs.ret b_108 (m_rt_ir d_108_57 rfl rfl) ?_
            exact ⟨by simp only [F_stale, hc1, hc5, hc6, hc7, hc8, cond_true, cond_false], rfl⟩
          | false =>
            refine m_Rs.n0 b_108 (x_icf d_108_49 rfl hc8) ?_
            refine m_Rs.n0 b_108 (x_iconst (z := 1) d_108_52 (by decide)) ?_
            refine m_Rs.n0 b_108 (x_goto d_108_53 rfl) ?_
            refine m_Rs.ret b_108 (m_rt_ir d_108_57 rfl rfl) ?_
            exact ⟨by simp only [F_stale, hc1, hc5, hc6, hc7, hc8, cond_true, cond_false], rfl⟩
    | false =>
      refine m_Rs.n0 b_108 (x_icf d_108_18 rfl hc5) ?_
      refine m_Rs.n0 b_108 (x_iconst (z := 1) d_108_21 (by decide)) ?_
      refine m_Rs.ret b_108 (m_rt_ir d_108_22 rfl rfl) ?_
      exact ⟨by simp only [F_stale, hc1, hc5, cond_true, cond_false], rfl⟩
def F_hadw (f_path f_variant f_language f_form f_first f_last f_least e_path e_variant t_length t_vary e_which e_mark e_blocks : Int32) : Int32 := (cond (m_c1 .eq (F_isOf e_path e_variant f_path f_variant)) (0 : Int32) (cond (m_c2 .eq e_which (F_which t_vary f_language f_form)) (cond (m_c2 .lt e_mark f_least) (0 : Int32) (cond (m_c1 .ne ((F_blk t_length f_first f_last) &&& (e_blocks ^^^ ((-1) : Int32)))) (0 : Int32) (1 : Int32))) (0 : Int32)))
theorem P_hadw {l : Launch} {w : List mM} {f e t : Nat} {f_path f_variant f_language f_form f_forced f_first f_last f_number f_to f_least f_since f_waiting e_path e_variant t_path t_version t_length t_maxAge t_staleIfError t_staleWhile t_noStore t_noCache t_keys t_vary e_which e_mark e_age e_came e_blocks e_kept : Int32} {f_head f_tail : Value} (h_f : m_at w f = some (.inr (10, [.int f_path, .int f_variant, .int f_language, .int f_form, .int f_forced, .int f_first, .int f_last, .int f_number, .int f_to, .int f_least, .int f_since, .int f_waiting, f_head, f_tail]))) (h_e : m_at w e = some (.inr (11, [.int e_path, .int e_variant, .ref t, .int e_which, .int e_mark, .int e_age, .int e_came, .int e_blocks, .int e_kept]))) (h_t : m_at w t = some (.inr (13, [.int t_path, .int t_version, .int t_length, .int t_maxAge, .int t_staleIfError, .int t_staleWhile, .int t_noStore, .int t_noCache, .int t_keys, .int t_vary]))) : m_Rs l M_115 (m_ent M_115 [.ref f, .ref e] w) (fun v w' => v = some (.int (F_hadw f_path f_variant f_language f_form f_first f_last f_least e_path e_variant t_length t_vary e_which e_mark e_blocks)) ∧ w' = w) 0 0 2 200 := by
  show m_Rs l M_115 (0, [(0, .ref f), (1, .ref e)], [], w) _ 0 0 2 200
  refine m_Rs.n0 b_115 (x_aload_n d_115_0 rfl) ?_
  refine m_Rs.n0 b_115 (x_aload_n d_115_1 rfl) ?_
  refine m_Rs.n0 b_115 (x_getf d_115_2 rfl h_f rfl) ?_
  refine m_Rs.n0 b_115 (x_aload_n d_115_5 rfl) ?_
  refine m_Rs.n0 b_115 (x_getf d_115_6 rfl h_f rfl) ?_
  refine m_Rs.callE b_115 (y_cv d_115_9 rfl q_81 (m_isRecv_of rfl h_e) (show m_takeI _ _ = some (_, [_, _, _], []) from rfl) (by simp only [m_okf, List.all_cons, List.all_nil, Bool.and_true, Bool.and_self, m_okv_i, m_okv_l, m_okv_0, m_okv_t, m_okv_at h_f, m_okv_at h_e]) rfl) (P_isOf h_e) rfl ?_ (by decide) (by decide)
  cases hc1 : m_c1 .eq (F_isOf e_path e_variant f_path f_variant) with
  | true =>
    refine m_Rs.n0 b_115 (x_ift d_115_12 rfl hc1) ?_
    refine m_Rs.n0 b_115 (x_iconst (z := 0) d_115_37 (by decide)) ?_
    refine m_Rs.ret b_115 (m_rt_ir d_115_38 rfl rfl) ?_
    exact ⟨by simp only [F_hadw, hc1, cond_true, cond_false], rfl⟩
  | false =>
    refine m_Rs.n0 b_115 (x_iff d_115_12 rfl hc1) ?_
    refine m_Rs.n0 b_115 (x_aload_n d_115_15 rfl) ?_
    refine m_Rs.n0 b_115 (x_getf d_115_16 rfl h_e rfl) ?_
    refine m_Rs.n0 b_115 (x_aload_n d_115_19 rfl) ?_
    refine m_Rs.n0 b_115 (x_getf d_115_20 rfl h_e rfl) ?_
    refine m_Rs.n0 b_115 (x_aload_n d_115_23 rfl) ?_
    refine m_Rs.n0 b_115 (x_getf d_115_24 rfl h_f rfl) ?_
    refine m_Rs.n0 b_115 (x_aload_n d_115_27 rfl) ?_
    refine m_Rs.n0 b_115 (x_getf d_115_28 rfl h_f rfl) ?_
    refine m_Rs.callE b_115 (y_cv d_115_31 rfl q_82 (m_isRecv_of rfl h_t) (show m_takeI _ _ = some (_, [_, _, _], [_]) from rfl) (by simp only [m_okf, List.all_cons, List.all_nil, Bool.and_true, Bool.and_self, m_okv_i, m_okv_l, m_okv_0, m_okv_t, m_okv_at h_f, m_okv_at h_e, m_okv_at h_t]) rfl) (P_which h_t) rfl ?_ (by decide) (by decide)
    cases hc2 : m_c2 .eq e_which (F_which t_vary f_language f_form) with
    | true =>
      refine m_Rs.n0 b_115 (x_ict d_115_34 rfl hc2) ?_
      refine m_Rs.n0 b_115 (x_aload_n d_115_39 rfl) ?_
      refine m_Rs.n0 b_115 (x_getf d_115_40 rfl h_e rfl) ?_
      refine m_Rs.n0 b_115 (x_aload_n d_115_43 rfl) ?_
      refine m_Rs.n0 b_115 (x_getf d_115_44 rfl h_f rfl) ?_
      cases hc3 : m_c2 .lt e_mark f_least with
      | true =>
        refine m_Rs.n0 b_115 (x_ict d_115_47 rfl hc3) ?_
        refine m_Rs.n0 b_115 (x_iconst (z := 0) d_115_79 (by decide)) ?_
        refine m_Rs.ret b_115 (m_rt_ir d_115_80 rfl rfl) ?_
        exact ⟨by simp only [F_hadw, hc1, hc2, hc3, cond_true, cond_false], rfl⟩
      | false =>
        refine m_Rs.n0 b_115 (x_icf d_115_47 rfl hc3) ?_
        refine m_Rs.n0 b_115 (x_aload_n d_115_50 rfl) ?_
        refine m_Rs.n0 b_115 (x_getf d_115_51 rfl h_e rfl) ?_
        refine m_Rs.n0 b_115 (x_aload_n d_115_54 rfl) ?_
        refine m_Rs.n0 b_115 (x_getf d_115_55 rfl h_f rfl) ?_
        refine m_Rs.n0 b_115 (x_aload_n d_115_58 rfl) ?_
        refine m_Rs.n0 b_115 (x_getf d_115_59 rfl h_f rfl) ?_
        refine m_Rs.callE b_115 (y_cv d_115_62 rfl q_85 (m_isRecv_of rfl h_t) (show m_takeI _ _ = some (_, [_, _, _], []) from rfl) (by simp only [m_okf, List.all_cons, List.all_nil, Bool.and_true, Bool.and_self, m_okv_i, m_okv_l, m_okv_0, m_okv_t, m_okv_at h_f, m_okv_at h_e, m_okv_at h_t]) rfl) (P_blk h_t) rfl ?_ (by decide) (by decide)
        refine m_Rs.n0 b_115 (x_aload_n d_115_65 rfl) ?_
        refine m_Rs.n0 b_115 (x_getf d_115_66 rfl h_e rfl) ?_
        refine m_Rs.n0 b_115 (x_iconst (z := (-1)) d_115_69 (by decide)) ?_
        refine m_Rs.n0 b_115 (x_ixor d_115_70 rfl) ?_
        refine m_Rs.n0 b_115 (x_iand d_115_71 rfl) ?_
        cases hc4 : m_c1 .ne ((F_blk t_length f_first f_last) &&& (e_blocks ^^^ ((-1) : Int32))) with
        | true =>
          refine m_Rs.n0 b_115 (x_ift d_115_72 rfl hc4) ?_
          refine m_Rs.n0 b_115 (x_iconst (z := 0) d_115_79 (by decide)) ?_
          refine m_Rs.ret b_115 (m_rt_ir d_115_80 rfl rfl) ?_
          exact ⟨by simp only [F_hadw, hc1, hc2, hc3, hc4, cond_true, cond_false], rfl⟩
        | false =>
          refine m_Rs.n0 b_115 (x_iff d_115_72 rfl hc4) ?_
          refine m_Rs.n0 b_115 (x_iconst (z := 1) d_115_75 (by decide)) ?_
          refine m_Rs.n0 b_115 (x_goto d_115_76 rfl) ?_
          refine m_Rs.ret b_115 (m_rt_ir d_115_80 rfl rfl) ?_
          exact ⟨by simp only [F_hadw, hc1, hc2, hc3, hc4, cond_true, cond_false], rfl⟩
    | false =>
      refine m_Rs.n0 b_115 (x_icf d_115_34 rfl hc2) ?_
      refine m_Rs.n0 b_115 (x_iconst (z := 0) d_115_37 (by decide)) ?_
      refine m_Rs.ret b_115 (m_rt_ir d_115_38 rfl rfl) ?_
      exact ⟨by simp only [F_hadw, hc1, hc2, cond_true, cond_false], rfl⟩
