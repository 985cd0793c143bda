/-! The class's methods as guarded functions. Written by wip/tool/decc1.py. -/
theorem q_1 : m_mt[1]? = some M_1 := by rfl
theorem q_10 : m_mt[10]? = some M_10 := by rfl
theorem q_11 : m_mt[11]? = some M_11 := by rfl
theorem q_13 : m_mt[13]? = some M_13 := by rfl
theorem q_12 : m_mt[12]? = some M_12 := by rfl
theorem q_15 : m_mt[15]? = some M_15 := by rfl
theorem q_14 : m_mt[14]? = some M_14 := by rfl
theorem q_19 : m_mt[19]? = some M_19 := by rfl
theorem q_20 : m_mt[20]? = some M_20 := by rfl
theorem q_21 : m_mt[21]? = some M_21 := by rfl
theorem q_22 : m_mt[22]? = some M_22 := by rfl
theorem q_36 : m_mt[36]? = some M_36 := by rfl
theorem q_35 : m_mt[35]? = some M_35 := by rfl
theorem q_23 : m_mt[23]? = some M_23 := by rfl
theorem q_39 : m_mt[39]? = some M_39 := by rfl
theorem q_38 : m_mt[38]? = some M_38 := by rfl
theorem q_37 : m_mt[37]? = some M_37 := by rfl
theorem q_41 : m_mt[41]? = some M_41 := by rfl
theorem q_43 : m_mt[43]? = some M_43 := by rfl
theorem q_42 : m_mt[42]? = some M_42 := by rfl
theorem q_40 : m_mt[40]? = some M_40 := by rfl
theorem q_45 : m_mt[45]? = some M_45 := by rfl
theorem q_46 : m_mt[46]? = some M_46 := by rfl
theorem q_48 : m_mt[48]? = some M_48 := by rfl
theorem q_47 : m_mt[47]? = some M_47 := by rfl
theorem q_50 : m_mt[50]? = some M_50 := by rfl
theorem q_51 : m_mt[51]? = some M_51 := by rfl
theorem q_52 : m_mt[52]? = some M_52 := by rfl
theorem q_53 : m_mt[53]? = some M_53 := by rfl
theorem q_54 : m_mt[54]? = some M_54 := by rfl
theorem q_55 : m_mt[55]? = some M_55 := by rfl
theorem q_49 : m_mt[49]? = some M_49 := by rfl
theorem q_56 : m_mt[56]? = some M_56 := by rfl
theorem q_44 : m_mt[44]? = some M_44 := by rfl
theorem q_57 : m_mt[57]? = some M_57 := by rfl
theorem b_1 : m_bOk M_1 := (m_mt_ok M_1 (List.mem_of_getElem? q_1)).body
theorem b_10 : m_bOk M_10 := (m_mt_ok M_10 (List.mem_of_getElem? q_10)).body
theorem b_11 : m_bOk M_11 := (m_mt_ok M_11 (List.mem_of_getElem? q_11)).body
theorem b_13 : m_bOk M_13 := (m_mt_ok M_13 (List.mem_of_getElem? q_13)).body
theorem b_12 : m_bOk M_12 := (m_mt_ok M_12 (List.mem_of_getElem? q_12)).body
theorem b_15 : m_bOk M_15 := (m_mt_ok M_15 (List.mem_of_getElem? q_15)).body
theorem b_14 : m_bOk M_14 := (m_mt_ok M_14 (List.mem_of_getElem? q_14)).body
theorem b_19 : m_bOk M_19 := (m_mt_ok M_19 (List.mem_of_getElem? q_19)).body
theorem b_20 : m_bOk M_20 := (m_mt_ok M_20 (List.mem_of_getElem? q_20)).body
theorem b_21 : m_bOk M_21 := (m_mt_ok M_21 (List.mem_of_getElem? q_21)).body
theorem b_22 : m_bOk M_22 := (m_mt_ok M_22 (List.mem_of_getElem? q_22)).body
theorem b_36 : m_bOk M_36 := (m_mt_ok M_36 (List.mem_of_getElem? q_36)).body
theorem b_35 : m_bOk M_35 := (m_mt_ok M_35 (List.mem_of_getElem? q_35)).body
theorem b_23 : m_bOk M_23 := (m_mt_ok M_23 (List.mem_of_getElem? q_23)).body
theorem b_39 : m_bOk M_39 := (m_mt_ok M_39 (List.mem_of_getElem? q_39)).body
theorem b_38 : m_bOk M_38 := (m_mt_ok M_38 (List.mem_of_getElem? q_38)).body
theorem b_37 : m_bOk M_37 := (m_mt_ok M_37 (List.mem_of_getElem? q_37)).body
theorem b_41 : m_bOk M_41 := (m_mt_ok M_41 (List.mem_of_getElem? q_41)).body
theorem b_43 : m_bOk M_43 := (m_mt_ok M_43 (List.mem_of_getElem? q_43)).body
theorem b_42 : m_bOk M_42 := (m_mt_ok M_42 (List.mem_of_getElem? q_42)).body
theorem b_40 : m_bOk M_40 := (m_mt_ok M_40 (List.mem_of_getElem? q_40)).body
theorem b_45 : m_bOk M_45 := (m_mt_ok M_45 (List.mem_of_getElem? q_45)).body
theorem b_46 : m_bOk M_46 := (m_mt_ok M_46 (List.mem_of_getElem? q_46)).body
theorem b_48 : m_bOk M_48 := (m_mt_ok M_48 (List.mem_of_getElem? q_48)).body
theorem b_47 : m_bOk M_47 := (m_mt_ok M_47 (List.mem_of_getElem? q_47)).body
theorem b_50 : m_bOk M_50 := (m_mt_ok M_50 (List.mem_of_getElem? q_50)).body
theorem b_51 : m_bOk M_51 := (m_mt_ok M_51 (List.mem_of_getElem? q_51)).body
theorem b_52 : m_bOk M_52 := (m_mt_ok M_52 (List.mem_of_getElem? q_52)).body
theorem b_53 : m_bOk M_53 := (m_mt_ok M_53 (List.mem_of_getElem? q_53)).body
theorem b_54 : m_bOk M_54 := (m_mt_ok M_54 (List.mem_of_getElem? q_54)).body
theorem b_55 : m_bOk M_55 := (m_mt_ok M_55 (List.mem_of_getElem? q_55)).body
theorem b_49 : m_bOk M_49 := (m_mt_ok M_49 (List.mem_of_getElem? q_49)).body
theorem b_56 : m_bOk M_56 := (m_mt_ok M_56 (List.mem_of_getElem? q_56)).body
theorem b_44 : m_bOk M_44 := (m_mt_ok M_44 (List.mem_of_getElem? q_44)).body
theorem b_57 : m_bOk M_57 := (m_mt_ok M_57 (List.mem_of_getElem? q_57)).body
theorem d_11_0 : m_dn M_11 0 (.iload_n 0) 1 1 := by decide +kernel
theorem d_11_1 : m_dn M_11 1 (.ldc_w 264) 3 4 := by decide +kernel
theorem d_11_10 : m_dn M_11 10 (.iadd) 1 11 := by decide +kernel
theorem d_11_11 : m_dn M_11 11 (.istore_n 2) 1 12 := by decide +kernel
theorem d_11_12 : m_dn M_11 12 (.iload_n 2) 1 13 := by decide +kernel
theorem d_11_13 : m_dn M_11 13 (.iload_n 2) 1 14 := by decide +kernel
theorem d_11_14 : m_dn M_11 14 (.bipush 15) 2 16 := by decide +kernel
theorem d_11_16 : m_dn M_11 16 (.iushr) 1 17 := by decide +kernel
theorem d_11_17 : m_dn M_11 17 (.ixor) 1 18 := by decide +kernel
theorem d_11_18 : m_dn M_11 18 (.istore_n 2) 1 19 := by decide +kernel
theorem d_11_19 : m_dn M_11 19 (.iload_n 2) 1 20 := by decide +kernel
theorem d_11_20 : m_dn M_11 20 (.ldc_w 266) 3 23 := by decide +kernel
theorem d_11_23 : m_dn M_11 23 (.imul) 1 24 := by decide +kernel
theorem d_11_24 : m_dn M_11 24 (.istore_n 2) 1 25 := by decide +kernel
theorem d_11_25 : m_dn M_11 25 (.iload_n 2) 1 26 := by decide +kernel
theorem d_11_26 : m_dn M_11 26 (.iload_n 2) 1 27 := by decide +kernel
theorem d_11_27 : m_dn M_11 27 (.bipush 12) 2 29 := by decide +kernel
theorem d_11_29 : m_dn M_11 29 (.iushr) 1 30 := by decide +kernel
theorem d_11_30 : m_dn M_11 30 (.ixor) 1 31 := by decide +kernel
theorem d_11_31 : m_dn M_11 31 (.istore_n 2) 1 32 := by decide +kernel
theorem d_11_32 : m_dn M_11 32 (.iload_n 2) 1 33 := by decide +kernel
theorem d_11_33 : m_dn M_11 33 (.bipush 16) 2 35 := by decide +kernel
theorem d_11_35 : m_dn M_11 35 (.iushr) 1 36 := by decide +kernel
theorem d_11_36 : m_dn M_11 36 (.ireturn) 1 37 := by decide +kernel
theorem d_11_4 : m_dn M_11 4 (.imul) 1 5 := by decide +kernel
theorem d_11_5 : m_dn M_11 5 (.iload_n 1) 1 6 := by decide +kernel
theorem d_11_6 : m_dn M_11 6 (.ldc_w 265) 3 9 := by decide +kernel
theorem d_11_9 : m_dn M_11 9 (.imul) 1 10 := by decide +kernel
theorem d_12_0 : m_dn M_12 0 (.aload_n 0) 1 1 := by decide +kernel
theorem d_12_1 : m_dn M_12 1 (.getfield 10) 3 4 := by decide +kernel
theorem d_12_4 : m_dn M_12 4 (.lload_n 1) 1 5 := by decide +kernel
theorem d_12_5 : m_dn M_12 5 (.iload_n 3) 1 6 := by decide +kernel
theorem d_12_6 : m_dn M_12 6 (.invokevirtual 65) 3 9 := by decide +kernel
theorem d_12_9 : m_dn M_12 9 (.ireturn) 1 10 := by decide +kernel
theorem d_13_0 : m_dn M_13 0 (.iload_n 3) 1 1 := by decide +kernel
theorem d_13_1 : m_dn M_13 1 (.iconst 1) 1 2 := by decide +kernel
theorem d_13_100 : m_dn M_13 100 (.imul) 1 101 := by decide +kernel
theorem d_13_101 : m_dn M_13 101 (.lushr) 1 102 := by decide +kernel
theorem d_13_102 : m_dn M_13 102 (.ldc2_w 29) 3 105 := by decide +kernel
theorem d_13_105 : m_dn M_13 105 (.land) 1 106 := by decide +kernel
theorem d_13_106 : m_dn M_13 106 (.l2i) 1 107 := by decide +kernel
theorem d_13_107 : m_dn M_13 107 (.i2c) 1 108 := by decide +kernel
theorem d_13_108 : m_dn M_13 108 (.castore) 1 109 := by decide +kernel
theorem d_13_109 : m_dn M_13 109 (.aload_n 0) 1 110 := by decide +kernel
theorem d_13_11 : m_dn M_13 11 (.aload_n 0) 1 12 := by decide +kernel
theorem d_13_110 : m_dn M_13 110 (.dup) 1 111 := by decide +kernel
theorem d_13_111 : m_dn M_13 111 (.getfield 26) 3 114 := by decide +kernel
theorem d_13_114 : m_dn M_13 114 (.iconst 1) 1 115 := by decide +kernel
theorem d_13_115 : m_dn M_13 115 (.iadd) 1 116 := by decide +kernel
theorem d_13_116 : m_dn M_13 116 (.putfield 26) 3 119 := by decide +kernel
theorem d_13_119 : m_dn M_13 119 (.iinc 4 (-1)) 3 122 := by decide +kernel
theorem d_13_12 : m_dn M_13 12 (.getfield 26) 3 15 := by decide +kernel
theorem d_13_122 : m_dn M_13 122 (.goto (-40)) 3 125 := by decide +kernel
theorem d_13_125 : m_dn M_13 125 (.iconst 1) 1 126 := by decide +kernel
theorem d_13_126 : m_dn M_13 126 (.ireturn) 1 127 := by decide +kernel
theorem d_13_15 : m_dn M_13 15 (.iload_n 3) 1 16 := by decide +kernel
theorem d_13_16 : m_dn M_13 16 (.iadd) 1 17 := by decide +kernel
theorem d_13_17 : m_dn M_13 17 (.sipush 300) 3 20 := by decide +kernel
theorem d_13_2 : m_dn M_13 2 (.if_icmp .lt 21) 3 5 := by decide +kernel
theorem d_13_20 : m_dn M_13 20 (.if_icmp .le 5) 3 23 := by decide +kernel
theorem d_13_23 : m_dn M_13 23 (.iconst 0) 1 24 := by decide +kernel
theorem d_13_24 : m_dn M_13 24 (.ireturn) 1 25 := by decide +kernel
theorem d_13_25 : m_dn M_13 25 (.iconst 0) 1 26 := by decide +kernel
theorem d_13_26 : m_dn M_13 26 (.istore 4) 2 28 := by decide +kernel
theorem d_13_28 : m_dn M_13 28 (.iload 4) 2 30 := by decide +kernel
theorem d_13_30 : m_dn M_13 30 (.iload_n 3) 1 31 := by decide +kernel
theorem d_13_31 : m_dn M_13 31 (.if_icmp .ge 46) 3 34 := by decide +kernel
theorem d_13_34 : m_dn M_13 34 (.lload_n 1) 1 35 := by decide +kernel
theorem d_13_35 : m_dn M_13 35 (.bipush 8) 2 37 := by decide +kernel
theorem d_13_37 : m_dn M_13 37 (.iload 4) 2 39 := by decide +kernel
theorem d_13_39 : m_dn M_13 39 (.imul) 1 40 := by decide +kernel
theorem d_13_40 : m_dn M_13 40 (.lushr) 1 41 := by decide +kernel
theorem d_13_41 : m_dn M_13 41 (.ldc2_w 29) 3 44 := by decide +kernel
theorem d_13_44 : m_dn M_13 44 (.land) 1 45 := by decide +kernel
theorem d_13_45 : m_dn M_13 45 (.l2i) 1 46 := by decide +kernel
theorem d_13_46 : m_dn M_13 46 (.istore 5) 2 48 := by decide +kernel
theorem d_13_48 : m_dn M_13 48 (.iload 5) 2 50 := by decide +kernel
theorem d_13_5 : m_dn M_13 5 (.iload_n 3) 1 6 := by decide +kernel
theorem d_13_50 : m_dn M_13 50 (.bipush 10) 2 52 := by decide +kernel
theorem d_13_52 : m_dn M_13 52 (.if_icmp .eq 19) 3 55 := by decide +kernel
theorem d_13_55 : m_dn M_13 55 (.iload 5) 2 57 := by decide +kernel
theorem d_13_57 : m_dn M_13 57 (.bipush 32) 2 59 := by decide +kernel
theorem d_13_59 : m_dn M_13 59 (.if_icmp .lt 10) 3 62 := by decide +kernel
theorem d_13_6 : m_dn M_13 6 (.bipush 8) 2 8 := by decide +kernel
theorem d_13_62 : m_dn M_13 62 (.iload 5) 2 64 := by decide +kernel
theorem d_13_64 : m_dn M_13 64 (.bipush 126) 2 66 := by decide +kernel
theorem d_13_66 : m_dn M_13 66 (.if_icmp .le 5) 3 69 := by decide +kernel
theorem d_13_69 : m_dn M_13 69 (.iconst 0) 1 70 := by decide +kernel
theorem d_13_70 : m_dn M_13 70 (.ireturn) 1 71 := by decide +kernel
theorem d_13_71 : m_dn M_13 71 (.iinc 4 1) 3 74 := by decide +kernel
theorem d_13_74 : m_dn M_13 74 (.goto (-46)) 3 77 := by decide +kernel
theorem d_13_77 : m_dn M_13 77 (.iload_n 3) 1 78 := by decide +kernel
theorem d_13_78 : m_dn M_13 78 (.iconst 1) 1 79 := by decide +kernel
theorem d_13_79 : m_dn M_13 79 (.isub) 1 80 := by decide +kernel
theorem d_13_8 : m_dn M_13 8 (.if_icmp .gt 15) 3 11 := by decide +kernel
theorem d_13_80 : m_dn M_13 80 (.istore 4) 2 82 := by decide +kernel
theorem d_13_82 : m_dn M_13 82 (.iload 4) 2 84 := by decide +kernel
theorem d_13_84 : m_dn M_13 84 (.ifCond .lt 41) 3 87 := by decide +kernel
theorem d_13_87 : m_dn M_13 87 (.aload_n 0) 1 88 := by decide +kernel
theorem d_13_88 : m_dn M_13 88 (.getfield 11) 3 91 := by decide +kernel
theorem d_13_91 : m_dn M_13 91 (.aload_n 0) 1 92 := by decide +kernel
theorem d_13_92 : m_dn M_13 92 (.getfield 26) 3 95 := by decide +kernel
theorem d_13_95 : m_dn M_13 95 (.lload_n 1) 1 96 := by decide +kernel
theorem d_13_96 : m_dn M_13 96 (.bipush 8) 2 98 := by decide +kernel
theorem d_13_98 : m_dn M_13 98 (.iload 4) 2 100 := by decide +kernel
theorem d_14_0 : m_dn M_14 0 (.iload_n 1) 1 1 := by decide +kernel
theorem d_14_1 : m_dn M_14 1 (.invokestatic 80) 3 4 := by decide +kernel
theorem d_14_11 : m_dn M_14 11 (.iload_n 1) 1 12 := by decide +kernel
theorem d_14_12 : m_dn M_14 12 (.aaload) 1 13 := by decide +kernel
theorem d_14_13 : m_dn M_14 13 (.ifnonnull 5) 3 16 := by decide +kernel
theorem d_14_16 : m_dn M_14 16 (.iconst 0) 1 17 := by decide +kernel
theorem d_14_17 : m_dn M_14 17 (.ireturn) 1 18 := by decide +kernel
theorem d_14_18 : m_dn M_14 18 (.aload_n 0) 1 19 := by decide +kernel
theorem d_14_19 : m_dn M_14 19 (.getfield 18) 3 22 := by decide +kernel
theorem d_14_22 : m_dn M_14 22 (.iload_n 1) 1 23 := by decide +kernel
theorem d_14_23 : m_dn M_14 23 (.aconst_null) 1 24 := by decide +kernel
theorem d_14_24 : m_dn M_14 24 (.aastore) 1 25 := by decide +kernel
theorem d_14_25 : m_dn M_14 25 (.iconst 1) 1 26 := by decide +kernel
theorem d_14_26 : m_dn M_14 26 (.ireturn) 1 27 := by decide +kernel
theorem d_14_4 : m_dn M_14 4 (.ifCond .eq 12) 3 7 := by decide +kernel
theorem d_14_7 : m_dn M_14 7 (.aload_n 0) 1 8 := by decide +kernel
theorem d_14_8 : m_dn M_14 8 (.getfield 18) 3 11 := by decide +kernel
theorem d_15_0 : m_dn M_15 0 (.iload_n 0) 1 1 := by decide +kernel
theorem d_15_1 : m_dn M_15 1 (.ifCond .lt 13) 3 4 := by decide +kernel
theorem d_15_10 : m_dn M_15 10 (.iconst 1) 1 11 := by decide +kernel
theorem d_15_11 : m_dn M_15 11 (.goto 4) 3 14 := by decide +kernel
theorem d_15_14 : m_dn M_15 14 (.iconst 0) 1 15 := by decide +kernel
theorem d_15_15 : m_dn M_15 15 (.ireturn) 1 16 := by decide +kernel
theorem d_15_4 : m_dn M_15 4 (.iload_n 0) 1 5 := by decide +kernel
theorem d_15_5 : m_dn M_15 5 (.bipush 32) 2 7 := by decide +kernel
theorem d_15_7 : m_dn M_15 7 (.if_icmp .ge 7) 3 10 := by decide +kernel
theorem d_19_0 : m_dn M_19 0 (.aload_n 0) 1 1 := by decide +kernel
theorem d_19_1 : m_dn M_19 1 (.iconst 0) 1 2 := by decide +kernel
theorem d_19_10 : m_dn M_19 10 (.aload_n 0) 1 11 := by decide +kernel
theorem d_19_11 : m_dn M_19 11 (.iconst 0) 1 12 := by decide +kernel
theorem d_19_12 : m_dn M_19 12 (.putfield 117) 3 15 := by decide +kernel
theorem d_19_15 : m_dn M_19 15 (.iconst 0) 1 16 := by decide +kernel
theorem d_19_16 : m_dn M_19 16 (.istore_n 1) 1 17 := by decide +kernel
theorem d_19_17 : m_dn M_19 17 (.iload_n 1) 1 18 := by decide +kernel
theorem d_19_18 : m_dn M_19 18 (.aload_n 0) 1 19 := by decide +kernel
theorem d_19_19 : m_dn M_19 19 (.getfield 23) 3 22 := by decide +kernel
theorem d_19_2 : m_dn M_19 2 (.putfield 114) 3 5 := by decide +kernel
theorem d_19_22 : m_dn M_19 22 (.arraylength) 1 23 := by decide +kernel
theorem d_19_23 : m_dn M_19 23 (.if_icmp .ge 16) 3 26 := by decide +kernel
theorem d_19_26 : m_dn M_19 26 (.aload_n 0) 1 27 := by decide +kernel
theorem d_19_27 : m_dn M_19 27 (.getfield 23) 3 30 := by decide +kernel
theorem d_19_30 : m_dn M_19 30 (.iload_n 1) 1 31 := by decide +kernel
theorem d_19_31 : m_dn M_19 31 (.iconst 0) 1 32 := by decide +kernel
theorem d_19_32 : m_dn M_19 32 (.iastore) 1 33 := by decide +kernel
theorem d_19_33 : m_dn M_19 33 (.iinc 1 1) 3 36 := by decide +kernel
theorem d_19_36 : m_dn M_19 36 (.goto (-19)) 3 39 := by decide +kernel
theorem d_19_39 : m_dn M_19 39 (.return_) 1 40 := by decide +kernel
theorem d_19_5 : m_dn M_19 5 (.aload_n 0) 1 6 := by decide +kernel
theorem d_19_6 : m_dn M_19 6 (.iconst (-1)) 1 7 := by decide +kernel
theorem d_19_7 : m_dn M_19 7 (.putfield 15) 3 10 := by decide +kernel
theorem d_1_0 : m_dn M_1 0 (.aload_n 0) 1 1 := by decide +kernel
theorem d_1_1 : m_dn M_1 1 (.invokespecial 3) 3 4 := by decide +kernel
theorem d_1_10 : m_dn M_1 10 (.putfield 11) 3 13 := by decide +kernel
theorem d_1_13 : m_dn M_1 13 (.aload_n 0) 1 14 := by decide +kernel
theorem d_1_14 : m_dn M_1 14 (.iconst (-1)) 1 15 := by decide +kernel
theorem d_1_15 : m_dn M_1 15 (.putfield 15) 3 18 := by decide +kernel
theorem d_1_18 : m_dn M_1 18 (.aload_n 0) 1 19 := by decide +kernel
theorem d_1_19 : m_dn M_1 19 (.sipush 300) 3 22 := by decide +kernel
theorem d_1_22 : m_dn M_1 22 (.newarray .int) 2 24 := by decide +kernel
theorem d_1_24 : m_dn M_1 24 (.putfield 19) 3 27 := by decide +kernel
theorem d_1_27 : m_dn M_1 27 (.aload_n 0) 1 28 := by decide +kernel
theorem d_1_28 : m_dn M_1 28 (.iconst 4) 1 29 := by decide +kernel
theorem d_1_29 : m_dn M_1 29 (.newarray .int) 2 31 := by decide +kernel
theorem d_1_31 : m_dn M_1 31 (.putfield 23) 3 34 := by decide +kernel
theorem d_1_34 : m_dn M_1 34 (.return_) 1 35 := by decide +kernel
theorem d_1_4 : m_dn M_1 4 (.aload_n 0) 1 5 := by decide +kernel
theorem d_1_5 : m_dn M_1 5 (.sipush 300) 3 8 := by decide +kernel
theorem d_1_8 : m_dn M_1 8 (.newarray .char) 2 10 := by decide +kernel
theorem d_20_0 : m_dn M_20 0 (.aload_n 0) 1 1 := by decide +kernel
theorem d_20_1 : m_dn M_20 1 (.invokespecial 3) 3 4 := by decide +kernel
theorem d_20_10 : m_dn M_20 10 (.aload_n 0) 1 11 := by decide +kernel
theorem d_20_11 : m_dn M_20 11 (.iconst (-1)) 1 12 := by decide +kernel
theorem d_20_12 : m_dn M_20 12 (.putfield 15) 3 15 := by decide +kernel
theorem d_20_15 : m_dn M_20 15 (.aload_n 0) 1 16 := by decide +kernel
theorem d_20_16 : m_dn M_20 16 (.iconst (-1)) 1 17 := by decide +kernel
theorem d_20_17 : m_dn M_20 17 (.putfield 18) 3 20 := by decide +kernel
theorem d_20_20 : m_dn M_20 20 (.aload_n 0) 1 21 := by decide +kernel
theorem d_20_21 : m_dn M_20 21 (.iconst (-1)) 1 22 := by decide +kernel
theorem d_20_22 : m_dn M_20 22 (.putfield 21) 3 25 := by decide +kernel
theorem d_20_25 : m_dn M_20 25 (.return_) 1 26 := by decide +kernel
theorem d_20_4 : m_dn M_20 4 (.aload_n 0) 1 5 := by decide +kernel
theorem d_20_5 : m_dn M_20 5 (.bipush 15) 2 7 := by decide +kernel
theorem d_20_7 : m_dn M_20 7 (.putfield 9) 3 10 := by decide +kernel
theorem d_21_0 : m_dn M_21 0 (.aload_n 0) 1 1 := by decide +kernel
theorem d_21_1 : m_dn M_21 1 (.invokespecial 3) 3 4 := by decide +kernel
theorem d_21_10 : m_dn M_21 10 (.bipush 8) 2 12 := by decide +kernel
theorem d_21_12 : m_dn M_21 12 (.newarray .int) 2 14 := by decide +kernel
theorem d_21_14 : m_dn M_21 14 (.putfield 15) 3 17 := by decide +kernel
theorem d_21_17 : m_dn M_21 17 (.aload_n 0) 1 18 := by decide +kernel
theorem d_21_18 : m_dn M_21 18 (.iconst (-1)) 1 19 := by decide +kernel
theorem d_21_19 : m_dn M_21 19 (.putfield 19) 3 22 := by decide +kernel
theorem d_21_22 : m_dn M_21 22 (.return_) 1 23 := by decide +kernel
theorem d_21_4 : m_dn M_21 4 (.aload_n 0) 1 5 := by decide +kernel
theorem d_21_5 : m_dn M_21 5 (.iconst 0) 1 6 := by decide +kernel
theorem d_21_6 : m_dn M_21 6 (.putfield 11) 3 9 := by decide +kernel
theorem d_21_9 : m_dn M_21 9 (.aload_n 0) 1 10 := by decide +kernel
theorem d_22_0 : m_dn M_22 0 (.aload_n 0) 1 1 := by decide +kernel
theorem d_22_1 : m_dn M_22 1 (.getfield 114) 3 4 := by decide +kernel
theorem d_22_11 : m_dn M_22 11 (.aload_n 0) 1 12 := by decide +kernel
theorem d_22_12 : m_dn M_22 12 (.getfield 26) 3 15 := by decide +kernel
theorem d_22_15 : m_dn M_22 15 (.if_icmp .ge 27) 3 18 := by decide +kernel
theorem d_22_18 : m_dn M_22 18 (.aload_n 0) 1 19 := by decide +kernel
theorem d_22_19 : m_dn M_22 19 (.getfield 114) 3 22 := by decide +kernel
theorem d_22_22 : m_dn M_22 22 (.aload_n 0) 1 23 := by decide +kernel
theorem d_22_23 : m_dn M_22 23 (.getfield 11) 3 26 := by decide +kernel
theorem d_22_26 : m_dn M_22 26 (.arraylength) 1 27 := by decide +kernel
theorem d_22_27 : m_dn M_22 27 (.if_icmp .ge 15) 3 30 := by decide +kernel
theorem d_22_30 : m_dn M_22 30 (.aload_n 0) 1 31 := by decide +kernel
theorem d_22_31 : m_dn M_22 31 (.getfield 11) 3 34 := by decide +kernel
theorem d_22_34 : m_dn M_22 34 (.aload_n 0) 1 35 := by decide +kernel
theorem d_22_35 : m_dn M_22 35 (.getfield 114) 3 38 := by decide +kernel
theorem d_22_38 : m_dn M_22 38 (.caload) 1 39 := by decide +kernel
theorem d_22_39 : m_dn M_22 39 (.goto 4) 3 42 := by decide +kernel
theorem d_22_4 : m_dn M_22 4 (.ifCond .lt 38) 3 7 := by decide +kernel
theorem d_22_42 : m_dn M_22 42 (.iconst 0) 1 43 := by decide +kernel
theorem d_22_43 : m_dn M_22 43 (.ireturn) 1 44 := by decide +kernel
theorem d_22_7 : m_dn M_22 7 (.aload_n 0) 1 8 := by decide +kernel
theorem d_22_8 : m_dn M_22 8 (.getfield 114) 3 11 := by decide +kernel
theorem d_23_0 : m_dn M_23 0 (.iconst 0) 1 1 := by decide +kernel
theorem d_23_1 : m_dn M_23 1 (.istore_n 2) 1 2 := by decide +kernel
theorem d_23_10 : m_dn M_23 10 (.aload_n 0) 1 11 := by decide +kernel
theorem d_23_11 : m_dn M_23 11 (.aload_n 1) 1 12 := by decide +kernel
theorem d_23_12 : m_dn M_23 12 (.iload_n 2) 1 13 := by decide +kernel
theorem d_23_13 : m_dn M_23 13 (.invokevirtual 128) 3 16 := by decide +kernel
theorem d_23_16 : m_dn M_23 16 (.invokevirtual 62) 3 19 := by decide +kernel
theorem d_23_19 : m_dn M_23 19 (.ifCond .ne 5) 3 22 := by decide +kernel
theorem d_23_2 : m_dn M_23 2 (.iload_n 2) 1 3 := by decide +kernel
theorem d_23_22 : m_dn M_23 22 (.iconst 0) 1 23 := by decide +kernel
theorem d_23_23 : m_dn M_23 23 (.ireturn) 1 24 := by decide +kernel
theorem d_23_24 : m_dn M_23 24 (.iinc 2 1) 3 27 := by decide +kernel
theorem d_23_27 : m_dn M_23 27 (.goto (-25)) 3 30 := by decide +kernel
theorem d_23_3 : m_dn M_23 3 (.aload_n 1) 1 4 := by decide +kernel
theorem d_23_30 : m_dn M_23 30 (.iconst 1) 1 31 := by decide +kernel
theorem d_23_31 : m_dn M_23 31 (.ireturn) 1 32 := by decide +kernel
theorem d_23_4 : m_dn M_23 4 (.invokevirtual 124) 3 7 := by decide +kernel
theorem d_23_7 : m_dn M_23 7 (.if_icmp .ge 23) 3 10 := by decide +kernel
theorem d_35_0 : m_dn M_35 0 (.aload_n 0) 1 1 := by decide +kernel
theorem d_35_1 : m_dn M_35 1 (.invokevirtual 51) 3 4 := by decide +kernel
theorem d_35_10 : m_dn M_35 10 (.getfield 114) 3 13 := by decide +kernel
theorem d_35_13 : m_dn M_35 13 (.invokevirtual 120) 3 16 := by decide +kernel
theorem d_35_16 : m_dn M_35 16 (.ireturn) 1 17 := by decide +kernel
theorem d_35_17 : m_dn M_35 17 (.aload_n 0) 1 18 := by decide +kernel
theorem d_35_18 : m_dn M_35 18 (.dup) 1 19 := by decide +kernel
theorem d_35_19 : m_dn M_35 19 (.getfield 114) 3 22 := by decide +kernel
theorem d_35_22 : m_dn M_35 22 (.iconst 1) 1 23 := by decide +kernel
theorem d_35_23 : m_dn M_35 23 (.iadd) 1 24 := by decide +kernel
theorem d_35_24 : m_dn M_35 24 (.putfield 114) 3 27 := by decide +kernel
theorem d_35_27 : m_dn M_35 27 (.iconst 1) 1 28 := by decide +kernel
theorem d_35_28 : m_dn M_35 28 (.ireturn) 1 29 := by decide +kernel
theorem d_35_4 : m_dn M_35 4 (.iload_n 1) 1 5 := by decide +kernel
theorem d_35_5 : m_dn M_35 5 (.if_icmp .eq 12) 3 8 := by decide +kernel
theorem d_35_8 : m_dn M_35 8 (.aload_n 0) 1 9 := by decide +kernel
theorem d_35_9 : m_dn M_35 9 (.aload_n 0) 1 10 := by decide +kernel
theorem d_36_0 : m_dn M_36 0 (.aload_n 0) 1 1 := by decide +kernel
theorem d_36_1 : m_dn M_36 1 (.iload_n 1) 1 2 := by decide +kernel
theorem d_36_2 : m_dn M_36 2 (.putfield 15) 3 5 := by decide +kernel
theorem d_36_5 : m_dn M_36 5 (.iconst 0) 1 6 := by decide +kernel
theorem d_36_6 : m_dn M_36 6 (.ireturn) 1 7 := by decide +kernel
theorem d_37_0 : m_dn M_37 0 (.aload_n 0) 1 1 := by decide +kernel
theorem d_37_1 : m_dn M_37 1 (.bipush 47) 2 3 := by decide +kernel
theorem d_37_10 : m_dn M_37 10 (.bipush 31) 2 12 := by decide +kernel
theorem d_37_12 : m_dn M_37 12 (.invokevirtual 138) 3 15 := by decide +kernel
theorem d_37_15 : m_dn M_37 15 (.ifCond .ne 5) 3 18 := by decide +kernel
theorem d_37_18 : m_dn M_37 18 (.iconst 0) 1 19 := by decide +kernel
theorem d_37_19 : m_dn M_37 19 (.ireturn) 1 20 := by decide +kernel
theorem d_37_20 : m_dn M_37 20 (.aload_n 0) 1 21 := by decide +kernel
theorem d_37_21 : m_dn M_37 21 (.aload_n 0) 1 22 := by decide +kernel
theorem d_37_22 : m_dn M_37 22 (.getfield 132) 3 25 := by decide +kernel
theorem d_37_25 : m_dn M_37 25 (.putfield 69) 3 28 := by decide +kernel
theorem d_37_28 : m_dn M_37 28 (.aload_n 0) 1 29 := by decide +kernel
theorem d_37_29 : m_dn M_37 29 (.iconst 0) 1 30 := by decide +kernel
theorem d_37_3 : m_dn M_37 3 (.invokevirtual 62) 3 6 := by decide +kernel
theorem d_37_30 : m_dn M_37 30 (.putfield 99) 3 33 := by decide +kernel
theorem d_37_33 : m_dn M_37 33 (.iload_n 1) 1 34 := by decide +kernel
theorem d_37_34 : m_dn M_37 34 (.ifCond .eq 40) 3 37 := by decide +kernel
theorem d_37_37 : m_dn M_37 37 (.aload_n 0) 1 38 := by decide +kernel
theorem d_37_38 : m_dn M_37 38 (.invokevirtual 51) 3 41 := by decide +kernel
theorem d_37_41 : m_dn M_37 41 (.bipush 47) 2 43 := by decide +kernel
theorem d_37_43 : m_dn M_37 43 (.if_icmp .ne 31) 3 46 := by decide +kernel
theorem d_37_46 : m_dn M_37 46 (.aload_n 0) 1 47 := by decide +kernel
theorem d_37_47 : m_dn M_37 47 (.dup) 1 48 := by decide +kernel
theorem d_37_48 : m_dn M_37 48 (.getfield 114) 3 51 := by decide +kernel
theorem d_37_51 : m_dn M_37 51 (.iconst 1) 1 52 := by decide +kernel
theorem d_37_52 : m_dn M_37 52 (.iadd) 1 53 := by decide +kernel
theorem d_37_53 : m_dn M_37 53 (.putfield 114) 3 56 := by decide +kernel
theorem d_37_56 : m_dn M_37 56 (.aload_n 0) 1 57 := by decide +kernel
theorem d_37_57 : m_dn M_37 57 (.iconst 3) 1 58 := by decide +kernel
theorem d_37_58 : m_dn M_37 58 (.invokevirtual 138) 3 61 := by decide +kernel
theorem d_37_6 : m_dn M_37 6 (.ifCond .eq 12) 3 9 := by decide +kernel
theorem d_37_61 : m_dn M_37 61 (.ifCond .ne 5) 3 64 := by decide +kernel
theorem d_37_64 : m_dn M_37 64 (.iconst 0) 1 65 := by decide +kernel
theorem d_37_65 : m_dn M_37 65 (.ireturn) 1 66 := by decide +kernel
theorem d_37_66 : m_dn M_37 66 (.aload_n 0) 1 67 := by decide +kernel
theorem d_37_67 : m_dn M_37 67 (.aload_n 0) 1 68 := by decide +kernel
theorem d_37_68 : m_dn M_37 68 (.getfield 132) 3 71 := by decide +kernel
theorem d_37_71 : m_dn M_37 71 (.putfield 99) 3 74 := by decide +kernel
theorem d_37_74 : m_dn M_37 74 (.aload_n 0) 1 75 := by decide +kernel
theorem d_37_75 : m_dn M_37 75 (.bipush 10) 2 77 := by decide +kernel
theorem d_37_77 : m_dn M_37 77 (.invokevirtual 62) 3 80 := by decide +kernel
theorem d_37_80 : m_dn M_37 80 (.ireturn) 1 81 := by decide +kernel
theorem d_37_9 : m_dn M_37 9 (.aload_n 0) 1 10 := by decide +kernel
theorem d_38_0 : m_dn M_38 0 (.aload_n 0) 1 1 := by decide +kernel
theorem d_38_1 : m_dn M_38 1 (.getfield 114) 3 4 := by decide +kernel
theorem d_38_10 : m_dn M_38 10 (.iconst 0) 1 11 := by decide +kernel
theorem d_38_100 : m_dn M_38 100 (.ifCond .eq 14) 3 103 := by decide +kernel
theorem d_38_103 : m_dn M_38 103 (.aload_n 0) 1 104 := by decide +kernel
theorem d_38_104 : m_dn M_38 104 (.aload_n 0) 1 105 := by decide +kernel
theorem d_38_105 : m_dn M_38 105 (.getfield 114) 3 108 := by decide +kernel
theorem d_38_108 : m_dn M_38 108 (.invokevirtual 120) 3 111 := by decide +kernel
theorem d_38_11 : m_dn M_38 11 (.istore_n 3) 1 12 := by decide +kernel
theorem d_38_111 : m_dn M_38 111 (.ifCond .eq 7) 3 114 := by decide +kernel
theorem d_38_114 : m_dn M_38 114 (.iconst 1) 1 115 := by decide +kernel
theorem d_38_115 : m_dn M_38 115 (.goto 4) 3 118 := by decide +kernel
theorem d_38_118 : m_dn M_38 118 (.iconst 0) 1 119 := by decide +kernel
theorem d_38_119 : m_dn M_38 119 (.ireturn) 1 120 := by decide +kernel
theorem d_38_12 : m_dn M_38 12 (.iload_n 3) 1 13 := by decide +kernel
theorem d_38_13 : m_dn M_38 13 (.iconst 5) 1 14 := by decide +kernel
theorem d_38_14 : m_dn M_38 14 (.if_icmp .ge 48) 3 17 := by decide +kernel
theorem d_38_17 : m_dn M_38 17 (.aload_n 0) 1 18 := by decide +kernel
theorem d_38_18 : m_dn M_38 18 (.invokevirtual 51) 3 21 := by decide +kernel
theorem d_38_21 : m_dn M_38 21 (.invokestatic 135) 3 24 := by decide +kernel
theorem d_38_24 : m_dn M_38 24 (.ifCond .eq 38) 3 27 := by decide +kernel
theorem d_38_27 : m_dn M_38 27 (.aload_n 0) 1 28 := by decide +kernel
theorem d_38_28 : m_dn M_38 28 (.bipush 10) 2 30 := by decide +kernel
theorem d_38_30 : m_dn M_38 30 (.aload_n 0) 1 31 := by decide +kernel
theorem d_38_31 : m_dn M_38 31 (.getfield 132) 3 34 := by decide +kernel
theorem d_38_34 : m_dn M_38 34 (.imul) 1 35 := by decide +kernel
theorem d_38_35 : m_dn M_38 35 (.aload_n 0) 1 36 := by decide +kernel
theorem d_38_36 : m_dn M_38 36 (.invokevirtual 51) 3 39 := by decide +kernel
theorem d_38_39 : m_dn M_38 39 (.bipush 48) 2 41 := by decide +kernel
theorem d_38_4 : m_dn M_38 4 (.istore_n 2) 1 5 := by decide +kernel
theorem d_38_41 : m_dn M_38 41 (.isub) 1 42 := by decide +kernel
theorem d_38_42 : m_dn M_38 42 (.iadd) 1 43 := by decide +kernel
theorem d_38_43 : m_dn M_38 43 (.putfield 132) 3 46 := by decide +kernel
theorem d_38_46 : m_dn M_38 46 (.aload_n 0) 1 47 := by decide +kernel
theorem d_38_47 : m_dn M_38 47 (.dup) 1 48 := by decide +kernel
theorem d_38_48 : m_dn M_38 48 (.getfield 114) 3 51 := by decide +kernel
theorem d_38_5 : m_dn M_38 5 (.aload_n 0) 1 6 := by decide +kernel
theorem d_38_51 : m_dn M_38 51 (.iconst 1) 1 52 := by decide +kernel
theorem d_38_52 : m_dn M_38 52 (.iadd) 1 53 := by decide +kernel
theorem d_38_53 : m_dn M_38 53 (.putfield 114) 3 56 := by decide +kernel
theorem d_38_56 : m_dn M_38 56 (.iinc 3 1) 3 59 := by decide +kernel
theorem d_38_59 : m_dn M_38 59 (.goto (-47)) 3 62 := by decide +kernel
theorem d_38_6 : m_dn M_38 6 (.iconst 0) 1 7 := by decide +kernel
theorem d_38_62 : m_dn M_38 62 (.aload_n 0) 1 63 := by decide +kernel
theorem d_38_63 : m_dn M_38 63 (.getfield 114) 3 66 := by decide +kernel
theorem d_38_66 : m_dn M_38 66 (.iload_n 2) 1 67 := by decide +kernel
theorem d_38_67 : m_dn M_38 67 (.if_icmp .ne 12) 3 70 := by decide +kernel
theorem d_38_7 : m_dn M_38 7 (.putfield 132) 3 10 := by decide +kernel
theorem d_38_70 : m_dn M_38 70 (.aload_n 0) 1 71 := by decide +kernel
theorem d_38_71 : m_dn M_38 71 (.aload_n 0) 1 72 := by decide +kernel
theorem d_38_72 : m_dn M_38 72 (.getfield 114) 3 75 := by decide +kernel
theorem d_38_75 : m_dn M_38 75 (.invokevirtual 120) 3 78 := by decide +kernel
theorem d_38_78 : m_dn M_38 78 (.ireturn) 1 79 := by decide +kernel
theorem d_38_79 : m_dn M_38 79 (.aload_n 0) 1 80 := by decide +kernel
theorem d_38_80 : m_dn M_38 80 (.getfield 132) 3 83 := by decide +kernel
theorem d_38_83 : m_dn M_38 83 (.iload_n 1) 1 84 := by decide +kernel
theorem d_38_84 : m_dn M_38 84 (.if_icmp .le 9) 3 87 := by decide +kernel
theorem d_38_87 : m_dn M_38 87 (.aload_n 0) 1 88 := by decide +kernel
theorem d_38_88 : m_dn M_38 88 (.iload_n 2) 1 89 := by decide +kernel
theorem d_38_89 : m_dn M_38 89 (.invokevirtual 120) 3 92 := by decide +kernel
theorem d_38_92 : m_dn M_38 92 (.ireturn) 1 93 := by decide +kernel
theorem d_38_93 : m_dn M_38 93 (.aload_n 0) 1 94 := by decide +kernel
theorem d_38_94 : m_dn M_38 94 (.invokevirtual 51) 3 97 := by decide +kernel
theorem d_38_97 : m_dn M_38 97 (.invokestatic 135) 3 100 := by decide +kernel
theorem d_39_0 : m_dn M_39 0 (.iload_n 0) 1 1 := by decide +kernel
theorem d_39_1 : m_dn M_39 1 (.bipush 48) 2 3 := by decide +kernel
theorem d_39_12 : m_dn M_39 12 (.iconst 1) 1 13 := by decide +kernel
theorem d_39_13 : m_dn M_39 13 (.goto 4) 3 16 := by decide +kernel
theorem d_39_16 : m_dn M_39 16 (.iconst 0) 1 17 := by decide +kernel
theorem d_39_17 : m_dn M_39 17 (.ireturn) 1 18 := by decide +kernel
theorem d_39_3 : m_dn M_39 3 (.if_icmp .lt 13) 3 6 := by decide +kernel
theorem d_39_6 : m_dn M_39 6 (.iload_n 0) 1 7 := by decide +kernel
theorem d_39_7 : m_dn M_39 7 (.bipush 57) 2 9 := by decide +kernel
theorem d_39_9 : m_dn M_39 9 (.if_icmp .gt 7) 3 12 := by decide +kernel
theorem d_40_0 : m_dn M_40 0 (.aload_n 0) 1 1 := by decide +kernel
theorem d_40_1 : m_dn M_40 1 (.aload_n 0) 1 2 := by decide +kernel
theorem d_40_100 : m_dn M_40 100 (.aload_n 0) 1 101 := by decide +kernel
theorem d_40_101 : m_dn M_40 101 (.aload_n 0) 1 102 := by decide +kernel
theorem d_40_102 : m_dn M_40 102 (.getfield 141) 3 105 := by decide +kernel
theorem d_40_105 : m_dn M_40 105 (.invokevirtual 120) 3 108 := by decide +kernel
theorem d_40_108 : m_dn M_40 108 (.ireturn) 1 109 := by decide +kernel
theorem d_40_109 : m_dn M_40 109 (.aload_n 0) 1 110 := by decide +kernel
theorem d_40_110 : m_dn M_40 110 (.getfield 19) 3 113 := by decide +kernel
theorem d_40_113 : m_dn M_40 113 (.aload_n 0) 1 114 := by decide +kernel
theorem d_40_114 : m_dn M_40 114 (.getfield 117) 3 117 := by decide +kernel
theorem d_40_117 : m_dn M_40 117 (.aload_n 0) 1 118 := by decide +kernel
theorem d_40_118 : m_dn M_40 118 (.getfield 141) 3 121 := by decide +kernel
theorem d_40_12 : m_dn M_40 12 (.aload_n 0) 1 13 := by decide +kernel
theorem d_40_121 : m_dn M_40 121 (.iastore) 1 122 := by decide +kernel
theorem d_40_122 : m_dn M_40 122 (.aload_n 0) 1 123 := by decide +kernel
theorem d_40_123 : m_dn M_40 123 (.dup) 1 124 := by decide +kernel
theorem d_40_124 : m_dn M_40 124 (.getfield 117) 3 127 := by decide +kernel
theorem d_40_127 : m_dn M_40 127 (.iconst 1) 1 128 := by decide +kernel
theorem d_40_128 : m_dn M_40 128 (.iadd) 1 129 := by decide +kernel
theorem d_40_129 : m_dn M_40 129 (.putfield 117) 3 132 := by decide +kernel
theorem d_40_13 : m_dn M_40 13 (.aload_n 0) 1 14 := by decide +kernel
theorem d_40_132 : m_dn M_40 132 (.aload_n 0) 1 133 := by decide +kernel
theorem d_40_133 : m_dn M_40 133 (.dup) 1 134 := by decide +kernel
theorem d_40_134 : m_dn M_40 134 (.getfield 114) 3 137 := by decide +kernel
theorem d_40_137 : m_dn M_40 137 (.iconst 1) 1 138 := by decide +kernel
theorem d_40_138 : m_dn M_40 138 (.iadd) 1 139 := by decide +kernel
theorem d_40_139 : m_dn M_40 139 (.putfield 114) 3 142 := by decide +kernel
theorem d_40_14 : m_dn M_40 14 (.getfield 114) 3 17 := by decide +kernel
theorem d_40_142 : m_dn M_40 142 (.aload_n 0) 1 143 := by decide +kernel
theorem d_40_143 : m_dn M_40 143 (.invokevirtual 51) 3 146 := by decide +kernel
theorem d_40_146 : m_dn M_40 146 (.bipush 32) 2 148 := by decide +kernel
theorem d_40_148 : m_dn M_40 148 (.if_icmp .ne 13) 3 151 := by decide +kernel
theorem d_40_151 : m_dn M_40 151 (.aload_n 0) 1 152 := by decide +kernel
theorem d_40_152 : m_dn M_40 152 (.dup) 1 153 := by decide +kernel
theorem d_40_153 : m_dn M_40 153 (.getfield 114) 3 156 := by decide +kernel
theorem d_40_156 : m_dn M_40 156 (.iconst 1) 1 157 := by decide +kernel
theorem d_40_157 : m_dn M_40 157 (.iadd) 1 158 := by decide +kernel
theorem d_40_158 : m_dn M_40 158 (.putfield 114) 3 161 := by decide +kernel
theorem d_40_161 : m_dn M_40 161 (.iconst 1) 1 162 := by decide +kernel
theorem d_40_162 : m_dn M_40 162 (.ireturn) 1 163 := by decide +kernel
theorem d_40_17 : m_dn M_40 17 (.putfield 147) 3 20 := by decide +kernel
theorem d_40_2 : m_dn M_40 2 (.getfield 114) 3 5 := by decide +kernel
theorem d_40_20 : m_dn M_40 20 (.aload_n 0) 1 21 := by decide +kernel
theorem d_40_21 : m_dn M_40 21 (.getfield 114) 3 24 := by decide +kernel
theorem d_40_24 : m_dn M_40 24 (.aload_n 0) 1 25 := by decide +kernel
theorem d_40_25 : m_dn M_40 25 (.getfield 141) 3 28 := by decide +kernel
theorem d_40_28 : m_dn M_40 28 (.if_icmp .ne 12) 3 31 := by decide +kernel
theorem d_40_31 : m_dn M_40 31 (.aload_n 0) 1 32 := by decide +kernel
theorem d_40_32 : m_dn M_40 32 (.aload_n 0) 1 33 := by decide +kernel
theorem d_40_33 : m_dn M_40 33 (.getfield 114) 3 36 := by decide +kernel
theorem d_40_36 : m_dn M_40 36 (.invokevirtual 120) 3 39 := by decide +kernel
theorem d_40_39 : m_dn M_40 39 (.ireturn) 1 40 := by decide +kernel
theorem d_40_40 : m_dn M_40 40 (.aload_n 0) 1 41 := by decide +kernel
theorem d_40_41 : m_dn M_40 41 (.getfield 114) 3 44 := by decide +kernel
theorem d_40_44 : m_dn M_40 44 (.aload_n 0) 1 45 := by decide +kernel
theorem d_40_45 : m_dn M_40 45 (.getfield 141) 3 48 := by decide +kernel
theorem d_40_48 : m_dn M_40 48 (.isub) 1 49 := by decide +kernel
theorem d_40_49 : m_dn M_40 49 (.bipush 20) 2 51 := by decide +kernel
theorem d_40_5 : m_dn M_40 5 (.putfield 141) 3 8 := by decide +kernel
theorem d_40_51 : m_dn M_40 51 (.if_icmp .le 12) 3 54 := by decide +kernel
theorem d_40_54 : m_dn M_40 54 (.aload_n 0) 1 55 := by decide +kernel
theorem d_40_55 : m_dn M_40 55 (.aload_n 0) 1 56 := by decide +kernel
theorem d_40_56 : m_dn M_40 56 (.getfield 141) 3 59 := by decide +kernel
theorem d_40_59 : m_dn M_40 59 (.invokevirtual 120) 3 62 := by decide +kernel
theorem d_40_62 : m_dn M_40 62 (.ireturn) 1 63 := by decide +kernel
theorem d_40_63 : m_dn M_40 63 (.aload_n 0) 1 64 := by decide +kernel
theorem d_40_64 : m_dn M_40 64 (.invokevirtual 51) 3 67 := by decide +kernel
theorem d_40_67 : m_dn M_40 67 (.bipush 58) 2 69 := by decide +kernel
theorem d_40_69 : m_dn M_40 69 (.if_icmp .eq 12) 3 72 := by decide +kernel
theorem d_40_72 : m_dn M_40 72 (.aload_n 0) 1 73 := by decide +kernel
theorem d_40_73 : m_dn M_40 73 (.aload_n 0) 1 74 := by decide +kernel
theorem d_40_74 : m_dn M_40 74 (.getfield 114) 3 77 := by decide +kernel
theorem d_40_77 : m_dn M_40 77 (.invokevirtual 120) 3 80 := by decide +kernel
theorem d_40_8 : m_dn M_40 8 (.aload_n 0) 1 9 := by decide +kernel
theorem d_40_80 : m_dn M_40 80 (.ireturn) 1 81 := by decide +kernel
theorem d_40_81 : m_dn M_40 81 (.aload_n 0) 1 82 := by decide +kernel
theorem d_40_82 : m_dn M_40 82 (.invokevirtual 150) 3 85 := by decide +kernel
theorem d_40_85 : m_dn M_40 85 (.ifCond .ne 15) 3 88 := by decide +kernel
theorem d_40_88 : m_dn M_40 88 (.aload_n 0) 1 89 := by decide +kernel
theorem d_40_89 : m_dn M_40 89 (.getfield 117) 3 92 := by decide +kernel
theorem d_40_9 : m_dn M_40 9 (.invokevirtual 144) 3 12 := by decide +kernel
theorem d_40_92 : m_dn M_40 92 (.aload_n 0) 1 93 := by decide +kernel
theorem d_40_93 : m_dn M_40 93 (.getfield 19) 3 96 := by decide +kernel
theorem d_40_96 : m_dn M_40 96 (.arraylength) 1 97 := by decide +kernel
theorem d_40_97 : m_dn M_40 97 (.if_icmp .lt 12) 3 100 := by decide +kernel
theorem d_41_0 : m_dn M_41 0 (.aload_n 0) 1 1 := by decide +kernel
theorem d_41_1 : m_dn M_41 1 (.getfield 114) 3 4 := by decide +kernel
theorem d_41_11 : m_dn M_41 11 (.aload_n 0) 1 12 := by decide +kernel
theorem d_41_12 : m_dn M_41 12 (.invokevirtual 51) 3 15 := by decide +kernel
theorem d_41_15 : m_dn M_41 15 (.bipush 45) 2 17 := by decide +kernel
theorem d_41_17 : m_dn M_41 17 (.if_icmp .eq 21) 3 20 := by decide +kernel
theorem d_41_20 : m_dn M_41 20 (.aload_n 0) 1 21 := by decide +kernel
theorem d_41_21 : m_dn M_41 21 (.invokevirtual 51) 3 24 := by decide +kernel
theorem d_41_24 : m_dn M_41 24 (.bipush 97) 2 26 := by decide +kernel
theorem d_41_26 : m_dn M_41 26 (.if_icmp .lt 25) 3 29 := by decide +kernel
theorem d_41_29 : m_dn M_41 29 (.aload_n 0) 1 30 := by decide +kernel
theorem d_41_30 : m_dn M_41 30 (.invokevirtual 51) 3 33 := by decide +kernel
theorem d_41_33 : m_dn M_41 33 (.bipush 122) 2 35 := by decide +kernel
theorem d_41_35 : m_dn M_41 35 (.if_icmp .gt 16) 3 38 := by decide +kernel
theorem d_41_38 : m_dn M_41 38 (.aload_n 0) 1 39 := by decide +kernel
theorem d_41_39 : m_dn M_41 39 (.dup) 1 40 := by decide +kernel
theorem d_41_4 : m_dn M_41 4 (.aload_n 0) 1 5 := by decide +kernel
theorem d_41_40 : m_dn M_41 40 (.getfield 114) 3 43 := by decide +kernel
theorem d_41_43 : m_dn M_41 43 (.iconst 1) 1 44 := by decide +kernel
theorem d_41_44 : m_dn M_41 44 (.iadd) 1 45 := by decide +kernel
theorem d_41_45 : m_dn M_41 45 (.putfield 114) 3 48 := by decide +kernel
theorem d_41_48 : m_dn M_41 48 (.goto (-48)) 3 51 := by decide +kernel
theorem d_41_5 : m_dn M_41 5 (.getfield 26) 3 8 := by decide +kernel
theorem d_41_51 : m_dn M_41 51 (.return_) 1 52 := by decide +kernel
theorem d_41_8 : m_dn M_41 8 (.if_icmp .ge 43) 3 11 := by decide +kernel
theorem d_42_0 : m_dn M_42 0 (.iconst 0) 1 1 := by decide +kernel
theorem d_42_1 : m_dn M_42 1 (.istore_n 1) 1 2 := by decide +kernel
theorem d_42_10 : m_dn M_42 10 (.aload_n 0) 1 11 := by decide +kernel
theorem d_42_11 : m_dn M_42 11 (.aload_n 0) 1 12 := by decide +kernel
theorem d_42_12 : m_dn M_42 12 (.getfield 19) 3 15 := by decide +kernel
theorem d_42_15 : m_dn M_42 15 (.iload_n 1) 1 16 := by decide +kernel
theorem d_42_16 : m_dn M_42 16 (.iaload) 1 17 := by decide +kernel
theorem d_42_17 : m_dn M_42 17 (.aload_n 0) 1 18 := by decide +kernel
theorem d_42_18 : m_dn M_42 18 (.getfield 141) 3 21 := by decide +kernel
theorem d_42_2 : m_dn M_42 2 (.iload_n 1) 1 3 := by decide +kernel
theorem d_42_21 : m_dn M_42 21 (.aload_n 0) 1 22 := by decide +kernel
theorem d_42_22 : m_dn M_42 22 (.getfield 147) 3 25 := by decide +kernel
theorem d_42_25 : m_dn M_42 25 (.aload_n 0) 1 26 := by decide +kernel
theorem d_42_26 : m_dn M_42 26 (.getfield 141) 3 29 := by decide +kernel
theorem d_42_29 : m_dn M_42 29 (.isub) 1 30 := by decide +kernel
theorem d_42_3 : m_dn M_42 3 (.aload_n 0) 1 4 := by decide +kernel
theorem d_42_30 : m_dn M_42 30 (.invokevirtual 153) 3 33 := by decide +kernel
theorem d_42_33 : m_dn M_42 33 (.ifCond .eq 5) 3 36 := by decide +kernel
theorem d_42_36 : m_dn M_42 36 (.iconst 1) 1 37 := by decide +kernel
theorem d_42_37 : m_dn M_42 37 (.ireturn) 1 38 := by decide +kernel
theorem d_42_38 : m_dn M_42 38 (.iinc 1 1) 3 41 := by decide +kernel
theorem d_42_4 : m_dn M_42 4 (.getfield 117) 3 7 := by decide +kernel
theorem d_42_41 : m_dn M_42 41 (.goto (-39)) 3 44 := by decide +kernel
theorem d_42_44 : m_dn M_42 44 (.iconst 0) 1 45 := by decide +kernel
theorem d_42_45 : m_dn M_42 45 (.ireturn) 1 46 := by decide +kernel
theorem d_42_7 : m_dn M_42 7 (.if_icmp .ge 37) 3 10 := by decide +kernel
theorem d_43_0 : m_dn M_43 0 (.iconst 0) 1 1 := by decide +kernel
theorem d_43_1 : m_dn M_43 1 (.istore 4) 2 3 := by decide +kernel
theorem d_43_10 : m_dn M_43 10 (.iload 4) 2 12 := by decide +kernel
theorem d_43_12 : m_dn M_43 12 (.iadd) 1 13 := by decide +kernel
theorem d_43_13 : m_dn M_43 13 (.aload_n 0) 1 14 := by decide +kernel
theorem d_43_14 : m_dn M_43 14 (.getfield 26) 3 17 := by decide +kernel
theorem d_43_17 : m_dn M_43 17 (.if_icmp .ge 35) 3 20 := by decide +kernel
theorem d_43_20 : m_dn M_43 20 (.iload_n 2) 1 21 := by decide +kernel
theorem d_43_21 : m_dn M_43 21 (.iload 4) 2 23 := by decide +kernel
theorem d_43_23 : m_dn M_43 23 (.iadd) 1 24 := by decide +kernel
theorem d_43_24 : m_dn M_43 24 (.aload_n 0) 1 25 := by decide +kernel
theorem d_43_25 : m_dn M_43 25 (.getfield 26) 3 28 := by decide +kernel
theorem d_43_28 : m_dn M_43 28 (.if_icmp .ge 24) 3 31 := by decide +kernel
theorem d_43_3 : m_dn M_43 3 (.iload 4) 2 5 := by decide +kernel
theorem d_43_31 : m_dn M_43 31 (.aload_n 0) 1 32 := by decide +kernel
theorem d_43_32 : m_dn M_43 32 (.getfield 11) 3 35 := by decide +kernel
theorem d_43_35 : m_dn M_43 35 (.iload_n 1) 1 36 := by decide +kernel
theorem d_43_36 : m_dn M_43 36 (.iload 4) 2 38 := by decide +kernel
theorem d_43_38 : m_dn M_43 38 (.iadd) 1 39 := by decide +kernel
theorem d_43_39 : m_dn M_43 39 (.caload) 1 40 := by decide +kernel
theorem d_43_40 : m_dn M_43 40 (.aload_n 0) 1 41 := by decide +kernel
theorem d_43_41 : m_dn M_43 41 (.getfield 11) 3 44 := by decide +kernel
theorem d_43_44 : m_dn M_43 44 (.iload_n 2) 1 45 := by decide +kernel
theorem d_43_45 : m_dn M_43 45 (.iload 4) 2 47 := by decide +kernel
theorem d_43_47 : m_dn M_43 47 (.iadd) 1 48 := by decide +kernel
theorem d_43_48 : m_dn M_43 48 (.caload) 1 49 := by decide +kernel
theorem d_43_49 : m_dn M_43 49 (.if_icmp .eq 5) 3 52 := by decide +kernel
theorem d_43_5 : m_dn M_43 5 (.iload_n 3) 1 6 := by decide +kernel
theorem d_43_52 : m_dn M_43 52 (.iconst 0) 1 53 := by decide +kernel
theorem d_43_53 : m_dn M_43 53 (.ireturn) 1 54 := by decide +kernel
theorem d_43_54 : m_dn M_43 54 (.iinc 4 1) 3 57 := by decide +kernel
theorem d_43_57 : m_dn M_43 57 (.goto (-54)) 3 60 := by decide +kernel
theorem d_43_6 : m_dn M_43 6 (.if_icmp .gt 54) 3 9 := by decide +kernel
theorem d_43_60 : m_dn M_43 60 (.iconst 1) 1 61 := by decide +kernel
theorem d_43_61 : m_dn M_43 61 (.ireturn) 1 62 := by decide +kernel
theorem d_43_9 : m_dn M_43 9 (.iload_n 1) 1 10 := by decide +kernel
theorem d_44_0 : m_dn M_44 0 (.aload_n 0) 1 1 := by decide +kernel
theorem d_44_1 : m_dn M_44 1 (.ldc 177) 2 3 := by decide +kernel
theorem d_44_10 : m_dn M_44 10 (.invokevirtual 179) 3 13 := by decide +kernel
theorem d_44_101 : m_dn M_44 101 (.invokevirtual 158) 3 104 := by decide +kernel
theorem d_44_104 : m_dn M_44 104 (.ifCond .eq 9) 3 107 := by decide +kernel
theorem d_44_107 : m_dn M_44 107 (.aload_n 0) 1 108 := by decide +kernel
theorem d_44_108 : m_dn M_44 108 (.iconst 1) 1 109 := by decide +kernel
theorem d_44_109 : m_dn M_44 109 (.invokevirtual 164) 3 112 := by decide +kernel
theorem d_44_112 : m_dn M_44 112 (.ireturn) 1 113 := by decide +kernel
theorem d_44_113 : m_dn M_44 113 (.aload_n 0) 1 114 := by decide +kernel
theorem d_44_114 : m_dn M_44 114 (.ldc 162) 2 116 := by decide +kernel
theorem d_44_116 : m_dn M_44 116 (.invokevirtual 158) 3 119 := by decide +kernel
theorem d_44_119 : m_dn M_44 119 (.ifCond .eq 9) 3 122 := by decide +kernel
theorem d_44_122 : m_dn M_44 122 (.aload_n 0) 1 123 := by decide +kernel
theorem d_44_123 : m_dn M_44 123 (.iconst 2) 1 124 := by decide +kernel
theorem d_44_124 : m_dn M_44 124 (.invokevirtual 164) 3 127 := by decide +kernel
theorem d_44_127 : m_dn M_44 127 (.ireturn) 1 128 := by decide +kernel
theorem d_44_128 : m_dn M_44 128 (.aload_n 0) 1 129 := by decide +kernel
theorem d_44_129 : m_dn M_44 129 (.invokevirtual 174) 3 132 := by decide +kernel
theorem d_44_13 : m_dn M_44 13 (.ireturn) 1 14 := by decide +kernel
theorem d_44_132 : m_dn M_44 132 (.ireturn) 1 133 := by decide +kernel
theorem d_44_14 : m_dn M_44 14 (.aload_n 0) 1 15 := by decide +kernel
theorem d_44_15 : m_dn M_44 15 (.ldc 182) 2 17 := by decide +kernel
theorem d_44_17 : m_dn M_44 17 (.invokevirtual 158) 3 20 := by decide +kernel
theorem d_44_20 : m_dn M_44 20 (.ifCond .eq 8) 3 23 := by decide +kernel
theorem d_44_23 : m_dn M_44 23 (.aload_n 0) 1 24 := by decide +kernel
theorem d_44_24 : m_dn M_44 24 (.invokevirtual 184) 3 27 := by decide +kernel
theorem d_44_27 : m_dn M_44 27 (.ireturn) 1 28 := by decide +kernel
theorem d_44_28 : m_dn M_44 28 (.aload_n 0) 1 29 := by decide +kernel
theorem d_44_29 : m_dn M_44 29 (.ldc 187) 2 31 := by decide +kernel
theorem d_44_3 : m_dn M_44 3 (.invokevirtual 158) 3 6 := by decide +kernel
theorem d_44_31 : m_dn M_44 31 (.invokevirtual 158) 3 34 := by decide +kernel
theorem d_44_34 : m_dn M_44 34 (.ifCond .eq 49) 3 37 := by decide +kernel
theorem d_44_37 : m_dn M_44 37 (.aload_n 0) 1 38 := by decide +kernel
theorem d_44_38 : m_dn M_44 38 (.bipush 34) 2 40 := by decide +kernel
theorem d_44_40 : m_dn M_44 40 (.invokevirtual 62) 3 43 := by decide +kernel
theorem d_44_43 : m_dn M_44 43 (.ifCond .eq 25) 3 46 := by decide +kernel
theorem d_44_46 : m_dn M_44 46 (.aload_n 0) 1 47 := by decide +kernel
theorem d_44_47 : m_dn M_44 47 (.ldc 189) 2 49 := by decide +kernel
theorem d_44_49 : m_dn M_44 49 (.invokevirtual 138) 3 52 := by decide +kernel
theorem d_44_52 : m_dn M_44 52 (.ifCond .eq 16) 3 55 := by decide +kernel
theorem d_44_55 : m_dn M_44 55 (.aload_n 0) 1 56 := by decide +kernel
theorem d_44_56 : m_dn M_44 56 (.bipush 34) 2 58 := by decide +kernel
theorem d_44_58 : m_dn M_44 58 (.invokevirtual 62) 3 61 := by decide +kernel
theorem d_44_6 : m_dn M_44 6 (.ifCond .eq 8) 3 9 := by decide +kernel
theorem d_44_61 : m_dn M_44 61 (.ifCond .eq 7) 3 64 := by decide +kernel
theorem d_44_64 : m_dn M_44 64 (.iconst 1) 1 65 := by decide +kernel
theorem d_44_65 : m_dn M_44 65 (.goto 4) 3 68 := by decide +kernel
theorem d_44_68 : m_dn M_44 68 (.iconst 0) 1 69 := by decide +kernel
theorem d_44_69 : m_dn M_44 69 (.istore_n 1) 1 70 := by decide +kernel
theorem d_44_70 : m_dn M_44 70 (.aload_n 0) 1 71 := by decide +kernel
theorem d_44_71 : m_dn M_44 71 (.getfield 83) 3 74 := by decide +kernel
theorem d_44_74 : m_dn M_44 74 (.aload_n 0) 1 75 := by decide +kernel
theorem d_44_75 : m_dn M_44 75 (.getfield 132) 3 78 := by decide +kernel
theorem d_44_78 : m_dn M_44 78 (.putfield 190) 3 81 := by decide +kernel
theorem d_44_81 : m_dn M_44 81 (.iload_n 1) 1 82 := by decide +kernel
theorem d_44_82 : m_dn M_44 82 (.ireturn) 1 83 := by decide +kernel
theorem d_44_83 : m_dn M_44 83 (.aload_n 0) 1 84 := by decide +kernel
theorem d_44_84 : m_dn M_44 84 (.ldc 193) 2 86 := by decide +kernel
theorem d_44_86 : m_dn M_44 86 (.invokevirtual 158) 3 89 := by decide +kernel
theorem d_44_89 : m_dn M_44 89 (.ifCond .eq 9) 3 92 := by decide +kernel
theorem d_44_9 : m_dn M_44 9 (.aload_n 0) 1 10 := by decide +kernel
theorem d_44_92 : m_dn M_44 92 (.aload_n 0) 1 93 := by decide +kernel
theorem d_44_93 : m_dn M_44 93 (.iconst 0) 1 94 := by decide +kernel
theorem d_44_94 : m_dn M_44 94 (.invokevirtual 164) 3 97 := by decide +kernel
theorem d_44_97 : m_dn M_44 97 (.ireturn) 1 98 := by decide +kernel
theorem d_44_98 : m_dn M_44 98 (.aload_n 0) 1 99 := by decide +kernel
theorem d_44_99 : m_dn M_44 99 (.ldc 195) 2 101 := by decide +kernel
theorem d_45_0 : m_dn M_45 0 (.aload_n 0) 1 1 := by decide +kernel
theorem d_45_1 : m_dn M_45 1 (.getfield 147) 3 4 := by decide +kernel
theorem d_45_10 : m_dn M_45 10 (.invokevirtual 124) 3 13 := by decide +kernel
theorem d_45_13 : m_dn M_45 13 (.if_icmp .ne 22) 3 16 := by decide +kernel
theorem d_45_16 : m_dn M_45 16 (.aload_n 0) 1 17 := by decide +kernel
theorem d_45_17 : m_dn M_45 17 (.getfield 141) 3 20 := by decide +kernel
theorem d_45_20 : m_dn M_45 20 (.ifCond .lt 15) 3 23 := by decide +kernel
theorem d_45_23 : m_dn M_45 23 (.aload_n 0) 1 24 := by decide +kernel
theorem d_45_24 : m_dn M_45 24 (.getfield 147) 3 27 := by decide +kernel
theorem d_45_27 : m_dn M_45 27 (.aload_n 0) 1 28 := by decide +kernel
theorem d_45_28 : m_dn M_45 28 (.getfield 11) 3 31 := by decide +kernel
theorem d_45_31 : m_dn M_45 31 (.arraylength) 1 32 := by decide +kernel
theorem d_45_32 : m_dn M_45 32 (.if_icmp .le 5) 3 35 := by decide +kernel
theorem d_45_35 : m_dn M_45 35 (.iconst 0) 1 36 := by decide +kernel
theorem d_45_36 : m_dn M_45 36 (.ireturn) 1 37 := by decide +kernel
theorem d_45_37 : m_dn M_45 37 (.iconst 0) 1 38 := by decide +kernel
theorem d_45_38 : m_dn M_45 38 (.istore_n 2) 1 39 := by decide +kernel
theorem d_45_39 : m_dn M_45 39 (.iload_n 2) 1 40 := by decide +kernel
theorem d_45_4 : m_dn M_45 4 (.aload_n 0) 1 5 := by decide +kernel
theorem d_45_40 : m_dn M_45 40 (.aload_n 1) 1 41 := by decide +kernel
theorem d_45_41 : m_dn M_45 41 (.invokevirtual 124) 3 44 := by decide +kernel
theorem d_45_44 : m_dn M_45 44 (.if_icmp .ge 30) 3 47 := by decide +kernel
theorem d_45_47 : m_dn M_45 47 (.aload_n 0) 1 48 := by decide +kernel
theorem d_45_48 : m_dn M_45 48 (.getfield 11) 3 51 := by decide +kernel
theorem d_45_5 : m_dn M_45 5 (.getfield 141) 3 8 := by decide +kernel
theorem d_45_51 : m_dn M_45 51 (.aload_n 0) 1 52 := by decide +kernel
theorem d_45_52 : m_dn M_45 52 (.getfield 141) 3 55 := by decide +kernel
theorem d_45_55 : m_dn M_45 55 (.iload_n 2) 1 56 := by decide +kernel
theorem d_45_56 : m_dn M_45 56 (.iadd) 1 57 := by decide +kernel
theorem d_45_57 : m_dn M_45 57 (.caload) 1 58 := by decide +kernel
theorem d_45_58 : m_dn M_45 58 (.aload_n 1) 1 59 := by decide +kernel
theorem d_45_59 : m_dn M_45 59 (.iload_n 2) 1 60 := by decide +kernel
theorem d_45_60 : m_dn M_45 60 (.invokevirtual 128) 3 63 := by decide +kernel
theorem d_45_63 : m_dn M_45 63 (.if_icmp .eq 5) 3 66 := by decide +kernel
theorem d_45_66 : m_dn M_45 66 (.iconst 0) 1 67 := by decide +kernel
theorem d_45_67 : m_dn M_45 67 (.ireturn) 1 68 := by decide +kernel
theorem d_45_68 : m_dn M_45 68 (.iinc 2 1) 3 71 := by decide +kernel
theorem d_45_71 : m_dn M_45 71 (.goto (-32)) 3 74 := by decide +kernel
theorem d_45_74 : m_dn M_45 74 (.iconst 1) 1 75 := by decide +kernel
theorem d_45_75 : m_dn M_45 75 (.ireturn) 1 76 := by decide +kernel
theorem d_45_8 : m_dn M_45 8 (.isub) 1 9 := by decide +kernel
theorem d_45_9 : m_dn M_45 9 (.aload_n 1) 1 10 := by decide +kernel
theorem d_46_0 : m_dn M_46 0 (.aload_n 0) 1 1 := by decide +kernel
theorem d_46_1 : m_dn M_46 1 (.ldc 199) 2 3 := by decide +kernel
theorem d_46_10 : m_dn M_46 10 (.ireturn) 1 11 := by decide +kernel
theorem d_46_101 : m_dn M_46 101 (.invokevirtual 138) 3 104 := by decide +kernel
theorem d_46_104 : m_dn M_46 104 (.ifCond .ne 5) 3 107 := by decide +kernel
theorem d_46_107 : m_dn M_46 107 (.iconst 0) 1 108 := by decide +kernel
theorem d_46_108 : m_dn M_46 108 (.ireturn) 1 109 := by decide +kernel
theorem d_46_109 : m_dn M_46 109 (.aload_n 0) 1 110 := by decide +kernel
theorem d_46_11 : m_dn M_46 11 (.aload_n 0) 1 12 := by decide +kernel
theorem d_46_110 : m_dn M_46 110 (.getfield 132) 3 113 := by decide +kernel
theorem d_46_113 : m_dn M_46 113 (.istore_n 2) 1 114 := by decide +kernel
theorem d_46_114 : m_dn M_46 114 (.iload_n 1) 1 115 := by decide +kernel
theorem d_46_115 : m_dn M_46 115 (.iload_n 2) 1 116 := by decide +kernel
theorem d_46_116 : m_dn M_46 116 (.if_icmp .gt 27) 3 119 := by decide +kernel
theorem d_46_119 : m_dn M_46 119 (.aload_n 0) 1 120 := by decide +kernel
theorem d_46_12 : m_dn M_46 12 (.invokevirtual 51) 3 15 := by decide +kernel
theorem d_46_120 : m_dn M_46 120 (.getfield 83) 3 123 := by decide +kernel
theorem d_46_123 : m_dn M_46 123 (.iconst 1) 1 124 := by decide +kernel
theorem d_46_124 : m_dn M_46 124 (.putfield 201) 3 127 := by decide +kernel
theorem d_46_127 : m_dn M_46 127 (.aload_n 0) 1 128 := by decide +kernel
theorem d_46_128 : m_dn M_46 128 (.getfield 83) 3 131 := by decide +kernel
theorem d_46_131 : m_dn M_46 131 (.iload_n 1) 1 132 := by decide +kernel
theorem d_46_132 : m_dn M_46 132 (.putfield 203) 3 135 := by decide +kernel
theorem d_46_135 : m_dn M_46 135 (.aload_n 0) 1 136 := by decide +kernel
theorem d_46_136 : m_dn M_46 136 (.getfield 83) 3 139 := by decide +kernel
theorem d_46_139 : m_dn M_46 139 (.iload_n 2) 1 140 := by decide +kernel
theorem d_46_140 : m_dn M_46 140 (.putfield 206) 3 143 := by decide +kernel
theorem d_46_143 : m_dn M_46 143 (.iconst 1) 1 144 := by decide +kernel
theorem d_46_144 : m_dn M_46 144 (.ireturn) 1 145 := by decide +kernel
theorem d_46_15 : m_dn M_46 15 (.bipush 45) 2 17 := by decide +kernel
theorem d_46_17 : m_dn M_46 17 (.if_icmp .ne 41) 3 20 := by decide +kernel
theorem d_46_20 : m_dn M_46 20 (.aload_n 0) 1 21 := by decide +kernel
theorem d_46_21 : m_dn M_46 21 (.dup) 1 22 := by decide +kernel
theorem d_46_22 : m_dn M_46 22 (.getfield 114) 3 25 := by decide +kernel
theorem d_46_25 : m_dn M_46 25 (.iconst 1) 1 26 := by decide +kernel
theorem d_46_26 : m_dn M_46 26 (.iadd) 1 27 := by decide +kernel
theorem d_46_27 : m_dn M_46 27 (.putfield 114) 3 30 := by decide +kernel
theorem d_46_3 : m_dn M_46 3 (.invokevirtual 43) 3 6 := by decide +kernel
theorem d_46_30 : m_dn M_46 30 (.aload_n 0) 1 31 := by decide +kernel
theorem d_46_31 : m_dn M_46 31 (.getfield 83) 3 34 := by decide +kernel
theorem d_46_34 : m_dn M_46 34 (.iconst 2) 1 35 := by decide +kernel
theorem d_46_35 : m_dn M_46 35 (.putfield 201) 3 38 := by decide +kernel
theorem d_46_38 : m_dn M_46 38 (.aload_n 0) 1 39 := by decide +kernel
theorem d_46_39 : m_dn M_46 39 (.ldc 189) 2 41 := by decide +kernel
theorem d_46_41 : m_dn M_46 41 (.invokevirtual 138) 3 44 := by decide +kernel
theorem d_46_44 : m_dn M_46 44 (.istore_n 1) 1 45 := by decide +kernel
theorem d_46_45 : m_dn M_46 45 (.aload_n 0) 1 46 := by decide +kernel
theorem d_46_46 : m_dn M_46 46 (.getfield 83) 3 49 := by decide +kernel
theorem d_46_49 : m_dn M_46 49 (.aload_n 0) 1 50 := by decide +kernel
theorem d_46_50 : m_dn M_46 50 (.getfield 132) 3 53 := by decide +kernel
theorem d_46_53 : m_dn M_46 53 (.putfield 203) 3 56 := by decide +kernel
theorem d_46_56 : m_dn M_46 56 (.iload_n 1) 1 57 := by decide +kernel
theorem d_46_57 : m_dn M_46 57 (.ireturn) 1 58 := by decide +kernel
theorem d_46_58 : m_dn M_46 58 (.aload_n 0) 1 59 := by decide +kernel
theorem d_46_59 : m_dn M_46 59 (.ldc 189) 2 61 := by decide +kernel
theorem d_46_6 : m_dn M_46 6 (.ifCond .ne 5) 3 9 := by decide +kernel
theorem d_46_61 : m_dn M_46 61 (.invokevirtual 138) 3 64 := by decide +kernel
theorem d_46_64 : m_dn M_46 64 (.ifCond .ne 5) 3 67 := by decide +kernel
theorem d_46_67 : m_dn M_46 67 (.iconst 0) 1 68 := by decide +kernel
theorem d_46_68 : m_dn M_46 68 (.ireturn) 1 69 := by decide +kernel
theorem d_46_69 : m_dn M_46 69 (.aload_n 0) 1 70 := by decide +kernel
theorem d_46_70 : m_dn M_46 70 (.getfield 132) 3 73 := by decide +kernel
theorem d_46_73 : m_dn M_46 73 (.istore_n 1) 1 74 := by decide +kernel
theorem d_46_74 : m_dn M_46 74 (.ldc 189) 2 76 := by decide +kernel
theorem d_46_76 : m_dn M_46 76 (.istore_n 2) 1 77 := by decide +kernel
theorem d_46_77 : m_dn M_46 77 (.aload_n 0) 1 78 := by decide +kernel
theorem d_46_78 : m_dn M_46 78 (.bipush 45) 2 80 := by decide +kernel
theorem d_46_80 : m_dn M_46 80 (.invokevirtual 62) 3 83 := by decide +kernel
theorem d_46_83 : m_dn M_46 83 (.ifCond .ne 5) 3 86 := by decide +kernel
theorem d_46_86 : m_dn M_46 86 (.iconst 0) 1 87 := by decide +kernel
theorem d_46_87 : m_dn M_46 87 (.ireturn) 1 88 := by decide +kernel
theorem d_46_88 : m_dn M_46 88 (.aload_n 0) 1 89 := by decide +kernel
theorem d_46_89 : m_dn M_46 89 (.invokevirtual 51) 3 92 := by decide +kernel
theorem d_46_9 : m_dn M_46 9 (.iconst 0) 1 10 := by decide +kernel
theorem d_46_92 : m_dn M_46 92 (.invokestatic 135) 3 95 := by decide +kernel
theorem d_46_95 : m_dn M_46 95 (.ifCond .eq 19) 3 98 := by decide +kernel
theorem d_46_98 : m_dn M_46 98 (.aload_n 0) 1 99 := by decide +kernel
theorem d_46_99 : m_dn M_46 99 (.ldc 189) 2 101 := by decide +kernel
theorem d_47_0 : m_dn M_47 0 (.aload_n 0) 1 1 := by decide +kernel
theorem d_47_1 : m_dn M_47 1 (.invokevirtual 51) 3 4 := by decide +kernel
theorem d_47_10 : m_dn M_47 10 (.dup) 1 11 := by decide +kernel
theorem d_47_101 : m_dn M_47 101 (.bipush 44) 2 103 := by decide +kernel
theorem d_47_103 : m_dn M_47 103 (.if_icmp .eq 6) 3 106 := by decide +kernel
theorem d_47_106 : m_dn M_47 106 (.goto 30) 3 109 := by decide +kernel
theorem d_47_109 : m_dn M_47 109 (.aload_n 0) 1 110 := by decide +kernel
theorem d_47_11 : m_dn M_47 11 (.getfield 114) 3 14 := by decide +kernel
theorem d_47_110 : m_dn M_47 110 (.dup) 1 111 := by decide +kernel
theorem d_47_111 : m_dn M_47 111 (.getfield 114) 3 114 := by decide +kernel
theorem d_47_114 : m_dn M_47 114 (.iconst 1) 1 115 := by decide +kernel
theorem d_47_115 : m_dn M_47 115 (.iadd) 1 116 := by decide +kernel
theorem d_47_116 : m_dn M_47 116 (.putfield 114) 3 119 := by decide +kernel
theorem d_47_119 : m_dn M_47 119 (.aload_n 0) 1 120 := by decide +kernel
theorem d_47_120 : m_dn M_47 120 (.bipush 32) 2 122 := by decide +kernel
theorem d_47_122 : m_dn M_47 122 (.invokevirtual 62) 3 125 := by decide +kernel
theorem d_47_125 : m_dn M_47 125 (.ifCond .ne 5) 3 128 := by decide +kernel
theorem d_47_128 : m_dn M_47 128 (.iconst 0) 1 129 := by decide +kernel
theorem d_47_129 : m_dn M_47 129 (.ireturn) 1 130 := by decide +kernel
theorem d_47_130 : m_dn M_47 130 (.iinc 1 1) 3 133 := by decide +kernel
theorem d_47_133 : m_dn M_47 133 (.goto (-102)) 3 136 := by decide +kernel
theorem d_47_136 : m_dn M_47 136 (.iconst 1) 1 137 := by decide +kernel
theorem d_47_137 : m_dn M_47 137 (.ireturn) 1 138 := by decide +kernel
theorem d_47_14 : m_dn M_47 14 (.iconst 1) 1 15 := by decide +kernel
theorem d_47_15 : m_dn M_47 15 (.iadd) 1 16 := by decide +kernel
theorem d_47_16 : m_dn M_47 16 (.putfield 114) 3 19 := by decide +kernel
theorem d_47_19 : m_dn M_47 19 (.aload_n 0) 1 20 := by decide +kernel
theorem d_47_20 : m_dn M_47 20 (.getfield 83) 3 23 := by decide +kernel
theorem d_47_23 : m_dn M_47 23 (.iconst 1) 1 24 := by decide +kernel
theorem d_47_24 : m_dn M_47 24 (.putfield 209) 3 27 := by decide +kernel
theorem d_47_27 : m_dn M_47 27 (.iconst 1) 1 28 := by decide +kernel
theorem d_47_28 : m_dn M_47 28 (.ireturn) 1 29 := by decide +kernel
theorem d_47_29 : m_dn M_47 29 (.iconst 0) 1 30 := by decide +kernel
theorem d_47_30 : m_dn M_47 30 (.istore_n 1) 1 31 := by decide +kernel
theorem d_47_31 : m_dn M_47 31 (.iload_n 1) 1 32 := by decide +kernel
theorem d_47_32 : m_dn M_47 32 (.aload_n 0) 1 33 := by decide +kernel
theorem d_47_33 : m_dn M_47 33 (.getfield 83) 3 36 := by decide +kernel
theorem d_47_36 : m_dn M_47 36 (.getfield 212) 3 39 := by decide +kernel
theorem d_47_39 : m_dn M_47 39 (.arraylength) 1 40 := by decide +kernel
theorem d_47_4 : m_dn M_47 4 (.bipush 42) 2 6 := by decide +kernel
theorem d_47_40 : m_dn M_47 40 (.if_icmp .ge 96) 3 43 := by decide +kernel
theorem d_47_43 : m_dn M_47 43 (.aload_n 0) 1 44 := by decide +kernel
theorem d_47_44 : m_dn M_47 44 (.bipush 34) 2 46 := by decide +kernel
theorem d_47_46 : m_dn M_47 46 (.invokevirtual 62) 3 49 := by decide +kernel
theorem d_47_49 : m_dn M_47 49 (.ifCond .eq 21) 3 52 := by decide +kernel
theorem d_47_52 : m_dn M_47 52 (.aload_n 0) 1 53 := by decide +kernel
theorem d_47_53 : m_dn M_47 53 (.ldc 189) 2 55 := by decide +kernel
theorem d_47_55 : m_dn M_47 55 (.invokevirtual 138) 3 58 := by decide +kernel
theorem d_47_58 : m_dn M_47 58 (.ifCond .eq 12) 3 61 := by decide +kernel
theorem d_47_6 : m_dn M_47 6 (.if_icmp .ne 23) 3 9 := by decide +kernel
theorem d_47_61 : m_dn M_47 61 (.aload_n 0) 1 62 := by decide +kernel
theorem d_47_62 : m_dn M_47 62 (.bipush 34) 2 64 := by decide +kernel
theorem d_47_64 : m_dn M_47 64 (.invokevirtual 62) 3 67 := by decide +kernel
theorem d_47_67 : m_dn M_47 67 (.ifCond .ne 5) 3 70 := by decide +kernel
theorem d_47_70 : m_dn M_47 70 (.iconst 0) 1 71 := by decide +kernel
theorem d_47_71 : m_dn M_47 71 (.ireturn) 1 72 := by decide +kernel
theorem d_47_72 : m_dn M_47 72 (.aload_n 0) 1 73 := by decide +kernel
theorem d_47_73 : m_dn M_47 73 (.getfield 83) 3 76 := by decide +kernel
theorem d_47_76 : m_dn M_47 76 (.aload_n 0) 1 77 := by decide +kernel
theorem d_47_77 : m_dn M_47 77 (.getfield 132) 3 80 := by decide +kernel
theorem d_47_80 : m_dn M_47 80 (.invokevirtual 215) 3 83 := by decide +kernel
theorem d_47_83 : m_dn M_47 83 (.iload_n 1) 1 84 := by decide +kernel
theorem d_47_84 : m_dn M_47 84 (.aload_n 0) 1 85 := by decide +kernel
theorem d_47_85 : m_dn M_47 85 (.getfield 83) 3 88 := by decide +kernel
theorem d_47_88 : m_dn M_47 88 (.getfield 212) 3 91 := by decide +kernel
theorem d_47_9 : m_dn M_47 9 (.aload_n 0) 1 10 := by decide +kernel
theorem d_47_91 : m_dn M_47 91 (.arraylength) 1 92 := by decide +kernel
theorem d_47_92 : m_dn M_47 92 (.iconst 1) 1 93 := by decide +kernel
theorem d_47_93 : m_dn M_47 93 (.isub) 1 94 := by decide +kernel
theorem d_47_94 : m_dn M_47 94 (.if_icmp .eq 42) 3 97 := by decide +kernel
theorem d_47_97 : m_dn M_47 97 (.aload_n 0) 1 98 := by decide +kernel
theorem d_47_98 : m_dn M_47 98 (.invokevirtual 51) 3 101 := by decide +kernel
theorem d_48_0 : m_dn M_48 0 (.aload_n 0) 1 1 := by decide +kernel
theorem d_48_1 : m_dn M_48 1 (.getfield 37) 3 4 := by decide +kernel
theorem d_48_12 : m_dn M_48 12 (.aload_n 0) 1 13 := by decide +kernel
theorem d_48_13 : m_dn M_48 13 (.getfield 15) 3 16 := by decide +kernel
theorem d_48_16 : m_dn M_48 16 (.aload_n 0) 1 17 := by decide +kernel
theorem d_48_17 : m_dn M_48 17 (.getfield 37) 3 20 := by decide +kernel
theorem d_48_20 : m_dn M_48 20 (.iload_n 1) 1 21 := by decide +kernel
theorem d_48_21 : m_dn M_48 21 (.iastore) 1 22 := by decide +kernel
theorem d_48_22 : m_dn M_48 22 (.aload_n 0) 1 23 := by decide +kernel
theorem d_48_23 : m_dn M_48 23 (.dup) 1 24 := by decide +kernel
theorem d_48_24 : m_dn M_48 24 (.getfield 37) 3 27 := by decide +kernel
theorem d_48_27 : m_dn M_48 27 (.iconst 1) 1 28 := by decide +kernel
theorem d_48_28 : m_dn M_48 28 (.iadd) 1 29 := by decide +kernel
theorem d_48_29 : m_dn M_48 29 (.putfield 37) 3 32 := by decide +kernel
theorem d_48_32 : m_dn M_48 32 (.return_) 1 33 := by decide +kernel
theorem d_48_4 : m_dn M_48 4 (.aload_n 0) 1 5 := by decide +kernel
theorem d_48_5 : m_dn M_48 5 (.getfield 15) 3 8 := by decide +kernel
theorem d_48_8 : m_dn M_48 8 (.arraylength) 1 9 := by decide +kernel
theorem d_48_9 : m_dn M_48 9 (.if_icmp .ge 23) 3 12 := by decide +kernel
theorem d_49_0 : m_dn M_49 0 (.iconst 0) 1 1 := by decide +kernel
theorem d_49_1 : m_dn M_49 1 (.istore_n 2) 1 2 := by decide +kernel
theorem d_49_10 : m_dn M_49 10 (.invokevirtual 219) 3 13 := by decide +kernel
theorem d_49_100 : m_dn M_49 100 (.ireturn) 1 101 := by decide +kernel
theorem d_49_101 : m_dn M_49 101 (.iinc 2 1) 3 104 := by decide +kernel
theorem d_49_104 : m_dn M_49 104 (.goto (-102)) 3 107 := by decide +kernel
theorem d_49_107 : m_dn M_49 107 (.aload_n 0) 1 108 := by decide +kernel
theorem d_49_108 : m_dn M_49 108 (.aload_n 0) 1 109 := by decide +kernel
theorem d_49_109 : m_dn M_49 109 (.getfield 114) 3 112 := by decide +kernel
theorem d_49_112 : m_dn M_49 112 (.invokevirtual 120) 3 115 := by decide +kernel
theorem d_49_115 : m_dn M_49 115 (.ireturn) 1 116 := by decide +kernel
theorem d_49_13 : m_dn M_49 13 (.ifCond .ne 5) 3 16 := by decide +kernel
theorem d_49_16 : m_dn M_49 16 (.iconst 0) 1 17 := by decide +kernel
theorem d_49_17 : m_dn M_49 17 (.ireturn) 1 18 := by decide +kernel
theorem d_49_18 : m_dn M_49 18 (.iload_n 1) 1 19 := by decide +kernel
theorem d_49_19 : m_dn M_49 19 (.ifCond .ne 10) 3 22 := by decide +kernel
theorem d_49_2 : m_dn M_49 2 (.iload_n 2) 1 3 := by decide +kernel
theorem d_49_22 : m_dn M_49 22 (.aload_n 0) 1 23 := by decide +kernel
theorem d_49_23 : m_dn M_49 23 (.invokevirtual 222) 3 26 := by decide +kernel
theorem d_49_26 : m_dn M_49 26 (.goto 43) 3 29 := by decide +kernel
theorem d_49_29 : m_dn M_49 29 (.iload_n 1) 1 30 := by decide +kernel
theorem d_49_3 : m_dn M_49 3 (.sipush 300) 3 6 := by decide +kernel
theorem d_49_30 : m_dn M_49 30 (.iconst 1) 1 31 := by decide +kernel
theorem d_49_31 : m_dn M_49 31 (.if_icmp .ne 10) 3 34 := by decide +kernel
theorem d_49_34 : m_dn M_49 34 (.aload_n 0) 1 35 := by decide +kernel
theorem d_49_35 : m_dn M_49 35 (.invokevirtual 225) 3 38 := by decide +kernel
theorem d_49_38 : m_dn M_49 38 (.goto 31) 3 41 := by decide +kernel
theorem d_49_41 : m_dn M_49 41 (.iload_n 1) 1 42 := by decide +kernel
theorem d_49_42 : m_dn M_49 42 (.iconst 2) 1 43 := by decide +kernel
theorem d_49_43 : m_dn M_49 43 (.if_icmp .ne 10) 3 46 := by decide +kernel
theorem d_49_46 : m_dn M_49 46 (.aload_n 0) 1 47 := by decide +kernel
theorem d_49_47 : m_dn M_49 47 (.invokevirtual 228) 3 50 := by decide +kernel
theorem d_49_50 : m_dn M_49 50 (.goto 19) 3 53 := by decide +kernel
theorem d_49_53 : m_dn M_49 53 (.iload_n 1) 1 54 := by decide +kernel
theorem d_49_54 : m_dn M_49 54 (.iconst 3) 1 55 := by decide +kernel
theorem d_49_55 : m_dn M_49 55 (.if_icmp .ne 10) 3 58 := by decide +kernel
theorem d_49_58 : m_dn M_49 58 (.aload_n 0) 1 59 := by decide +kernel
theorem d_49_59 : m_dn M_49 59 (.invokevirtual 231) 3 62 := by decide +kernel
theorem d_49_6 : m_dn M_49 6 (.if_icmp .ge 101) 3 9 := by decide +kernel
theorem d_49_62 : m_dn M_49 62 (.goto 7) 3 65 := by decide +kernel
theorem d_49_65 : m_dn M_49 65 (.aload_n 0) 1 66 := by decide +kernel
theorem d_49_66 : m_dn M_49 66 (.invokevirtual 234) 3 69 := by decide +kernel
theorem d_49_69 : m_dn M_49 69 (.aload_n 0) 1 70 := by decide +kernel
theorem d_49_70 : m_dn M_49 70 (.invokevirtual 51) 3 73 := by decide +kernel
theorem d_49_73 : m_dn M_49 73 (.bipush 44) 2 75 := by decide +kernel
theorem d_49_75 : m_dn M_49 75 (.if_icmp .eq 5) 3 78 := by decide +kernel
theorem d_49_78 : m_dn M_49 78 (.iconst 1) 1 79 := by decide +kernel
theorem d_49_79 : m_dn M_49 79 (.ireturn) 1 80 := by decide +kernel
theorem d_49_80 : m_dn M_49 80 (.aload_n 0) 1 81 := by decide +kernel
theorem d_49_81 : m_dn M_49 81 (.dup) 1 82 := by decide +kernel
theorem d_49_82 : m_dn M_49 82 (.getfield 114) 3 85 := by decide +kernel
theorem d_49_85 : m_dn M_49 85 (.iconst 1) 1 86 := by decide +kernel
theorem d_49_86 : m_dn M_49 86 (.iadd) 1 87 := by decide +kernel
theorem d_49_87 : m_dn M_49 87 (.putfield 114) 3 90 := by decide +kernel
theorem d_49_9 : m_dn M_49 9 (.aload_n 0) 1 10 := by decide +kernel
theorem d_49_90 : m_dn M_49 90 (.aload_n 0) 1 91 := by decide +kernel
theorem d_49_91 : m_dn M_49 91 (.bipush 32) 2 93 := by decide +kernel
theorem d_49_93 : m_dn M_49 93 (.invokevirtual 62) 3 96 := by decide +kernel
theorem d_49_96 : m_dn M_49 96 (.ifCond .ne 5) 3 99 := by decide +kernel
theorem d_49_99 : m_dn M_49 99 (.iconst 0) 1 100 := by decide +kernel
theorem d_50_0 : m_dn M_50 0 (.aload_n 0) 1 1 := by decide +kernel
theorem d_50_1 : m_dn M_50 1 (.aload_n 0) 1 2 := by decide +kernel
theorem d_50_100 : m_dn M_50 100 (.aload_n 0) 1 101 := by decide +kernel
theorem d_50_101 : m_dn M_50 101 (.ldc 189) 2 103 := by decide +kernel
theorem d_50_103 : m_dn M_50 103 (.invokevirtual 138) 3 106 := by decide +kernel
theorem d_50_106 : m_dn M_50 106 (.ireturn) 1 107 := by decide +kernel
theorem d_50_12 : m_dn M_50 12 (.aload_n 0) 1 13 := by decide +kernel
theorem d_50_13 : m_dn M_50 13 (.aload_n 0) 1 14 := by decide +kernel
theorem d_50_14 : m_dn M_50 14 (.getfield 114) 3 17 := by decide +kernel
theorem d_50_17 : m_dn M_50 17 (.putfield 147) 3 20 := by decide +kernel
theorem d_50_2 : m_dn M_50 2 (.getfield 114) 3 5 := by decide +kernel
theorem d_50_20 : m_dn M_50 20 (.aload_n 0) 1 21 := by decide +kernel
theorem d_50_21 : m_dn M_50 21 (.getfield 114) 3 24 := by decide +kernel
theorem d_50_24 : m_dn M_50 24 (.aload_n 0) 1 25 := by decide +kernel
theorem d_50_25 : m_dn M_50 25 (.getfield 141) 3 28 := by decide +kernel
theorem d_50_28 : m_dn M_50 28 (.if_icmp .ne 12) 3 31 := by decide +kernel
theorem d_50_31 : m_dn M_50 31 (.aload_n 0) 1 32 := by decide +kernel
theorem d_50_32 : m_dn M_50 32 (.aload_n 0) 1 33 := by decide +kernel
theorem d_50_33 : m_dn M_50 33 (.getfield 114) 3 36 := by decide +kernel
theorem d_50_36 : m_dn M_50 36 (.invokevirtual 120) 3 39 := by decide +kernel
theorem d_50_39 : m_dn M_50 39 (.ireturn) 1 40 := by decide +kernel
theorem d_50_40 : m_dn M_50 40 (.aload_n 0) 1 41 := by decide +kernel
theorem d_50_41 : m_dn M_50 41 (.getfield 114) 3 44 := by decide +kernel
theorem d_50_44 : m_dn M_50 44 (.aload_n 0) 1 45 := by decide +kernel
theorem d_50_45 : m_dn M_50 45 (.getfield 141) 3 48 := by decide +kernel
theorem d_50_48 : m_dn M_50 48 (.isub) 1 49 := by decide +kernel
theorem d_50_49 : m_dn M_50 49 (.bipush 30) 2 51 := by decide +kernel
theorem d_50_5 : m_dn M_50 5 (.putfield 141) 3 8 := by decide +kernel
theorem d_50_51 : m_dn M_50 51 (.if_icmp .le 12) 3 54 := by decide +kernel
theorem d_50_54 : m_dn M_50 54 (.aload_n 0) 1 55 := by decide +kernel
theorem d_50_55 : m_dn M_50 55 (.aload_n 0) 1 56 := by decide +kernel
theorem d_50_56 : m_dn M_50 56 (.getfield 141) 3 59 := by decide +kernel
theorem d_50_59 : m_dn M_50 59 (.invokevirtual 120) 3 62 := by decide +kernel
theorem d_50_62 : m_dn M_50 62 (.ireturn) 1 63 := by decide +kernel
theorem d_50_63 : m_dn M_50 63 (.aload_n 0) 1 64 := by decide +kernel
theorem d_50_64 : m_dn M_50 64 (.aload_n 0) 1 65 := by decide +kernel
theorem d_50_65 : m_dn M_50 65 (.invokevirtual 51) 3 68 := by decide +kernel
theorem d_50_68 : m_dn M_50 68 (.bipush 61) 2 70 := by decide +kernel
theorem d_50_70 : m_dn M_50 70 (.if_icmp .eq 7) 3 73 := by decide +kernel
theorem d_50_73 : m_dn M_50 73 (.iconst 1) 1 74 := by decide +kernel
theorem d_50_74 : m_dn M_50 74 (.goto 4) 3 77 := by decide +kernel
theorem d_50_77 : m_dn M_50 77 (.iconst 0) 1 78 := by decide +kernel
theorem d_50_78 : m_dn M_50 78 (.putfield 237) 3 81 := by decide +kernel
theorem d_50_8 : m_dn M_50 8 (.aload_n 0) 1 9 := by decide +kernel
theorem d_50_81 : m_dn M_50 81 (.aload_n 0) 1 82 := by decide +kernel
theorem d_50_82 : m_dn M_50 82 (.getfield 237) 3 85 := by decide +kernel
theorem d_50_85 : m_dn M_50 85 (.ifCond .eq 5) 3 88 := by decide +kernel
theorem d_50_88 : m_dn M_50 88 (.iconst 1) 1 89 := by decide +kernel
theorem d_50_89 : m_dn M_50 89 (.ireturn) 1 90 := by decide +kernel
theorem d_50_9 : m_dn M_50 9 (.invokevirtual 144) 3 12 := by decide +kernel
theorem d_50_90 : m_dn M_50 90 (.aload_n 0) 1 91 := by decide +kernel
theorem d_50_91 : m_dn M_50 91 (.dup) 1 92 := by decide +kernel
theorem d_50_92 : m_dn M_50 92 (.getfield 114) 3 95 := by decide +kernel
theorem d_50_95 : m_dn M_50 95 (.iconst 1) 1 96 := by decide +kernel
theorem d_50_96 : m_dn M_50 96 (.iadd) 1 97 := by decide +kernel
theorem d_50_97 : m_dn M_50 97 (.putfield 114) 3 100 := by decide +kernel
theorem d_51_0 : m_dn M_51 0 (.aload_n 0) 1 1 := by decide +kernel
theorem d_51_1 : m_dn M_51 1 (.getfield 237) 3 4 := by decide +kernel
theorem d_51_12 : m_dn M_51 12 (.aload_n 0) 1 13 := by decide +kernel
theorem d_51_13 : m_dn M_51 13 (.getfield 132) 3 16 := by decide +kernel
theorem d_51_16 : m_dn M_51 16 (.istore_n 1) 1 17 := by decide +kernel
theorem d_51_17 : m_dn M_51 17 (.aload_n 0) 1 18 := by decide +kernel
theorem d_51_18 : m_dn M_51 18 (.ldc 240) 2 20 := by decide +kernel
theorem d_51_20 : m_dn M_51 20 (.invokevirtual 158) 3 23 := by decide +kernel
theorem d_51_23 : m_dn M_51 23 (.ifCond .eq 13) 3 26 := by decide +kernel
theorem d_51_26 : m_dn M_51 26 (.aload_n 0) 1 27 := by decide +kernel
theorem d_51_27 : m_dn M_51 27 (.getfield 23) 3 30 := by decide +kernel
theorem d_51_30 : m_dn M_51 30 (.iconst 0) 1 31 := by decide +kernel
theorem d_51_31 : m_dn M_51 31 (.iload_n 1) 1 32 := by decide +kernel
theorem d_51_32 : m_dn M_51 32 (.iastore) 1 33 := by decide +kernel
theorem d_51_33 : m_dn M_51 33 (.goto 57) 3 36 := by decide +kernel
theorem d_51_36 : m_dn M_51 36 (.aload_n 0) 1 37 := by decide +kernel
theorem d_51_37 : m_dn M_51 37 (.ldc 242) 2 39 := by decide +kernel
theorem d_51_39 : m_dn M_51 39 (.invokevirtual 158) 3 42 := by decide +kernel
theorem d_51_4 : m_dn M_51 4 (.ifCond .eq 8) 3 7 := by decide +kernel
theorem d_51_42 : m_dn M_51 42 (.ifCond .eq 13) 3 45 := by decide +kernel
theorem d_51_45 : m_dn M_51 45 (.aload_n 0) 1 46 := by decide +kernel
theorem d_51_46 : m_dn M_51 46 (.getfield 23) 3 49 := by decide +kernel
theorem d_51_49 : m_dn M_51 49 (.iconst 1) 1 50 := by decide +kernel
theorem d_51_50 : m_dn M_51 50 (.iload_n 1) 1 51 := by decide +kernel
theorem d_51_51 : m_dn M_51 51 (.iastore) 1 52 := by decide +kernel
theorem d_51_52 : m_dn M_51 52 (.goto 38) 3 55 := by decide +kernel
theorem d_51_55 : m_dn M_51 55 (.aload_n 0) 1 56 := by decide +kernel
theorem d_51_56 : m_dn M_51 56 (.ldc 244) 2 58 := by decide +kernel
theorem d_51_58 : m_dn M_51 58 (.invokevirtual 158) 3 61 := by decide +kernel
theorem d_51_61 : m_dn M_51 61 (.ifCond .eq 13) 3 64 := by decide +kernel
theorem d_51_64 : m_dn M_51 64 (.aload_n 0) 1 65 := by decide +kernel
theorem d_51_65 : m_dn M_51 65 (.getfield 23) 3 68 := by decide +kernel
theorem d_51_68 : m_dn M_51 68 (.iconst 2) 1 69 := by decide +kernel
theorem d_51_69 : m_dn M_51 69 (.iload_n 1) 1 70 := by decide +kernel
theorem d_51_7 : m_dn M_51 7 (.bipush 9) 2 9 := by decide +kernel
theorem d_51_70 : m_dn M_51 70 (.iastore) 1 71 := by decide +kernel
theorem d_51_71 : m_dn M_51 71 (.goto 19) 3 74 := by decide +kernel
theorem d_51_74 : m_dn M_51 74 (.aload_n 0) 1 75 := by decide +kernel
theorem d_51_75 : m_dn M_51 75 (.ldc 246) 2 77 := by decide +kernel
theorem d_51_77 : m_dn M_51 77 (.invokevirtual 158) 3 80 := by decide +kernel
theorem d_51_80 : m_dn M_51 80 (.ifCond .eq 10) 3 83 := by decide +kernel
theorem d_51_83 : m_dn M_51 83 (.aload_n 0) 1 84 := by decide +kernel
theorem d_51_84 : m_dn M_51 84 (.getfield 23) 3 87 := by decide +kernel
theorem d_51_87 : m_dn M_51 87 (.iconst 3) 1 88 := by decide +kernel
theorem d_51_88 : m_dn M_51 88 (.iload_n 1) 1 89 := by decide +kernel
theorem d_51_89 : m_dn M_51 89 (.iastore) 1 90 := by decide +kernel
theorem d_51_9 : m_dn M_51 9 (.goto 7) 3 12 := by decide +kernel
theorem d_51_90 : m_dn M_51 90 (.return_) 1 91 := by decide +kernel
theorem d_52_0 : m_dn M_52 0 (.aload_n 0) 1 1 := by decide +kernel
theorem d_52_1 : m_dn M_52 1 (.ldc 248) 2 3 := by decide +kernel
theorem d_52_10 : m_dn M_52 10 (.getfield 76) 3 13 := by decide +kernel
theorem d_52_13 : m_dn M_52 13 (.aload_n 0) 1 14 := by decide +kernel
theorem d_52_14 : m_dn M_52 14 (.getfield 237) 3 17 := by decide +kernel
theorem d_52_17 : m_dn M_52 17 (.ifCond .ne 10) 3 20 := by decide +kernel
theorem d_52_20 : m_dn M_52 20 (.aload_n 0) 1 21 := by decide +kernel
theorem d_52_21 : m_dn M_52 21 (.getfield 132) 3 24 := by decide +kernel
theorem d_52_24 : m_dn M_52 24 (.ifCond .le 7) 3 27 := by decide +kernel
theorem d_52_27 : m_dn M_52 27 (.iconst 1) 1 28 := by decide +kernel
theorem d_52_28 : m_dn M_52 28 (.goto 4) 3 31 := by decide +kernel
theorem d_52_3 : m_dn M_52 3 (.invokevirtual 158) 3 6 := by decide +kernel
theorem d_52_31 : m_dn M_52 31 (.iconst 0) 1 32 := by decide +kernel
theorem d_52_32 : m_dn M_52 32 (.putfield 250) 3 35 := by decide +kernel
theorem d_52_35 : m_dn M_52 35 (.return_) 1 36 := by decide +kernel
theorem d_52_6 : m_dn M_52 6 (.ifCond .eq 29) 3 9 := by decide +kernel
theorem d_52_9 : m_dn M_52 9 (.aload_n 0) 1 10 := by decide +kernel
theorem d_53_0 : m_dn M_53 0 (.aload_n 0) 1 1 := by decide +kernel
theorem d_53_1 : m_dn M_53 1 (.ldc 253) 2 3 := by decide +kernel
theorem d_53_10 : m_dn M_53 10 (.getfield 76) 3 13 := by decide +kernel
theorem d_53_102 : m_dn M_53 102 (.invokevirtual 158) 3 105 := by decide +kernel
theorem d_53_105 : m_dn M_53 105 (.ifCond .eq 17) 3 108 := by decide +kernel
theorem d_53_108 : m_dn M_53 108 (.aload_n 0) 1 109 := by decide +kernel
theorem d_53_109 : m_dn M_53 109 (.getfield 76) 3 112 := by decide +kernel
theorem d_53_112 : m_dn M_53 112 (.aload_n 0) 1 113 := by decide +kernel
theorem d_53_113 : m_dn M_53 113 (.getfield 132) 3 116 := by decide +kernel
theorem d_53_116 : m_dn M_53 116 (.putfield 271) 3 119 := by decide +kernel
theorem d_53_119 : m_dn M_53 119 (.goto 31) 3 122 := by decide +kernel
theorem d_53_122 : m_dn M_53 122 (.aload_n 0) 1 123 := by decide +kernel
theorem d_53_123 : m_dn M_53 123 (.getfield 237) 3 126 := by decide +kernel
theorem d_53_126 : m_dn M_53 126 (.ifCond .ne 24) 3 129 := by decide +kernel
theorem d_53_129 : m_dn M_53 129 (.aload_n 0) 1 130 := by decide +kernel
theorem d_53_13 : m_dn M_53 13 (.aload_n 0) 1 14 := by decide +kernel
theorem d_53_130 : m_dn M_53 130 (.ldc_w 274) 3 133 := by decide +kernel
theorem d_53_133 : m_dn M_53 133 (.invokevirtual 158) 3 136 := by decide +kernel
theorem d_53_136 : m_dn M_53 136 (.ifCond .eq 14) 3 139 := by decide +kernel
theorem d_53_139 : m_dn M_53 139 (.aload_n 0) 1 140 := by decide +kernel
theorem d_53_14 : m_dn M_53 14 (.getfield 237) 3 17 := by decide +kernel
theorem d_53_140 : m_dn M_53 140 (.getfield 76) 3 143 := by decide +kernel
theorem d_53_143 : m_dn M_53 143 (.aload_n 0) 1 144 := by decide +kernel
theorem d_53_144 : m_dn M_53 144 (.getfield 132) 3 147 := by decide +kernel
theorem d_53_147 : m_dn M_53 147 (.putfield 276) 3 150 := by decide +kernel
theorem d_53_150 : m_dn M_53 150 (.return_) 1 151 := by decide +kernel
theorem d_53_17 : m_dn M_53 17 (.ifCond .eq 8) 3 20 := by decide +kernel
theorem d_53_20 : m_dn M_53 20 (.ldc 255) 2 22 := by decide +kernel
theorem d_53_22 : m_dn M_53 22 (.goto 7) 3 25 := by decide +kernel
theorem d_53_25 : m_dn M_53 25 (.aload_n 0) 1 26 := by decide +kernel
theorem d_53_26 : m_dn M_53 26 (.getfield 132) 3 29 := by decide +kernel
theorem d_53_29 : m_dn M_53 29 (.putfield 256) 3 32 := by decide +kernel
theorem d_53_3 : m_dn M_53 3 (.invokevirtual 158) 3 6 := by decide +kernel
theorem d_53_32 : m_dn M_53 32 (.goto 118) 3 35 := by decide +kernel
theorem d_53_35 : m_dn M_53 35 (.aload_n 0) 1 36 := by decide +kernel
theorem d_53_36 : m_dn M_53 36 (.getfield 237) 3 39 := by decide +kernel
theorem d_53_39 : m_dn M_53 39 (.ifCond .eq 24) 3 42 := by decide +kernel
theorem d_53_42 : m_dn M_53 42 (.aload_n 0) 1 43 := by decide +kernel
theorem d_53_43 : m_dn M_53 43 (.ldc_w 259) 3 46 := by decide +kernel
theorem d_53_46 : m_dn M_53 46 (.invokevirtual 158) 3 49 := by decide +kernel
theorem d_53_49 : m_dn M_53 49 (.ifCond .eq 14) 3 52 := by decide +kernel
theorem d_53_52 : m_dn M_53 52 (.aload_n 0) 1 53 := by decide +kernel
theorem d_53_53 : m_dn M_53 53 (.getfield 76) 3 56 := by decide +kernel
theorem d_53_56 : m_dn M_53 56 (.iconst 1) 1 57 := by decide +kernel
theorem d_53_57 : m_dn M_53 57 (.putfield 261) 3 60 := by decide +kernel
theorem d_53_6 : m_dn M_53 6 (.ifCond .eq 29) 3 9 := by decide +kernel
theorem d_53_60 : m_dn M_53 60 (.goto 90) 3 63 := by decide +kernel
theorem d_53_63 : m_dn M_53 63 (.aload_n 0) 1 64 := by decide +kernel
theorem d_53_64 : m_dn M_53 64 (.getfield 237) 3 67 := by decide +kernel
theorem d_53_67 : m_dn M_53 67 (.ifCond .eq 24) 3 70 := by decide +kernel
theorem d_53_70 : m_dn M_53 70 (.aload_n 0) 1 71 := by decide +kernel
theorem d_53_71 : m_dn M_53 71 (.ldc_w 264) 3 74 := by decide +kernel
theorem d_53_74 : m_dn M_53 74 (.invokevirtual 158) 3 77 := by decide +kernel
theorem d_53_77 : m_dn M_53 77 (.ifCond .eq 14) 3 80 := by decide +kernel
theorem d_53_80 : m_dn M_53 80 (.aload_n 0) 1 81 := by decide +kernel
theorem d_53_81 : m_dn M_53 81 (.getfield 76) 3 84 := by decide +kernel
theorem d_53_84 : m_dn M_53 84 (.iconst 1) 1 85 := by decide +kernel
theorem d_53_85 : m_dn M_53 85 (.putfield 266) 3 88 := by decide +kernel
theorem d_53_88 : m_dn M_53 88 (.goto 62) 3 91 := by decide +kernel
theorem d_53_9 : m_dn M_53 9 (.aload_n 0) 1 10 := by decide +kernel
theorem d_53_91 : m_dn M_53 91 (.aload_n 0) 1 92 := by decide +kernel
theorem d_53_92 : m_dn M_53 92 (.getfield 237) 3 95 := by decide +kernel
theorem d_53_95 : m_dn M_53 95 (.ifCond .ne 27) 3 98 := by decide +kernel
theorem d_53_98 : m_dn M_53 98 (.aload_n 0) 1 99 := by decide +kernel
theorem d_53_99 : m_dn M_53 99 (.ldc_w 269) 3 102 := by decide +kernel
theorem d_54_0 : m_dn M_54 0 (.aload_n 0) 1 1 := by decide +kernel
theorem d_54_1 : m_dn M_54 1 (.getfield 237) 3 4 := by decide +kernel
theorem d_54_101 : m_dn M_54 101 (.ifCond .eq 17) 3 104 := by decide +kernel
theorem d_54_104 : m_dn M_54 104 (.aload_n 0) 1 105 := by decide +kernel
theorem d_54_105 : m_dn M_54 105 (.getfield 37) 3 108 := by decide +kernel
theorem d_54_108 : m_dn M_54 108 (.aload_n 0) 1 109 := by decide +kernel
theorem d_54_109 : m_dn M_54 109 (.getfield 132) 3 112 := by decide +kernel
theorem d_54_11 : m_dn M_54 11 (.invokevirtual 158) 3 14 := by decide +kernel
theorem d_54_112 : m_dn M_54 112 (.putfield 290) 3 115 := by decide +kernel
theorem d_54_115 : m_dn M_54 115 (.goto 31) 3 118 := by decide +kernel
theorem d_54_118 : m_dn M_54 118 (.aload_n 0) 1 119 := by decide +kernel
theorem d_54_119 : m_dn M_54 119 (.getfield 237) 3 122 := by decide +kernel
theorem d_54_122 : m_dn M_54 122 (.ifCond .ne 24) 3 125 := by decide +kernel
theorem d_54_125 : m_dn M_54 125 (.aload_n 0) 1 126 := by decide +kernel
theorem d_54_126 : m_dn M_54 126 (.ldc_w 293) 3 129 := by decide +kernel
theorem d_54_129 : m_dn M_54 129 (.invokevirtual 158) 3 132 := by decide +kernel
theorem d_54_132 : m_dn M_54 132 (.ifCond .eq 14) 3 135 := by decide +kernel
theorem d_54_135 : m_dn M_54 135 (.aload_n 0) 1 136 := by decide +kernel
theorem d_54_136 : m_dn M_54 136 (.getfield 37) 3 139 := by decide +kernel
theorem d_54_139 : m_dn M_54 139 (.aload_n 0) 1 140 := by decide +kernel
theorem d_54_14 : m_dn M_54 14 (.ifCond .eq 14) 3 17 := by decide +kernel
theorem d_54_140 : m_dn M_54 140 (.getfield 132) 3 143 := by decide +kernel
theorem d_54_143 : m_dn M_54 143 (.putfield 295) 3 146 := by decide +kernel
theorem d_54_146 : m_dn M_54 146 (.return_) 1 147 := by decide +kernel
theorem d_54_17 : m_dn M_54 17 (.aload_n 0) 1 18 := by decide +kernel
theorem d_54_18 : m_dn M_54 18 (.getfield 37) 3 21 := by decide +kernel
theorem d_54_21 : m_dn M_54 21 (.iconst 1) 1 22 := by decide +kernel
theorem d_54_22 : m_dn M_54 22 (.putfield 281) 3 25 := by decide +kernel
theorem d_54_25 : m_dn M_54 25 (.goto 121) 3 28 := by decide +kernel
theorem d_54_28 : m_dn M_54 28 (.aload_n 0) 1 29 := by decide +kernel
theorem d_54_29 : m_dn M_54 29 (.getfield 237) 3 32 := by decide +kernel
theorem d_54_32 : m_dn M_54 32 (.ifCond .eq 24) 3 35 := by decide +kernel
theorem d_54_35 : m_dn M_54 35 (.aload_n 0) 1 36 := by decide +kernel
theorem d_54_36 : m_dn M_54 36 (.ldc_w 259) 3 39 := by decide +kernel
theorem d_54_39 : m_dn M_54 39 (.invokevirtual 158) 3 42 := by decide +kernel
theorem d_54_4 : m_dn M_54 4 (.ifCond .eq 24) 3 7 := by decide +kernel
theorem d_54_42 : m_dn M_54 42 (.ifCond .eq 14) 3 45 := by decide +kernel
theorem d_54_45 : m_dn M_54 45 (.aload_n 0) 1 46 := by decide +kernel
theorem d_54_46 : m_dn M_54 46 (.getfield 37) 3 49 := by decide +kernel
theorem d_54_49 : m_dn M_54 49 (.iconst 1) 1 50 := by decide +kernel
theorem d_54_50 : m_dn M_54 50 (.putfield 284) 3 53 := by decide +kernel
theorem d_54_53 : m_dn M_54 53 (.goto 93) 3 56 := by decide +kernel
theorem d_54_56 : m_dn M_54 56 (.aload_n 0) 1 57 := by decide +kernel
theorem d_54_57 : m_dn M_54 57 (.getfield 237) 3 60 := by decide +kernel
theorem d_54_60 : m_dn M_54 60 (.ifCond .ne 27) 3 63 := by decide +kernel
theorem d_54_63 : m_dn M_54 63 (.aload_n 0) 1 64 := by decide +kernel
theorem d_54_64 : m_dn M_54 64 (.ldc_w 269) 3 67 := by decide +kernel
theorem d_54_67 : m_dn M_54 67 (.invokevirtual 158) 3 70 := by decide +kernel
theorem d_54_7 : m_dn M_54 7 (.aload_n 0) 1 8 := by decide +kernel
theorem d_54_70 : m_dn M_54 70 (.ifCond .eq 17) 3 73 := by decide +kernel
theorem d_54_73 : m_dn M_54 73 (.aload_n 0) 1 74 := by decide +kernel
theorem d_54_74 : m_dn M_54 74 (.getfield 37) 3 77 := by decide +kernel
theorem d_54_77 : m_dn M_54 77 (.aload_n 0) 1 78 := by decide +kernel
theorem d_54_78 : m_dn M_54 78 (.getfield 132) 3 81 := by decide +kernel
theorem d_54_8 : m_dn M_54 8 (.ldc_w 279) 3 11 := by decide +kernel
theorem d_54_81 : m_dn M_54 81 (.putfield 287) 3 84 := by decide +kernel
theorem d_54_84 : m_dn M_54 84 (.goto 62) 3 87 := by decide +kernel
theorem d_54_87 : m_dn M_54 87 (.aload_n 0) 1 88 := by decide +kernel
theorem d_54_88 : m_dn M_54 88 (.getfield 237) 3 91 := by decide +kernel
theorem d_54_91 : m_dn M_54 91 (.ifCond .ne 27) 3 94 := by decide +kernel
theorem d_54_94 : m_dn M_54 94 (.aload_n 0) 1 95 := by decide +kernel
theorem d_54_95 : m_dn M_54 95 (.ldc_w 288) 3 98 := by decide +kernel
theorem d_54_98 : m_dn M_54 98 (.invokevirtual 158) 3 101 := by decide +kernel
theorem d_55_0 : m_dn M_55 0 (.aload_n 0) 1 1 := by decide +kernel
theorem d_55_1 : m_dn M_55 1 (.getfield 237) 3 4 := by decide +kernel
theorem d_55_10 : m_dn M_55 10 (.invokevirtual 158) 3 13 := by decide +kernel
theorem d_55_13 : m_dn M_55 13 (.ifCond .eq 19) 3 16 := by decide +kernel
theorem d_55_16 : m_dn M_55 16 (.aload_n 0) 1 17 := by decide +kernel
theorem d_55_17 : m_dn M_55 17 (.getfield 37) 3 20 := by decide +kernel
theorem d_55_20 : m_dn M_55 20 (.dup) 1 21 := by decide +kernel
theorem d_55_21 : m_dn M_55 21 (.getfield 298) 3 24 := by decide +kernel
theorem d_55_24 : m_dn M_55 24 (.iconst 1) 1 25 := by decide +kernel
theorem d_55_25 : m_dn M_55 25 (.ior) 1 26 := by decide +kernel
theorem d_55_26 : m_dn M_55 26 (.putfield 298) 3 29 := by decide +kernel
theorem d_55_29 : m_dn M_55 29 (.goto 32) 3 32 := by decide +kernel
theorem d_55_32 : m_dn M_55 32 (.aload_n 0) 1 33 := by decide +kernel
theorem d_55_33 : m_dn M_55 33 (.getfield 237) 3 36 := by decide +kernel
theorem d_55_36 : m_dn M_55 36 (.ifCond .eq 25) 3 39 := by decide +kernel
theorem d_55_39 : m_dn M_55 39 (.aload_n 0) 1 40 := by decide +kernel
theorem d_55_4 : m_dn M_55 4 (.ifCond .eq 28) 3 7 := by decide +kernel
theorem d_55_40 : m_dn M_55 40 (.ldc 195) 2 42 := by decide +kernel
theorem d_55_42 : m_dn M_55 42 (.invokevirtual 158) 3 45 := by decide +kernel
theorem d_55_45 : m_dn M_55 45 (.ifCond .eq 16) 3 48 := by decide +kernel
theorem d_55_48 : m_dn M_55 48 (.aload_n 0) 1 49 := by decide +kernel
theorem d_55_49 : m_dn M_55 49 (.getfield 37) 3 52 := by decide +kernel
theorem d_55_52 : m_dn M_55 52 (.dup) 1 53 := by decide +kernel
theorem d_55_53 : m_dn M_55 53 (.getfield 298) 3 56 := by decide +kernel
theorem d_55_56 : m_dn M_55 56 (.iconst 2) 1 57 := by decide +kernel
theorem d_55_57 : m_dn M_55 57 (.ior) 1 58 := by decide +kernel
theorem d_55_58 : m_dn M_55 58 (.putfield 298) 3 61 := by decide +kernel
theorem d_55_61 : m_dn M_55 61 (.return_) 1 62 := by decide +kernel
theorem d_55_7 : m_dn M_55 7 (.aload_n 0) 1 8 := by decide +kernel
theorem d_55_8 : m_dn M_55 8 (.ldc 193) 2 10 := by decide +kernel
theorem d_56_0 : m_dn M_56 0 (.aload_n 0) 1 1 := by decide +kernel
theorem d_56_1 : m_dn M_56 1 (.getfield 114) 3 4 := by decide +kernel
theorem d_56_11 : m_dn M_56 11 (.aload_n 0) 1 12 := by decide +kernel
theorem d_56_12 : m_dn M_56 12 (.invokevirtual 51) 3 15 := by decide +kernel
theorem d_56_15 : m_dn M_56 15 (.bipush 10) 2 17 := by decide +kernel
theorem d_56_17 : m_dn M_56 17 (.if_icmp .eq 16) 3 20 := by decide +kernel
theorem d_56_20 : m_dn M_56 20 (.aload_n 0) 1 21 := by decide +kernel
theorem d_56_21 : m_dn M_56 21 (.dup) 1 22 := by decide +kernel
theorem d_56_22 : m_dn M_56 22 (.getfield 114) 3 25 := by decide +kernel
theorem d_56_25 : m_dn M_56 25 (.iconst 1) 1 26 := by decide +kernel
theorem d_56_26 : m_dn M_56 26 (.iadd) 1 27 := by decide +kernel
theorem d_56_27 : m_dn M_56 27 (.putfield 114) 3 30 := by decide +kernel
theorem d_56_30 : m_dn M_56 30 (.goto (-30)) 3 33 := by decide +kernel
theorem d_56_33 : m_dn M_56 33 (.iconst 1) 1 34 := by decide +kernel
theorem d_56_34 : m_dn M_56 34 (.ireturn) 1 35 := by decide +kernel
theorem d_56_4 : m_dn M_56 4 (.aload_n 0) 1 5 := by decide +kernel
theorem d_56_5 : m_dn M_56 5 (.getfield 26) 3 8 := by decide +kernel
theorem d_56_8 : m_dn M_56 8 (.if_icmp .ge 25) 3 11 := by decide +kernel
theorem d_57_0 : m_dn M_57 0 (.aload_n 0) 1 1 := by decide +kernel
theorem d_57_1 : m_dn M_57 1 (.bipush 10) 2 3 := by decide +kernel
theorem d_57_10 : m_dn M_57 10 (.getfield 114) 3 13 := by decide +kernel
theorem d_57_13 : m_dn M_57 13 (.aload_n 0) 1 14 := by decide +kernel
theorem d_57_14 : m_dn M_57 14 (.getfield 26) 3 17 := by decide +kernel
theorem d_57_17 : m_dn M_57 17 (.if_icmp .eq 14) 3 20 := by decide +kernel
theorem d_57_20 : m_dn M_57 20 (.aload_n 0) 1 21 := by decide +kernel
theorem d_57_21 : m_dn M_57 21 (.aload_n 0) 1 22 := by decide +kernel
theorem d_57_22 : m_dn M_57 22 (.getfield 114) 3 25 := by decide +kernel
theorem d_57_25 : m_dn M_57 25 (.invokevirtual 120) 3 28 := by decide +kernel
theorem d_57_28 : m_dn M_57 28 (.ifCond .eq 7) 3 31 := by decide +kernel
theorem d_57_3 : m_dn M_57 3 (.invokevirtual 62) 3 6 := by decide +kernel
theorem d_57_31 : m_dn M_57 31 (.iconst 1) 1 32 := by decide +kernel
theorem d_57_32 : m_dn M_57 32 (.goto 4) 3 35 := by decide +kernel
theorem d_57_35 : m_dn M_57 35 (.iconst 0) 1 36 := by decide +kernel
theorem d_57_36 : m_dn M_57 36 (.ireturn) 1 37 := by decide +kernel
theorem d_57_6 : m_dn M_57 6 (.ifCond .eq 29) 3 9 := by decide +kernel
theorem d_57_9 : m_dn M_57 9 (.aload_n 0) 1 10 := by decide +kernel
def D_c_Reader_init (F : Nat) (a0 : Nat) (T : tT) : Option (tT) := bd2 (tna T 2 (300 : Int32)) fun a1 T2 => (tpr T2 a0 1 0 (some a1)).bind fun T6 => (tpi T6 a0 1 3 ((-1) : Int32)).bind fun T10 => bd2 (tna T10 0 (300 : Int32)) fun a14 T15 => (tpr T15 a0 1 4 (some a14)).bind fun T19 => bd2 (tna T19 0 (4 : Int32)) fun a23 T24 => (tpr T24 a0 1 12 (some a23)).bind fun T28 => some T28
theorem T_c_Reader_init {l : Launch} {w : List mM} {F : Nat} {a0 : Nat} {T : tT} {Tz : tT} (ha0 : okr T.2.1 (some a0)) (h : RT T w) (h0 : D_c_Reader_init F a0 T = some Tz) : m_Rb l M_1 (m_ent M_1 [.ref a0] w) (fun v w' => v = none ∧ RT Tz w' ∧ m_Fm w w') T Tz 1 100 := by
  rw [show m_ent M_1 [.ref a0] w = (0, [(0, .ref a0)], [], w) from by first | rfl | (simp only [m_ent, lv_args_r, lv_args_a, lv_args_i, lv_args_l, lv_args_0]; done) | (simp only [m_ent, lv_args_r, lv_args_a, lv_args_i, lv_args_l, lv_args_0]; rfl)]
  generalize hw0 : w = w0 at h ⊢
  have hF : m_Fm w0 w0 := m_Fm.refl
  rw [D_c_Reader_init] at h0
  refine m_Rb.n0 b_1 (x_aload_n d_1_0 rfl) ?_
  refine m_Rb.toinit b_1 d_1_1 rfl (Nat.le_of_ble_eq_true rfl) ?_ (by decide) (by decide)
  refine m_Rb.n0 b_1 (x_aload_n d_1_4 rfl) ?_
  refine m_Rb.n0 b_1 (x_sipush (z := 300) d_1_5 (by decide)) ?_
  obtain ⟨a1, T2, e3, j4⟩ := bS2 h0
  refine m_Rb.tnewa b_1 d_1_8 rfl (by simp only [m_okf, List.all_cons, List.all_nil, Bool.and_true, Bool.and_self, m_okv_i, m_okv_l, m_okv_0, m_okv_n0, m_okv_t, RT.okn h ha0, RT.okv h ha0]) h hF e3 (fun w5 o5 h5 f5 k5 => ?_)
  obtain ⟨T6, e7, j8⟩ := bS j4
  refine m_Rb.tputA (z := (some a1)) b_1 d_1_10 rfl rfl (by decide) h5 f5 e7 o5 (fun w9 h9 f9 k9 => ?_)
  refine m_Rb.n0 b_1 (x_aload_n d_1_13 rfl) ?_
  refine m_Rb.n0 b_1 (x_iconst (z := (-1)) d_1_14 (by decide)) ?_
  obtain ⟨T10, e11, j12⟩ := bS j8
  refine m_Rb.tputI b_1 d_1_15 rfl rfl (by decide) h9 f9 e11 (fun w13 h13 f13 k13 => ?_)
  refine m_Rb.n0 b_1 (x_aload_n d_1_18 rfl) ?_
  refine m_Rb.n0 b_1 (x_sipush (z := 300) d_1_19 (by decide)) ?_
  obtain ⟨a14, T15, e16, j17⟩ := bS2 j12
  refine m_Rb.tnewa b_1 d_1_22 rfl (by simp only [m_okf, List.all_cons, List.all_nil, Bool.and_true, Bool.and_self, m_okv_i, m_okv_l, m_okv_0, m_okv_n0, m_okv_t, RT.okn h13 (okm (okm (okm ha0 k5) k9) k13), RT.okv h13 (okm (okm (okm ha0 k5) k9) k13)]) h13 f13 e16 (fun w18 o18 h18 f18 k18 => ?_)
  obtain ⟨T19, e20, j21⟩ := bS j17
  refine m_Rb.tputA (z := (some a14)) b_1 d_1_24 rfl rfl (by decide) h18 f18 e20 o18 (fun w22 h22 f22 k22 => ?_)
  refine m_Rb.n0 b_1 (x_aload_n d_1_27 rfl) ?_
  refine m_Rb.n0 b_1 (x_iconst (z := 4) d_1_28 (by decide)) ?_
  obtain ⟨a23, T24, e25, j26⟩ := bS2 j21
  refine m_Rb.tnewa b_1 d_1_29 rfl (by simp only [m_okf, List.all_cons, List.all_nil, Bool.and_true, Bool.and_self, m_okv_i, m_okv_l, m_okv_0, m_okv_n0, m_okv_t, RT.okn h22 (okm (okm (okm (okm (okm ha0 k5) k9) k13) k18) k22), RT.okv h22 (okm (okm (okm (okm (okm ha0 k5) k9) k13) k18) k22)]) h22 f22 e25 (fun w27 o27 h27 f27 k27 => ?_)
  obtain ⟨T28, e29, j30⟩ := bS j26
  refine m_Rb.tputA (z := (some a23)) b_1 d_1_31 rfl rfl (by decide) h27 f27 e29 o27 (fun w31 h31 f31 k31 => ?_)
  cases j30
  exact m_Rb.ret b_1 (m_rt_vr d_1_34 rfl) ⟨rfl, h31, f31⟩
def D_c_EdgeHouse_hash (F : Nat) (p0 : Int32) (p1 : Int32) (T0 : tT) : Option (Int32) := some (((((((p0 * ((-1640531535) : Int32)) + (p1 * ((-2048144789) : Int32))) ^^^ ((((p0 * ((-1640531535) : Int32)) + (p1 * ((-2048144789) : Int32))) : Int32).toUInt32 >>> (((15 : Int32) : Int32).toUInt32 &&& Int32.toUInt32 31)).toInt32) * (739982445 : Int32)) ^^^ ((((((p0 * ((-1640531535) : Int32)) + (p1 * ((-2048144789) : Int32))) ^^^ ((((p0 * ((-1640531535) : Int32)) + (p1 * ((-2048144789) : Int32))) : Int32).toUInt32 >>> (((15 : Int32) : Int32).toUInt32 &&& Int32.toUInt32 31)).toInt32) * (739982445 : Int32)) : Int32).toUInt32 >>> (((12 : Int32) : Int32).toUInt32 &&& Int32.toUInt32 31)).toInt32) : Int32).toUInt32 >>> (((16 : Int32) : Int32).toUInt32 &&& Int32.toUInt32 31)).toInt32
theorem T_c_EdgeHouse_hash {l : Launch} {w : List mM} {F : Nat} {p0 : Int32} {p1 : Int32} {T0 : tT} {yz : Int32} (h : RT T0 w) (h0 : D_c_EdgeHouse_hash F p0 p1 T0 = some yz) : m_Rb l M_11 (m_ent M_11 [.int p0, .int p1] w) (fun v w' => v = some (.int yz) ∧ RT T0 w' ∧ m_Fm w w') T0 T0 0 0 := by
  rw [show m_ent M_11 [.int p0, .int p1] w = (0, [(0, .int p0), (1, .int p1)], [], w) from by first | rfl | (simp only [m_ent, lv_args_r, lv_args_a, lv_args_i, lv_args_l, lv_args_0]; done) | (simp only [m_ent, lv_args_r, lv_args_a, lv_args_i, lv_args_l, lv_args_0]; rfl)]
  generalize hw0 : w = w0 at h ⊢
  have hF : m_Fm w0 w0 := m_Fm.refl
  rw [D_c_EdgeHouse_hash] at h0
  refine m_Rb.n0 b_11 (x_iload_n d_11_0 rfl) ?_
  refine m_Rb.n0 b_11 (x_ldcw (v := .int (-1640531535)) d_11_1 rfl) ?_
  refine m_Rb.n0 b_11 (x_imul d_11_4 rfl) ?_
  refine m_Rb.n0 b_11 (x_iload_n d_11_5 rfl) ?_
  refine m_Rb.n0 b_11 (x_ldcw (v := .int (-2048144789)) d_11_6 rfl) ?_
  refine m_Rb.n0 b_11 (x_imul d_11_9 rfl) ?_
  refine m_Rb.n0 b_11 (x_iadd d_11_10 rfl) ?_
  refine m_Rb.n0 b_11 (x_istore_n d_11_11 rfl (show m_put1 _ _ _ = [(2, _), (0, _), (1, _)] from rfl)) ?_
  refine m_Rb.n0 b_11 (x_iload_n d_11_12 rfl) ?_
  refine m_Rb.n0 b_11 (x_iload_n d_11_13 rfl) ?_
  refine m_Rb.n0 b_11 (x_bipush (z := 15) d_11_14 (by decide)) ?_
  refine m_Rb.n0 b_11 (x_iushr d_11_16 rfl) ?_
  refine m_Rb.n0 b_11 (x_ixor d_11_17 rfl) ?_
  refine m_Rb.n0 b_11 (x_istore_n d_11_18 rfl (show m_put1 _ _ _ = [(2, _), (0, _), (1, _)] from rfl)) ?_
  refine m_Rb.n0 b_11 (x_iload_n d_11_19 rfl) ?_
  refine m_Rb.n0 b_11 (x_ldcw (v := .int 739982445) d_11_20 rfl) ?_
  refine m_Rb.n0 b_11 (x_imul d_11_23 rfl) ?_
  refine m_Rb.n0 b_11 (x_istore_n d_11_24 rfl (show m_put1 _ _ _ = [(2, _), (0, _), (1, _)] from rfl)) ?_
  refine m_Rb.n0 b_11 (x_iload_n d_11_25 rfl) ?_
  refine m_Rb.n0 b_11 (x_iload_n d_11_26 rfl) ?_
  refine m_Rb.n0 b_11 (x_bipush (z := 12) d_11_27 (by decide)) ?_
  refine m_Rb.n0 b_11 (x_iushr d_11_29 rfl) ?_
  refine m_Rb.n0 b_11 (x_ixor d_11_30 rfl) ?_
  refine m_Rb.n0 b_11 (x_istore_n d_11_31 rfl (show m_put1 _ _ _ = [(2, _), (0, _), (1, _)] from rfl)) ?_
  refine m_Rb.n0 b_11 (x_iload_n d_11_32 rfl) ?_
  refine m_Rb.n0 b_11 (x_bipush (z := 16) d_11_33 (by decide)) ?_
  refine m_Rb.n0 b_11 (x_iushr d_11_35 rfl) ?_
  cases h0
  exact m_Rb.ret b_11 (m_rt_ir d_11_36 rfl rfl) ⟨rfl, h, hF⟩
def D_c_Reader_write_71 (F : Nat) (rec28 : Nat → Int64 → Int32 → Int32 → tT → Option (Int32 × tT)) (x0 : Nat) (x1 : Int64) (x3 : Int32) (x4 : Int32) (T : tT) : Option (Int32 × tT) := rec28 x0 x1 x3 (x4 + Int32.ofInt 1) T
theorem T_c_Reader_write_71 {l : Launch} {w0 : List mM} {F : Nat} {rec28 : Nat → Int64 → Int32 → Int32 → tT → Option (Int32 × tT)} (hr28 : ∀ {x0 : Nat} {x1 : Int64} {x3 : Int32} {x4 : Int32} {T : tT} {w : List mM} {yz : Int32} {Tz : tT}, okr T.2.1 (some x0) → RT T w → m_Fm w0 w → rec28 x0 x1 x3 x4 T = some (yz, Tz) → m_Rb l M_13 (28, [(0, .ref x0), (1, .long x1), (3, .int x3), (4, .int x4)], [], w) (fun v w' => v = some (.int yz) ∧ RT Tz w' ∧ m_Fm w0 w') T Tz 0 0) {x0 : Nat} {x1 : Int64} {x3 : Int32} {x4 : Int32} {T : tT} {w : List mM} {yz : Int32} {Tz : tT} (hx0 : okr T.2.1 (some x0)) (h : RT T w) (hF : m_Fm w0 w) (h0 : D_c_Reader_write_71 F rec28 x0 x1 x3 x4 T = some (yz, Tz)) : m_Rb l M_13 (71, [(0, .ref x0), (1, .long x1), (3, .int x3), (4, .int x4)], [], w) (fun v w' => v = some (.int yz) ∧ RT Tz w' ∧ m_Fm w0 w') T Tz 0 0 := by
  rw [D_c_Reader_write_71] at h0
  refine m_Rb.n0 b_13 (x_iinc d_13_71 rfl rfl rfl (show m_put1 _ _ _ = [(4, _), (0, _), (1, _), (3, _)] from rfl)) ?_
  refine m_Rb.n0 b_13 (x_goto d_13_74 rfl) ?_
  exact m_Rb.pick [1, 2, 3, 0] rfl (hr28 hx0 h hF h0)
def D_c_Reader_write_82 (F : Nat) : Nat → Nat → Int64 → Int32 → tT → Option (Int32 × tT)
  | 0, _, _, _, _ => none
  | n + 1, x0, x1, x4, T => cond (m_c1 .lt x4) (some ((1 : Int32), T)) ((tgr T x0 1 0).bind fun v20 => (tgi T x0 1 1).bind fun v24 => (v20).bind fun a27 => (tasc T a27 v24 ((((((x1 : Int64).toUInt64 >>> ((((8 : Int32) * x4) : Int32).toInt64.toUInt64 &&& Int64.toUInt64 63)).toInt64 &&& ((255) : Int64)) : Int64).toInt32.toUInt32 % 65536).toInt32)).bind fun T30 => (tgi T30 x0 1 1).bind fun v34 => (tpi T30 x0 1 1 (v34 + (1 : Int32))).bind fun T37 => D_c_Reader_write_82 F n x0 x1 (x4 + Int32.ofInt (-1)) T37)
theorem T_c_Reader_write_82 {l : Launch} {w0 : List mM} {F : Nat} : ∀ (n : Nat) {x0 : Nat} {x1 : Int64} {x4 : Int32} {T : tT} {w : List mM} {yz : Int32} {Tz : tT}, okr T.2.1 (some x0) → RT T w → m_Fm w0 w → D_c_Reader_write_82 F n x0 x1 x4 T = some (yz, Tz) → m_Rb l M_13 (82, [(0, .ref x0), (1, .long x1), (4, .int x4)], [], w) (fun v w' => v = some (.int yz) ∧ RT Tz w' ∧ m_Fm w0 w') T Tz 0 0 := by
  intro n
  induction n with
  | zero => intro x0 x1 x4 T w yz Tz hx0 h hF h0; cases h0
  | succ n ih =>
    intro x0 x1 x4 T w yz Tz hx0 h hF h0
    rw [D_c_Reader_write_82] at h0
    refine m_Rb.n0 b_13 (x_iload d_13_82 rfl) ?_
    cases hc18 : m_c1 .lt x4 with
    | true =>
      have j19 := cT hc18 h0
      refine m_Rb.n0 b_13 (x_ift d_13_84 rfl hc18) ?_
      refine m_Rb.n0 b_13 (x_iconst (z := 1) d_13_125 (by decide)) ?_
      cases j19
      exact m_Rb.ret b_13 (m_rt_ir d_13_126 rfl m_nb1) ⟨rfl, h, hF⟩
    | false =>
      have j19 := cF hc18 h0
      refine m_Rb.n0 b_13 (x_iff d_13_84 rfl hc18) ?_
      refine m_Rb.n0 b_13 (x_aload_n d_13_87 rfl) ?_
      obtain ⟨v20, e21, j22⟩ := bS j19
      refine m_Rb.tgetR b_13 d_13_88 rfl h e21 (fun o23 => ?_)
      refine m_Rb.n0 b_13 (x_aload_n d_13_91 rfl) ?_
      obtain ⟨v24, e25, j26⟩ := bS j22
      refine m_Rb.tgetI b_13 d_13_92 rfl h e25 ?_
      refine m_Rb.n0 b_13 (x_lload_n d_13_95 rfl) ?_
      refine m_Rb.n0 b_13 (x_bipush (z := 8) d_13_96 (by decide)) ?_
      refine m_Rb.n0 b_13 (x_iload d_13_98 rfl) ?_
      refine m_Rb.n0 b_13 (x_imul d_13_100 rfl) ?_
      refine m_Rb.n0 b_13 (x_lushr d_13_101 rfl) ?_
      refine m_Rb.n0 b_13 (x_ldc2 (v := .long (255)) d_13_102 rfl) ?_
      refine m_Rb.n0 b_13 (x_land d_13_105 rfl) ?_
      refine m_Rb.n0 b_13 (x_l2i d_13_106 rfl) ?_
      refine m_Rb.n0 b_13 (x_i2c d_13_107 rfl) ?_
      obtain ⟨a27, e28, j29⟩ := bS j26
      subst e28
      obtain ⟨T30, e31, j32⟩ := bS j29
      refine m_Rb.tputAC b_13 d_13_108 h hF e31 (fun w33 h33 f33 k33 => ?_)
      refine m_Rb.n0 b_13 (x_aload_n d_13_109 rfl) ?_
      refine m_Rb.n0 b_13 (x_dup d_13_110 rfl) ?_
      obtain ⟨v34, e35, j36⟩ := bS j32
      refine m_Rb.tgetI b_13 d_13_111 rfl h33 e35 ?_
      refine m_Rb.n0 b_13 (x_iconst (z := 1) d_13_114 (by decide)) ?_
      refine m_Rb.n0 b_13 (x_iadd d_13_115 rfl) ?_
      obtain ⟨T37, e38, j39⟩ := bS j36
      refine m_Rb.tputI b_13 d_13_116 rfl rfl (by decide) h33 f33 e38 (fun w40 h40 f40 k40 => ?_)
      refine m_Rb.n0 b_13 (x_iinc d_13_119 rfl rfl rfl (show m_put1 _ _ _ = [(4, _), (0, _), (1, _)] from rfl)) ?_
      refine m_Rb.n0 b_13 (x_goto d_13_122 rfl) ?_
      exact m_Rb.pick [1, 2, 0] rfl (ih (okm (okm hx0 k33) k40) h40 f40 j39)
def D_c_Reader_write_28 (F : Nat) : Nat → Nat → Int64 → Int32 → Int32 → tT → Option (Int32 × tT)
  | 0, _, _, _, _, _ => none
  | n + 1, x0, x1, x3, x4, T => cond (m_c2 .ge x4 x3) (D_c_Reader_write_82 F F x0 x1 (x3 - (1 : Int32)) T) (cond (m_c2 .eq ((((x1 : Int64).toUInt64 >>> ((((8 : Int32) * x4) : Int32).toInt64.toUInt64 &&& Int64.toUInt64 63)).toInt64 &&& ((255) : Int64)) : Int64).toInt32 (10 : Int32)) (D_c_Reader_write_71 F (D_c_Reader_write_28 F n) x0 x1 x3 x4 T) (cond (m_c2 .lt ((((x1 : Int64).toUInt64 >>> ((((8 : Int32) * x4) : Int32).toInt64.toUInt64 &&& Int64.toUInt64 63)).toInt64 &&& ((255) : Int64)) : Int64).toInt32 (32 : Int32)) (some ((0 : Int32), T)) (cond (m_c2 .le ((((x1 : Int64).toUInt64 >>> ((((8 : Int32) * x4) : Int32).toInt64.toUInt64 &&& Int64.toUInt64 63)).toInt64 &&& ((255) : Int64)) : Int64).toInt32 (126 : Int32)) (D_c_Reader_write_71 F (D_c_Reader_write_28 F n) x0 x1 x3 x4 T) (some ((0 : Int32), T)))))
theorem T_c_Reader_write_28 {l : Launch} {w0 : List mM} {F : Nat} : ∀ (n : Nat) {x0 : Nat} {x1 : Int64} {x3 : Int32} {x4 : Int32} {T : tT} {w : List mM} {yz : Int32} {Tz : tT}, okr T.2.1 (some x0) → RT T w → m_Fm w0 w → D_c_Reader_write_28 F n x0 x1 x3 x4 T = some (yz, Tz) → m_Rb l M_13 (28, [(0, .ref x0), (1, .long x1), (3, .int x3), (4, .int x4)], [], w) (fun v w' => v = some (.int yz) ∧ RT Tz w' ∧ m_Fm w0 w') T Tz 0 0 := by
  intro n
  induction n with
  | zero => intro x0 x1 x3 x4 T w yz Tz hx0 h hF h0; cases h0
  | succ n ih =>
    intro x0 x1 x3 x4 T w yz Tz hx0 h hF h0
    rw [D_c_Reader_write_28] at h0
    refine m_Rb.n0 b_13 (x_iload d_13_28 rfl) ?_
    refine m_Rb.n0 b_13 (x_iload_n d_13_30 rfl) ?_
    cases hc10 : m_c2 .ge x4 x3 with
    | true =>
      have j11 := cT hc10 h0
      refine m_Rb.n0 b_13 (x_ict d_13_31 rfl hc10) ?_
      refine m_Rb.n0 b_13 (x_iload_n d_13_77 rfl) ?_
      refine m_Rb.n0 b_13 (x_iconst (z := 1) d_13_78 (by decide)) ?_
      refine m_Rb.n0 b_13 (x_isub d_13_79 rfl) ?_
      refine m_Rb.n0 b_13 (x_istore d_13_80 rfl (show m_put1 _ _ _ = [(4, _), (0, _), (1, _), (3, _)] from rfl)) ?_
      exact m_Rb.pick [1, 2, 0] rfl (T_c_Reader_write_82 F hx0 h hF j11)
    | false =>
      have j11 := cF hc10 h0
      refine m_Rb.n0 b_13 (x_icf d_13_31 rfl hc10) ?_
      refine m_Rb.n0 b_13 (x_lload_n d_13_34 rfl) ?_
      refine m_Rb.n0 b_13 (x_bipush (z := 8) d_13_35 (by decide)) ?_
      refine m_Rb.n0 b_13 (x_iload d_13_37 rfl) ?_
      refine m_Rb.n0 b_13 (x_imul d_13_39 rfl) ?_
      refine m_Rb.n0 b_13 (x_lushr d_13_40 rfl) ?_
      refine m_Rb.n0 b_13 (x_ldc2 (v := .long (255)) d_13_41 rfl) ?_
      refine m_Rb.n0 b_13 (x_land d_13_44 rfl) ?_
      refine m_Rb.n0 b_13 (x_l2i d_13_45 rfl) ?_
      refine m_Rb.n0 b_13 (x_istore d_13_46 rfl (show m_put1 _ _ _ = [(5, _), (0, _), (1, _), (3, _), (4, _)] from rfl)) ?_
      refine m_Rb.n0 b_13 (x_iload d_13_48 rfl) ?_
      refine m_Rb.n0 b_13 (x_bipush (z := 10) d_13_50 (by decide)) ?_
      cases hc12 : m_c2 .eq ((((x1 : Int64).toUInt64 >>> ((((8 : Int32) * x4) : Int32).toInt64.toUInt64 &&& Int64.toUInt64 63)).toInt64 &&& ((255) : Int64)) : Int64).toInt32 (10 : Int32) with
      | true =>
        have j13 := cT hc12 j11
        refine m_Rb.n0 b_13 (x_ict d_13_52 rfl hc12) ?_
        exact m_Rb.pick [1, 2, 3, 4] rfl (T_c_Reader_write_71 ih hx0 h hF j13)
      | false =>
        have j13 := cF hc12 j11
        refine m_Rb.n0 b_13 (x_icf d_13_52 rfl hc12) ?_
        refine m_Rb.n0 b_13 (x_iload d_13_55 rfl) ?_
        refine m_Rb.n0 b_13 (x_bipush (z := 32) d_13_57 (by decide)) ?_
        cases hc14 : m_c2 .lt ((((x1 : Int64).toUInt64 >>> ((((8 : Int32) * x4) : Int32).toInt64.toUInt64 &&& Int64.toUInt64 63)).toInt64 &&& ((255) : Int64)) : Int64).toInt32 (32 : Int32) with
        | true =>
          have j15 := cT hc14 j13
          refine m_Rb.n0 b_13 (x_ict d_13_59 rfl hc14) ?_
          refine m_Rb.n0 b_13 (x_iconst (z := 0) d_13_69 (by decide)) ?_
          cases j15
          exact m_Rb.ret b_13 (m_rt_ir d_13_70 rfl m_nb0) ⟨rfl, h, hF⟩
        | false =>
          have j15 := cF hc14 j13
          refine m_Rb.n0 b_13 (x_icf d_13_59 rfl hc14) ?_
          refine m_Rb.n0 b_13 (x_iload d_13_62 rfl) ?_
          refine m_Rb.n0 b_13 (x_bipush (z := 126) d_13_64 (by decide)) ?_
          cases hc16 : m_c2 .le ((((x1 : Int64).toUInt64 >>> ((((8 : Int32) * x4) : Int32).toInt64.toUInt64 &&& Int64.toUInt64 63)).toInt64 &&& ((255) : Int64)) : Int64).toInt32 (126 : Int32) with
          | true =>
            have j17 := cT hc16 j15
            refine m_Rb.n0 b_13 (x_ict d_13_66 rfl hc16) ?_
            exact m_Rb.pick [1, 2, 3, 4] rfl (T_c_Reader_write_71 ih hx0 h hF j17)
          | false =>
            have j17 := cF hc16 j15
            refine m_Rb.n0 b_13 (x_icf d_13_66 rfl hc16) ?_
            refine m_Rb.n0 b_13 (x_iconst (z := 0) d_13_69 (by decide)) ?_
            cases j17
            exact m_Rb.ret b_13 (m_rt_ir d_13_70 rfl m_nb0) ⟨rfl, h, hF⟩
def D_c_Reader_write (F : Nat) (a0 : Nat) (p0 : Int64) (p1 : Int32) (T : tT) : Option (Int32 × tT) := cond (m_c2 .lt p1 (1 : Int32)) (some ((0 : Int32), T)) (cond (m_c2 .gt p1 (8 : Int32)) (some ((0 : Int32), T)) ((tgi T a0 1 1).bind fun v5 => cond (m_c2 .le (v5 + p1) (300 : Int32)) (D_c_Reader_write_28 F F a0 p0 p1 (0 : Int32) T) (some ((0 : Int32), T))))
theorem T_c_Reader_write {l : Launch} {w : List mM} {F : Nat} {a0 : Nat} {p0 : Int64} {p1 : Int32} {T : tT} {yz : Int32} {Tz : tT} (ha0 : okr T.2.1 (some a0)) (h : RT T w) (h0 : D_c_Reader_write F a0 p0 p1 T = some (yz, Tz)) : m_Rb l M_13 (m_ent M_13 [.ref a0, .long p0, .int p1] w) (fun v w' => v = some (.int yz) ∧ RT Tz w' ∧ m_Fm w w') T Tz 0 0 := by
  rw [show m_ent M_13 [.ref a0, .long p0, .int p1] w = (0, [(0, .ref a0), (1, .long p0), (3, .int p1)], [], w) from by first | rfl | (simp only [m_ent, lv_args_r, lv_args_a, lv_args_i, lv_args_l, lv_args_0]; done) | (simp only [m_ent, lv_args_r, lv_args_a, lv_args_i, lv_args_l, lv_args_0]; rfl)]
  generalize hw0 : w = w0 at h ⊢
  have hF : m_Fm w0 w0 := m_Fm.refl
  rw [D_c_Reader_write] at h0
  refine m_Rb.n0 b_13 (x_iload_n d_13_0 rfl) ?_
  refine m_Rb.n0 b_13 (x_iconst (z := 1) d_13_1 (by decide)) ?_
  cases hc1 : m_c2 .lt p1 (1 : Int32) with
  | true =>
    have j2 := cT hc1 h0
    refine m_Rb.n0 b_13 (x_ict d_13_2 rfl hc1) ?_
    refine m_Rb.n0 b_13 (x_iconst (z := 0) d_13_23 (by decide)) ?_
    cases j2
    exact m_Rb.ret b_13 (m_rt_ir d_13_24 rfl m_nb0) ⟨rfl, h, hF⟩
  | false =>
    have j2 := cF hc1 h0
    refine m_Rb.n0 b_13 (x_icf d_13_2 rfl hc1) ?_
    refine m_Rb.n0 b_13 (x_iload_n d_13_5 rfl) ?_
    refine m_Rb.n0 b_13 (x_bipush (z := 8) d_13_6 (by decide)) ?_
    cases hc3 : m_c2 .gt p1 (8 : Int32) with
    | true =>
      have j4 := cT hc3 j2
      refine m_Rb.n0 b_13 (x_ict d_13_8 rfl hc3) ?_
      refine m_Rb.n0 b_13 (x_iconst (z := 0) d_13_23 (by decide)) ?_
      cases j4
      exact m_Rb.ret b_13 (m_rt_ir d_13_24 rfl m_nb0) ⟨rfl, h, hF⟩
    | false =>
      have j4 := cF hc3 j2
      refine m_Rb.n0 b_13 (x_icf d_13_8 rfl hc3) ?_
      refine m_Rb.n0 b_13 (x_aload_n d_13_11 rfl) ?_
      obtain ⟨v5, e6, j7⟩ := bS j4
      refine m_Rb.tgetI b_13 d_13_12 rfl h e6 ?_
      refine m_Rb.n0 b_13 (x_iload_n d_13_15 rfl) ?_
      refine m_Rb.n0 b_13 (x_iadd d_13_16 rfl) ?_
      refine m_Rb.n0 b_13 (x_sipush (z := 300) d_13_17 (by decide)) ?_
      cases hc8 : m_c2 .le (v5 + p1) (300 : Int32) with
      | true =>
        have j9 := cT hc8 j7
        refine m_Rb.n0 b_13 (x_ict d_13_20 rfl hc8) ?_
        refine m_Rb.n0 b_13 (x_iconst (z := 0) d_13_25 (by decide)) ?_
        refine m_Rb.n0 b_13 (x_istore d_13_26 rfl (show m_put1 _ _ _ = [(4, _), (0, _), (1, _), (3, _)] from rfl)) ?_
        exact m_Rb.pick [1, 2, 3, 0] rfl (T_c_Reader_write_28 F ha0 h hF j9)
      | false =>
        have j9 := cF hc8 j7
        refine m_Rb.n0 b_13 (x_icf d_13_20 rfl hc8) ?_
        refine m_Rb.n0 b_13 (x_iconst (z := 0) d_13_23 (by decide)) ?_
        cases j9
        exact m_Rb.ret b_13 (m_rt_ir d_13_24 rfl m_nb0) ⟨rfl, h, hF⟩
def D_c_EdgeHouse_type (F : Nat) (a0 : Nat) (p0 : Int64) (p1 : Int32) (T : tT) : Option (Int32 × tT) := (tgr T a0 0 0).bind fun v1 => (v1).bind fun a5 => (tcl T a5 1).bind fun _ => bd2 (D_c_Reader_write F a5 p0 p1 T) fun v11 T12 => (bret v11).bind fun v16 => some (v16, T12)
theorem T_c_EdgeHouse_type {l : Launch} {w : List mM} {F : Nat} {a0 : Nat} {p0 : Int64} {p1 : Int32} {T : tT} {yz : Int32} {Tz : tT} (ha0 : okr T.2.1 (some a0)) (h : RT T w) (h0 : D_c_EdgeHouse_type F a0 p0 p1 T = some (yz, Tz)) : m_Rb l M_12 (m_ent M_12 [.ref a0, .long p0, .int p1] w) (fun v w' => v = some (.int yz) ∧ RT Tz w' ∧ m_Fm w w') T Tz 1 100 := by
  rw [show m_ent M_12 [.ref a0, .long p0, .int p1] w = (0, [(0, .ref a0), (1, .long p0), (3, .int p1)], [], w) from by first | rfl | (simp only [m_ent, lv_args_r, lv_args_a, lv_args_i, lv_args_l, lv_args_0]; done) | (simp only [m_ent, lv_args_r, lv_args_a, lv_args_i, lv_args_l, lv_args_0]; rfl)]
  generalize hw0 : w = w0 at h ⊢
  have hF : m_Fm w0 w0 := m_Fm.refl
  rw [D_c_EdgeHouse_type] at h0
  refine m_Rb.n0 b_12 (x_aload_n d_12_0 rfl) ?_
  obtain ⟨v1, e2, j3⟩ := bS h0
  refine m_Rb.tgetR b_12 d_12_1 rfl h e2 (fun o4 => ?_)
  refine m_Rb.n0 b_12 (x_lload_n d_12_4 rfl) ?_
  refine m_Rb.n0 b_12 (x_iload_n d_12_5 rfl) ?_
  obtain ⟨a5, e6, j7⟩ := bS j3
  subst e6
  obtain ⟨_, e8, j9⟩ := bS j7
  obtain ⟨_, g10⟩ := RT.cls h e8
  obtain ⟨v11, T12, e13, j14⟩ := bS2 j9
  refine m_Rb.callI b_12 (y_cv d_12_6 rfl q_13 (m_isRecv_of rfl g10) (show m_takeI _ _ = some (_, [_, _, _], []) from m_takeI_of rfl rfl rfl (Nat.le_of_ble_eq_true rfl)) (by simp only [m_okf, List.all_cons, List.all_nil, Bool.and_true, Bool.and_self, m_okv_i, m_okv_l, m_okv_0, m_okv_n0, m_okv_t, RT.okn h ha0, RT.okv h ha0, RT.okn h o4, RT.okv h o4]) rfl) (T_c_Reader_write o4 h e13) hF rfl (fun w15 h15 f15 k15 => ?_) (by decide) (by decide)
  obtain ⟨v16, e17, j18⟩ := bS j14
  cases j18
  exact m_Rb.retb b_12 d_12_9 rfl e17 ⟨rfl, h15, f15⟩
def D_c_EdgeHouse_isPath (F : Nat) (p0 : Int32) (T0 : tT) : Option (Int32) := (cond (m_c1 .lt p0) (some (0 : Int32)) (cond (m_c2 .ge p0 (32 : Int32)) (some (0 : Int32)) (some (1 : Int32)))).bind fun v7 => (bret v7).bind fun v10 => some v10
theorem T_c_EdgeHouse_isPath {l : Launch} {w : List mM} {F : Nat} {p0 : Int32} {T0 : tT} {yz : Int32} (h : RT T0 w) (h0 : D_c_EdgeHouse_isPath F p0 T0 = some yz) : m_Rb l M_15 (m_ent M_15 [.int p0] w) (fun v w' => v = some (.int yz) ∧ RT T0 w' ∧ m_Fm w w') T0 T0 0 0 := by
  rw [show m_ent M_15 [.int p0] w = (0, [(0, .int p0)], [], w) from by first | rfl | (simp only [m_ent, lv_args_r, lv_args_a, lv_args_i, lv_args_l, lv_args_0]; done) | (simp only [m_ent, lv_args_r, lv_args_a, lv_args_i, lv_args_l, lv_args_0]; rfl)]
  generalize hw0 : w = w0 at h ⊢
  have hF : m_Fm w0 w0 := m_Fm.refl
  rw [D_c_EdgeHouse_isPath] at h0
  refine m_Rb.n0 b_15 (x_iload_n d_15_0 rfl) ?_
  obtain ⟨v7, e2, j8⟩ := bS h0
  have kk1 : ∀ (xz : Int32) (w1 : List mM), xz = v7 → RT T0 w1 → m_Fm w0 w1 → m_Rb l M_15 (15, [(0, .int p0)], [.int xz], w1) (fun v w' => v = some (.int yz) ∧ RT T0 w' ∧ m_Fm w0 w') T0 T0 0 0 := by
    intro xz w9 ez h9 f9
    rw [ez]
    obtain ⟨v10, e11, j12⟩ := bS j8
    cases j12
    exact m_Rb.retb b_15 d_15_15 rfl e11 ⟨rfl, h9, f9⟩
  cases hc3 : m_c1 .lt p0 with
  | true =>
    have j4 := cT hc3 e2
    refine m_Rb.n0 b_15 (x_ift d_15_1 rfl hc3) ?_
    refine m_Rb.n0 b_15 (x_iconst (z := 0) d_15_14 (by decide)) ?_
    exact kk1 _ _ (Option.some.inj j4) h hF
  | false =>
    have j4 := cF hc3 e2
    refine m_Rb.n0 b_15 (x_iff d_15_1 rfl hc3) ?_
    refine m_Rb.n0 b_15 (x_iload_n d_15_4 rfl) ?_
    refine m_Rb.n0 b_15 (x_bipush (z := 32) d_15_5 (by decide)) ?_
    cases hc5 : m_c2 .ge p0 (32 : Int32) with
    | true =>
      have j6 := cT hc5 j4
      refine m_Rb.n0 b_15 (x_ict d_15_7 rfl hc5) ?_
      refine m_Rb.n0 b_15 (x_iconst (z := 0) d_15_14 (by decide)) ?_
      exact kk1 _ _ (Option.some.inj j6) h hF
    | false =>
      have j6 := cF hc5 j4
      refine m_Rb.n0 b_15 (x_icf d_15_7 rfl hc5) ?_
      refine m_Rb.n0 b_15 (x_iconst (z := 1) d_15_10 (by decide)) ?_
      refine m_Rb.n0 b_15 (x_goto d_15_11 rfl) ?_
      exact kk1 _ _ (Option.some.inj j6) h hF
def D_c_EdgeHouse_drop (F : Nat) (a0 : Nat) (p0 : Int32) (T : tT) : Option (Int32 × tT) := (D_c_EdgeHouse_isPath F p0 T).bind fun v1 => cond (m_c1 .eq v1) (some ((0 : Int32), T)) ((tgr T a0 0 1).bind fun v7 => (v7).bind fun a11 => (tar T a11 6 p0).bind fun v14 => nc v14 (some ((0 : Int32), T)) fun a18 => ((tgr T a0 0 1).bind fun v20 => (v20).bind fun a24 => (tasr T a24 6 p0 none).bind fun T27 => some ((1 : Int32), T27)))
theorem T_c_EdgeHouse_drop {l : Launch} {w : List mM} {F : Nat} {a0 : Nat} {p0 : Int32} {T : tT} {yz : Int32} {Tz : tT} (ha0 : okr T.2.1 (some a0)) (h : RT T w) (h0 : D_c_EdgeHouse_drop F a0 p0 T = some (yz, Tz)) : m_Rb l M_14 (m_ent M_14 [.ref a0, .int p0] w) (fun v w' => v = some (.int yz) ∧ RT Tz w' ∧ m_Fm w w') T Tz 1 100 := by
  rw [show m_ent M_14 [.ref a0, .int p0] w = (0, [(0, .ref a0), (1, .int p0)], [], w) from by first | rfl | (simp only [m_ent, lv_args_r, lv_args_a, lv_args_i, lv_args_l, lv_args_0]; done) | (simp only [m_ent, lv_args_r, lv_args_a, lv_args_i, lv_args_l, lv_args_0]; rfl)]
  generalize hw0 : w = w0 at h ⊢
  have hF : m_Fm w0 w0 := m_Fm.refl
  rw [D_c_EdgeHouse_drop] at h0
  refine m_Rb.n0 b_14 (x_iload_n d_14_0 rfl) ?_
  obtain ⟨v1, e2, j3⟩ := bS h0
  refine m_Rb.callI b_14 (y_cs d_14_1 rfl q_15 (show m_takeS _ _ = some (_, [_], []) from m_takeS_of (Nat.le_of_ble_eq_true rfl) rfl rfl (Nat.le_of_ble_eq_true rfl)) (by simp only [m_okf, List.all_cons, List.all_nil, Bool.and_true, Bool.and_self, m_okv_i, m_okv_l, m_okv_0, m_okv_n0, m_okv_t, RT.okn h ha0, RT.okv h ha0]) rfl) (T_c_EdgeHouse_isPath h e2) hF rfl (fun w4 h4 f4 k4 => ?_) (by decide) (by decide)
  cases hc5 : m_c1 .eq v1 with
  | true =>
    have j6 := cT hc5 j3
    refine m_Rb.n0 b_14 (x_ift d_14_4 rfl hc5) ?_
    refine m_Rb.n0 b_14 (x_iconst (z := 0) d_14_16 (by decide)) ?_
    cases j6
    exact m_Rb.ret b_14 (m_rt_ir d_14_17 rfl m_nb0) ⟨rfl, h4, f4⟩
  | false =>
    have j6 := cF hc5 j3
    refine m_Rb.n0 b_14 (x_iff d_14_4 rfl hc5) ?_
    refine m_Rb.n0 b_14 (x_aload_n d_14_7 rfl) ?_
    obtain ⟨v7, e8, j9⟩ := bS j6
    refine m_Rb.tgetR b_14 d_14_8 rfl h4 e8 (fun o10 => ?_)
    refine m_Rb.n0 b_14 (x_iload_n d_14_11 rfl) ?_
    obtain ⟨a11, e12, j13⟩ := bS j9
    subst e12
    obtain ⟨v14, e15, j16⟩ := bS j13
    refine m_Rb.tgetO (t := 6) b_14 d_14_12 rfl rfl h4 e15 (fun o17 => ?_)
    cases v14 with
    | none =>
      have j19 := nN j16
      refine m_Rb.n0 b_14 (x_ifnonnull0 d_14_13 rfl) ?_
      refine m_Rb.n0 b_14 (x_iconst (z := 0) d_14_16 (by decide)) ?_
      cases j19
      exact m_Rb.ret b_14 (m_rt_ir d_14_17 rfl m_nb0) ⟨rfl, h4, f4⟩
    | some a18 =>
      have j19 := nS j16
      refine m_Rb.n0 b_14 (x_ifnonnull1 d_14_13 rfl) ?_
      refine m_Rb.n0 b_14 (x_aload_n d_14_18 rfl) ?_
      obtain ⟨v20, e21, j22⟩ := bS j19
      refine m_Rb.tgetR b_14 d_14_19 rfl h4 e21 (fun o23 => ?_)
      refine m_Rb.n0 b_14 (x_iload_n d_14_22 rfl) ?_
      refine m_Rb.n0 b_14 (x_null d_14_23) ?_
      obtain ⟨a24, e25, j26⟩ := bS j22
      subst e25
      obtain ⟨T27, e28, j29⟩ := bS j26
      refine m_Rb.tputO (z := none) (t := 6) b_14 d_14_24 rfl rfl h4 f4 e28 okr_none (fun w30 h30 f30 k30 => ?_)
      refine m_Rb.n0 b_14 (x_iconst (z := 1) d_14_25 (by decide)) ?_
      cases j29
      exact m_Rb.ret b_14 (m_rt_ir d_14_26 rfl m_nb1) ⟨rfl, h30, f30⟩
def D_c_Reader_begin_17 (F : Nat) : Nat → Nat → Int32 → tT → Option (tT)
  | 0, _, _, _ => none
  | n + 1, x0, x1, T => (tgr T x0 1 12).bind fun v13 => (v13).bind fun a17 => (tal T a17).bind fun v20 => cond (m_c2 .ge x1 v20) (some T) ((tgr T x0 1 12).bind fun v25 => (v25).bind fun a29 => (tasi T a29 x1 (0 : Int32)).bind fun T32 => D_c_Reader_begin_17 F n x0 (x1 + Int32.ofInt 1) T32)
theorem T_c_Reader_begin_17 {l : Launch} {w0 : List mM} {F : Nat} : ∀ (n : Nat) {x0 : Nat} {x1 : Int32} {T : tT} {w : List mM} {Tz : tT}, okr T.2.1 (some x0) → RT T w → m_Fm w0 w → D_c_Reader_begin_17 F n x0 x1 T = some Tz → m_Rb l M_19 (17, [(0, .ref x0), (1, .int x1)], [], w) (fun v w' => v = none ∧ RT Tz w' ∧ m_Fm w0 w') T Tz 0 0 := by
  intro n
  induction n with
  | zero => intro x0 x1 T w Tz hx0 h hF h0; cases h0
  | succ n ih =>
    intro x0 x1 T w Tz hx0 h hF h0
    rw [D_c_Reader_begin_17] at h0
    refine m_Rb.n0 b_19 (x_iload_n d_19_17 rfl) ?_
    refine m_Rb.n0 b_19 (x_aload_n d_19_18 rfl) ?_
    obtain ⟨v13, e14, j15⟩ := bS h0
    refine m_Rb.tgetR b_19 d_19_19 rfl h e14 (fun o16 => ?_)
    obtain ⟨a17, e18, j19⟩ := bS j15
    subst e18
    obtain ⟨v20, e21, j22⟩ := bS j19
    refine m_Rb.talen b_19 d_19_22 h e21 ?_
    cases hc23 : m_c2 .ge x1 v20 with
    | true =>
      have j24 := cT hc23 j22
      refine m_Rb.n0 b_19 (x_ict d_19_23 rfl hc23) ?_
      cases j24
      exact m_Rb.ret b_19 (m_rt_vr d_19_39 rfl) ⟨rfl, h, hF⟩
    | false =>
      have j24 := cF hc23 j22
      refine m_Rb.n0 b_19 (x_icf d_19_23 rfl hc23) ?_
      refine m_Rb.n0 b_19 (x_aload_n d_19_26 rfl) ?_
      obtain ⟨v25, e26, j27⟩ := bS j24
      refine m_Rb.tgetR b_19 d_19_27 rfl h e26 (fun o28 => ?_)
      refine m_Rb.n0 b_19 (x_iload_n d_19_30 rfl) ?_
      refine m_Rb.n0 b_19 (x_iconst (z := 0) d_19_31 (by decide)) ?_
      obtain ⟨a29, e30, j31⟩ := bS j27
      subst e30
      obtain ⟨T32, e33, j34⟩ := bS j31
      refine m_Rb.tputAI b_19 d_19_32 h hF e33 (fun w35 h35 f35 k35 => ?_)
      refine m_Rb.n0 b_19 (x_iinc d_19_33 rfl rfl rfl (show m_put1 _ _ _ = [(1, _), (0, _)] from rfl)) ?_
      refine m_Rb.n0 b_19 (x_goto d_19_36 rfl) ?_
      exact m_Rb.pick [1, 0] rfl (ih (okm hx0 k35) h35 f35 j34)
def D_c_Reader_begin (F : Nat) (a0 : Nat) (T : tT) : Option (tT) := (tpi T a0 1 2 (0 : Int32)).bind fun T1 => (tpi T1 a0 1 3 ((-1) : Int32)).bind fun T5 => (tpi T5 a0 1 5 (0 : Int32)).bind fun T9 => D_c_Reader_begin_17 F F a0 (0 : Int32) T9
theorem T_c_Reader_begin {l : Launch} {w : List mM} {F : Nat} {a0 : Nat} {T : tT} {Tz : tT} (ha0 : okr T.2.1 (some a0)) (h : RT T w) (h0 : D_c_Reader_begin F a0 T = some Tz) : m_Rb l M_19 (m_ent M_19 [.ref a0] w) (fun v w' => v = none ∧ RT Tz w' ∧ m_Fm w w') T Tz 0 0 := by
  rw [show m_ent M_19 [.ref a0] w = (0, [(0, .ref a0)], [], w) from by first | rfl | (simp only [m_ent, lv_args_r, lv_args_a, lv_args_i, lv_args_l, lv_args_0]; done) | (simp only [m_ent, lv_args_r, lv_args_a, lv_args_i, lv_args_l, lv_args_0]; rfl)]
  generalize hw0 : w = w0 at h ⊢
  have hF : m_Fm w0 w0 := m_Fm.refl
  rw [D_c_Reader_begin] at h0
  refine m_Rb.n0 b_19 (x_aload_n d_19_0 rfl) ?_
  refine m_Rb.n0 b_19 (x_iconst (z := 0) d_19_1 (by decide)) ?_
  obtain ⟨T1, e2, j3⟩ := bS h0
  refine m_Rb.tputI b_19 d_19_2 rfl rfl (by decide) h hF e2 (fun w4 h4 f4 k4 => ?_)
  refine m_Rb.n0 b_19 (x_aload_n d_19_5 rfl) ?_
  refine m_Rb.n0 b_19 (x_iconst (z := (-1)) d_19_6 (by decide)) ?_
  obtain ⟨T5, e6, j7⟩ := bS j3
  refine m_Rb.tputI b_19 d_19_7 rfl rfl (by decide) h4 f4 e6 (fun w8 h8 f8 k8 => ?_)
  refine m_Rb.n0 b_19 (x_aload_n d_19_10 rfl) ?_
  refine m_Rb.n0 b_19 (x_iconst (z := 0) d_19_11 (by decide)) ?_
  obtain ⟨T9, e10, j11⟩ := bS j7
  refine m_Rb.tputI b_19 d_19_12 rfl rfl (by decide) h8 f8 e10 (fun w12 h12 f12 k12 => ?_)
  refine m_Rb.n0 b_19 (x_iconst (z := 0) d_19_15 (by decide)) ?_
  refine m_Rb.n0 b_19 (x_istore_n d_19_16 rfl (show m_put1 _ _ _ = [(1, _), (0, _)] from rfl)) ?_
  exact m_Rb.pick [1, 0] rfl (T_c_Reader_begin_17 F (okm (okm (okm ha0 k4) k8) k12) h12 f12 j11)
def D_c_Request_init (F : Nat) (a0 : Nat) (T : tT) : Option (tT) := (tpi T a0 6 5 (15 : Int32)).bind fun T1 => (tpi T1 a0 6 8 ((-1) : Int32)).bind fun T5 => (tpi T5 a0 6 9 ((-1) : Int32)).bind fun T9 => (tpi T9 a0 6 10 ((-1) : Int32)).bind fun T13 => some T13
theorem T_c_Request_init {l : Launch} {w : List mM} {F : Nat} {a0 : Nat} {T : tT} {Tz : tT} (ha0 : okr T.2.1 (some a0)) (h : RT T w) (h0 : D_c_Request_init F a0 T = some Tz) : m_Rb l M_20 (m_ent M_20 [.ref a0] w) (fun v w' => v = none ∧ RT Tz w' ∧ m_Fm w w') T Tz 1 100 := by
  rw [show m_ent M_20 [.ref a0] w = (0, [(0, .ref a0)], [], w) from by first | rfl | (simp only [m_ent, lv_args_r, lv_args_a, lv_args_i, lv_args_l, lv_args_0]; done) | (simp only [m_ent, lv_args_r, lv_args_a, lv_args_i, lv_args_l, lv_args_0]; rfl)]
  generalize hw0 : w = w0 at h ⊢
  have hF : m_Fm w0 w0 := m_Fm.refl
  rw [D_c_Request_init] at h0
  refine m_Rb.n0 b_20 (x_aload_n d_20_0 rfl) ?_
  refine m_Rb.toinit b_20 d_20_1 rfl (Nat.le_of_ble_eq_true rfl) ?_ (by decide) (by decide)
  refine m_Rb.n0 b_20 (x_aload_n d_20_4 rfl) ?_
  refine m_Rb.n0 b_20 (x_bipush (z := 15) d_20_5 (by decide)) ?_
  obtain ⟨T1, e2, j3⟩ := bS h0
  refine m_Rb.tputI b_20 d_20_7 rfl rfl (by decide) h hF e2 (fun w4 h4 f4 k4 => ?_)
  refine m_Rb.n0 b_20 (x_aload_n d_20_10 rfl) ?_
  refine m_Rb.n0 b_20 (x_iconst (z := (-1)) d_20_11 (by decide)) ?_
  obtain ⟨T5, e6, j7⟩ := bS j3
  refine m_Rb.tputI b_20 d_20_12 rfl rfl (by decide) h4 f4 e6 (fun w8 h8 f8 k8 => ?_)
  refine m_Rb.n0 b_20 (x_aload_n d_20_15 rfl) ?_
  refine m_Rb.n0 b_20 (x_iconst (z := (-1)) d_20_16 (by decide)) ?_
  obtain ⟨T9, e10, j11⟩ := bS j7
  refine m_Rb.tputI b_20 d_20_17 rfl rfl (by decide) h8 f8 e10 (fun w12 h12 f12 k12 => ?_)
  refine m_Rb.n0 b_20 (x_aload_n d_20_20 rfl) ?_
  refine m_Rb.n0 b_20 (x_iconst (z := (-1)) d_20_21 (by decide)) ?_
  obtain ⟨T13, e14, j15⟩ := bS j11
  refine m_Rb.tputI b_20 d_20_22 rfl rfl (by decide) h12 f12 e14 (fun w16 h16 f16 k16 => ?_)
  cases j15
  exact m_Rb.ret b_20 (m_rt_vr d_20_25 rfl) ⟨rfl, h16, f16⟩
def D_c_Conditions_init (F : Nat) (a0 : Nat) (T : tT) : Option (tT) := (tpi T a0 7 1 (0 : Int32)).bind fun T1 => bd2 (tna T1 0 (8 : Int32)) fun a5 T6 => (tpr T6 a0 7 5 (some a5)).bind fun T10 => (tpi T10 a0 7 7 ((-1) : Int32)).bind fun T14 => some T14
theorem T_c_Conditions_init {l : Launch} {w : List mM} {F : Nat} {a0 : Nat} {T : tT} {Tz : tT} (ha0 : okr T.2.1 (some a0)) (h : RT T w) (h0 : D_c_Conditions_init F a0 T = some Tz) : m_Rb l M_21 (m_ent M_21 [.ref a0] w) (fun v w' => v = none ∧ RT Tz w' ∧ m_Fm w w') T Tz 1 100 := by
  rw [show m_ent M_21 [.ref a0] w = (0, [(0, .ref a0)], [], w) from by first | rfl | (simp only [m_ent, lv_args_r, lv_args_a, lv_args_i, lv_args_l, lv_args_0]; done) | (simp only [m_ent, lv_args_r, lv_args_a, lv_args_i, lv_args_l, lv_args_0]; rfl)]
  generalize hw0 : w = w0 at h ⊢
  have hF : m_Fm w0 w0 := m_Fm.refl
  rw [D_c_Conditions_init] at h0
  refine m_Rb.n0 b_21 (x_aload_n d_21_0 rfl) ?_
  refine m_Rb.toinit b_21 d_21_1 rfl (Nat.le_of_ble_eq_true rfl) ?_ (by decide) (by decide)
  refine m_Rb.n0 b_21 (x_aload_n d_21_4 rfl) ?_
  refine m_Rb.n0 b_21 (x_iconst (z := 0) d_21_5 (by decide)) ?_
  obtain ⟨T1, e2, j3⟩ := bS h0
  refine m_Rb.tputI b_21 d_21_6 rfl rfl (by decide) h hF e2 (fun w4 h4 f4 k4 => ?_)
  refine m_Rb.n0 b_21 (x_aload_n d_21_9 rfl) ?_
  refine m_Rb.n0 b_21 (x_bipush (z := 8) d_21_10 (by decide)) ?_
  obtain ⟨a5, T6, e7, j8⟩ := bS2 j3
  refine m_Rb.tnewa b_21 d_21_12 rfl (by simp only [m_okf, List.all_cons, List.all_nil, Bool.and_true, Bool.and_self, m_okv_i, m_okv_l, m_okv_0, m_okv_n0, m_okv_t, RT.okn h4 (okm ha0 k4), RT.okv h4 (okm ha0 k4)]) h4 f4 e7 (fun w9 o9 h9 f9 k9 => ?_)
  obtain ⟨T10, e11, j12⟩ := bS j8
  refine m_Rb.tputA (z := (some a5)) b_21 d_21_14 rfl rfl (by decide) h9 f9 e11 o9 (fun w13 h13 f13 k13 => ?_)
  refine m_Rb.n0 b_21 (x_aload_n d_21_17 rfl) ?_
  refine m_Rb.n0 b_21 (x_iconst (z := (-1)) d_21_18 (by decide)) ?_
  obtain ⟨T14, e15, j16⟩ := bS j12
  refine m_Rb.tputI b_21 d_21_19 rfl rfl (by decide) h13 f13 e15 (fun w17 h17 f17 k17 => ?_)
  cases j16
  exact m_Rb.ret b_21 (m_rt_vr d_21_22 rfl) ⟨rfl, h17, f17⟩
def D_c_Reader_here (F : Nat) (a0 : Nat) (T0 : tT) : Option (Int32) := (tgi T0 a0 1 2).bind fun v1 => (cond (m_c1 .lt v1) (some (0 : Int32)) ((tgi T0 a0 1 2).bind fun v8 => (tgi T0 a0 1 1).bind fun v11 => cond (m_c2 .ge v8 v11) (some (0 : Int32)) ((tgi T0 a0 1 2).bind fun v16 => (tgr T0 a0 1 0).bind fun v19 => (v19).bind fun a23 => (tal T0 a23).bind fun v26 => cond (m_c2 .ge v16 v26) (some (0 : Int32)) ((tgr T0 a0 1 0).bind fun v31 => (tgi T0 a0 1 2).bind fun v35 => (v31).bind fun a38 => (tai T0 a38 2 v35).bind fun v41 => some v41)))).bind fun v44 => (cret v44).bind fun v47 => some v47
theorem T_c_Reader_here {l : Launch} {w : List mM} {F : Nat} {a0 : Nat} {T0 : tT} {yz : Int32} (ha0 : okr T0.2.1 (some a0)) (h : RT T0 w) (h0 : D_c_Reader_here F a0 T0 = some yz) : m_Rb l M_22 (m_ent M_22 [.ref a0] w) (fun v w' => v = some (.int yz) ∧ RT T0 w' ∧ m_Fm w w') T0 T0 0 0 := by
  rw [show m_ent M_22 [.ref a0] w = (0, [(0, .ref a0)], [], w) from by first | rfl | (simp only [m_ent, lv_args_r, lv_args_a, lv_args_i, lv_args_l, lv_args_0]; done) | (simp only [m_ent, lv_args_r, lv_args_a, lv_args_i, lv_args_l, lv_args_0]; rfl)]
  generalize hw0 : w = w0 at h ⊢
  have hF : m_Fm w0 w0 := m_Fm.refl
  rw [D_c_Reader_here] at h0
  refine m_Rb.n0 b_22 (x_aload_n d_22_0 rfl) ?_
  obtain ⟨v1, e2, j3⟩ := bS h0
  refine m_Rb.tgetI b_22 d_22_1 rfl h e2 ?_
  obtain ⟨v44, e5, j45⟩ := bS j3
  have kk4 : ∀ (xz : Int32) (w1 : List mM), xz = v44 → RT T0 w1 → m_Fm w0 w1 → m_Rb l M_22 (43, [(0, .ref a0)], [.int xz], w1) (fun v w' => v = some (.int yz) ∧ RT T0 w' ∧ m_Fm w0 w') T0 T0 0 0 := by
    intro xz w46 ez h46 f46
    rw [ez]
    obtain ⟨v47, e48, j49⟩ := bS j45
    cases j49
    exact m_Rb.retc b_22 d_22_43 rfl e48 ⟨rfl, h46, f46⟩
  cases hc6 : m_c1 .lt v1 with
  | true =>
    have j7 := cT hc6 e5
    refine m_Rb.n0 b_22 (x_ift d_22_4 rfl hc6) ?_
    refine m_Rb.n0 b_22 (x_iconst (z := 0) d_22_42 (by decide)) ?_
    exact kk4 _ _ (Option.some.inj j7) h hF
  | false =>
    have j7 := cF hc6 e5
    refine m_Rb.n0 b_22 (x_iff d_22_4 rfl hc6) ?_
    refine m_Rb.n0 b_22 (x_aload_n d_22_7 rfl) ?_
    obtain ⟨v8, e9, j10⟩ := bS j7
    refine m_Rb.tgetI b_22 d_22_8 rfl h e9 ?_
    refine m_Rb.n0 b_22 (x_aload_n d_22_11 rfl) ?_
    obtain ⟨v11, e12, j13⟩ := bS j10
    refine m_Rb.tgetI b_22 d_22_12 rfl h e12 ?_
    cases hc14 : m_c2 .ge v8 v11 with
    | true =>
      have j15 := cT hc14 j13
      refine m_Rb.n0 b_22 (x_ict d_22_15 rfl hc14) ?_
      refine m_Rb.n0 b_22 (x_iconst (z := 0) d_22_42 (by decide)) ?_
      exact kk4 _ _ (Option.some.inj j15) h hF
    | false =>
      have j15 := cF hc14 j13
      refine m_Rb.n0 b_22 (x_icf d_22_15 rfl hc14) ?_
      refine m_Rb.n0 b_22 (x_aload_n d_22_18 rfl) ?_
      obtain ⟨v16, e17, j18⟩ := bS j15
      refine m_Rb.tgetI b_22 d_22_19 rfl h e17 ?_
      refine m_Rb.n0 b_22 (x_aload_n d_22_22 rfl) ?_
      obtain ⟨v19, e20, j21⟩ := bS j18
      refine m_Rb.tgetR b_22 d_22_23 rfl h e20 (fun o22 => ?_)
      obtain ⟨a23, e24, j25⟩ := bS j21
      subst e24
      obtain ⟨v26, e27, j28⟩ := bS j25
      refine m_Rb.talen b_22 d_22_26 h e27 ?_
      cases hc29 : m_c2 .ge v16 v26 with
      | true =>
        have j30 := cT hc29 j28
        refine m_Rb.n0 b_22 (x_ict d_22_27 rfl hc29) ?_
        refine m_Rb.n0 b_22 (x_iconst (z := 0) d_22_42 (by decide)) ?_
        exact kk4 _ _ (Option.some.inj j30) h hF
      | false =>
        have j30 := cF hc29 j28
        refine m_Rb.n0 b_22 (x_icf d_22_27 rfl hc29) ?_
        refine m_Rb.n0 b_22 (x_aload_n d_22_30 rfl) ?_
        obtain ⟨v31, e32, j33⟩ := bS j30
        refine m_Rb.tgetR b_22 d_22_31 rfl h e32 (fun o34 => ?_)
        refine m_Rb.n0 b_22 (x_aload_n d_22_34 rfl) ?_
        obtain ⟨v35, e36, j37⟩ := bS j33
        refine m_Rb.tgetI b_22 d_22_35 rfl h e36 ?_
        obtain ⟨a38, e39, j40⟩ := bS j37
        subst e39
        obtain ⟨v41, e42, j43⟩ := bS j40
        refine m_Rb.tgetC b_22 d_22_38 h e42 ?_
        refine m_Rb.n0 b_22 (x_goto d_22_39 rfl) ?_
        exact kk4 _ _ (Option.some.inj j43) h hF
def D_c_Reader_no (F : Nat) (a0 : Nat) (p0 : Int32) (T : tT) : Option (Int32 × tT) := (tpi T a0 1 3 p0).bind fun T1 => some ((0 : Int32), T1)
theorem T_c_Reader_no {l : Launch} {w : List mM} {F : Nat} {a0 : Nat} {p0 : Int32} {T : tT} {yz : Int32} {Tz : tT} (ha0 : okr T.2.1 (some a0)) (h : RT T w) (h0 : D_c_Reader_no F a0 p0 T = some (yz, Tz)) : m_Rb l M_36 (m_ent M_36 [.ref a0, .int p0] w) (fun v w' => v = some (.int yz) ∧ RT Tz w' ∧ m_Fm w w') T Tz 0 0 := by
  rw [show m_ent M_36 [.ref a0, .int p0] w = (0, [(0, .ref a0), (1, .int p0)], [], w) from by first | rfl | (simp only [m_ent, lv_args_r, lv_args_a, lv_args_i, lv_args_l, lv_args_0]; done) | (simp only [m_ent, lv_args_r, lv_args_a, lv_args_i, lv_args_l, lv_args_0]; rfl)]
  generalize hw0 : w = w0 at h ⊢
  have hF : m_Fm w0 w0 := m_Fm.refl
  rw [D_c_Reader_no] at h0
  refine m_Rb.n0 b_36 (x_aload_n d_36_0 rfl) ?_
  refine m_Rb.n0 b_36 (x_iload_n d_36_1 rfl) ?_
  obtain ⟨T1, e2, j3⟩ := bS h0
  refine m_Rb.tputI b_36 d_36_2 rfl rfl (by decide) h hF e2 (fun w4 h4 f4 k4 => ?_)
  refine m_Rb.n0 b_36 (x_iconst (z := 0) d_36_5 (by decide)) ?_
  cases j3
  exact m_Rb.ret b_36 (m_rt_ir d_36_6 rfl m_nb0) ⟨rfl, h4, f4⟩
def D_c_Reader_expect (F : Nat) (a0 : Nat) (p0 : Int32) (T : tT) : Option (Int32 × tT) := (tcl T a0 1).bind fun _ => (D_c_Reader_here F a0 T).bind fun v4 => cond (m_c2 .eq v4 p0) ((tgi T a0 1 2).bind fun v10 => (tpi T a0 1 2 (v10 + (1 : Int32))).bind fun T13 => some ((1 : Int32), T13)) ((tgi T a0 1 2).bind fun v17 => (tcl T a0 1).bind fun _ => bd2 (D_c_Reader_no F a0 v17 T) fun v23 T24 => (bret v23).bind fun v28 => some (v28, T24))
theorem T_c_Reader_expect {l : Launch} {w : List mM} {F : Nat} {a0 : Nat} {p0 : Int32} {T : tT} {yz : Int32} {Tz : tT} (ha0 : okr T.2.1 (some a0)) (h : RT T w) (h0 : D_c_Reader_expect F a0 p0 T = some (yz, Tz)) : m_Rb l M_35 (m_ent M_35 [.ref a0, .int p0] w) (fun v w' => v = some (.int yz) ∧ RT Tz w' ∧ m_Fm w w') T Tz 1 100 := by
  rw [show m_ent M_35 [.ref a0, .int p0] w = (0, [(0, .ref a0), (1, .int p0)], [], w) from by first | rfl | (simp only [m_ent, lv_args_r, lv_args_a, lv_args_i, lv_args_l, lv_args_0]; done) | (simp only [m_ent, lv_args_r, lv_args_a, lv_args_i, lv_args_l, lv_args_0]; rfl)]
  generalize hw0 : w = w0 at h ⊢
  have hF : m_Fm w0 w0 := m_Fm.refl
  rw [D_c_Reader_expect] at h0
  refine m_Rb.n0 b_35 (x_aload_n d_35_0 rfl) ?_
  obtain ⟨_, e1, j2⟩ := bS h0
  obtain ⟨_, g3⟩ := RT.cls h e1
  obtain ⟨v4, e5, j6⟩ := bS j2
  refine m_Rb.callI b_35 (y_cv d_35_1 rfl q_22 (m_isRecv_of rfl g3) (show m_takeI _ _ = some (_, [_], []) from m_takeI_of rfl rfl rfl (Nat.le_of_ble_eq_true rfl)) (by simp only [m_okf, List.all_cons, List.all_nil, Bool.and_true, Bool.and_self, m_okv_i, m_okv_l, m_okv_0, m_okv_n0, m_okv_t, RT.okn h ha0, RT.okv h ha0]) rfl) (T_c_Reader_here ha0 h e5) hF rfl (fun w7 h7 f7 k7 => ?_) (by decide) (by decide)
  refine m_Rb.n0 b_35 (x_iload_n d_35_4 rfl) ?_
  cases hc8 : m_c2 .eq v4 p0 with
  | true =>
    have j9 := cT hc8 j6
    refine m_Rb.n0 b_35 (x_ict d_35_5 rfl hc8) ?_
    refine m_Rb.n0 b_35 (x_aload_n d_35_17 rfl) ?_
    refine m_Rb.n0 b_35 (x_dup d_35_18 rfl) ?_
    obtain ⟨v10, e11, j12⟩ := bS j9
    refine m_Rb.tgetI b_35 d_35_19 rfl h7 e11 ?_
    refine m_Rb.n0 b_35 (x_iconst (z := 1) d_35_22 (by decide)) ?_
    refine m_Rb.n0 b_35 (x_iadd d_35_23 rfl) ?_
    obtain ⟨T13, e14, j15⟩ := bS j12
    refine m_Rb.tputI b_35 d_35_24 rfl rfl (by decide) h7 f7 e14 (fun w16 h16 f16 k16 => ?_)
    refine m_Rb.n0 b_35 (x_iconst (z := 1) d_35_27 (by decide)) ?_
    cases j15
    exact m_Rb.ret b_35 (m_rt_ir d_35_28 rfl m_nb1) ⟨rfl, h16, f16⟩
  | false =>
    have j9 := cF hc8 j6
    refine m_Rb.n0 b_35 (x_icf d_35_5 rfl hc8) ?_
    refine m_Rb.n0 b_35 (x_aload_n d_35_8 rfl) ?_
    refine m_Rb.n0 b_35 (x_aload_n d_35_9 rfl) ?_
    obtain ⟨v17, e18, j19⟩ := bS j9
    refine m_Rb.tgetI b_35 d_35_10 rfl h7 e18 ?_
    obtain ⟨_, e20, j21⟩ := bS j19
    obtain ⟨_, g22⟩ := RT.cls h7 e20
    obtain ⟨v23, T24, e25, j26⟩ := bS2 j21
    refine m_Rb.callI b_35 (y_cv d_35_13 rfl q_36 (m_isRecv_of rfl g22) (show m_takeI _ _ = some (_, [_, _], []) from m_takeI_of rfl rfl rfl (Nat.le_of_ble_eq_true rfl)) (by simp only [m_okf, List.all_cons, List.all_nil, Bool.and_true, Bool.and_self, m_okv_i, m_okv_l, m_okv_0, m_okv_n0, m_okv_t, RT.okn h7 ha0, RT.okv h7 ha0]) rfl) (T_c_Reader_no ha0 h7 e25) f7 rfl (fun w27 h27 f27 k27 => ?_) (by decide) (by decide)
    obtain ⟨v28, e29, j30⟩ := bS j26
    cases j30
    exact m_Rb.retb b_35 d_35_16 rfl e29 ⟨rfl, h27, f27⟩
def D_c_Reader_expectText_2 (F : Nat) : Nat → Nat → Nat → Int32 → tT → Option (Int32 × tT)
  | 0, _, _, _, _ => none
  | n + 1, x0, x1, x2, T => (xlen x1).bind fun v1 => cond (m_c2 .ge x2 v1) (some ((1 : Int32), T)) ((xchr x1 x2).bind fun v6 => (tcl T x0 1).bind fun _ => bd2 (D_c_Reader_expect F x0 v6 T) fun v12 T13 => cond (m_c1 .ne v12) (D_c_Reader_expectText_2 F n x0 x1 (x2 + Int32.ofInt 1) T13) (some ((0 : Int32), T13)))
theorem T_c_Reader_expectText_2 {l : Launch} {w0 : List mM} {F : Nat} : ∀ (n : Nat) {x0 : Nat} {x1 : Nat} {x2 : Int32} {T : tT} {w : List mM} {yz : Int32} {Tz : tT}, okr T.2.1 (some x0) → x1 < 512 → RT T w → m_Fm w0 w → D_c_Reader_expectText_2 F n x0 x1 x2 T = some (yz, Tz) → m_Rb l M_23 (2, [(0, .ref x0), (1, .ref x1), (2, .int x2)], [], w) (fun v w' => v = some (.int yz) ∧ RT Tz w' ∧ m_Fm w0 w') T Tz 4 400 := by
  intro n
  induction n with
  | zero => intro x0 x1 x2 T w yz Tz hx0 hx1 h hF h0; cases h0
  | succ n ih =>
    intro x0 x1 x2 T w yz Tz hx0 hx1 h hF h0
    rw [D_c_Reader_expectText_2] at h0
    refine m_Rb.n0 b_23 (x_iload_n d_23_2 rfl) ?_
    refine m_Rb.n0 b_23 (x_aload_n d_23_3 rfl) ?_
    obtain ⟨v1, e2, j3⟩ := bS h0
    refine m_Rb.lift (fun c s k9 => m_Rs.cxlen b_23 d_23_4 rfl (by simp only [m_okf, List.all_cons, List.all_nil, Bool.and_true, Bool.and_self, m_okv_i, m_okv_l, m_okv_0, m_okv_n0, m_okv_t, RT.okn h hx0, RT.okv h hx0, m_okv_out (a := x1) hx1]) e2 k9 (catL (Nat.le_of_ble_eq_true rfl)) (by decide) (by decide)) ?_
    cases hc4 : m_c2 .ge x2 v1 with
    | true =>
      have j5 := cT hc4 j3
      refine m_Rb.n0 b_23 (x_ict d_23_7 rfl hc4) ?_
      refine m_Rb.n0 b_23 (x_iconst (z := 1) d_23_30 (by decide)) ?_
      cases j5
      exact m_Rb.ret b_23 (m_rt_ir d_23_31 rfl m_nb1) ⟨rfl, h, hF⟩
    | false =>
      have j5 := cF hc4 j3
      refine m_Rb.n0 b_23 (x_icf d_23_7 rfl hc4) ?_
      refine m_Rb.n0 b_23 (x_aload_n d_23_10 rfl) ?_
      refine m_Rb.n0 b_23 (x_aload_n d_23_11 rfl) ?_
      refine m_Rb.n0 b_23 (x_iload_n d_23_12 rfl) ?_
      obtain ⟨v6, e7, j8⟩ := bS j5
      refine m_Rb.lift (fun c s k9 => m_Rs.cxchr b_23 d_23_13 rfl (by simp only [m_okf, List.all_cons, List.all_nil, Bool.and_true, Bool.and_self, m_okv_i, m_okv_l, m_okv_0, m_okv_n0, m_okv_t, RT.okn h hx0, RT.okv h hx0, m_okv_out (a := x1) hx1]) e7 k9 (catL (Nat.le_of_ble_eq_true rfl)) (by decide) (by decide)) ?_
      obtain ⟨_, e9, j10⟩ := bS j8
      obtain ⟨_, g11⟩ := RT.cls h e9
      obtain ⟨v12, T13, e14, j15⟩ := bS2 j10
      refine m_Rb.callI b_23 (y_cv d_23_16 rfl q_35 (m_isRecv_of rfl g11) (show m_takeI _ _ = some (_, [_, _], []) from m_takeI_of rfl rfl rfl (Nat.le_of_ble_eq_true rfl)) (by simp only [m_okf, List.all_cons, List.all_nil, Bool.and_true, Bool.and_self, m_okv_i, m_okv_l, m_okv_0, m_okv_n0, m_okv_t, RT.okn h hx0, RT.okv h hx0, m_okv_out (a := x1) hx1]) rfl) (T_c_Reader_expect hx0 h e14) hF rfl (fun w16 h16 f16 k16 => ?_) (by decide) (by decide)
      cases hc17 : m_c1 .ne v12 with
      | true =>
        have j18 := cT hc17 j15
        refine m_Rb.n0 b_23 (x_ift d_23_19 rfl hc17) ?_
        refine m_Rb.n0 b_23 (x_iinc d_23_24 rfl rfl rfl (show m_put1 _ _ _ = [(2, _), (0, _), (1, _)] from rfl)) ?_
        refine m_Rb.n0 b_23 (x_goto d_23_27 rfl) ?_
        exact m_Rb.pick [1, 2, 0] rfl (ih (okm hx0 k16) hx1 h16 f16 j18)
      | false =>
        have j18 := cF hc17 j15
        refine m_Rb.n0 b_23 (x_iff d_23_19 rfl hc17) ?_
        refine m_Rb.n0 b_23 (x_iconst (z := 0) d_23_22 (by decide)) ?_
        cases j18
        exact m_Rb.ret b_23 (m_rt_ir d_23_23 rfl m_nb0) ⟨rfl, h16, f16⟩
def D_c_Reader_expectText (F : Nat) (a0 : Nat) (p0 : Nat) (T : tT) : Option (Int32 × tT) := D_c_Reader_expectText_2 F F a0 p0 (0 : Int32) T
theorem T_c_Reader_expectText {l : Launch} {w : List mM} {F : Nat} {a0 : Nat} {p0 : Nat} {T : tT} {yz : Int32} {Tz : tT} (ha0 : okr T.2.1 (some a0)) (hp0 : p0 < 512) (h : RT T w) (h0 : D_c_Reader_expectText F a0 p0 T = some (yz, Tz)) : m_Rb l M_23 (m_ent M_23 [.ref a0, .ref p0] w) (fun v w' => v = some (.int yz) ∧ RT Tz w' ∧ m_Fm w w') T Tz 4 400 := by
  rw [show m_ent M_23 [.ref a0, .ref p0] w = (0, [(0, .ref a0), (1, .ref p0)], [], w) from by first | rfl | (simp only [m_ent, lv_args_r, lv_args_a, lv_args_i, lv_args_l, lv_args_0]; done) | (simp only [m_ent, lv_args_r, lv_args_a, lv_args_i, lv_args_l, lv_args_0]; rfl)]
  generalize hw0 : w = w0 at h ⊢
  have hF : m_Fm w0 w0 := m_Fm.refl
  rw [D_c_Reader_expectText] at h0
  refine m_Rb.n0 b_23 (x_iconst (z := 0) d_23_0 (by decide)) ?_
  refine m_Rb.n0 b_23 (x_istore_n d_23_1 rfl (show m_put1 _ _ _ = [(2, _), (0, _), (1, _)] from rfl)) ?_
  exact m_Rb.pick [1, 2, 0] rfl (T_c_Reader_expectText_2 F ha0 hp0 h hF h0)
def D_c_Reader_isDigit (F : Nat) (p0 : Int32) (T0 : tT) : Option (Int32) := (cond (m_c2 .lt p0 (48 : Int32)) (some (0 : Int32)) (cond (m_c2 .gt p0 (57 : Int32)) (some (0 : Int32)) (some (1 : Int32)))).bind fun v7 => (bret v7).bind fun v10 => some v10
theorem T_c_Reader_isDigit {l : Launch} {w : List mM} {F : Nat} {p0 : Int32} {T0 : tT} {yz : Int32} (h : RT T0 w) (h0 : D_c_Reader_isDigit F p0 T0 = some yz) : m_Rb l M_39 (m_ent M_39 [.int p0] w) (fun v w' => v = some (.int yz) ∧ RT T0 w' ∧ m_Fm w w') T0 T0 0 0 := by
  rw [show m_ent M_39 [.int p0] w = (0, [(0, .int p0)], [], w) from by first | rfl | (simp only [m_ent, lv_args_r, lv_args_a, lv_args_i, lv_args_l, lv_args_0]; done) | (simp only [m_ent, lv_args_r, lv_args_a, lv_args_i, lv_args_l, lv_args_0]; rfl)]
  generalize hw0 : w = w0 at h ⊢
  have hF : m_Fm w0 w0 := m_Fm.refl
  rw [D_c_Reader_isDigit] at h0
  refine m_Rb.n0 b_39 (x_iload_n d_39_0 rfl) ?_
  refine m_Rb.n0 b_39 (x_bipush (z := 48) d_39_1 (by decide)) ?_
  obtain ⟨v7, e2, j8⟩ := bS h0
  have kk1 : ∀ (xz : Int32) (w1 : List mM), xz = v7 → RT T0 w1 → m_Fm w0 w1 → m_Rb l M_39 (17, [(0, .int p0)], [.int xz], w1) (fun v w' => v = some (.int yz) ∧ RT T0 w' ∧ m_Fm w0 w') T0 T0 0 0 := by
    intro xz w9 ez h9 f9
    rw [ez]
    obtain ⟨v10, e11, j12⟩ := bS j8
    cases j12
    exact m_Rb.retb b_39 d_39_17 rfl e11 ⟨rfl, h9, f9⟩
  cases hc3 : m_c2 .lt p0 (48 : Int32) with
  | true =>
    have j4 := cT hc3 e2
    refine m_Rb.n0 b_39 (x_ict d_39_3 rfl hc3) ?_
    refine m_Rb.n0 b_39 (x_iconst (z := 0) d_39_16 (by decide)) ?_
    exact kk1 _ _ (Option.some.inj j4) h hF
  | false =>
    have j4 := cF hc3 e2
    refine m_Rb.n0 b_39 (x_icf d_39_3 rfl hc3) ?_
    refine m_Rb.n0 b_39 (x_iload_n d_39_6 rfl) ?_
    refine m_Rb.n0 b_39 (x_bipush (z := 57) d_39_7 (by decide)) ?_
    cases hc5 : m_c2 .gt p0 (57 : Int32) with
    | true =>
      have j6 := cT hc5 j4
      refine m_Rb.n0 b_39 (x_ict d_39_9 rfl hc5) ?_
      refine m_Rb.n0 b_39 (x_iconst (z := 0) d_39_16 (by decide)) ?_
      exact kk1 _ _ (Option.some.inj j6) h hF
    | false =>
      have j6 := cF hc5 j4
      refine m_Rb.n0 b_39 (x_icf d_39_9 rfl hc5) ?_
      refine m_Rb.n0 b_39 (x_iconst (z := 1) d_39_12 (by decide)) ?_
      refine m_Rb.n0 b_39 (x_goto d_39_13 rfl) ?_
      exact kk1 _ _ (Option.some.inj j6) h hF
def D_c_Reader_readNumber_114 (F : Nat) (x0 : Nat) (T : tT) : Option (Int32 × tT) := some ((1 : Int32), T)
theorem T_c_Reader_readNumber_114 {l : Launch} {w0 : List mM} {F : Nat} {x0 : Nat} {T : tT} {w : List mM} {yz : Int32} {Tz : tT} (hx0 : okr T.2.1 (some x0)) (h : RT T w) (hF : m_Fm w0 w) (h0 : D_c_Reader_readNumber_114 F x0 T = some (yz, Tz)) : m_Rb l M_38 (114, [(0, .ref x0)], [], w) (fun v w' => v = some (.int yz) ∧ RT Tz w' ∧ m_Fm w0 w') T Tz 1 100 := by
  rw [D_c_Reader_readNumber_114] at h0
  refine m_Rb.n0 b_38 (x_iconst (z := 1) d_38_114 (by decide)) ?_
  refine m_Rb.n0 b_38 (x_goto d_38_115 rfl) ?_
  cases h0
  exact m_Rb.ret b_38 (m_rt_ir d_38_119 rfl m_nb1) ⟨rfl, h, hF⟩
def D_c_Reader_readNumber_62 (F : Nat) (x0 : Nat) (x1 : Int32) (x2 : Int32) (T : tT) : Option (Int32 × tT) := (tgi T x0 1 2).bind fun v44 => cond (m_c2 .ne v44 x2) ((tgi T x0 1 9).bind fun v49 => cond (m_c2 .le v49 x1) ((tcl T x0 1).bind fun _ => (D_c_Reader_here F x0 T).bind fun v57 => (D_c_Reader_isDigit F v57 T).bind fun v61 => cond (m_c1 .eq v61) (D_c_Reader_readNumber_114 F x0 T) ((tgi T x0 1 2).bind fun v84 => (tcl T x0 1).bind fun _ => bd2 (D_c_Reader_no F x0 v84 T) fun v90 T91 => (cond (m_c1 .eq v90) (some (0 : Int32)) (some (1 : Int32))).bind fun v99 => (bret v99).bind fun v102 => some (v102, T91))) ((tcl T x0 1).bind fun _ => bd2 (D_c_Reader_no F x0 x2 T) fun v108 T109 => (bret v108).bind fun v113 => some (v113, T109))) ((tgi T x0 1 2).bind fun v116 => (tcl T x0 1).bind fun _ => bd2 (D_c_Reader_no F x0 v116 T) fun v122 T123 => (bret v122).bind fun v127 => some (v127, T123))
theorem T_c_Reader_readNumber_62 {l : Launch} {w0 : List mM} {F : Nat} {x0 : Nat} {x1 : Int32} {x2 : Int32} {T : tT} {w : List mM} {yz : Int32} {Tz : tT} (hx0 : okr T.2.1 (some x0)) (h : RT T w) (hF : m_Fm w0 w) (h0 : D_c_Reader_readNumber_62 F x0 x1 x2 T = some (yz, Tz)) : m_Rb l M_38 (62, [(0, .ref x0), (1, .int x1), (2, .int x2)], [], w) (fun v w' => v = some (.int yz) ∧ RT Tz w' ∧ m_Fm w0 w') T Tz 1 100 := by
  rw [D_c_Reader_readNumber_62] at h0
  refine m_Rb.n0 b_38 (x_aload_n d_38_62 rfl) ?_
  obtain ⟨v44, e45, j46⟩ := bS h0
  refine m_Rb.tgetI b_38 d_38_63 rfl h e45 ?_
  refine m_Rb.n0 b_38 (x_iload_n d_38_66 rfl) ?_
  cases hc47 : m_c2 .ne v44 x2 with
  | true =>
    have j48 := cT hc47 j46
    refine m_Rb.n0 b_38 (x_ict d_38_67 rfl hc47) ?_
    refine m_Rb.n0 b_38 (x_aload_n d_38_79 rfl) ?_
    obtain ⟨v49, e50, j51⟩ := bS j48
    refine m_Rb.tgetI b_38 d_38_80 rfl h e50 ?_
    refine m_Rb.n0 b_38 (x_iload_n d_38_83 rfl) ?_
    cases hc52 : m_c2 .le v49 x1 with
    | true =>
      have j53 := cT hc52 j51
      refine m_Rb.n0 b_38 (x_ict d_38_84 rfl hc52) ?_
      refine m_Rb.n0 b_38 (x_aload_n d_38_93 rfl) ?_
      obtain ⟨_, e54, j55⟩ := bS j53
      obtain ⟨_, g56⟩ := RT.cls h e54
      obtain ⟨v57, e58, j59⟩ := bS j55
      refine m_Rb.callI b_38 (y_cv d_38_94 rfl q_22 (m_isRecv_of rfl g56) (show m_takeI _ _ = some (_, [_], []) from m_takeI_of rfl rfl rfl (Nat.le_of_ble_eq_true rfl)) (by simp only [m_okf, List.all_cons, List.all_nil, Bool.and_true, Bool.and_self, m_okv_i, m_okv_l, m_okv_0, m_okv_n0, m_okv_t, RT.okn h hx0, RT.okv h hx0]) rfl) (T_c_Reader_here hx0 h e58) hF rfl (fun w60 h60 f60 k60 => ?_) (by decide) (by decide)
      obtain ⟨v61, e62, j63⟩ := bS j59
      refine m_Rb.callI b_38 (y_cs d_38_97 rfl q_39 (show m_takeS _ _ = some (_, [_], []) from m_takeS_of (Nat.le_of_ble_eq_true rfl) rfl rfl (Nat.le_of_ble_eq_true rfl)) (by simp only [m_okf, List.all_cons, List.all_nil, Bool.and_true, Bool.and_self, m_okv_i, m_okv_l, m_okv_0, m_okv_n0, m_okv_t, RT.okn h60 hx0, RT.okv h60 hx0]) rfl) (T_c_Reader_isDigit h60 e62) f60 rfl (fun w64 h64 f64 k64 => ?_) (by decide) (by decide)
      cases hc82 : m_c1 .eq v61 with
      | true =>
        have j83 := cT hc82 j63
        refine m_Rb.n0 b_38 (x_ift d_38_100 rfl hc82) ?_
        exact m_Rb.pick [0] rfl (T_c_Reader_readNumber_114 hx0 h64 f64 j83)
      | false =>
        have j83 := cF hc82 j63
        refine m_Rb.n0 b_38 (x_iff d_38_100 rfl hc82) ?_
        refine m_Rb.n0 b_38 (x_aload_n d_38_103 rfl) ?_
        refine m_Rb.n0 b_38 (x_aload_n d_38_104 rfl) ?_
        obtain ⟨v84, e85, j86⟩ := bS j83
        refine m_Rb.tgetI b_38 d_38_105 rfl h64 e85 ?_
        obtain ⟨_, e87, j88⟩ := bS j86
        obtain ⟨_, g89⟩ := RT.cls h64 e87
        obtain ⟨v90, T91, e92, j93⟩ := bS2 j88
        refine m_Rb.callI b_38 (y_cv d_38_108 rfl q_36 (m_isRecv_of rfl g89) (show m_takeI _ _ = some (_, [_, _], []) from m_takeI_of rfl rfl rfl (Nat.le_of_ble_eq_true rfl)) (by simp only [m_okf, List.all_cons, List.all_nil, Bool.and_true, Bool.and_self, m_okv_i, m_okv_l, m_okv_0, m_okv_n0, m_okv_t, RT.okn h64 hx0, RT.okv h64 hx0]) rfl) (T_c_Reader_no hx0 h64 e92) f64 rfl (fun w94 h94 f94 k94 => ?_) (by decide) (by decide)
        obtain ⟨v99, e96, j100⟩ := bS j93
        have kk95 : ∀ (xz : Int32) (w1 : List mM), xz = v99 → RT T91 w1 → m_Fm w0 w1 → m_Rb l M_38 (119, [(0, .ref x0), (1, .int x1), (2, .int x2)], [.int xz], w1) (fun v w' => v = some (.int yz) ∧ RT Tz w' ∧ m_Fm w0 w') T91 Tz 1 100 := by
          intro xz w101 ez h101 f101
          rw [ez]
          obtain ⟨v102, e103, j104⟩ := bS j100
          cases j104
          exact m_Rb.retb b_38 d_38_119 rfl e103 ⟨rfl, h101, f101⟩
        cases hc97 : m_c1 .eq v90 with
        | true =>
          have j98 := cT hc97 e96
          refine m_Rb.n0 b_38 (x_ift d_38_111 rfl hc97) ?_
          refine m_Rb.n0 b_38 (x_iconst (z := 0) d_38_118 (by decide)) ?_
          exact kk95 _ _ (Option.some.inj j98) h94 f94
        | false =>
          have j98 := cF hc97 e96
          refine m_Rb.n0 b_38 (x_iff d_38_111 rfl hc97) ?_
          refine m_Rb.n0 b_38 (x_iconst (z := 1) d_38_114 (by decide)) ?_
          refine m_Rb.n0 b_38 (x_goto d_38_115 rfl) ?_
          exact kk95 _ _ (Option.some.inj j98) h94 f94
    | false =>
      have j53 := cF hc52 j51
      refine m_Rb.n0 b_38 (x_icf d_38_84 rfl hc52) ?_
      refine m_Rb.n0 b_38 (x_aload_n d_38_87 rfl) ?_
      refine m_Rb.n0 b_38 (x_iload_n d_38_88 rfl) ?_
      obtain ⟨_, e105, j106⟩ := bS j53
      obtain ⟨_, g107⟩ := RT.cls h e105
      obtain ⟨v108, T109, e110, j111⟩ := bS2 j106
      refine m_Rb.callI b_38 (y_cv d_38_89 rfl q_36 (m_isRecv_of rfl g107) (show m_takeI _ _ = some (_, [_, _], []) from m_takeI_of rfl rfl rfl (Nat.le_of_ble_eq_true rfl)) (by simp only [m_okf, List.all_cons, List.all_nil, Bool.and_true, Bool.and_self, m_okv_i, m_okv_l, m_okv_0, m_okv_n0, m_okv_t, RT.okn h hx0, RT.okv h hx0]) rfl) (T_c_Reader_no hx0 h e110) hF rfl (fun w112 h112 f112 k112 => ?_) (by decide) (by decide)
      obtain ⟨v113, e114, j115⟩ := bS j111
      cases j115
      exact m_Rb.retb b_38 d_38_92 rfl e114 ⟨rfl, h112, f112⟩
  | false =>
    have j48 := cF hc47 j46
    refine m_Rb.n0 b_38 (x_icf d_38_67 rfl hc47) ?_
    refine m_Rb.n0 b_38 (x_aload_n d_38_70 rfl) ?_
    refine m_Rb.n0 b_38 (x_aload_n d_38_71 rfl) ?_
    obtain ⟨v116, e117, j118⟩ := bS j48
    refine m_Rb.tgetI b_38 d_38_72 rfl h e117 ?_
    obtain ⟨_, e119, j120⟩ := bS j118
    obtain ⟨_, g121⟩ := RT.cls h e119
    obtain ⟨v122, T123, e124, j125⟩ := bS2 j120
    refine m_Rb.callI b_38 (y_cv d_38_75 rfl q_36 (m_isRecv_of rfl g121) (show m_takeI _ _ = some (_, [_, _], []) from m_takeI_of rfl rfl rfl (Nat.le_of_ble_eq_true rfl)) (by simp only [m_okf, List.all_cons, List.all_nil, Bool.and_true, Bool.and_self, m_okv_i, m_okv_l, m_okv_0, m_okv_n0, m_okv_t, RT.okn h hx0, RT.okv h hx0]) rfl) (T_c_Reader_no hx0 h e124) hF rfl (fun w126 h126 f126 k126 => ?_) (by decide) (by decide)
    obtain ⟨v127, e128, j129⟩ := bS j125
    cases j129
    exact m_Rb.retb b_38 d_38_78 rfl e128 ⟨rfl, h126, f126⟩
def D_c_Reader_readNumber_12 (F : Nat) : Nat → Nat → Int32 → Int32 → Int32 → tT → Option (Int32 × tT)
  | 0, _, _, _, _, _ => none
  | n + 1, x0, x1, x2, x3, T => cond (m_c2 .ge x3 (5 : Int32)) (D_c_Reader_readNumber_62 F x0 x1 x2 T) ((tcl T x0 1).bind fun _ => (D_c_Reader_here F x0 T).bind fun v13 => (D_c_Reader_isDigit F v13 T).bind fun v17 => cond (m_c1 .eq v17) (D_c_Reader_readNumber_62 F x0 x1 x2 T) ((tgi T x0 1 9).bind fun v23 => (tcl T x0 1).bind fun _ => (D_c_Reader_here F x0 T).bind fun v29 => (tpi T x0 1 9 (((10 : Int32) * v23) + (v29 - (48 : Int32)))).bind fun T33 => (tgi T33 x0 1 2).bind fun v37 => (tpi T33 x0 1 2 (v37 + (1 : Int32))).bind fun T40 => D_c_Reader_readNumber_12 F n x0 x1 x2 (x3 + Int32.ofInt 1) T40))
theorem T_c_Reader_readNumber_12 {l : Launch} {w0 : List mM} {F : Nat} : ∀ (n : Nat) {x0 : Nat} {x1 : Int32} {x2 : Int32} {x3 : Int32} {T : tT} {w : List mM} {yz : Int32} {Tz : tT}, okr T.2.1 (some x0) → RT T w → m_Fm w0 w → D_c_Reader_readNumber_12 F n x0 x1 x2 x3 T = some (yz, Tz) → m_Rb l M_38 (12, [(0, .ref x0), (1, .int x1), (2, .int x2), (3, .int x3)], [], w) (fun v w' => v = some (.int yz) ∧ RT Tz w' ∧ m_Fm w0 w') T Tz 1 100 := by
  intro n
  induction n with
  | zero => intro x0 x1 x2 x3 T w yz Tz hx0 h hF h0; cases h0
  | succ n ih =>
    intro x0 x1 x2 x3 T w yz Tz hx0 h hF h0
    rw [D_c_Reader_readNumber_12] at h0
    refine m_Rb.n0 b_38 (x_iload_n d_38_12 rfl) ?_
    refine m_Rb.n0 b_38 (x_iconst (z := 5) d_38_13 (by decide)) ?_
    cases hc8 : m_c2 .ge x3 (5 : Int32) with
    | true =>
      have j9 := cT hc8 h0
      refine m_Rb.n0 b_38 (x_ict d_38_14 rfl hc8) ?_
      exact m_Rb.pick [0, 1, 2] rfl (T_c_Reader_readNumber_62 hx0 h hF j9)
    | false =>
      have j9 := cF hc8 h0
      refine m_Rb.n0 b_38 (x_icf d_38_14 rfl hc8) ?_
      refine m_Rb.n0 b_38 (x_aload_n d_38_17 rfl) ?_
      obtain ⟨_, e10, j11⟩ := bS j9
      obtain ⟨_, g12⟩ := RT.cls h e10
      obtain ⟨v13, e14, j15⟩ := bS j11
      refine m_Rb.callI b_38 (y_cv d_38_18 rfl q_22 (m_isRecv_of rfl g12) (show m_takeI _ _ = some (_, [_], []) from m_takeI_of rfl rfl rfl (Nat.le_of_ble_eq_true rfl)) (by simp only [m_okf, List.all_cons, List.all_nil, Bool.and_true, Bool.and_self, m_okv_i, m_okv_l, m_okv_0, m_okv_n0, m_okv_t, RT.okn h hx0, RT.okv h hx0]) rfl) (T_c_Reader_here hx0 h e14) hF rfl (fun w16 h16 f16 k16 => ?_) (by decide) (by decide)
      obtain ⟨v17, e18, j19⟩ := bS j15
      refine m_Rb.callI b_38 (y_cs d_38_21 rfl q_39 (show m_takeS _ _ = some (_, [_], []) from m_takeS_of (Nat.le_of_ble_eq_true rfl) rfl rfl (Nat.le_of_ble_eq_true rfl)) (by simp only [m_okf, List.all_cons, List.all_nil, Bool.and_true, Bool.and_self, m_okv_i, m_okv_l, m_okv_0, m_okv_n0, m_okv_t, RT.okn h16 hx0, RT.okv h16 hx0]) rfl) (T_c_Reader_isDigit h16 e18) f16 rfl (fun w20 h20 f20 k20 => ?_) (by decide) (by decide)
      cases hc21 : m_c1 .eq v17 with
      | true =>
        have j22 := cT hc21 j19
        refine m_Rb.n0 b_38 (x_ift d_38_24 rfl hc21) ?_
        exact m_Rb.pick [0, 1, 2] rfl (T_c_Reader_readNumber_62 hx0 h20 f20 j22)
      | false =>
        have j22 := cF hc21 j19
        refine m_Rb.n0 b_38 (x_iff d_38_24 rfl hc21) ?_
        refine m_Rb.n0 b_38 (x_aload_n d_38_27 rfl) ?_
        refine m_Rb.n0 b_38 (x_bipush (z := 10) d_38_28 (by decide)) ?_
        refine m_Rb.n0 b_38 (x_aload_n d_38_30 rfl) ?_
        obtain ⟨v23, e24, j25⟩ := bS j22
        refine m_Rb.tgetI b_38 d_38_31 rfl h20 e24 ?_
        refine m_Rb.n0 b_38 (x_imul d_38_34 rfl) ?_
        refine m_Rb.n0 b_38 (x_aload_n d_38_35 rfl) ?_
        obtain ⟨_, e26, j27⟩ := bS j25
        obtain ⟨_, g28⟩ := RT.cls h20 e26
        obtain ⟨v29, e30, j31⟩ := bS j27
        refine m_Rb.callI b_38 (y_cv d_38_36 rfl q_22 (m_isRecv_of rfl g28) (show m_takeI _ _ = some (_, [_], [_, _]) from m_takeI_of rfl rfl rfl (Nat.le_of_ble_eq_true rfl)) (by simp only [m_okf, List.all_cons, List.all_nil, Bool.and_true, Bool.and_self, m_okv_i, m_okv_l, m_okv_0, m_okv_n0, m_okv_t, RT.okn h20 hx0, RT.okv h20 hx0]) rfl) (T_c_Reader_here hx0 h20 e30) f20 rfl (fun w32 h32 f32 k32 => ?_) (by decide) (by decide)
        refine m_Rb.n0 b_38 (x_bipush (z := 48) d_38_39 (by decide)) ?_
        refine m_Rb.n0 b_38 (x_isub d_38_41 rfl) ?_
        refine m_Rb.n0 b_38 (x_iadd d_38_42 rfl) ?_
        obtain ⟨T33, e34, j35⟩ := bS j31
        refine m_Rb.tputI b_38 d_38_43 rfl rfl (by decide) h32 f32 e34 (fun w36 h36 f36 k36 => ?_)
        refine m_Rb.n0 b_38 (x_aload_n d_38_46 rfl) ?_
        refine m_Rb.n0 b_38 (x_dup d_38_47 rfl) ?_
        obtain ⟨v37, e38, j39⟩ := bS j35
        refine m_Rb.tgetI b_38 d_38_48 rfl h36 e38 ?_
        refine m_Rb.n0 b_38 (x_iconst (z := 1) d_38_51 (by decide)) ?_
        refine m_Rb.n0 b_38 (x_iadd d_38_52 rfl) ?_
        obtain ⟨T40, e41, j42⟩ := bS j39
        refine m_Rb.tputI b_38 d_38_53 rfl rfl (by decide) h36 f36 e41 (fun w43 h43 f43 k43 => ?_)
        refine m_Rb.n0 b_38 (x_iinc d_38_56 rfl rfl rfl (show m_put1 _ _ _ = [(3, _), (0, _), (1, _), (2, _)] from rfl)) ?_
        refine m_Rb.n0 b_38 (x_goto d_38_59 rfl) ?_
        exact m_Rb.pick [1, 2, 3, 0] rfl (ih (okm (okm hx0 k36) k43) h43 f43 j42)
def D_c_Reader_readNumber (F : Nat) (a0 : Nat) (p0 : Int32) (T : tT) : Option (Int32 × tT) := (tgi T a0 1 2).bind fun v1 => (tpi T a0 1 9 (0 : Int32)).bind fun T4 => D_c_Reader_readNumber_12 F F a0 p0 v1 (0 : Int32) T4
theorem T_c_Reader_readNumber {l : Launch} {w : List mM} {F : Nat} {a0 : Nat} {p0 : Int32} {T : tT} {yz : Int32} {Tz : tT} (ha0 : okr T.2.1 (some a0)) (h : RT T w) (h0 : D_c_Reader_readNumber F a0 p0 T = some (yz, Tz)) : m_Rb l M_38 (m_ent M_38 [.ref a0, .int p0] w) (fun v w' => v = some (.int yz) ∧ RT Tz w' ∧ m_Fm w w') T Tz 1 100 := by
  rw [show m_ent M_38 [.ref a0, .int p0] w = (0, [(0, .ref a0), (1, .int p0)], [], w) from by first | rfl | (simp only [m_ent, lv_args_r, lv_args_a, lv_args_i, lv_args_l, lv_args_0]; done) | (simp only [m_ent, lv_args_r, lv_args_a, lv_args_i, lv_args_l, lv_args_0]; rfl)]
  generalize hw0 : w = w0 at h ⊢
  have hF : m_Fm w0 w0 := m_Fm.refl
  rw [D_c_Reader_readNumber] at h0
  refine m_Rb.n0 b_38 (x_aload_n d_38_0 rfl) ?_
  obtain ⟨v1, e2, j3⟩ := bS h0
  refine m_Rb.tgetI b_38 d_38_1 rfl h e2 ?_
  refine m_Rb.n0 b_38 (x_istore_n d_38_4 rfl (show m_put1 _ _ _ = [(2, _), (0, _), (1, _)] from rfl)) ?_
  refine m_Rb.n0 b_38 (x_aload_n d_38_5 rfl) ?_
  refine m_Rb.n0 b_38 (x_iconst (z := 0) d_38_6 (by decide)) ?_
  obtain ⟨T4, e5, j6⟩ := bS j3
  refine m_Rb.tputI b_38 d_38_7 rfl rfl (by decide) h hF e5 (fun w7 h7 f7 k7 => ?_)
  refine m_Rb.n0 b_38 (x_iconst (z := 0) d_38_10 (by decide)) ?_
  refine m_Rb.n0 b_38 (x_istore_n d_38_11 rfl (show m_put1 _ _ _ = [(3, _), (2, _), (0, _), (1, _)] from rfl)) ?_
  exact m_Rb.pick [2, 3, 1, 0] rfl (T_c_Reader_readNumber_12 F (okm ha0 k7) h7 f7 j6)
def D_c_Reader_readTarget_74 (F : Nat) (x0 : Nat) (T : tT) : Option (Int32 × tT) := (tcl T x0 1).bind fun _ => bd2 (D_c_Reader_expect F x0 (10 : Int32) T) fun v70 T71 => (bret v70).bind fun v75 => some (v75, T71)
theorem T_c_Reader_readTarget_74 {l : Launch} {w0 : List mM} {F : Nat} {x0 : Nat} {T : tT} {w : List mM} {yz : Int32} {Tz : tT} (hx0 : okr T.2.1 (some x0)) (h : RT T w) (hF : m_Fm w0 w) (h0 : D_c_Reader_readTarget_74 F x0 T = some (yz, Tz)) : m_Rb l M_37 (74, [(0, .ref x0)], [], w) (fun v w' => v = some (.int yz) ∧ RT Tz w' ∧ m_Fm w0 w') T Tz 2 200 := by
  rw [D_c_Reader_readTarget_74] at h0
  refine m_Rb.n0 b_37 (x_aload_n d_37_74 rfl) ?_
  refine m_Rb.n0 b_37 (x_bipush (z := 10) d_37_75 (by decide)) ?_
  obtain ⟨_, e67, j68⟩ := bS h0
  obtain ⟨_, g69⟩ := RT.cls h e67
  obtain ⟨v70, T71, e72, j73⟩ := bS2 j68
  refine m_Rb.callI b_37 (y_cv d_37_77 rfl q_35 (m_isRecv_of rfl g69) (show m_takeI _ _ = some (_, [_, _], []) from m_takeI_of rfl rfl rfl (Nat.le_of_ble_eq_true rfl)) (by simp only [m_okf, List.all_cons, List.all_nil, Bool.and_true, Bool.and_self, m_okv_i, m_okv_l, m_okv_0, m_okv_n0, m_okv_t, RT.okn h hx0, RT.okv h hx0]) rfl) (T_c_Reader_expect hx0 h e72) hF rfl (fun w74 h74 f74 k74 => ?_) (by decide) (by decide)
  obtain ⟨v75, e76, j77⟩ := bS j73
  cases j77
  exact m_Rb.retb b_37 d_37_80 rfl e76 ⟨rfl, h74, f74⟩
def D_c_Reader_readTarget (F : Nat) (a0 : Nat) (p0 : Int32) (T : tT) : Option (Int32 × tT) := (tcl T a0 1).bind fun _ => bd2 (D_c_Reader_expect F a0 (47 : Int32) T) fun v4 T5 => cond (m_c1 .eq v4) (some ((0 : Int32), T5)) ((tcl T5 a0 1).bind fun _ => bd2 (D_c_Reader_readNumber F a0 (31 : Int32) T5) fun v14 T15 => cond (m_c1 .ne v14) ((tgi T15 a0 1 9).bind fun v21 => (tpi T15 a0 1 10 v21).bind fun T24 => (tpi T24 a0 1 11 (0 : Int32)).bind fun T28 => cond (m_c1 .eq p0) (D_c_Reader_readTarget_74 F a0 T28) ((tcl T28 a0 1).bind fun _ => (D_c_Reader_here F a0 T28).bind fun v37 => cond (m_c2 .ne v37 (47 : Int32)) (D_c_Reader_readTarget_74 F a0 T28) ((tgi T28 a0 1 2).bind fun v43 => (tpi T28 a0 1 2 (v43 + (1 : Int32))).bind fun T46 => (tcl T46 a0 1).bind fun _ => bd2 (D_c_Reader_readNumber F a0 (3 : Int32) T46) fun v53 T54 => cond (m_c1 .ne v53) ((tgi T54 a0 1 9).bind fun v60 => (tpi T54 a0 1 11 v60).bind fun T63 => D_c_Reader_readTarget_74 F a0 T63) (some ((0 : Int32), T54))))) (some ((0 : Int32), T15)))
theorem T_c_Reader_readTarget {l : Launch} {w : List mM} {F : Nat} {a0 : Nat} {p0 : Int32} {T : tT} {yz : Int32} {Tz : tT} (ha0 : okr T.2.1 (some a0)) (h : RT T w) (h0 : D_c_Reader_readTarget F a0 p0 T = some (yz, Tz)) : m_Rb l M_37 (m_ent M_37 [.ref a0, .int p0] w) (fun v w' => v = some (.int yz) ∧ RT Tz w' ∧ m_Fm w w') T Tz 2 200 := by
  rw [show m_ent M_37 [.ref a0, .int p0] w = (0, [(0, .ref a0), (1, .int p0)], [], w) from by first | rfl | (simp only [m_ent, lv_args_r, lv_args_a, lv_args_i, lv_args_l, lv_args_0]; done) | (simp only [m_ent, lv_args_r, lv_args_a, lv_args_i, lv_args_l, lv_args_0]; rfl)]
  generalize hw0 : w = w0 at h ⊢
  have hF : m_Fm w0 w0 := m_Fm.refl
  rw [D_c_Reader_readTarget] at h0
  refine m_Rb.n0 b_37 (x_aload_n d_37_0 rfl) ?_
  refine m_Rb.n0 b_37 (x_bipush (z := 47) d_37_1 (by decide)) ?_
  obtain ⟨_, e1, j2⟩ := bS h0
  obtain ⟨_, g3⟩ := RT.cls h e1
  obtain ⟨v4, T5, e6, j7⟩ := bS2 j2
  refine m_Rb.callI b_37 (y_cv d_37_3 rfl q_35 (m_isRecv_of rfl g3) (show m_takeI _ _ = some (_, [_, _], []) from m_takeI_of rfl rfl rfl (Nat.le_of_ble_eq_true rfl)) (by simp only [m_okf, List.all_cons, List.all_nil, Bool.and_true, Bool.and_self, m_okv_i, m_okv_l, m_okv_0, m_okv_n0, m_okv_t, RT.okn h ha0, RT.okv h ha0]) rfl) (T_c_Reader_expect ha0 h e6) hF rfl (fun w8 h8 f8 k8 => ?_) (by decide) (by decide)
  cases hc9 : m_c1 .eq v4 with
  | true =>
    have j10 := cT hc9 j7
    refine m_Rb.n0 b_37 (x_ift d_37_6 rfl hc9) ?_
    refine m_Rb.n0 b_37 (x_iconst (z := 0) d_37_18 (by decide)) ?_
    cases j10
    exact m_Rb.ret b_37 (m_rt_ir d_37_19 rfl m_nb0) ⟨rfl, h8, f8⟩
  | false =>
    have j10 := cF hc9 j7
    refine m_Rb.n0 b_37 (x_iff d_37_6 rfl hc9) ?_
    refine m_Rb.n0 b_37 (x_aload_n d_37_9 rfl) ?_
    refine m_Rb.n0 b_37 (x_bipush (z := 31) d_37_10 (by decide)) ?_
    obtain ⟨_, e11, j12⟩ := bS j10
    obtain ⟨_, g13⟩ := RT.cls h8 e11
    obtain ⟨v14, T15, e16, j17⟩ := bS2 j12
    refine m_Rb.callI b_37 (y_cv d_37_12 rfl q_38 (m_isRecv_of rfl g13) (show m_takeI _ _ = some (_, [_, _], []) from m_takeI_of rfl rfl rfl (Nat.le_of_ble_eq_true rfl)) (by simp only [m_okf, List.all_cons, List.all_nil, Bool.and_true, Bool.and_self, m_okv_i, m_okv_l, m_okv_0, m_okv_n0, m_okv_t, RT.okn h8 (okm ha0 k8), RT.okv h8 (okm ha0 k8)]) rfl) (T_c_Reader_readNumber (okm ha0 k8) h8 e16) f8 rfl (fun w18 h18 f18 k18 => ?_) (by decide) (by decide)
    cases hc19 : m_c1 .ne v14 with
    | true =>
      have j20 := cT hc19 j17
      refine m_Rb.n0 b_37 (x_ift d_37_15 rfl hc19) ?_
      refine m_Rb.n0 b_37 (x_aload_n d_37_20 rfl) ?_
      refine m_Rb.n0 b_37 (x_aload_n d_37_21 rfl) ?_
      obtain ⟨v21, e22, j23⟩ := bS j20
      refine m_Rb.tgetI b_37 d_37_22 rfl h18 e22 ?_
      obtain ⟨T24, e25, j26⟩ := bS j23
      refine m_Rb.tputI b_37 d_37_25 rfl rfl (by decide) h18 f18 e25 (fun w27 h27 f27 k27 => ?_)
      refine m_Rb.n0 b_37 (x_aload_n d_37_28 rfl) ?_
      refine m_Rb.n0 b_37 (x_iconst (z := 0) d_37_29 (by decide)) ?_
      obtain ⟨T28, e29, j30⟩ := bS j26
      refine m_Rb.tputI b_37 d_37_30 rfl rfl (by decide) h27 f27 e29 (fun w31 h31 f31 k31 => ?_)
      refine m_Rb.n0 b_37 (x_iload_n d_37_33 rfl) ?_
      cases hc32 : m_c1 .eq p0 with
      | true =>
        have j33 := cT hc32 j30
        refine m_Rb.n0 b_37 (x_ift d_37_34 rfl hc32) ?_
        exact m_Rb.pick [0] rfl (T_c_Reader_readTarget_74 (okm (okm (okm (okm ha0 k8) k18) k27) k31) h31 f31 j33)
      | false =>
        have j33 := cF hc32 j30
        refine m_Rb.n0 b_37 (x_iff d_37_34 rfl hc32) ?_
        refine m_Rb.n0 b_37 (x_aload_n d_37_37 rfl) ?_
        obtain ⟨_, e34, j35⟩ := bS j33
        obtain ⟨_, g36⟩ := RT.cls h31 e34
        obtain ⟨v37, e38, j39⟩ := bS j35
        refine m_Rb.callI b_37 (y_cv d_37_38 rfl q_22 (m_isRecv_of rfl g36) (show m_takeI _ _ = some (_, [_], []) from m_takeI_of rfl rfl rfl (Nat.le_of_ble_eq_true rfl)) (by simp only [m_okf, List.all_cons, List.all_nil, Bool.and_true, Bool.and_self, m_okv_i, m_okv_l, m_okv_0, m_okv_n0, m_okv_t, RT.okn h31 (okm (okm (okm (okm ha0 k8) k18) k27) k31), RT.okv h31 (okm (okm (okm (okm ha0 k8) k18) k27) k31)]) rfl) (T_c_Reader_here (okm (okm (okm (okm ha0 k8) k18) k27) k31) h31 e38) f31 rfl (fun w40 h40 f40 k40 => ?_) (by decide) (by decide)
        refine m_Rb.n0 b_37 (x_bipush (z := 47) d_37_41 (by decide)) ?_
        cases hc41 : m_c2 .ne v37 (47 : Int32) with
        | true =>
          have j42 := cT hc41 j39
          refine m_Rb.n0 b_37 (x_ict d_37_43 rfl hc41) ?_
          exact m_Rb.pick [0] rfl (T_c_Reader_readTarget_74 (okm (okm (okm (okm ha0 k8) k18) k27) k31) h40 f40 j42)
        | false =>
          have j42 := cF hc41 j39
          refine m_Rb.n0 b_37 (x_icf d_37_43 rfl hc41) ?_
          refine m_Rb.n0 b_37 (x_aload_n d_37_46 rfl) ?_
          refine m_Rb.n0 b_37 (x_dup d_37_47 rfl) ?_
          obtain ⟨v43, e44, j45⟩ := bS j42
          refine m_Rb.tgetI b_37 d_37_48 rfl h40 e44 ?_
          refine m_Rb.n0 b_37 (x_iconst (z := 1) d_37_51 (by decide)) ?_
          refine m_Rb.n0 b_37 (x_iadd d_37_52 rfl) ?_
          obtain ⟨T46, e47, j48⟩ := bS j45
          refine m_Rb.tputI b_37 d_37_53 rfl rfl (by decide) h40 f40 e47 (fun w49 h49 f49 k49 => ?_)
          refine m_Rb.n0 b_37 (x_aload_n d_37_56 rfl) ?_
          refine m_Rb.n0 b_37 (x_iconst (z := 3) d_37_57 (by decide)) ?_
          obtain ⟨_, e50, j51⟩ := bS j48
          obtain ⟨_, g52⟩ := RT.cls h49 e50
          obtain ⟨v53, T54, e55, j56⟩ := bS2 j51
          refine m_Rb.callI b_37 (y_cv d_37_58 rfl q_38 (m_isRecv_of rfl g52) (show m_takeI _ _ = some (_, [_, _], []) from m_takeI_of rfl rfl rfl (Nat.le_of_ble_eq_true rfl)) (by simp only [m_okf, List.all_cons, List.all_nil, Bool.and_true, Bool.and_self, m_okv_i, m_okv_l, m_okv_0, m_okv_n0, m_okv_t, RT.okn h49 (okm (okm (okm (okm (okm ha0 k8) k18) k27) k31) k49), RT.okv h49 (okm (okm (okm (okm (okm ha0 k8) k18) k27) k31) k49)]) rfl) (T_c_Reader_readNumber (okm (okm (okm (okm (okm ha0 k8) k18) k27) k31) k49) h49 e55) f49 rfl (fun w57 h57 f57 k57 => ?_) (by decide) (by decide)
          cases hc58 : m_c1 .ne v53 with
          | true =>
            have j59 := cT hc58 j56
            refine m_Rb.n0 b_37 (x_ift d_37_61 rfl hc58) ?_
            refine m_Rb.n0 b_37 (x_aload_n d_37_66 rfl) ?_
            refine m_Rb.n0 b_37 (x_aload_n d_37_67 rfl) ?_
            obtain ⟨v60, e61, j62⟩ := bS j59
            refine m_Rb.tgetI b_37 d_37_68 rfl h57 e61 ?_
            obtain ⟨T63, e64, j65⟩ := bS j62
            refine m_Rb.tputI b_37 d_37_71 rfl rfl (by decide) h57 f57 e64 (fun w66 h66 f66 k66 => ?_)
            exact m_Rb.pick [0] rfl (T_c_Reader_readTarget_74 (okm (okm (okm (okm (okm (okm (okm ha0 k8) k18) k27) k31) k49) k57) k66) h66 f66 j65)
          | false =>
            have j59 := cF hc58 j56
            refine m_Rb.n0 b_37 (x_iff d_37_61 rfl hc58) ?_
            refine m_Rb.n0 b_37 (x_iconst (z := 0) d_37_64 (by decide)) ?_
            cases j59
            exact m_Rb.ret b_37 (m_rt_ir d_37_65 rfl m_nb0) ⟨rfl, h57, f57⟩
    | false =>
      have j20 := cF hc19 j17
      refine m_Rb.n0 b_37 (x_iff d_37_15 rfl hc19) ?_
      refine m_Rb.n0 b_37 (x_iconst (z := 0) d_37_18 (by decide)) ?_
      cases j20
      exact m_Rb.ret b_37 (m_rt_ir d_37_19 rfl m_nb0) ⟨rfl, h18, f18⟩
def D_c_Reader_skipLetters_38 (F : Nat) (rec0 : Nat → tT → Option (tT)) (x0 : Nat) (T : tT) : Option (tT) := (tgi T x0 1 2).bind fun v36 => (tpi T x0 1 2 (v36 + (1 : Int32))).bind fun T39 => rec0 x0 T39
theorem T_c_Reader_skipLetters_38 {l : Launch} {w0 : List mM} {F : Nat} {rec0 : Nat → tT → Option (tT)} (hr0 : ∀ {x0 : Nat} {T : tT} {w : List mM} {Tz : tT}, okr T.2.1 (some x0) → RT T w → m_Fm w0 w → rec0 x0 T = some Tz → m_Rb l M_41 (0, [(0, .ref x0)], [], w) (fun v w' => v = none ∧ RT Tz w' ∧ m_Fm w0 w') T Tz 1 100) {x0 : Nat} {T : tT} {w : List mM} {Tz : tT} (hx0 : okr T.2.1 (some x0)) (h : RT T w) (hF : m_Fm w0 w) (h0 : D_c_Reader_skipLetters_38 F rec0 x0 T = some Tz) : m_Rb l M_41 (38, [(0, .ref x0)], [], w) (fun v w' => v = none ∧ RT Tz w' ∧ m_Fm w0 w') T Tz 1 100 := by
  rw [D_c_Reader_skipLetters_38] at h0
  refine m_Rb.n0 b_41 (x_aload_n d_41_38 rfl) ?_
  refine m_Rb.n0 b_41 (x_dup d_41_39 rfl) ?_
  obtain ⟨v36, e37, j38⟩ := bS h0
  refine m_Rb.tgetI b_41 d_41_40 rfl h e37 ?_
  refine m_Rb.n0 b_41 (x_iconst (z := 1) d_41_43 (by decide)) ?_
  refine m_Rb.n0 b_41 (x_iadd d_41_44 rfl) ?_
  obtain ⟨T39, e40, j41⟩ := bS j38
  refine m_Rb.tputI b_41 d_41_45 rfl rfl (by decide) h hF e40 (fun w42 h42 f42 k42 => ?_)
  refine m_Rb.n0 b_41 (x_goto d_41_48 rfl) ?_
  exact m_Rb.pick [0] rfl (hr0 (okm hx0 k42) h42 f42 j41)
def D_c_Reader_skipLetters_0 (F : Nat) : Nat → Nat → tT → Option (tT)
  | 0, _, _ => none
  | n + 1, x0, T => (tgi T x0 1 2).bind fun v1 => (tgi T x0 1 1).bind fun v4 => cond (m_c2 .ge v1 v4) (some T) ((tcl T x0 1).bind fun _ => (D_c_Reader_here F x0 T).bind fun v12 => cond (m_c2 .eq v12 (45 : Int32)) (D_c_Reader_skipLetters_38 F (D_c_Reader_skipLetters_0 F n) x0 T) ((tcl T x0 1).bind fun _ => (D_c_Reader_here F x0 T).bind fun v21 => cond (m_c2 .lt v21 (97 : Int32)) (some T) ((tcl T x0 1).bind fun _ => (D_c_Reader_here F x0 T).bind fun v30 => cond (m_c2 .gt v30 (122 : Int32)) (some T) (D_c_Reader_skipLetters_38 F (D_c_Reader_skipLetters_0 F n) x0 T))))
theorem T_c_Reader_skipLetters_0 {l : Launch} {w0 : List mM} {F : Nat} : ∀ (n : Nat) {x0 : Nat} {T : tT} {w : List mM} {Tz : tT}, okr T.2.1 (some x0) → RT T w → m_Fm w0 w → D_c_Reader_skipLetters_0 F n x0 T = some Tz → m_Rb l M_41 (0, [(0, .ref x0)], [], w) (fun v w' => v = none ∧ RT Tz w' ∧ m_Fm w0 w') T Tz 1 100 := by
  intro n
  induction n with
  | zero => intro x0 T w Tz hx0 h hF h0; cases h0
  | succ n ih =>
    intro x0 T w Tz hx0 h hF h0
    rw [D_c_Reader_skipLetters_0] at h0
    refine m_Rb.n0 b_41 (x_aload_n d_41_0 rfl) ?_
    obtain ⟨v1, e2, j3⟩ := bS h0
    refine m_Rb.tgetI b_41 d_41_1 rfl h e2 ?_
    refine m_Rb.n0 b_41 (x_aload_n d_41_4 rfl) ?_
    obtain ⟨v4, e5, j6⟩ := bS j3
    refine m_Rb.tgetI b_41 d_41_5 rfl h e5 ?_
    cases hc7 : m_c2 .ge v1 v4 with
    | true =>
      have j8 := cT hc7 j6
      refine m_Rb.n0 b_41 (x_ict d_41_8 rfl hc7) ?_
      cases j8
      exact m_Rb.ret b_41 (m_rt_vr d_41_51 rfl) ⟨rfl, h, hF⟩
    | false =>
      have j8 := cF hc7 j6
      refine m_Rb.n0 b_41 (x_icf d_41_8 rfl hc7) ?_
      refine m_Rb.n0 b_41 (x_aload_n d_41_11 rfl) ?_
      obtain ⟨_, e9, j10⟩ := bS j8
      obtain ⟨_, g11⟩ := RT.cls h e9
      obtain ⟨v12, e13, j14⟩ := bS j10
      refine m_Rb.callI b_41 (y_cv d_41_12 rfl q_22 (m_isRecv_of rfl g11) (show m_takeI _ _ = some (_, [_], []) from m_takeI_of rfl rfl rfl (Nat.le_of_ble_eq_true rfl)) (by simp only [m_okf, List.all_cons, List.all_nil, Bool.and_true, Bool.and_self, m_okv_i, m_okv_l, m_okv_0, m_okv_n0, m_okv_t, RT.okn h hx0, RT.okv h hx0]) rfl) (T_c_Reader_here hx0 h e13) hF rfl (fun w15 h15 f15 k15 => ?_) (by decide) (by decide)
      refine m_Rb.n0 b_41 (x_bipush (z := 45) d_41_15 (by decide)) ?_
      cases hc16 : m_c2 .eq v12 (45 : Int32) with
      | true =>
        have j17 := cT hc16 j14
        refine m_Rb.n0 b_41 (x_ict d_41_17 rfl hc16) ?_
        exact m_Rb.pick [0] rfl (T_c_Reader_skipLetters_38 ih hx0 h15 f15 j17)
      | false =>
        have j17 := cF hc16 j14
        refine m_Rb.n0 b_41 (x_icf d_41_17 rfl hc16) ?_
        refine m_Rb.n0 b_41 (x_aload_n d_41_20 rfl) ?_
        obtain ⟨_, e18, j19⟩ := bS j17
        obtain ⟨_, g20⟩ := RT.cls h15 e18
        obtain ⟨v21, e22, j23⟩ := bS j19
        refine m_Rb.callI b_41 (y_cv d_41_21 rfl q_22 (m_isRecv_of rfl g20) (show m_takeI _ _ = some (_, [_], []) from m_takeI_of rfl rfl rfl (Nat.le_of_ble_eq_true rfl)) (by simp only [m_okf, List.all_cons, List.all_nil, Bool.and_true, Bool.and_self, m_okv_i, m_okv_l, m_okv_0, m_okv_n0, m_okv_t, RT.okn h15 hx0, RT.okv h15 hx0]) rfl) (T_c_Reader_here hx0 h15 e22) f15 rfl (fun w24 h24 f24 k24 => ?_) (by decide) (by decide)
        refine m_Rb.n0 b_41 (x_bipush (z := 97) d_41_24 (by decide)) ?_
        cases hc25 : m_c2 .lt v21 (97 : Int32) with
        | true =>
          have j26 := cT hc25 j23
          refine m_Rb.n0 b_41 (x_ict d_41_26 rfl hc25) ?_
          cases j26
          exact m_Rb.ret b_41 (m_rt_vr d_41_51 rfl) ⟨rfl, h24, f24⟩
        | false =>
          have j26 := cF hc25 j23
          refine m_Rb.n0 b_41 (x_icf d_41_26 rfl hc25) ?_
          refine m_Rb.n0 b_41 (x_aload_n d_41_29 rfl) ?_
          obtain ⟨_, e27, j28⟩ := bS j26
          obtain ⟨_, g29⟩ := RT.cls h24 e27
          obtain ⟨v30, e31, j32⟩ := bS j28
          refine m_Rb.callI b_41 (y_cv d_41_30 rfl q_22 (m_isRecv_of rfl g29) (show m_takeI _ _ = some (_, [_], []) from m_takeI_of rfl rfl rfl (Nat.le_of_ble_eq_true rfl)) (by simp only [m_okf, List.all_cons, List.all_nil, Bool.and_true, Bool.and_self, m_okv_i, m_okv_l, m_okv_0, m_okv_n0, m_okv_t, RT.okn h24 hx0, RT.okv h24 hx0]) rfl) (T_c_Reader_here hx0 h24 e31) f24 rfl (fun w33 h33 f33 k33 => ?_) (by decide) (by decide)
          refine m_Rb.n0 b_41 (x_bipush (z := 122) d_41_33 (by decide)) ?_
          cases hc34 : m_c2 .gt v30 (122 : Int32) with
          | true =>
            have j35 := cT hc34 j32
            refine m_Rb.n0 b_41 (x_ict d_41_35 rfl hc34) ?_
            cases j35
            exact m_Rb.ret b_41 (m_rt_vr d_41_51 rfl) ⟨rfl, h33, f33⟩
          | false =>
            have j35 := cF hc34 j32
            refine m_Rb.n0 b_41 (x_icf d_41_35 rfl hc34) ?_
            exact m_Rb.pick [0] rfl (T_c_Reader_skipLetters_38 ih hx0 h33 f33 j35)
def D_c_Reader_skipLetters (F : Nat) (a0 : Nat) (T : tT) : Option (tT) := D_c_Reader_skipLetters_0 F F a0 T
theorem T_c_Reader_skipLetters {l : Launch} {w : List mM} {F : Nat} {a0 : Nat} {T : tT} {Tz : tT} (ha0 : okr T.2.1 (some a0)) (h : RT T w) (h0 : D_c_Reader_skipLetters F a0 T = some Tz) : m_Rb l M_41 (m_ent M_41 [.ref a0] w) (fun v w' => v = none ∧ RT Tz w' ∧ m_Fm w w') T Tz 1 100 := by
  rw [show m_ent M_41 [.ref a0] w = (0, [(0, .ref a0)], [], w) from by first | rfl | (simp only [m_ent, lv_args_r, lv_args_a, lv_args_i, lv_args_l, lv_args_0]; done) | (simp only [m_ent, lv_args_r, lv_args_a, lv_args_i, lv_args_l, lv_args_0]; rfl)]
  generalize hw0 : w = w0 at h ⊢
  have hF : m_Fm w0 w0 := m_Fm.refl
  rw [D_c_Reader_skipLetters] at h0
  exact m_Rb.pick [0] rfl (T_c_Reader_skipLetters_0 F ha0 h hF h0)
def D_c_Reader_isSame_3 (F : Nat) : Nat → Nat → Int32 → Int32 → Int32 → Int32 → tT → Option (Int32)
  | 0, _, _, _, _, _, _ => none
  | n + 1, x0, x1, x2, x3, x4, T0 => cond (m_c2 .gt x4 x3) (some (1 : Int32)) ((tgi T0 x0 1 1).bind fun v3 => cond (m_c2 .ge (x1 + x4) v3) (some (0 : Int32)) ((tgi T0 x0 1 1).bind fun v8 => cond (m_c2 .ge (x2 + x4) v8) (some (0 : Int32)) ((tgr T0 x0 1 0).bind fun v13 => (v13).bind fun a17 => (tai T0 a17 2 (x1 + x4)).bind fun v20 => (tgr T0 x0 1 0).bind fun v23 => (v23).bind fun a27 => (tai T0 a27 2 (x2 + x4)).bind fun v30 => cond (m_c2 .eq v20 v30) (D_c_Reader_isSame_3 F n x0 x1 x2 x3 (x4 + Int32.ofInt 1) T0) (some (0 : Int32)))))
theorem T_c_Reader_isSame_3 {l : Launch} {w0 : List mM} {F : Nat} {T0 : tT} : ∀ (n : Nat) {x0 : Nat} {x1 : Int32} {x2 : Int32} {x3 : Int32} {x4 : Int32} {w : List mM} {yz : Int32}, okr T0.2.1 (some x0) → RT T0 w → m_Fm w0 w → D_c_Reader_isSame_3 F n x0 x1 x2 x3 x4 T0 = some yz → m_Rb l M_43 (3, [(0, .ref x0), (1, .int x1), (2, .int x2), (3, .int x3), (4, .int x4)], [], w) (fun v w' => v = some (.int yz) ∧ RT T0 w' ∧ m_Fm w0 w') T0 T0 0 0 := by
  intro n
  induction n with
  | zero => intro x0 x1 x2 x3 x4 w yz hx0 h hF h0; cases h0
  | succ n ih =>
    intro x0 x1 x2 x3 x4 w yz hx0 h hF h0
    rw [D_c_Reader_isSame_3] at h0
    refine m_Rb.n0 b_43 (x_iload d_43_3 rfl) ?_
    refine m_Rb.n0 b_43 (x_iload_n d_43_5 rfl) ?_
    cases hc1 : m_c2 .gt x4 x3 with
    | true =>
      have j2 := cT hc1 h0
      refine m_Rb.n0 b_43 (x_ict d_43_6 rfl hc1) ?_
      refine m_Rb.n0 b_43 (x_iconst (z := 1) d_43_60 (by decide)) ?_
      cases j2
      exact m_Rb.ret b_43 (m_rt_ir d_43_61 rfl m_nb1) ⟨rfl, h, hF⟩
    | false =>
      have j2 := cF hc1 h0
      refine m_Rb.n0 b_43 (x_icf d_43_6 rfl hc1) ?_
      refine m_Rb.n0 b_43 (x_iload_n d_43_9 rfl) ?_
      refine m_Rb.n0 b_43 (x_iload d_43_10 rfl) ?_
      refine m_Rb.n0 b_43 (x_iadd d_43_12 rfl) ?_
      refine m_Rb.n0 b_43 (x_aload_n d_43_13 rfl) ?_
      obtain ⟨v3, e4, j5⟩ := bS j2
      refine m_Rb.tgetI b_43 d_43_14 rfl h e4 ?_
      cases hc6 : m_c2 .ge (x1 + x4) v3 with
      | true =>
        have j7 := cT hc6 j5
        refine m_Rb.n0 b_43 (x_ict d_43_17 rfl hc6) ?_
        refine m_Rb.n0 b_43 (x_iconst (z := 0) d_43_52 (by decide)) ?_
        cases j7
        exact m_Rb.ret b_43 (m_rt_ir d_43_53 rfl m_nb0) ⟨rfl, h, hF⟩
      | false =>
        have j7 := cF hc6 j5
        refine m_Rb.n0 b_43 (x_icf d_43_17 rfl hc6) ?_
        refine m_Rb.n0 b_43 (x_iload_n d_43_20 rfl) ?_
        refine m_Rb.n0 b_43 (x_iload d_43_21 rfl) ?_
        refine m_Rb.n0 b_43 (x_iadd d_43_23 rfl) ?_
        refine m_Rb.n0 b_43 (x_aload_n d_43_24 rfl) ?_
        obtain ⟨v8, e9, j10⟩ := bS j7
        refine m_Rb.tgetI b_43 d_43_25 rfl h e9 ?_
        cases hc11 : m_c2 .ge (x2 + x4) v8 with
        | true =>
          have j12 := cT hc11 j10
          refine m_Rb.n0 b_43 (x_ict d_43_28 rfl hc11) ?_
          refine m_Rb.n0 b_43 (x_iconst (z := 0) d_43_52 (by decide)) ?_
          cases j12
          exact m_Rb.ret b_43 (m_rt_ir d_43_53 rfl m_nb0) ⟨rfl, h, hF⟩
        | false =>
          have j12 := cF hc11 j10
          refine m_Rb.n0 b_43 (x_icf d_43_28 rfl hc11) ?_
          refine m_Rb.n0 b_43 (x_aload_n d_43_31 rfl) ?_
          obtain ⟨v13, e14, j15⟩ := bS j12
          refine m_Rb.tgetR b_43 d_43_32 rfl h e14 (fun o16 => ?_)
          refine m_Rb.n0 b_43 (x_iload_n d_43_35 rfl) ?_
          refine m_Rb.n0 b_43 (x_iload d_43_36 rfl) ?_
          refine m_Rb.n0 b_43 (x_iadd d_43_38 rfl) ?_
          obtain ⟨a17, e18, j19⟩ := bS j15
          subst e18
          obtain ⟨v20, e21, j22⟩ := bS j19
          refine m_Rb.tgetC b_43 d_43_39 h e21 ?_
          refine m_Rb.n0 b_43 (x_aload_n d_43_40 rfl) ?_
          obtain ⟨v23, e24, j25⟩ := bS j22
          refine m_Rb.tgetR b_43 d_43_41 rfl h e24 (fun o26 => ?_)
          refine m_Rb.n0 b_43 (x_iload_n d_43_44 rfl) ?_
          refine m_Rb.n0 b_43 (x_iload d_43_45 rfl) ?_
          refine m_Rb.n0 b_43 (x_iadd d_43_47 rfl) ?_
          obtain ⟨a27, e28, j29⟩ := bS j25
          subst e28
          obtain ⟨v30, e31, j32⟩ := bS j29
          refine m_Rb.tgetC b_43 d_43_48 h e31 ?_
          cases hc33 : m_c2 .eq v20 v30 with
          | true =>
            have j34 := cT hc33 j32
            refine m_Rb.n0 b_43 (x_ict d_43_49 rfl hc33) ?_
            refine m_Rb.n0 b_43 (x_iinc d_43_54 rfl rfl rfl (show m_put1 _ _ _ = [(4, _), (0, _), (1, _), (2, _), (3, _)] from rfl)) ?_
            refine m_Rb.n0 b_43 (x_goto d_43_57 rfl) ?_
            exact m_Rb.pick [1, 2, 3, 4, 0] rfl (ih hx0 h hF j34)
          | false =>
            have j34 := cF hc33 j32
            refine m_Rb.n0 b_43 (x_icf d_43_49 rfl hc33) ?_
            refine m_Rb.n0 b_43 (x_iconst (z := 0) d_43_52 (by decide)) ?_
            cases j34
            exact m_Rb.ret b_43 (m_rt_ir d_43_53 rfl m_nb0) ⟨rfl, h, hF⟩
def D_c_Reader_isSame (F : Nat) (a0 : Nat) (p0 : Int32) (p1 : Int32) (p2 : Int32) (T0 : tT) : Option (Int32) := D_c_Reader_isSame_3 F F a0 p0 p1 p2 (0 : Int32) T0
theorem T_c_Reader_isSame {l : Launch} {w : List mM} {F : Nat} {a0 : Nat} {p0 : Int32} {p1 : Int32} {p2 : Int32} {T0 : tT} {yz : Int32} (ha0 : okr T0.2.1 (some a0)) (h : RT T0 w) (h0 : D_c_Reader_isSame F a0 p0 p1 p2 T0 = some yz) : m_Rb l M_43 (m_ent M_43 [.ref a0, .int p0, .int p1, .int p2] w) (fun v w' => v = some (.int yz) ∧ RT T0 w' ∧ m_Fm w w') T0 T0 0 0 := by
  rw [show m_ent M_43 [.ref a0, .int p0, .int p1, .int p2] w = (0, [(0, .ref a0), (1, .int p0), (2, .int p1), (3, .int p2)], [], w) from by first | rfl | (simp only [m_ent, lv_args_r, lv_args_a, lv_args_i, lv_args_l, lv_args_0]; done) | (simp only [m_ent, lv_args_r, lv_args_a, lv_args_i, lv_args_l, lv_args_0]; rfl)]
  generalize hw0 : w = w0 at h ⊢
  have hF : m_Fm w0 w0 := m_Fm.refl
  rw [D_c_Reader_isSame] at h0
  refine m_Rb.n0 b_43 (x_iconst (z := 0) d_43_0 (by decide)) ?_
  refine m_Rb.n0 b_43 (x_istore d_43_1 rfl (show m_put1 _ _ _ = [(4, _), (0, _), (1, _), (2, _), (3, _)] from rfl)) ?_
  exact m_Rb.pick [1, 2, 3, 4, 0] rfl (T_c_Reader_isSame_3 F ha0 h hF h0)
def D_c_Reader_wasThere_2 (F : Nat) : Nat → Nat → Int32 → tT → Option (Int32)
  | 0, _, _, _ => none
  | n + 1, x0, x1, T0 => (tgi T0 x0 1 5).bind fun v1 => cond (m_c2 .ge x1 v1) (some (0 : Int32)) ((tgr T0 x0 1 4).bind fun v6 => (v6).bind fun a10 => (tai T0 a10 0 x1).bind fun v13 => (tgi T0 x0 1 6).bind fun v16 => (tgi T0 x0 1 7).bind fun v19 => (tgi T0 x0 1 6).bind fun v22 => (tcl T0 x0 1).bind fun _ => (D_c_Reader_isSame F x0 v13 v16 (v19 - v22) T0).bind fun v28 => cond (m_c1 .eq v28) (D_c_Reader_wasThere_2 F n x0 (x1 + Int32.ofInt 1) T0) (some (1 : Int32)))
theorem T_c_Reader_wasThere_2 {l : Launch} {w0 : List mM} {F : Nat} {T0 : tT} : ∀ (n : Nat) {x0 : Nat} {x1 : Int32} {w : List mM} {yz : Int32}, okr T0.2.1 (some x0) → RT T0 w → m_Fm w0 w → D_c_Reader_wasThere_2 F n x0 x1 T0 = some yz → m_Rb l M_42 (2, [(0, .ref x0), (1, .int x1)], [], w) (fun v w' => v = some (.int yz) ∧ RT T0 w' ∧ m_Fm w0 w') T0 T0 1 100 := by
  intro n
  induction n with
  | zero => intro x0 x1 w yz hx0 h hF h0; cases h0
  | succ n ih =>
    intro x0 x1 w yz hx0 h hF h0
    rw [D_c_Reader_wasThere_2] at h0
    refine m_Rb.n0 b_42 (x_iload_n d_42_2 rfl) ?_
    refine m_Rb.n0 b_42 (x_aload_n d_42_3 rfl) ?_
    obtain ⟨v1, e2, j3⟩ := bS h0
    refine m_Rb.tgetI b_42 d_42_4 rfl h e2 ?_
    cases hc4 : m_c2 .ge x1 v1 with
    | true =>
      have j5 := cT hc4 j3
      refine m_Rb.n0 b_42 (x_ict d_42_7 rfl hc4) ?_
      refine m_Rb.n0 b_42 (x_iconst (z := 0) d_42_44 (by decide)) ?_
      cases j5
      exact m_Rb.ret b_42 (m_rt_ir d_42_45 rfl m_nb0) ⟨rfl, h, hF⟩
    | false =>
      have j5 := cF hc4 j3
      refine m_Rb.n0 b_42 (x_icf d_42_7 rfl hc4) ?_
      refine m_Rb.n0 b_42 (x_aload_n d_42_10 rfl) ?_
      refine m_Rb.n0 b_42 (x_aload_n d_42_11 rfl) ?_
      obtain ⟨v6, e7, j8⟩ := bS j5
      refine m_Rb.tgetR b_42 d_42_12 rfl h e7 (fun o9 => ?_)
      refine m_Rb.n0 b_42 (x_iload_n d_42_15 rfl) ?_
      obtain ⟨a10, e11, j12⟩ := bS j8
      subst e11
      obtain ⟨v13, e14, j15⟩ := bS j12
      refine m_Rb.tgetA b_42 d_42_16 h e14 ?_
      refine m_Rb.n0 b_42 (x_aload_n d_42_17 rfl) ?_
      obtain ⟨v16, e17, j18⟩ := bS j15
      refine m_Rb.tgetI b_42 d_42_18 rfl h e17 ?_
      refine m_Rb.n0 b_42 (x_aload_n d_42_21 rfl) ?_
      obtain ⟨v19, e20, j21⟩ := bS j18
      refine m_Rb.tgetI b_42 d_42_22 rfl h e20 ?_
      refine m_Rb.n0 b_42 (x_aload_n d_42_25 rfl) ?_
      obtain ⟨v22, e23, j24⟩ := bS j21
      refine m_Rb.tgetI b_42 d_42_26 rfl h e23 ?_
      refine m_Rb.n0 b_42 (x_isub d_42_29 rfl) ?_
      obtain ⟨_, e25, j26⟩ := bS j24
      obtain ⟨_, g27⟩ := RT.cls h e25
      obtain ⟨v28, e29, j30⟩ := bS j26
      refine m_Rb.callI b_42 (y_cv d_42_30 rfl q_43 (m_isRecv_of rfl g27) (show m_takeI _ _ = some (_, [_, _, _, _], []) from m_takeI_of rfl rfl rfl (Nat.le_of_ble_eq_true rfl)) (by simp only [m_okf, List.all_cons, List.all_nil, Bool.and_true, Bool.and_self, m_okv_i, m_okv_l, m_okv_0, m_okv_n0, m_okv_t, RT.okn h hx0, RT.okv h hx0]) rfl) (T_c_Reader_isSame hx0 h e29) hF rfl (fun w31 h31 f31 k31 => ?_) (by decide) (by decide)
      cases hc32 : m_c1 .eq v28 with
      | true =>
        have j33 := cT hc32 j30
        refine m_Rb.n0 b_42 (x_ift d_42_33 rfl hc32) ?_
        refine m_Rb.n0 b_42 (x_iinc d_42_38 rfl rfl rfl (show m_put1 _ _ _ = [(1, _), (0, _)] from rfl)) ?_
        refine m_Rb.n0 b_42 (x_goto d_42_41 rfl) ?_
        exact m_Rb.pick [1, 0] rfl (ih hx0 h31 f31 j33)
      | false =>
        have j33 := cF hc32 j30
        refine m_Rb.n0 b_42 (x_iff d_42_33 rfl hc32) ?_
        refine m_Rb.n0 b_42 (x_iconst (z := 1) d_42_36 (by decide)) ?_
        cases j33
        exact m_Rb.ret b_42 (m_rt_ir d_42_37 rfl m_nb1) ⟨rfl, h31, f31⟩
def D_c_Reader_wasThere (F : Nat) (a0 : Nat) (T0 : tT) : Option (Int32) := D_c_Reader_wasThere_2 F F a0 (0 : Int32) T0
theorem T_c_Reader_wasThere {l : Launch} {w : List mM} {F : Nat} {a0 : Nat} {T0 : tT} {yz : Int32} (ha0 : okr T0.2.1 (some a0)) (h : RT T0 w) (h0 : D_c_Reader_wasThere F a0 T0 = some yz) : m_Rb l M_42 (m_ent M_42 [.ref a0] w) (fun v w' => v = some (.int yz) ∧ RT T0 w' ∧ m_Fm w w') T0 T0 1 100 := by
  rw [show m_ent M_42 [.ref a0] w = (0, [(0, .ref a0)], [], w) from by first | rfl | (simp only [m_ent, lv_args_r, lv_args_a, lv_args_i, lv_args_l, lv_args_0]; done) | (simp only [m_ent, lv_args_r, lv_args_a, lv_args_i, lv_args_l, lv_args_0]; rfl)]
  generalize hw0 : w = w0 at h ⊢
  have hF : m_Fm w0 w0 := m_Fm.refl
  rw [D_c_Reader_wasThere] at h0
  refine m_Rb.n0 b_42 (x_iconst (z := 0) d_42_0 (by decide)) ?_
  refine m_Rb.n0 b_42 (x_istore_n d_42_1 rfl (show m_put1 _ _ _ = [(1, _), (0, _)] from rfl)) ?_
  exact m_Rb.pick [1, 0] rfl (T_c_Reader_wasThere_2 F ha0 h hF h0)
def D_c_Reader_readName_100 (F : Nat) (x0 : Nat) (T : tT) : Option (Int32 × tT) := (tgi T x0 1 6).bind fun v164 => (tcl T x0 1).bind fun _ => bd2 (D_c_Reader_no F x0 v164 T) fun v170 T171 => (bret v170).bind fun v175 => some (v175, T171)
theorem T_c_Reader_readName_100 {l : Launch} {w0 : List mM} {F : Nat} {x0 : Nat} {T : tT} {w : List mM} {yz : Int32} {Tz : tT} (hx0 : okr T.2.1 (some x0)) (h : RT T w) (hF : m_Fm w0 w) (h0 : D_c_Reader_readName_100 F x0 T = some (yz, Tz)) : m_Rb l M_40 (100, [(0, .ref x0)], [], w) (fun v w' => v = some (.int yz) ∧ RT Tz w' ∧ m_Fm w0 w') T Tz 2 200 := by
  rw [D_c_Reader_readName_100] at h0
  refine m_Rb.n0 b_40 (x_aload_n d_40_100 rfl) ?_
  refine m_Rb.n0 b_40 (x_aload_n d_40_101 rfl) ?_
  obtain ⟨v164, e165, j166⟩ := bS h0
  refine m_Rb.tgetI b_40 d_40_102 rfl h e165 ?_
  obtain ⟨_, e167, j168⟩ := bS j166
  obtain ⟨_, g169⟩ := RT.cls h e167
  obtain ⟨v170, T171, e172, j173⟩ := bS2 j168
  refine m_Rb.callI b_40 (y_cv d_40_105 rfl q_36 (m_isRecv_of rfl g169) (show m_takeI _ _ = some (_, [_, _], []) from m_takeI_of rfl rfl rfl (Nat.le_of_ble_eq_true rfl)) (by simp only [m_okf, List.all_cons, List.all_nil, Bool.and_true, Bool.and_self, m_okv_i, m_okv_l, m_okv_0, m_okv_n0, m_okv_t, RT.okn h hx0, RT.okv h hx0]) rfl) (T_c_Reader_no hx0 h e172) hF rfl (fun w174 h174 f174 k174 => ?_) (by decide) (by decide)
  obtain ⟨v175, e176, j177⟩ := bS j173
  cases j177
  exact m_Rb.retb b_40 d_40_108 rfl e176 ⟨rfl, h174, f174⟩
def D_c_Reader_readName (F : Nat) (a0 : Nat) (T : tT) : Option (Int32 × tT) := (tgi T a0 1 2).bind fun v1 => (tpi T a0 1 6 v1).bind fun T4 => (tcl T4 a0 1).bind fun _ => (D_c_Reader_skipLetters F a0 T4).bind fun T11 => (tgi T11 a0 1 2).bind fun v15 => (tpi T11 a0 1 7 v15).bind fun T18 => (tgi T18 a0 1 2).bind fun v22 => (tgi T18 a0 1 6).bind fun v25 => cond (m_c2 .ne v22 v25) ((tgi T18 a0 1 2).bind fun v30 => (tgi T18 a0 1 6).bind fun v33 => cond (m_c2 .le (v30 - v33) (20 : Int32)) ((tcl T18 a0 1).bind fun _ => (D_c_Reader_here F a0 T18).bind fun v41 => cond (m_c2 .eq v41 (58 : Int32)) ((tcl T18 a0 1).bind fun _ => (D_c_Reader_wasThere F a0 T18).bind fun v50 => cond (m_c1 .ne v50) (D_c_Reader_readName_100 F a0 T18) ((tgi T18 a0 1 5).bind fun v56 => (tgr T18 a0 1 4).bind fun v59 => (v59).bind fun a63 => (tal T18 a63).bind fun v66 => cond (m_c2 .lt v56 v66) ((tgr T18 a0 1 4).bind fun v71 => (tgi T18 a0 1 5).bind fun v75 => (tgi T18 a0 1 6).bind fun v78 => (v71).bind fun a81 => (tasi T18 a81 v75 v78).bind fun T84 => (tgi T84 a0 1 5).bind fun v88 => (tpi T84 a0 1 5 (v88 + (1 : Int32))).bind fun T91 => (tgi T91 a0 1 2).bind fun v95 => (tpi T91 a0 1 2 (v95 + (1 : Int32))).bind fun T98 => (tcl T98 a0 1).bind fun _ => (D_c_Reader_here F a0 T98).bind fun v105 => cond (m_c2 .ne v105 (32 : Int32)) (some ((1 : Int32), T98)) ((tgi T98 a0 1 2).bind fun v115 => (tpi T98 a0 1 2 (v115 + (1 : Int32))).bind fun T118 => some ((1 : Int32), T118))) (D_c_Reader_readName_100 F a0 T18))) ((tgi T18 a0 1 2).bind fun v122 => (tcl T18 a0 1).bind fun _ => bd2 (D_c_Reader_no F a0 v122 T18) fun v128 T129 => (bret v128).bind fun v133 => some (v133, T129))) ((tgi T18 a0 1 6).bind fun v136 => (tcl T18 a0 1).bind fun _ => bd2 (D_c_Reader_no F a0 v136 T18) fun v142 T143 => (bret v142).bind fun v147 => some (v147, T143))) ((tgi T18 a0 1 2).bind fun v150 => (tcl T18 a0 1).bind fun _ => bd2 (D_c_Reader_no F a0 v150 T18) fun v156 T157 => (bret v156).bind fun v161 => some (v161, T157))
theorem T_c_Reader_readName {l : Launch} {w : List mM} {F : Nat} {a0 : Nat} {T : tT} {yz : Int32} {Tz : tT} (ha0 : okr T.2.1 (some a0)) (h : RT T w) (h0 : D_c_Reader_readName F a0 T = some (yz, Tz)) : m_Rb l M_40 (m_ent M_40 [.ref a0] w) (fun v w' => v = some (.int yz) ∧ RT Tz w' ∧ m_Fm w w') T Tz 2 200 := by
  rw [show m_ent M_40 [.ref a0] w = (0, [(0, .ref a0)], [], w) from by first | rfl | (simp only [m_ent, lv_args_r, lv_args_a, lv_args_i, lv_args_l, lv_args_0]; done) | (simp only [m_ent, lv_args_r, lv_args_a, lv_args_i, lv_args_l, lv_args_0]; rfl)]
  generalize hw0 : w = w0 at h ⊢
  have hF : m_Fm w0 w0 := m_Fm.refl
  rw [D_c_Reader_readName] at h0
  refine m_Rb.n0 b_40 (x_aload_n d_40_0 rfl) ?_
  refine m_Rb.n0 b_40 (x_aload_n d_40_1 rfl) ?_
  obtain ⟨v1, e2, j3⟩ := bS h0
  refine m_Rb.tgetI b_40 d_40_2 rfl h e2 ?_
  obtain ⟨T4, e5, j6⟩ := bS j3
  refine m_Rb.tputI b_40 d_40_5 rfl rfl (by decide) h hF e5 (fun w7 h7 f7 k7 => ?_)
  refine m_Rb.n0 b_40 (x_aload_n d_40_8 rfl) ?_
  obtain ⟨_, e8, j9⟩ := bS j6
  obtain ⟨_, g10⟩ := RT.cls h7 e8
  obtain ⟨T11, e12, j13⟩ := bS j9
  refine m_Rb.callV b_40 (y_cv d_40_9 rfl q_41 (m_isRecv_of rfl g10) (show m_takeI _ _ = some (_, [_], []) from m_takeI_of rfl rfl rfl (Nat.le_of_ble_eq_true rfl)) (by simp only [m_okf, List.all_cons, List.all_nil, Bool.and_true, Bool.and_self, m_okv_i, m_okv_l, m_okv_0, m_okv_n0, m_okv_t, RT.okn h7 (okm ha0 k7), RT.okv h7 (okm ha0 k7)]) rfl) (T_c_Reader_skipLetters (okm ha0 k7) h7 e12) f7 rfl (fun w14 h14 f14 k14 => ?_) (by decide) (by decide)
  refine m_Rb.n0 b_40 (x_aload_n d_40_12 rfl) ?_
  refine m_Rb.n0 b_40 (x_aload_n d_40_13 rfl) ?_
  obtain ⟨v15, e16, j17⟩ := bS j13
  refine m_Rb.tgetI b_40 d_40_14 rfl h14 e16 ?_
  obtain ⟨T18, e19, j20⟩ := bS j17
  refine m_Rb.tputI b_40 d_40_17 rfl rfl (by decide) h14 f14 e19 (fun w21 h21 f21 k21 => ?_)
  refine m_Rb.n0 b_40 (x_aload_n d_40_20 rfl) ?_
  obtain ⟨v22, e23, j24⟩ := bS j20
  refine m_Rb.tgetI b_40 d_40_21 rfl h21 e23 ?_
  refine m_Rb.n0 b_40 (x_aload_n d_40_24 rfl) ?_
  obtain ⟨v25, e26, j27⟩ := bS j24
  refine m_Rb.tgetI b_40 d_40_25 rfl h21 e26 ?_
  cases hc28 : m_c2 .ne v22 v25 with
  | true =>
    have j29 := cT hc28 j27
    refine m_Rb.n0 b_40 (x_ict d_40_28 rfl hc28) ?_
    refine m_Rb.n0 b_40 (x_aload_n d_40_40 rfl) ?_
    obtain ⟨v30, e31, j32⟩ := bS j29
    refine m_Rb.tgetI b_40 d_40_41 rfl h21 e31 ?_
    refine m_Rb.n0 b_40 (x_aload_n d_40_44 rfl) ?_
    obtain ⟨v33, e34, j35⟩ := bS j32
    refine m_Rb.tgetI b_40 d_40_45 rfl h21 e34 ?_
    refine m_Rb.n0 b_40 (x_isub d_40_48 rfl) ?_
    refine m_Rb.n0 b_40 (x_bipush (z := 20) d_40_49 (by decide)) ?_
    cases hc36 : m_c2 .le (v30 - v33) (20 : Int32) with
    | true =>
      have j37 := cT hc36 j35
      refine m_Rb.n0 b_40 (x_ict d_40_51 rfl hc36) ?_
      refine m_Rb.n0 b_40 (x_aload_n d_40_63 rfl) ?_
      obtain ⟨_, e38, j39⟩ := bS j37
      obtain ⟨_, g40⟩ := RT.cls h21 e38
      obtain ⟨v41, e42, j43⟩ := bS j39
      refine m_Rb.callI b_40 (y_cv d_40_64 rfl q_22 (m_isRecv_of rfl g40) (show m_takeI _ _ = some (_, [_], []) from m_takeI_of rfl rfl rfl (Nat.le_of_ble_eq_true rfl)) (by simp only [m_okf, List.all_cons, List.all_nil, Bool.and_true, Bool.and_self, m_okv_i, m_okv_l, m_okv_0, m_okv_n0, m_okv_t, RT.okn h21 (okm (okm (okm ha0 k7) k14) k21), RT.okv h21 (okm (okm (okm ha0 k7) k14) k21)]) rfl) (T_c_Reader_here (okm (okm (okm ha0 k7) k14) k21) h21 e42) f21 rfl (fun w44 h44 f44 k44 => ?_) (by decide) (by decide)
      refine m_Rb.n0 b_40 (x_bipush (z := 58) d_40_67 (by decide)) ?_
      cases hc45 : m_c2 .eq v41 (58 : Int32) with
      | true =>
        have j46 := cT hc45 j43
        refine m_Rb.n0 b_40 (x_ict d_40_69 rfl hc45) ?_
        refine m_Rb.n0 b_40 (x_aload_n d_40_81 rfl) ?_
        obtain ⟨_, e47, j48⟩ := bS j46
        obtain ⟨_, g49⟩ := RT.cls h44 e47
        obtain ⟨v50, e51, j52⟩ := bS j48
        refine m_Rb.callI b_40 (y_cv d_40_82 rfl q_42 (m_isRecv_of rfl g49) (show m_takeI _ _ = some (_, [_], []) from m_takeI_of rfl rfl rfl (Nat.le_of_ble_eq_true rfl)) (by simp only [m_okf, List.all_cons, List.all_nil, Bool.and_true, Bool.and_self, m_okv_i, m_okv_l, m_okv_0, m_okv_n0, m_okv_t, RT.okn h44 (okm (okm (okm ha0 k7) k14) k21), RT.okv h44 (okm (okm (okm ha0 k7) k14) k21)]) rfl) (T_c_Reader_wasThere (okm (okm (okm ha0 k7) k14) k21) h44 e51) f44 rfl (fun w53 h53 f53 k53 => ?_) (by decide) (by decide)
        cases hc54 : m_c1 .ne v50 with
        | true =>
          have j55 := cT hc54 j52
          refine m_Rb.n0 b_40 (x_ift d_40_85 rfl hc54) ?_
          exact m_Rb.pick [0] rfl (T_c_Reader_readName_100 (okm (okm (okm ha0 k7) k14) k21) h53 f53 j55)
        | false =>
          have j55 := cF hc54 j52
          refine m_Rb.n0 b_40 (x_iff d_40_85 rfl hc54) ?_
          refine m_Rb.n0 b_40 (x_aload_n d_40_88 rfl) ?_
          obtain ⟨v56, e57, j58⟩ := bS j55
          refine m_Rb.tgetI b_40 d_40_89 rfl h53 e57 ?_
          refine m_Rb.n0 b_40 (x_aload_n d_40_92 rfl) ?_
          obtain ⟨v59, e60, j61⟩ := bS j58
          refine m_Rb.tgetR b_40 d_40_93 rfl h53 e60 (fun o62 => ?_)
          obtain ⟨a63, e64, j65⟩ := bS j61
          subst e64
          obtain ⟨v66, e67, j68⟩ := bS j65
          refine m_Rb.talen b_40 d_40_96 h53 e67 ?_
          cases hc69 : m_c2 .lt v56 v66 with
          | true =>
            have j70 := cT hc69 j68
            refine m_Rb.n0 b_40 (x_ict d_40_97 rfl hc69) ?_
            refine m_Rb.n0 b_40 (x_aload_n d_40_109 rfl) ?_
            obtain ⟨v71, e72, j73⟩ := bS j70
            refine m_Rb.tgetR b_40 d_40_110 rfl h53 e72 (fun o74 => ?_)
            refine m_Rb.n0 b_40 (x_aload_n d_40_113 rfl) ?_
            obtain ⟨v75, e76, j77⟩ := bS j73
            refine m_Rb.tgetI b_40 d_40_114 rfl h53 e76 ?_
            refine m_Rb.n0 b_40 (x_aload_n d_40_117 rfl) ?_
            obtain ⟨v78, e79, j80⟩ := bS j77
            refine m_Rb.tgetI b_40 d_40_118 rfl h53 e79 ?_
            obtain ⟨a81, e82, j83⟩ := bS j80
            subst e82
            obtain ⟨T84, e85, j86⟩ := bS j83
            refine m_Rb.tputAI b_40 d_40_121 h53 f53 e85 (fun w87 h87 f87 k87 => ?_)
            refine m_Rb.n0 b_40 (x_aload_n d_40_122 rfl) ?_
            refine m_Rb.n0 b_40 (x_dup d_40_123 rfl) ?_
            obtain ⟨v88, e89, j90⟩ := bS j86
            refine m_Rb.tgetI b_40 d_40_124 rfl h87 e89 ?_
            refine m_Rb.n0 b_40 (x_iconst (z := 1) d_40_127 (by decide)) ?_
            refine m_Rb.n0 b_40 (x_iadd d_40_128 rfl) ?_
            obtain ⟨T91, e92, j93⟩ := bS j90
            refine m_Rb.tputI b_40 d_40_129 rfl rfl (by decide) h87 f87 e92 (fun w94 h94 f94 k94 => ?_)
            refine m_Rb.n0 b_40 (x_aload_n d_40_132 rfl) ?_
            refine m_Rb.n0 b_40 (x_dup d_40_133 rfl) ?_
            obtain ⟨v95, e96, j97⟩ := bS j93
            refine m_Rb.tgetI b_40 d_40_134 rfl h94 e96 ?_
            refine m_Rb.n0 b_40 (x_iconst (z := 1) d_40_137 (by decide)) ?_
            refine m_Rb.n0 b_40 (x_iadd d_40_138 rfl) ?_
            obtain ⟨T98, e99, j100⟩ := bS j97
            refine m_Rb.tputI b_40 d_40_139 rfl rfl (by decide) h94 f94 e99 (fun w101 h101 f101 k101 => ?_)
            refine m_Rb.n0 b_40 (x_aload_n d_40_142 rfl) ?_
            obtain ⟨_, e102, j103⟩ := bS j100
            obtain ⟨_, g104⟩ := RT.cls h101 e102
            obtain ⟨v105, e106, j107⟩ := bS j103
            refine m_Rb.callI b_40 (y_cv d_40_143 rfl q_22 (m_isRecv_of rfl g104) (show m_takeI _ _ = some (_, [_], []) from m_takeI_of rfl rfl rfl (Nat.le_of_ble_eq_true rfl)) (by simp only [m_okf, List.all_cons, List.all_nil, Bool.and_true, Bool.and_self, m_okv_i, m_okv_l, m_okv_0, m_okv_n0, m_okv_t, RT.okn h101 (okm (okm (okm (okm (okm (okm ha0 k7) k14) k21) k87) k94) k101), RT.okv h101 (okm (okm (okm (okm (okm (okm ha0 k7) k14) k21) k87) k94) k101)]) rfl) (T_c_Reader_here (okm (okm (okm (okm (okm (okm ha0 k7) k14) k21) k87) k94) k101) h101 e106) f101 rfl (fun w108 h108 f108 k108 => ?_) (by decide) (by decide)
            refine m_Rb.n0 b_40 (x_bipush (z := 32) d_40_146 (by decide)) ?_
            cases hc113 : m_c2 .ne v105 (32 : Int32) with
            | true =>
              have j114 := cT hc113 j107
              refine m_Rb.n0 b_40 (x_ict d_40_148 rfl hc113) ?_
              refine m_Rb.n0 b_40 (x_iconst (z := 1) d_40_161 (by decide)) ?_
              cases j114
              exact m_Rb.ret b_40 (m_rt_ir d_40_162 rfl m_nb1) ⟨rfl, h108, f108⟩
            | false =>
              have j114 := cF hc113 j107
              refine m_Rb.n0 b_40 (x_icf d_40_148 rfl hc113) ?_
              refine m_Rb.n0 b_40 (x_aload_n d_40_151 rfl) ?_
              refine m_Rb.n0 b_40 (x_dup d_40_152 rfl) ?_
              obtain ⟨v115, e116, j117⟩ := bS j114
              refine m_Rb.tgetI b_40 d_40_153 rfl h108 e116 ?_
              refine m_Rb.n0 b_40 (x_iconst (z := 1) d_40_156 (by decide)) ?_
              refine m_Rb.n0 b_40 (x_iadd d_40_157 rfl) ?_
              obtain ⟨T118, e119, j120⟩ := bS j117
              refine m_Rb.tputI b_40 d_40_158 rfl rfl (by decide) h108 f108 e119 (fun w121 h121 f121 k121 => ?_)
              refine m_Rb.n0 b_40 (x_iconst (z := 1) d_40_161 (by decide)) ?_
              cases j120
              exact m_Rb.ret b_40 (m_rt_ir d_40_162 rfl m_nb1) ⟨rfl, h121, f121⟩
          | false =>
            have j70 := cF hc69 j68
            refine m_Rb.n0 b_40 (x_icf d_40_97 rfl hc69) ?_
            exact m_Rb.pick [0] rfl (T_c_Reader_readName_100 (okm (okm (okm ha0 k7) k14) k21) h53 f53 j70)
      | false =>
        have j46 := cF hc45 j43
        refine m_Rb.n0 b_40 (x_icf d_40_69 rfl hc45) ?_
        refine m_Rb.n0 b_40 (x_aload_n d_40_72 rfl) ?_
        refine m_Rb.n0 b_40 (x_aload_n d_40_73 rfl) ?_
        obtain ⟨v122, e123, j124⟩ := bS j46
        refine m_Rb.tgetI b_40 d_40_74 rfl h44 e123 ?_
        obtain ⟨_, e125, j126⟩ := bS j124
        obtain ⟨_, g127⟩ := RT.cls h44 e125
        obtain ⟨v128, T129, e130, j131⟩ := bS2 j126
        refine m_Rb.callI b_40 (y_cv d_40_77 rfl q_36 (m_isRecv_of rfl g127) (show m_takeI _ _ = some (_, [_, _], []) from m_takeI_of rfl rfl rfl (Nat.le_of_ble_eq_true rfl)) (by simp only [m_okf, List.all_cons, List.all_nil, Bool.and_true, Bool.and_self, m_okv_i, m_okv_l, m_okv_0, m_okv_n0, m_okv_t, RT.okn h44 (okm (okm (okm ha0 k7) k14) k21), RT.okv h44 (okm (okm (okm ha0 k7) k14) k21)]) rfl) (T_c_Reader_no (okm (okm (okm ha0 k7) k14) k21) h44 e130) f44 rfl (fun w132 h132 f132 k132 => ?_) (by decide) (by decide)
        obtain ⟨v133, e134, j135⟩ := bS j131
        cases j135
        exact m_Rb.retb b_40 d_40_80 rfl e134 ⟨rfl, h132, f132⟩
    | false =>
      have j37 := cF hc36 j35
      refine m_Rb.n0 b_40 (x_icf d_40_51 rfl hc36) ?_
      refine m_Rb.n0 b_40 (x_aload_n d_40_54 rfl) ?_
      refine m_Rb.n0 b_40 (x_aload_n d_40_55 rfl) ?_
      obtain ⟨v136, e137, j138⟩ := bS j37
      refine m_Rb.tgetI b_40 d_40_56 rfl h21 e137 ?_
      obtain ⟨_, e139, j140⟩ := bS j138
      obtain ⟨_, g141⟩ := RT.cls h21 e139
      obtain ⟨v142, T143, e144, j145⟩ := bS2 j140
      refine m_Rb.callI b_40 (y_cv d_40_59 rfl q_36 (m_isRecv_of rfl g141) (show m_takeI _ _ = some (_, [_, _], []) from m_takeI_of rfl rfl rfl (Nat.le_of_ble_eq_true rfl)) (by simp only [m_okf, List.all_cons, List.all_nil, Bool.and_true, Bool.and_self, m_okv_i, m_okv_l, m_okv_0, m_okv_n0, m_okv_t, RT.okn h21 (okm (okm (okm ha0 k7) k14) k21), RT.okv h21 (okm (okm (okm ha0 k7) k14) k21)]) rfl) (T_c_Reader_no (okm (okm (okm ha0 k7) k14) k21) h21 e144) f21 rfl (fun w146 h146 f146 k146 => ?_) (by decide) (by decide)
      obtain ⟨v147, e148, j149⟩ := bS j145
      cases j149
      exact m_Rb.retb b_40 d_40_62 rfl e148 ⟨rfl, h146, f146⟩
  | false =>
    have j29 := cF hc28 j27
    refine m_Rb.n0 b_40 (x_icf d_40_28 rfl hc28) ?_
    refine m_Rb.n0 b_40 (x_aload_n d_40_31 rfl) ?_
    refine m_Rb.n0 b_40 (x_aload_n d_40_32 rfl) ?_
    obtain ⟨v150, e151, j152⟩ := bS j29
    refine m_Rb.tgetI b_40 d_40_33 rfl h21 e151 ?_
    obtain ⟨_, e153, j154⟩ := bS j152
    obtain ⟨_, g155⟩ := RT.cls h21 e153
    obtain ⟨v156, T157, e158, j159⟩ := bS2 j154
    refine m_Rb.callI b_40 (y_cv d_40_36 rfl q_36 (m_isRecv_of rfl g155) (show m_takeI _ _ = some (_, [_, _], []) from m_takeI_of rfl rfl rfl (Nat.le_of_ble_eq_true rfl)) (by simp only [m_okf, List.all_cons, List.all_nil, Bool.and_true, Bool.and_self, m_okv_i, m_okv_l, m_okv_0, m_okv_n0, m_okv_t, RT.okn h21 (okm (okm (okm ha0 k7) k14) k21), RT.okv h21 (okm (okm (okm ha0 k7) k14) k21)]) rfl) (T_c_Reader_no (okm (okm (okm ha0 k7) k14) k21) h21 e158) f21 rfl (fun w160 h160 f160 k160 => ?_) (by decide) (by decide)
    obtain ⟨v161, e162, j163⟩ := bS j159
    cases j163
    exact m_Rb.retb b_40 d_40_39 rfl e162 ⟨rfl, h160, f160⟩
def D_c_Reader_isWord_39 (F : Nat) : Nat → Nat → Nat → Int32 → tT → Option (Int32)
  | 0, _, _, _, _ => none
  | n + 1, x0, x1, x2, T0 => (xlen x1).bind fun v32 => cond (m_c2 .ge x2 v32) (some (1 : Int32)) ((tgr T0 x0 1 0).bind fun v37 => (tgi T0 x0 1 6).bind fun v41 => (v37).bind fun a44 => (tai T0 a44 2 (v41 + x2)).bind fun v47 => (xchr x1 x2).bind fun v50 => cond (m_c2 .eq v47 v50) (D_c_Reader_isWord_39 F n x0 x1 (x2 + Int32.ofInt 1) T0) (some (0 : Int32)))
theorem T_c_Reader_isWord_39 {l : Launch} {w0 : List mM} {F : Nat} {T0 : tT} : ∀ (n : Nat) {x0 : Nat} {x1 : Nat} {x2 : Int32} {w : List mM} {yz : Int32}, okr T0.2.1 (some x0) → x1 < 512 → RT T0 w → m_Fm w0 w → D_c_Reader_isWord_39 F n x0 x1 x2 T0 = some yz → m_Rb l M_45 (39, [(0, .ref x0), (1, .ref x1), (2, .int x2)], [], w) (fun v w' => v = some (.int yz) ∧ RT T0 w' ∧ m_Fm w0 w') T0 T0 4 400 := by
  intro n
  induction n with
  | zero => intro x0 x1 x2 w yz hx0 hx1 h hF h0; cases h0
  | succ n ih =>
    intro x0 x1 x2 w yz hx0 hx1 h hF h0
    rw [D_c_Reader_isWord_39] at h0
    refine m_Rb.n0 b_45 (x_iload_n d_45_39 rfl) ?_
    refine m_Rb.n0 b_45 (x_aload_n d_45_40 rfl) ?_
    obtain ⟨v32, e33, j34⟩ := bS h0
    refine m_Rb.lift (fun c s k9 => m_Rs.cxlen b_45 d_45_41 rfl (by simp only [m_okf, List.all_cons, List.all_nil, Bool.and_true, Bool.and_self, m_okv_i, m_okv_l, m_okv_0, m_okv_n0, m_okv_t, RT.okn h hx0, RT.okv h hx0, m_okv_out (a := x1) hx1]) e33 k9 (catL (Nat.le_of_ble_eq_true rfl)) (by decide) (by decide)) ?_
    cases hc35 : m_c2 .ge x2 v32 with
    | true =>
      have j36 := cT hc35 j34
      refine m_Rb.n0 b_45 (x_ict d_45_44 rfl hc35) ?_
      refine m_Rb.n0 b_45 (x_iconst (z := 1) d_45_74 (by decide)) ?_
      cases j36
      exact m_Rb.ret b_45 (m_rt_ir d_45_75 rfl m_nb1) ⟨rfl, h, hF⟩
    | false =>
      have j36 := cF hc35 j34
      refine m_Rb.n0 b_45 (x_icf d_45_44 rfl hc35) ?_
      refine m_Rb.n0 b_45 (x_aload_n d_45_47 rfl) ?_
      obtain ⟨v37, e38, j39⟩ := bS j36
      refine m_Rb.tgetR b_45 d_45_48 rfl h e38 (fun o40 => ?_)
      refine m_Rb.n0 b_45 (x_aload_n d_45_51 rfl) ?_
      obtain ⟨v41, e42, j43⟩ := bS j39
      refine m_Rb.tgetI b_45 d_45_52 rfl h e42 ?_
      refine m_Rb.n0 b_45 (x_iload_n d_45_55 rfl) ?_
      refine m_Rb.n0 b_45 (x_iadd d_45_56 rfl) ?_
      obtain ⟨a44, e45, j46⟩ := bS j43
      subst e45
      obtain ⟨v47, e48, j49⟩ := bS j46
      refine m_Rb.tgetC b_45 d_45_57 h e48 ?_
      refine m_Rb.n0 b_45 (x_aload_n d_45_58 rfl) ?_
      refine m_Rb.n0 b_45 (x_iload_n d_45_59 rfl) ?_
      obtain ⟨v50, e51, j52⟩ := bS j49
      refine m_Rb.lift (fun c s k9 => m_Rs.cxchr b_45 d_45_60 rfl (by simp only [m_okf, List.all_cons, List.all_nil, Bool.and_true, Bool.and_self, m_okv_i, m_okv_l, m_okv_0, m_okv_n0, m_okv_t, RT.okn h hx0, RT.okv h hx0, m_okv_out (a := x1) hx1]) e51 k9 (catL (Nat.le_of_ble_eq_true rfl)) (by decide) (by decide)) ?_
      cases hc53 : m_c2 .eq v47 v50 with
      | true =>
        have j54 := cT hc53 j52
        refine m_Rb.n0 b_45 (x_ict d_45_63 rfl hc53) ?_
        refine m_Rb.n0 b_45 (x_iinc d_45_68 rfl rfl rfl (show m_put1 _ _ _ = [(2, _), (0, _), (1, _)] from rfl)) ?_
        refine m_Rb.n0 b_45 (x_goto d_45_71 rfl) ?_
        exact m_Rb.pick [1, 2, 0] rfl (ih hx0 hx1 h hF j54)
      | false =>
        have j54 := cF hc53 j52
        refine m_Rb.n0 b_45 (x_icf d_45_63 rfl hc53) ?_
        refine m_Rb.n0 b_45 (x_iconst (z := 0) d_45_66 (by decide)) ?_
        cases j54
        exact m_Rb.ret b_45 (m_rt_ir d_45_67 rfl m_nb0) ⟨rfl, h, hF⟩
def D_c_Reader_isWord (F : Nat) (a0 : Nat) (p0 : Nat) (T0 : tT) : Option (Int32) := (tgi T0 a0 1 7).bind fun v1 => (tgi T0 a0 1 6).bind fun v4 => (xlen p0).bind fun v7 => cond (m_c2 .ne (v1 - v4) v7) (some (0 : Int32)) ((tgi T0 a0 1 6).bind fun v12 => cond (m_c1 .lt v12) (some (0 : Int32)) ((tgi T0 a0 1 7).bind fun v17 => (tgr T0 a0 1 0).bind fun v20 => (v20).bind fun a24 => (tal T0 a24).bind fun v27 => cond (m_c2 .le v17 v27) (D_c_Reader_isWord_39 F F a0 p0 (0 : Int32) T0) (some (0 : Int32))))
theorem T_c_Reader_isWord {l : Launch} {w : List mM} {F : Nat} {a0 : Nat} {p0 : Nat} {T0 : tT} {yz : Int32} (ha0 : okr T0.2.1 (some a0)) (hp0 : p0 < 512) (h : RT T0 w) (h0 : D_c_Reader_isWord F a0 p0 T0 = some yz) : m_Rb l M_45 (m_ent M_45 [.ref a0, .ref p0] w) (fun v w' => v = some (.int yz) ∧ RT T0 w' ∧ m_Fm w w') T0 T0 4 400 := by
  rw [show m_ent M_45 [.ref a0, .ref p0] w = (0, [(0, .ref a0), (1, .ref p0)], [], w) from by first | rfl | (simp only [m_ent, lv_args_r, lv_args_a, lv_args_i, lv_args_l, lv_args_0]; done) | (simp only [m_ent, lv_args_r, lv_args_a, lv_args_i, lv_args_l, lv_args_0]; rfl)]
  generalize hw0 : w = w0 at h ⊢
  have hF : m_Fm w0 w0 := m_Fm.refl
  rw [D_c_Reader_isWord] at h0
  refine m_Rb.n0 b_45 (x_aload_n d_45_0 rfl) ?_
  obtain ⟨v1, e2, j3⟩ := bS h0
  refine m_Rb.tgetI b_45 d_45_1 rfl h e2 ?_
  refine m_Rb.n0 b_45 (x_aload_n d_45_4 rfl) ?_
  obtain ⟨v4, e5, j6⟩ := bS j3
  refine m_Rb.tgetI b_45 d_45_5 rfl h e5 ?_
  refine m_Rb.n0 b_45 (x_isub d_45_8 rfl) ?_
  refine m_Rb.n0 b_45 (x_aload_n d_45_9 rfl) ?_
  obtain ⟨v7, e8, j9⟩ := bS j6
  refine m_Rb.lift (fun c s k9 => m_Rs.cxlen b_45 d_45_10 rfl (by simp only [m_okf, List.all_cons, List.all_nil, Bool.and_true, Bool.and_self, m_okv_i, m_okv_l, m_okv_0, m_okv_n0, m_okv_t, RT.okn h ha0, RT.okv h ha0, m_okv_out (a := p0) hp0]) e8 k9 (catL (Nat.le_of_ble_eq_true rfl)) (by decide) (by decide)) ?_
  cases hc10 : m_c2 .ne (v1 - v4) v7 with
  | true =>
    have j11 := cT hc10 j9
    refine m_Rb.n0 b_45 (x_ict d_45_13 rfl hc10) ?_
    refine m_Rb.n0 b_45 (x_iconst (z := 0) d_45_35 (by decide)) ?_
    cases j11
    exact m_Rb.ret b_45 (m_rt_ir d_45_36 rfl m_nb0) ⟨rfl, h, hF⟩
  | false =>
    have j11 := cF hc10 j9
    refine m_Rb.n0 b_45 (x_icf d_45_13 rfl hc10) ?_
    refine m_Rb.n0 b_45 (x_aload_n d_45_16 rfl) ?_
    obtain ⟨v12, e13, j14⟩ := bS j11
    refine m_Rb.tgetI b_45 d_45_17 rfl h e13 ?_
    cases hc15 : m_c1 .lt v12 with
    | true =>
      have j16 := cT hc15 j14
      refine m_Rb.n0 b_45 (x_ift d_45_20 rfl hc15) ?_
      refine m_Rb.n0 b_45 (x_iconst (z := 0) d_45_35 (by decide)) ?_
      cases j16
      exact m_Rb.ret b_45 (m_rt_ir d_45_36 rfl m_nb0) ⟨rfl, h, hF⟩
    | false =>
      have j16 := cF hc15 j14
      refine m_Rb.n0 b_45 (x_iff d_45_20 rfl hc15) ?_
      refine m_Rb.n0 b_45 (x_aload_n d_45_23 rfl) ?_
      obtain ⟨v17, e18, j19⟩ := bS j16
      refine m_Rb.tgetI b_45 d_45_24 rfl h e18 ?_
      refine m_Rb.n0 b_45 (x_aload_n d_45_27 rfl) ?_
      obtain ⟨v20, e21, j22⟩ := bS j19
      refine m_Rb.tgetR b_45 d_45_28 rfl h e21 (fun o23 => ?_)
      obtain ⟨a24, e25, j26⟩ := bS j22
      subst e25
      obtain ⟨v27, e28, j29⟩ := bS j26
      refine m_Rb.talen b_45 d_45_31 h e28 ?_
      cases hc30 : m_c2 .le v17 v27 with
      | true =>
        have j31 := cT hc30 j29
        refine m_Rb.n0 b_45 (x_ict d_45_32 rfl hc30) ?_
        refine m_Rb.n0 b_45 (x_iconst (z := 0) d_45_37 (by decide)) ?_
        refine m_Rb.n0 b_45 (x_istore_n d_45_38 rfl (show m_put1 _ _ _ = [(2, _), (0, _), (1, _)] from rfl)) ?_
        exact m_Rb.pick [1, 2, 0] rfl (T_c_Reader_isWord_39 F ha0 hp0 h hF j31)
      | false =>
        have j31 := cF hc30 j29
        refine m_Rb.n0 b_45 (x_icf d_45_32 rfl hc30) ?_
        refine m_Rb.n0 b_45 (x_iconst (z := 0) d_45_35 (by decide)) ?_
        cases j31
        exact m_Rb.ret b_45 (m_rt_ir d_45_36 rfl m_nb0) ⟨rfl, h, hF⟩
def D_c_Reader_readRange_114 (F : Nat) (x0 : Nat) (x1 : Int32) (x2 : Int32) (T : tT) : Option (Int32 × tT) := cond (m_c2 .gt x1 x2) (some ((1 : Int32), T)) ((tgr T x0 1 14).bind fun v118 => (v118).bind fun a122 => (tpi T a122 7 1 (1 : Int32)).bind fun T125 => (tgr T125 x0 1 14).bind fun v129 => (v129).bind fun a133 => (tpi T125 a133 7 2 x1).bind fun T136 => (tgr T136 x0 1 14).bind fun v140 => (v140).bind fun a144 => (tpi T136 a144 7 3 x2).bind fun T147 => some ((1 : Int32), T147))
theorem T_c_Reader_readRange_114 {l : Launch} {w0 : List mM} {F : Nat} {x0 : Nat} {x1 : Int32} {x2 : Int32} {T : tT} {w : List mM} {yz : Int32} {Tz : tT} (hx0 : okr T.2.1 (some x0)) (h : RT T w) (hF : m_Fm w0 w) (h0 : D_c_Reader_readRange_114 F x0 x1 x2 T = some (yz, Tz)) : m_Rb l M_46 (114, [(0, .ref x0), (1, .int x1), (2, .int x2)], [], w) (fun v w' => v = some (.int yz) ∧ RT Tz w' ∧ m_Fm w0 w') T Tz 5 500 := by
  rw [D_c_Reader_readRange_114] at h0
  refine m_Rb.n0 b_46 (x_iload_n d_46_114 rfl) ?_
  refine m_Rb.n0 b_46 (x_iload_n d_46_115 rfl) ?_
  cases hc116 : m_c2 .gt x1 x2 with
  | true =>
    have j117 := cT hc116 h0
    refine m_Rb.n0 b_46 (x_ict d_46_116 rfl hc116) ?_
    refine m_Rb.n0 b_46 (x_iconst (z := 1) d_46_143 (by decide)) ?_
    cases j117
    exact m_Rb.ret b_46 (m_rt_ir d_46_144 rfl m_nb1) ⟨rfl, h, hF⟩
  | false =>
    have j117 := cF hc116 h0
    refine m_Rb.n0 b_46 (x_icf d_46_116 rfl hc116) ?_
    refine m_Rb.n0 b_46 (x_aload_n d_46_119 rfl) ?_
    obtain ⟨v118, e119, j120⟩ := bS j117
    refine m_Rb.tgetR b_46 d_46_120 rfl h e119 (fun o121 => ?_)
    refine m_Rb.n0 b_46 (x_iconst (z := 1) d_46_123 (by decide)) ?_
    obtain ⟨a122, e123, j124⟩ := bS j120
    subst e123
    obtain ⟨T125, e126, j127⟩ := bS j124
    refine m_Rb.tputI b_46 d_46_124 rfl rfl (by decide) h hF e126 (fun w128 h128 f128 k128 => ?_)
    refine m_Rb.n0 b_46 (x_aload_n d_46_127 rfl) ?_
    obtain ⟨v129, e130, j131⟩ := bS j127
    refine m_Rb.tgetR b_46 d_46_128 rfl h128 e130 (fun o132 => ?_)
    refine m_Rb.n0 b_46 (x_iload_n d_46_131 rfl) ?_
    obtain ⟨a133, e134, j135⟩ := bS j131
    subst e134
    obtain ⟨T136, e137, j138⟩ := bS j135
    refine m_Rb.tputI b_46 d_46_132 rfl rfl (by decide) h128 f128 e137 (fun w139 h139 f139 k139 => ?_)
    refine m_Rb.n0 b_46 (x_aload_n d_46_135 rfl) ?_
    obtain ⟨v140, e141, j142⟩ := bS j138
    refine m_Rb.tgetR b_46 d_46_136 rfl h139 e141 (fun o143 => ?_)
    refine m_Rb.n0 b_46 (x_iload_n d_46_139 rfl) ?_
    obtain ⟨a144, e145, j146⟩ := bS j142
    subst e145
    obtain ⟨T147, e148, j149⟩ := bS j146
    refine m_Rb.tputI b_46 d_46_140 rfl rfl (by decide) h139 f139 e148 (fun w150 h150 f150 k150 => ?_)
    refine m_Rb.n0 b_46 (x_iconst (z := 1) d_46_143 (by decide)) ?_
    cases j149
    exact m_Rb.ret b_46 (m_rt_ir d_46_144 rfl m_nb1) ⟨rfl, h150, f150⟩
def D_c_Reader_readRange (F : Nat) (a0 : Nat) (T : tT) : Option (Int32 × tT) := (tcl T a0 1).bind fun _ => bd2 (D_c_Reader_expectText F a0 17 T) fun v4 T5 => cond (m_c1 .ne v4) ((tcl T5 a0 1).bind fun _ => (D_c_Reader_here F a0 T5).bind fun v14 => cond (m_c2 .ne v14 (45 : Int32)) ((tcl T5 a0 1).bind fun _ => bd2 (D_c_Reader_readNumber F a0 (99999 : Int32) T5) fun v23 T24 => cond (m_c1 .ne v23) ((tgi T24 a0 1 9).bind fun v30 => (tcl T24 a0 1).bind fun _ => bd2 (D_c_Reader_expect F a0 (45 : Int32) T24) fun v36 T37 => cond (m_c1 .ne v36) ((tcl T37 a0 1).bind fun _ => (D_c_Reader_here F a0 T37).bind fun v46 => (D_c_Reader_isDigit F v46 T37).bind fun v50 => cond (m_c1 .eq v50) (D_c_Reader_readRange_114 F a0 v30 (99999 : Int32) T37) ((tcl T37 a0 1).bind fun _ => bd2 (D_c_Reader_readNumber F a0 (99999 : Int32) T37) fun v59 T60 => cond (m_c1 .ne v59) ((tgi T60 a0 1 9).bind fun v66 => D_c_Reader_readRange_114 F a0 v30 v66 T60) (some ((0 : Int32), T60)))) (some ((0 : Int32), T37))) (some ((0 : Int32), T24))) ((tgi T5 a0 1 2).bind fun v69 => (tpi T5 a0 1 2 (v69 + (1 : Int32))).bind fun T72 => (tgr T72 a0 1 14).bind fun v76 => (v76).bind fun a80 => (tpi T72 a80 7 1 (2 : Int32)).bind fun T83 => (tcl T83 a0 1).bind fun _ => bd2 (D_c_Reader_readNumber F a0 (99999 : Int32) T83) fun v90 T91 => (tgr T91 a0 1 14).bind fun v95 => (tgi T91 a0 1 9).bind fun v99 => (v95).bind fun a102 => (tpi T91 a102 7 2 v99).bind fun T105 => (bret v90).bind fun v109 => some (v109, T105))) (some ((0 : Int32), T5))
theorem T_c_Reader_readRange {l : Launch} {w : List mM} {F : Nat} {a0 : Nat} {T : tT} {yz : Int32} {Tz : tT} (ha0 : okr T.2.1 (some a0)) (h : RT T w) (h0 : D_c_Reader_readRange F a0 T = some (yz, Tz)) : m_Rb l M_46 (m_ent M_46 [.ref a0] w) (fun v w' => v = some (.int yz) ∧ RT Tz w' ∧ m_Fm w w') T Tz 5 500 := by
  rw [show m_ent M_46 [.ref a0] w = (0, [(0, .ref a0)], [], w) from by first | rfl | (simp only [m_ent, lv_args_r, lv_args_a, lv_args_i, lv_args_l, lv_args_0]; done) | (simp only [m_ent, lv_args_r, lv_args_a, lv_args_i, lv_args_l, lv_args_0]; rfl)]
  generalize hw0 : w = w0 at h ⊢
  have hF : m_Fm w0 w0 := m_Fm.refl
  rw [D_c_Reader_readRange] at h0
  refine m_Rb.n0 b_46 (x_aload_n d_46_0 rfl) ?_
  refine m_Rb.n0 b_46 (x_text d_46_1 rfl rfl) ?_
  obtain ⟨_, e1, j2⟩ := bS h0
  obtain ⟨_, g3⟩ := RT.cls h e1
  obtain ⟨v4, T5, e6, j7⟩ := bS2 j2
  refine m_Rb.callI b_46 (y_cv d_46_3 rfl q_23 (m_isRecv_of rfl g3) (show m_takeI _ _ = some (_, [_, _], []) from m_takeI_of rfl rfl rfl (Nat.le_of_ble_eq_true rfl)) (by simp only [m_okf, List.all_cons, List.all_nil, Bool.and_true, Bool.and_self, m_okv_i, m_okv_l, m_okv_0, m_okv_n0, m_okv_t, RT.okn h ha0, RT.okv h ha0, m_okv_out (a := 17) (by decide)]) rfl) (T_c_Reader_expectText ha0 (by decide) h e6) hF rfl (fun w8 h8 f8 k8 => ?_) (by decide) (by decide)
  cases hc9 : m_c1 .ne v4 with
  | true =>
    have j10 := cT hc9 j7
    refine m_Rb.n0 b_46 (x_ift d_46_6 rfl hc9) ?_
    refine m_Rb.n0 b_46 (x_aload_n d_46_11 rfl) ?_
    obtain ⟨_, e11, j12⟩ := bS j10
    obtain ⟨_, g13⟩ := RT.cls h8 e11
    obtain ⟨v14, e15, j16⟩ := bS j12
    refine m_Rb.callI b_46 (y_cv d_46_12 rfl q_22 (m_isRecv_of rfl g13) (show m_takeI _ _ = some (_, [_], []) from m_takeI_of rfl rfl rfl (Nat.le_of_ble_eq_true rfl)) (by simp only [m_okf, List.all_cons, List.all_nil, Bool.and_true, Bool.and_self, m_okv_i, m_okv_l, m_okv_0, m_okv_n0, m_okv_t, RT.okn h8 (okm ha0 k8), RT.okv h8 (okm ha0 k8)]) rfl) (T_c_Reader_here (okm ha0 k8) h8 e15) f8 rfl (fun w17 h17 f17 k17 => ?_) (by decide) (by decide)
    refine m_Rb.n0 b_46 (x_bipush (z := 45) d_46_15 (by decide)) ?_
    cases hc18 : m_c2 .ne v14 (45 : Int32) with
    | true =>
      have j19 := cT hc18 j16
      refine m_Rb.n0 b_46 (x_ict d_46_17 rfl hc18) ?_
      refine m_Rb.n0 b_46 (x_aload_n d_46_58 rfl) ?_
      refine m_Rb.n0 b_46 (x_ldc (v := .int 99999) d_46_59 rfl) ?_
      obtain ⟨_, e20, j21⟩ := bS j19
      obtain ⟨_, g22⟩ := RT.cls h17 e20
      obtain ⟨v23, T24, e25, j26⟩ := bS2 j21
      refine m_Rb.callI b_46 (y_cv d_46_61 rfl q_38 (m_isRecv_of rfl g22) (show m_takeI _ _ = some (_, [_, _], []) from m_takeI_of rfl rfl rfl (Nat.le_of_ble_eq_true rfl)) (by simp only [m_okf, List.all_cons, List.all_nil, Bool.and_true, Bool.and_self, m_okv_i, m_okv_l, m_okv_0, m_okv_n0, m_okv_t, RT.okn h17 (okm ha0 k8), RT.okv h17 (okm ha0 k8)]) rfl) (T_c_Reader_readNumber (okm ha0 k8) h17 e25) f17 rfl (fun w27 h27 f27 k27 => ?_) (by decide) (by decide)
      cases hc28 : m_c1 .ne v23 with
      | true =>
        have j29 := cT hc28 j26
        refine m_Rb.n0 b_46 (x_ift d_46_64 rfl hc28) ?_
        refine m_Rb.n0 b_46 (x_aload_n d_46_69 rfl) ?_
        obtain ⟨v30, e31, j32⟩ := bS j29
        refine m_Rb.tgetI b_46 d_46_70 rfl h27 e31 ?_
        refine m_Rb.n0 b_46 (x_istore_n d_46_73 rfl (show m_put1 _ _ _ = [(1, _), (0, _)] from rfl)) ?_
        refine m_Rb.n0 b_46 (x_ldc (v := .int 99999) d_46_74 rfl) ?_
        refine m_Rb.n0 b_46 (x_istore_n d_46_76 rfl (show m_put1 _ _ _ = [(2, _), (1, _), (0, _)] from rfl)) ?_
        refine m_Rb.n0 b_46 (x_aload_n d_46_77 rfl) ?_
        refine m_Rb.n0 b_46 (x_bipush (z := 45) d_46_78 (by decide)) ?_
        obtain ⟨_, e33, j34⟩ := bS j32
        obtain ⟨_, g35⟩ := RT.cls h27 e33
        obtain ⟨v36, T37, e38, j39⟩ := bS2 j34
        refine m_Rb.callI b_46 (y_cv d_46_80 rfl q_35 (m_isRecv_of rfl g35) (show m_takeI _ _ = some (_, [_, _], []) from m_takeI_of rfl rfl rfl (Nat.le_of_ble_eq_true rfl)) (by simp only [m_okf, List.all_cons, List.all_nil, Bool.and_true, Bool.and_self, m_okv_i, m_okv_l, m_okv_0, m_okv_n0, m_okv_t, RT.okn h27 (okm (okm ha0 k8) k27), RT.okv h27 (okm (okm ha0 k8) k27)]) rfl) (T_c_Reader_expect (okm (okm ha0 k8) k27) h27 e38) f27 rfl (fun w40 h40 f40 k40 => ?_) (by decide) (by decide)
        cases hc41 : m_c1 .ne v36 with
        | true =>
          have j42 := cT hc41 j39
          refine m_Rb.n0 b_46 (x_ift d_46_83 rfl hc41) ?_
          refine m_Rb.n0 b_46 (x_aload_n d_46_88 rfl) ?_
          obtain ⟨_, e43, j44⟩ := bS j42
          obtain ⟨_, g45⟩ := RT.cls h40 e43
          obtain ⟨v46, e47, j48⟩ := bS j44
          refine m_Rb.callI b_46 (y_cv d_46_89 rfl q_22 (m_isRecv_of rfl g45) (show m_takeI _ _ = some (_, [_], []) from m_takeI_of rfl rfl rfl (Nat.le_of_ble_eq_true rfl)) (by simp only [m_okf, List.all_cons, List.all_nil, Bool.and_true, Bool.and_self, m_okv_i, m_okv_l, m_okv_0, m_okv_n0, m_okv_t, RT.okn h40 (okm (okm (okm ha0 k8) k27) k40), RT.okv h40 (okm (okm (okm ha0 k8) k27) k40)]) rfl) (T_c_Reader_here (okm (okm (okm ha0 k8) k27) k40) h40 e47) f40 rfl (fun w49 h49 f49 k49 => ?_) (by decide) (by decide)
          obtain ⟨v50, e51, j52⟩ := bS j48
          refine m_Rb.callI b_46 (y_cs d_46_92 rfl q_39 (show m_takeS _ _ = some (_, [_], []) from m_takeS_of (Nat.le_of_ble_eq_true rfl) rfl rfl (Nat.le_of_ble_eq_true rfl)) (by simp only [m_okf, List.all_cons, List.all_nil, Bool.and_true, Bool.and_self, m_okv_i, m_okv_l, m_okv_0, m_okv_n0, m_okv_t, RT.okn h49 (okm (okm (okm ha0 k8) k27) k40), RT.okv h49 (okm (okm (okm ha0 k8) k27) k40)]) rfl) (T_c_Reader_isDigit h49 e51) f49 rfl (fun w53 h53 f53 k53 => ?_) (by decide) (by decide)
          cases hc54 : m_c1 .eq v50 with
          | true =>
            have j55 := cT hc54 j52
            refine m_Rb.n0 b_46 (x_ift d_46_95 rfl hc54) ?_
            exact m_Rb.pick [2, 1, 0] rfl (T_c_Reader_readRange_114 (okm (okm (okm ha0 k8) k27) k40) h53 f53 j55)
          | false =>
            have j55 := cF hc54 j52
            refine m_Rb.n0 b_46 (x_iff d_46_95 rfl hc54) ?_
            refine m_Rb.n0 b_46 (x_aload_n d_46_98 rfl) ?_
            refine m_Rb.n0 b_46 (x_ldc (v := .int 99999) d_46_99 rfl) ?_
            obtain ⟨_, e56, j57⟩ := bS j55
            obtain ⟨_, g58⟩ := RT.cls h53 e56
            obtain ⟨v59, T60, e61, j62⟩ := bS2 j57
            refine m_Rb.callI b_46 (y_cv d_46_101 rfl q_38 (m_isRecv_of rfl g58) (show m_takeI _ _ = some (_, [_, _], []) from m_takeI_of rfl rfl rfl (Nat.le_of_ble_eq_true rfl)) (by simp only [m_okf, List.all_cons, List.all_nil, Bool.and_true, Bool.and_self, m_okv_i, m_okv_l, m_okv_0, m_okv_n0, m_okv_t, RT.okn h53 (okm (okm (okm ha0 k8) k27) k40), RT.okv h53 (okm (okm (okm ha0 k8) k27) k40)]) rfl) (T_c_Reader_readNumber (okm (okm (okm ha0 k8) k27) k40) h53 e61) f53 rfl (fun w63 h63 f63 k63 => ?_) (by decide) (by decide)
            cases hc64 : m_c1 .ne v59 with
            | true =>
              have j65 := cT hc64 j62
              refine m_Rb.n0 b_46 (x_ift d_46_104 rfl hc64) ?_
              refine m_Rb.n0 b_46 (x_aload_n d_46_109 rfl) ?_
              obtain ⟨v66, e67, j68⟩ := bS j65
              refine m_Rb.tgetI b_46 d_46_110 rfl h63 e67 ?_
              refine m_Rb.n0 b_46 (x_istore_n d_46_113 rfl (show m_put1 _ _ _ = [(2, _), (1, _), (0, _)] from rfl)) ?_
              exact m_Rb.pick [2, 1, 0] rfl (T_c_Reader_readRange_114 (okm (okm (okm (okm ha0 k8) k27) k40) k63) h63 f63 j68)
            | false =>
              have j65 := cF hc64 j62
              refine m_Rb.n0 b_46 (x_iff d_46_104 rfl hc64) ?_
              refine m_Rb.n0 b_46 (x_iconst (z := 0) d_46_107 (by decide)) ?_
              cases j65
              exact m_Rb.ret b_46 (m_rt_ir d_46_108 rfl m_nb0) ⟨rfl, h63, f63⟩
        | false =>
          have j42 := cF hc41 j39
          refine m_Rb.n0 b_46 (x_iff d_46_83 rfl hc41) ?_
          refine m_Rb.n0 b_46 (x_iconst (z := 0) d_46_86 (by decide)) ?_
          cases j42
          exact m_Rb.ret b_46 (m_rt_ir d_46_87 rfl m_nb0) ⟨rfl, h40, f40⟩
      | false =>
        have j29 := cF hc28 j26
        refine m_Rb.n0 b_46 (x_iff d_46_64 rfl hc28) ?_
        refine m_Rb.n0 b_46 (x_iconst (z := 0) d_46_67 (by decide)) ?_
        cases j29
        exact m_Rb.ret b_46 (m_rt_ir d_46_68 rfl m_nb0) ⟨rfl, h27, f27⟩
    | false =>
      have j19 := cF hc18 j16
      refine m_Rb.n0 b_46 (x_icf d_46_17 rfl hc18) ?_
      refine m_Rb.n0 b_46 (x_aload_n d_46_20 rfl) ?_
      refine m_Rb.n0 b_46 (x_dup d_46_21 rfl) ?_
      obtain ⟨v69, e70, j71⟩ := bS j19
      refine m_Rb.tgetI b_46 d_46_22 rfl h17 e70 ?_
      refine m_Rb.n0 b_46 (x_iconst (z := 1) d_46_25 (by decide)) ?_
      refine m_Rb.n0 b_46 (x_iadd d_46_26 rfl) ?_
      obtain ⟨T72, e73, j74⟩ := bS j71
      refine m_Rb.tputI b_46 d_46_27 rfl rfl (by decide) h17 f17 e73 (fun w75 h75 f75 k75 => ?_)
      refine m_Rb.n0 b_46 (x_aload_n d_46_30 rfl) ?_
      obtain ⟨v76, e77, j78⟩ := bS j74
      refine m_Rb.tgetR b_46 d_46_31 rfl h75 e77 (fun o79 => ?_)
      refine m_Rb.n0 b_46 (x_iconst (z := 2) d_46_34 (by decide)) ?_
      obtain ⟨a80, e81, j82⟩ := bS j78
      subst e81
      obtain ⟨T83, e84, j85⟩ := bS j82
      refine m_Rb.tputI b_46 d_46_35 rfl rfl (by decide) h75 f75 e84 (fun w86 h86 f86 k86 => ?_)
      refine m_Rb.n0 b_46 (x_aload_n d_46_38 rfl) ?_
      refine m_Rb.n0 b_46 (x_ldc (v := .int 99999) d_46_39 rfl) ?_
      obtain ⟨_, e87, j88⟩ := bS j85
      obtain ⟨_, g89⟩ := RT.cls h86 e87
      obtain ⟨v90, T91, e92, j93⟩ := bS2 j88
      refine m_Rb.callI b_46 (y_cv d_46_41 rfl q_38 (m_isRecv_of rfl g89) (show m_takeI _ _ = some (_, [_, _], []) from m_takeI_of rfl rfl rfl (Nat.le_of_ble_eq_true rfl)) (by simp only [m_okf, List.all_cons, List.all_nil, Bool.and_true, Bool.and_self, m_okv_i, m_okv_l, m_okv_0, m_okv_n0, m_okv_t, RT.okn h86 (okm (okm (okm ha0 k8) k75) k86), RT.okv h86 (okm (okm (okm ha0 k8) k75) k86)]) rfl) (T_c_Reader_readNumber (okm (okm (okm ha0 k8) k75) k86) h86 e92) f86 rfl (fun w94 h94 f94 k94 => ?_) (by decide) (by decide)
      refine m_Rb.n0 b_46 (x_istore_n d_46_44 rfl (show m_put1 _ _ _ = [(1, _), (0, _)] from rfl)) ?_
      refine m_Rb.n0 b_46 (x_aload_n d_46_45 rfl) ?_
      obtain ⟨v95, e96, j97⟩ := bS j93
      refine m_Rb.tgetR b_46 d_46_46 rfl h94 e96 (fun o98 => ?_)
      refine m_Rb.n0 b_46 (x_aload_n d_46_49 rfl) ?_
      obtain ⟨v99, e100, j101⟩ := bS j97
      refine m_Rb.tgetI b_46 d_46_50 rfl h94 e100 ?_
      obtain ⟨a102, e103, j104⟩ := bS j101
      subst e103
      obtain ⟨T105, e106, j107⟩ := bS j104
      refine m_Rb.tputI b_46 d_46_53 rfl rfl (by decide) h94 f94 e106 (fun w108 h108 f108 k108 => ?_)
      refine m_Rb.n0 b_46 (x_iload_n d_46_56 rfl) ?_
      obtain ⟨v109, e110, j111⟩ := bS j107
      cases j111
      exact m_Rb.retb b_46 d_46_57 rfl e110 ⟨rfl, h108, f108⟩
  | false =>
    have j10 := cF hc9 j7
    refine m_Rb.n0 b_46 (x_iff d_46_6 rfl hc9) ?_
    refine m_Rb.n0 b_46 (x_iconst (z := 0) d_46_9 (by decide)) ?_
    cases j10
    exact m_Rb.ret b_46 (m_rt_ir d_46_10 rfl m_nb0) ⟨rfl, h8, f8⟩
def D_c_Conditions_addTag (F : Nat) (a0 : Nat) (p0 : Int32) (T : tT) : Option (tT) := (tgi T a0 7 6).bind fun v1 => (tgr T a0 7 5).bind fun v4 => (v4).bind fun a8 => (tal T a8).bind fun v11 => cond (m_c2 .ge v1 v11) (some T) ((tgr T a0 7 5).bind fun v20 => (tgi T a0 7 6).bind fun v24 => (v20).bind fun a27 => (tasi T a27 v24 p0).bind fun T30 => (tgi T30 a0 7 6).bind fun v34 => (tpi T30 a0 7 6 (v34 + (1 : Int32))).bind fun T37 => some T37)
theorem T_c_Conditions_addTag {l : Launch} {w : List mM} {F : Nat} {a0 : Nat} {p0 : Int32} {T : tT} {Tz : tT} (ha0 : okr T.2.1 (some a0)) (h : RT T w) (h0 : D_c_Conditions_addTag F a0 p0 T = some Tz) : m_Rb l M_48 (m_ent M_48 [.ref a0, .int p0] w) (fun v w' => v = none ∧ RT Tz w' ∧ m_Fm w w') T Tz 0 0 := by
  rw [show m_ent M_48 [.ref a0, .int p0] w = (0, [(0, .ref a0), (1, .int p0)], [], w) from by first | rfl | (simp only [m_ent, lv_args_r, lv_args_a, lv_args_i, lv_args_l, lv_args_0]; done) | (simp only [m_ent, lv_args_r, lv_args_a, lv_args_i, lv_args_l, lv_args_0]; rfl)]
  generalize hw0 : w = w0 at h ⊢
  have hF : m_Fm w0 w0 := m_Fm.refl
  rw [D_c_Conditions_addTag] at h0
  refine m_Rb.n0 b_48 (x_aload_n d_48_0 rfl) ?_
  obtain ⟨v1, e2, j3⟩ := bS h0
  refine m_Rb.tgetI b_48 d_48_1 rfl h e2 ?_
  refine m_Rb.n0 b_48 (x_aload_n d_48_4 rfl) ?_
  obtain ⟨v4, e5, j6⟩ := bS j3
  refine m_Rb.tgetR b_48 d_48_5 rfl h e5 (fun o7 => ?_)
  obtain ⟨a8, e9, j10⟩ := bS j6
  subst e9
  obtain ⟨v11, e12, j13⟩ := bS j10
  refine m_Rb.talen b_48 d_48_8 h e12 ?_
  cases hc18 : m_c2 .ge v1 v11 with
  | true =>
    have j19 := cT hc18 j13
    refine m_Rb.n0 b_48 (x_ict d_48_9 rfl hc18) ?_
    cases j19
    exact m_Rb.ret b_48 (m_rt_vr d_48_32 rfl) ⟨rfl, h, hF⟩
  | false =>
    have j19 := cF hc18 j13
    refine m_Rb.n0 b_48 (x_icf d_48_9 rfl hc18) ?_
    refine m_Rb.n0 b_48 (x_aload_n d_48_12 rfl) ?_
    obtain ⟨v20, e21, j22⟩ := bS j19
    refine m_Rb.tgetR b_48 d_48_13 rfl h e21 (fun o23 => ?_)
    refine m_Rb.n0 b_48 (x_aload_n d_48_16 rfl) ?_
    obtain ⟨v24, e25, j26⟩ := bS j22
    refine m_Rb.tgetI b_48 d_48_17 rfl h e25 ?_
    refine m_Rb.n0 b_48 (x_iload_n d_48_20 rfl) ?_
    obtain ⟨a27, e28, j29⟩ := bS j26
    subst e28
    obtain ⟨T30, e31, j32⟩ := bS j29
    refine m_Rb.tputAI b_48 d_48_21 h hF e31 (fun w33 h33 f33 k33 => ?_)
    refine m_Rb.n0 b_48 (x_aload_n d_48_22 rfl) ?_
    refine m_Rb.n0 b_48 (x_dup d_48_23 rfl) ?_
    obtain ⟨v34, e35, j36⟩ := bS j32
    refine m_Rb.tgetI b_48 d_48_24 rfl h33 e35 ?_
    refine m_Rb.n0 b_48 (x_iconst (z := 1) d_48_27 (by decide)) ?_
    refine m_Rb.n0 b_48 (x_iadd d_48_28 rfl) ?_
    obtain ⟨T37, e38, j39⟩ := bS j36
    refine m_Rb.tputI b_48 d_48_29 rfl rfl (by decide) h33 f33 e38 (fun w40 h40 f40 k40 => ?_)
    cases j39
    exact m_Rb.ret b_48 (m_rt_vr d_48_32 rfl) ⟨rfl, h40, f40⟩
def D_c_Reader_readMatch_31 (F : Nat) : Nat → Nat → Int32 → tT → Option (Int32 × tT)
  | 0, _, _, _ => none
  | n + 1, x0, x1, T => (tgr T x0 1 14).bind fun v28 => (v28).bind fun a32 => (tgr T a32 7 5).bind fun v35 => (v35).bind fun a39 => (tal T a39).bind fun v42 => cond (m_c2 .ge x1 v42) (some ((1 : Int32), T)) ((tcl T x0 1).bind fun _ => bd2 (D_c_Reader_expect F x0 (34 : Int32) T) fun v50 T51 => cond (m_c1 .eq v50) (some ((0 : Int32), T51)) ((tcl T51 x0 1).bind fun _ => bd2 (D_c_Reader_readNumber F x0 (99999 : Int32) T51) fun v60 T61 => cond (m_c1 .eq v60) (some ((0 : Int32), T61)) ((tcl T61 x0 1).bind fun _ => bd2 (D_c_Reader_expect F x0 (34 : Int32) T61) fun v70 T71 => cond (m_c1 .ne v70) ((tgr T71 x0 1 14).bind fun v77 => (tgi T71 x0 1 9).bind fun v81 => (v77).bind fun a84 => (tcl T71 a84 7).bind fun _ => (D_c_Conditions_addTag F a84 v81 T71).bind fun T90 => (tgr T90 x0 1 14).bind fun v94 => (v94).bind fun a98 => (tgr T90 a98 7 5).bind fun v101 => (v101).bind fun a105 => (tal T90 a105).bind fun v108 => cond (m_c2 .eq x1 (v108 - (1 : Int32))) (some ((1 : Int32), T90)) ((tcl T90 x0 1).bind fun _ => (D_c_Reader_here F x0 T90).bind fun v116 => cond (m_c2 .eq v116 (44 : Int32)) ((tgi T90 x0 1 2).bind fun v122 => (tpi T90 x0 1 2 (v122 + (1 : Int32))).bind fun T125 => (tcl T125 x0 1).bind fun _ => bd2 (D_c_Reader_expect F x0 (32 : Int32) T125) fun v132 T133 => cond (m_c1 .ne v132) (D_c_Reader_readMatch_31 F n x0 (x1 + Int32.ofInt 1) T133) (some ((0 : Int32), T133))) (some ((1 : Int32), T90)))) (some ((0 : Int32), T71)))))
theorem T_c_Reader_readMatch_31 {l : Launch} {w0 : List mM} {F : Nat} : ∀ (n : Nat) {x0 : Nat} {x1 : Int32} {T : tT} {w : List mM} {yz : Int32} {Tz : tT}, okr T.2.1 (some x0) → RT T w → m_Fm w0 w → D_c_Reader_readMatch_31 F n x0 x1 T = some (yz, Tz) → m_Rb l M_47 (31, [(0, .ref x0), (1, .int x1)], [], w) (fun v w' => v = some (.int yz) ∧ RT Tz w' ∧ m_Fm w0 w') T Tz 2 200 := by
  intro n
  induction n with
  | zero => intro x0 x1 T w yz Tz hx0 h hF h0; cases h0
  | succ n ih =>
    intro x0 x1 T w yz Tz hx0 h hF h0
    rw [D_c_Reader_readMatch_31] at h0
    refine m_Rb.n0 b_47 (x_iload_n d_47_31 rfl) ?_
    refine m_Rb.n0 b_47 (x_aload_n d_47_32 rfl) ?_
    obtain ⟨v28, e29, j30⟩ := bS h0
    refine m_Rb.tgetR b_47 d_47_33 rfl h e29 (fun o31 => ?_)
    obtain ⟨a32, e33, j34⟩ := bS j30
    subst e33
    obtain ⟨v35, e36, j37⟩ := bS j34
    refine m_Rb.tgetR b_47 d_47_36 rfl h e36 (fun o38 => ?_)
    obtain ⟨a39, e40, j41⟩ := bS j37
    subst e40
    obtain ⟨v42, e43, j44⟩ := bS j41
    refine m_Rb.talen b_47 d_47_39 h e43 ?_
    cases hc45 : m_c2 .ge x1 v42 with
    | true =>
      have j46 := cT hc45 j44
      refine m_Rb.n0 b_47 (x_ict d_47_40 rfl hc45) ?_
      refine m_Rb.n0 b_47 (x_iconst (z := 1) d_47_136 (by decide)) ?_
      cases j46
      exact m_Rb.ret b_47 (m_rt_ir d_47_137 rfl m_nb1) ⟨rfl, h, hF⟩
    | false =>
      have j46 := cF hc45 j44
      refine m_Rb.n0 b_47 (x_icf d_47_40 rfl hc45) ?_
      refine m_Rb.n0 b_47 (x_aload_n d_47_43 rfl) ?_
      refine m_Rb.n0 b_47 (x_bipush (z := 34) d_47_44 (by decide)) ?_
      obtain ⟨_, e47, j48⟩ := bS j46
      obtain ⟨_, g49⟩ := RT.cls h e47
      obtain ⟨v50, T51, e52, j53⟩ := bS2 j48
      refine m_Rb.callI b_47 (y_cv d_47_46 rfl q_35 (m_isRecv_of rfl g49) (show m_takeI _ _ = some (_, [_, _], []) from m_takeI_of rfl rfl rfl (Nat.le_of_ble_eq_true rfl)) (by simp only [m_okf, List.all_cons, List.all_nil, Bool.and_true, Bool.and_self, m_okv_i, m_okv_l, m_okv_0, m_okv_n0, m_okv_t, RT.okn h hx0, RT.okv h hx0]) rfl) (T_c_Reader_expect hx0 h e52) hF rfl (fun w54 h54 f54 k54 => ?_) (by decide) (by decide)
      cases hc55 : m_c1 .eq v50 with
      | true =>
        have j56 := cT hc55 j53
        refine m_Rb.n0 b_47 (x_ift d_47_49 rfl hc55) ?_
        refine m_Rb.n0 b_47 (x_iconst (z := 0) d_47_70 (by decide)) ?_
        cases j56
        exact m_Rb.ret b_47 (m_rt_ir d_47_71 rfl m_nb0) ⟨rfl, h54, f54⟩
      | false =>
        have j56 := cF hc55 j53
        refine m_Rb.n0 b_47 (x_iff d_47_49 rfl hc55) ?_
        refine m_Rb.n0 b_47 (x_aload_n d_47_52 rfl) ?_
        refine m_Rb.n0 b_47 (x_ldc (v := .int 99999) d_47_53 rfl) ?_
        obtain ⟨_, e57, j58⟩ := bS j56
        obtain ⟨_, g59⟩ := RT.cls h54 e57
        obtain ⟨v60, T61, e62, j63⟩ := bS2 j58
        refine m_Rb.callI b_47 (y_cv d_47_55 rfl q_38 (m_isRecv_of rfl g59) (show m_takeI _ _ = some (_, [_, _], []) from m_takeI_of rfl rfl rfl (Nat.le_of_ble_eq_true rfl)) (by simp only [m_okf, List.all_cons, List.all_nil, Bool.and_true, Bool.and_self, m_okv_i, m_okv_l, m_okv_0, m_okv_n0, m_okv_t, RT.okn h54 (okm hx0 k54), RT.okv h54 (okm hx0 k54)]) rfl) (T_c_Reader_readNumber (okm hx0 k54) h54 e62) f54 rfl (fun w64 h64 f64 k64 => ?_) (by decide) (by decide)
        cases hc65 : m_c1 .eq v60 with
        | true =>
          have j66 := cT hc65 j63
          refine m_Rb.n0 b_47 (x_ift d_47_58 rfl hc65) ?_
          refine m_Rb.n0 b_47 (x_iconst (z := 0) d_47_70 (by decide)) ?_
          cases j66
          exact m_Rb.ret b_47 (m_rt_ir d_47_71 rfl m_nb0) ⟨rfl, h64, f64⟩
        | false =>
          have j66 := cF hc65 j63
          refine m_Rb.n0 b_47 (x_iff d_47_58 rfl hc65) ?_
          refine m_Rb.n0 b_47 (x_aload_n d_47_61 rfl) ?_
          refine m_Rb.n0 b_47 (x_bipush (z := 34) d_47_62 (by decide)) ?_
          obtain ⟨_, e67, j68⟩ := bS j66
          obtain ⟨_, g69⟩ := RT.cls h64 e67
          obtain ⟨v70, T71, e72, j73⟩ := bS2 j68
          refine m_Rb.callI b_47 (y_cv d_47_64 rfl q_35 (m_isRecv_of rfl g69) (show m_takeI _ _ = some (_, [_, _], []) from m_takeI_of rfl rfl rfl (Nat.le_of_ble_eq_true rfl)) (by simp only [m_okf, List.all_cons, List.all_nil, Bool.and_true, Bool.and_self, m_okv_i, m_okv_l, m_okv_0, m_okv_n0, m_okv_t, RT.okn h64 (okm (okm hx0 k54) k64), RT.okv h64 (okm (okm hx0 k54) k64)]) rfl) (T_c_Reader_expect (okm (okm hx0 k54) k64) h64 e72) f64 rfl (fun w74 h74 f74 k74 => ?_) (by decide) (by decide)
          cases hc75 : m_c1 .ne v70 with
          | true =>
            have j76 := cT hc75 j73
            refine m_Rb.n0 b_47 (x_ift d_47_67 rfl hc75) ?_
            refine m_Rb.n0 b_47 (x_aload_n d_47_72 rfl) ?_
            obtain ⟨v77, e78, j79⟩ := bS j76
            refine m_Rb.tgetR b_47 d_47_73 rfl h74 e78 (fun o80 => ?_)
            refine m_Rb.n0 b_47 (x_aload_n d_47_76 rfl) ?_
            obtain ⟨v81, e82, j83⟩ := bS j79
            refine m_Rb.tgetI b_47 d_47_77 rfl h74 e82 ?_
            obtain ⟨a84, e85, j86⟩ := bS j83
            subst e85
            obtain ⟨_, e87, j88⟩ := bS j86
            obtain ⟨_, g89⟩ := RT.cls h74 e87
            obtain ⟨T90, e91, j92⟩ := bS j88
            refine m_Rb.callV b_47 (y_cv d_47_80 rfl q_48 (m_isRecv_of rfl g89) (show m_takeI _ _ = some (_, [_, _], []) from m_takeI_of rfl rfl rfl (Nat.le_of_ble_eq_true rfl)) (by simp only [m_okf, List.all_cons, List.all_nil, Bool.and_true, Bool.and_self, m_okv_i, m_okv_l, m_okv_0, m_okv_n0, m_okv_t, RT.okn h74 (okm (okm (okm hx0 k54) k64) k74), RT.okv h74 (okm (okm (okm hx0 k54) k64) k74), RT.okn h74 o80, RT.okv h74 o80]) rfl) (T_c_Conditions_addTag o80 h74 e91) f74 rfl (fun w93 h93 f93 k93 => ?_) (by decide) (by decide)
            refine m_Rb.n0 b_47 (x_iload_n d_47_83 rfl) ?_
            refine m_Rb.n0 b_47 (x_aload_n d_47_84 rfl) ?_
            obtain ⟨v94, e95, j96⟩ := bS j92
            refine m_Rb.tgetR b_47 d_47_85 rfl h93 e95 (fun o97 => ?_)
            obtain ⟨a98, e99, j100⟩ := bS j96
            subst e99
            obtain ⟨v101, e102, j103⟩ := bS j100
            refine m_Rb.tgetR b_47 d_47_88 rfl h93 e102 (fun o104 => ?_)
            obtain ⟨a105, e106, j107⟩ := bS j103
            subst e106
            obtain ⟨v108, e109, j110⟩ := bS j107
            refine m_Rb.talen b_47 d_47_91 h93 e109 ?_
            refine m_Rb.n0 b_47 (x_iconst (z := 1) d_47_92 (by decide)) ?_
            refine m_Rb.n0 b_47 (x_isub d_47_93 rfl) ?_
            cases hc111 : m_c2 .eq x1 (v108 - (1 : Int32)) with
            | true =>
              have j112 := cT hc111 j110
              refine m_Rb.n0 b_47 (x_ict d_47_94 rfl hc111) ?_
              refine m_Rb.n0 b_47 (x_iconst (z := 1) d_47_136 (by decide)) ?_
              cases j112
              exact m_Rb.ret b_47 (m_rt_ir d_47_137 rfl m_nb1) ⟨rfl, h93, f93⟩
            | false =>
              have j112 := cF hc111 j110
              refine m_Rb.n0 b_47 (x_icf d_47_94 rfl hc111) ?_
              refine m_Rb.n0 b_47 (x_aload_n d_47_97 rfl) ?_
              obtain ⟨_, e113, j114⟩ := bS j112
              obtain ⟨_, g115⟩ := RT.cls h93 e113
              obtain ⟨v116, e117, j118⟩ := bS j114
              refine m_Rb.callI b_47 (y_cv d_47_98 rfl q_22 (m_isRecv_of rfl g115) (show m_takeI _ _ = some (_, [_], []) from m_takeI_of rfl rfl rfl (Nat.le_of_ble_eq_true rfl)) (by simp only [m_okf, List.all_cons, List.all_nil, Bool.and_true, Bool.and_self, m_okv_i, m_okv_l, m_okv_0, m_okv_n0, m_okv_t, RT.okn h93 (okm (okm (okm (okm hx0 k54) k64) k74) k93), RT.okv h93 (okm (okm (okm (okm hx0 k54) k64) k74) k93)]) rfl) (T_c_Reader_here (okm (okm (okm (okm hx0 k54) k64) k74) k93) h93 e117) f93 rfl (fun w119 h119 f119 k119 => ?_) (by decide) (by decide)
              refine m_Rb.n0 b_47 (x_bipush (z := 44) d_47_101 (by decide)) ?_
              cases hc120 : m_c2 .eq v116 (44 : Int32) with
              | true =>
                have j121 := cT hc120 j118
                refine m_Rb.n0 b_47 (x_ict d_47_103 rfl hc120) ?_
                refine m_Rb.n0 b_47 (x_aload_n d_47_109 rfl) ?_
                refine m_Rb.n0 b_47 (x_dup d_47_110 rfl) ?_
                obtain ⟨v122, e123, j124⟩ := bS j121
                refine m_Rb.tgetI b_47 d_47_111 rfl h119 e123 ?_
                refine m_Rb.n0 b_47 (x_iconst (z := 1) d_47_114 (by decide)) ?_
                refine m_Rb.n0 b_47 (x_iadd d_47_115 rfl) ?_
                obtain ⟨T125, e126, j127⟩ := bS j124
                refine m_Rb.tputI b_47 d_47_116 rfl rfl (by decide) h119 f119 e126 (fun w128 h128 f128 k128 => ?_)
                refine m_Rb.n0 b_47 (x_aload_n d_47_119 rfl) ?_
                refine m_Rb.n0 b_47 (x_bipush (z := 32) d_47_120 (by decide)) ?_
                obtain ⟨_, e129, j130⟩ := bS j127
                obtain ⟨_, g131⟩ := RT.cls h128 e129
                obtain ⟨v132, T133, e134, j135⟩ := bS2 j130
                refine m_Rb.callI b_47 (y_cv d_47_122 rfl q_35 (m_isRecv_of rfl g131) (show m_takeI _ _ = some (_, [_, _], []) from m_takeI_of rfl rfl rfl (Nat.le_of_ble_eq_true rfl)) (by simp only [m_okf, List.all_cons, List.all_nil, Bool.and_true, Bool.and_self, m_okv_i, m_okv_l, m_okv_0, m_okv_n0, m_okv_t, RT.okn h128 (okm (okm (okm (okm (okm hx0 k54) k64) k74) k93) k128), RT.okv h128 (okm (okm (okm (okm (okm hx0 k54) k64) k74) k93) k128)]) rfl) (T_c_Reader_expect (okm (okm (okm (okm (okm hx0 k54) k64) k74) k93) k128) h128 e134) f128 rfl (fun w136 h136 f136 k136 => ?_) (by decide) (by decide)
                cases hc137 : m_c1 .ne v132 with
                | true =>
                  have j138 := cT hc137 j135
                  refine m_Rb.n0 b_47 (x_ift d_47_125 rfl hc137) ?_
                  refine m_Rb.n0 b_47 (x_iinc d_47_130 rfl rfl rfl (show m_put1 _ _ _ = [(1, _), (0, _)] from rfl)) ?_
                  refine m_Rb.n0 b_47 (x_goto d_47_133 rfl) ?_
                  exact m_Rb.pick [1, 0] rfl (ih (okm (okm (okm (okm (okm (okm hx0 k54) k64) k74) k93) k128) k136) h136 f136 j138)
                | false =>
                  have j138 := cF hc137 j135
                  refine m_Rb.n0 b_47 (x_iff d_47_125 rfl hc137) ?_
                  refine m_Rb.n0 b_47 (x_iconst (z := 0) d_47_128 (by decide)) ?_
                  cases j138
                  exact m_Rb.ret b_47 (m_rt_ir d_47_129 rfl m_nb0) ⟨rfl, h136, f136⟩
              | false =>
                have j121 := cF hc120 j118
                refine m_Rb.n0 b_47 (x_icf d_47_103 rfl hc120) ?_
                refine m_Rb.n0 b_47 (x_goto d_47_106 rfl) ?_
                refine m_Rb.n0 b_47 (x_iconst (z := 1) d_47_136 (by decide)) ?_
                cases j121
                exact m_Rb.ret b_47 (m_rt_ir d_47_137 rfl m_nb1) ⟨rfl, h119, f119⟩
          | false =>
            have j76 := cF hc75 j73
            refine m_Rb.n0 b_47 (x_iff d_47_67 rfl hc75) ?_
            refine m_Rb.n0 b_47 (x_iconst (z := 0) d_47_70 (by decide)) ?_
            cases j76
            exact m_Rb.ret b_47 (m_rt_ir d_47_71 rfl m_nb0) ⟨rfl, h74, f74⟩
def D_c_Reader_readMatch (F : Nat) (a0 : Nat) (T : tT) : Option (Int32 × tT) := (tcl T a0 1).bind fun _ => (D_c_Reader_here F a0 T).bind fun v4 => cond (m_c2 .ne v4 (42 : Int32)) (D_c_Reader_readMatch_31 F F a0 (0 : Int32) T) ((tgi T a0 1 2).bind fun v10 => (tpi T a0 1 2 (v10 + (1 : Int32))).bind fun T13 => (tgr T13 a0 1 14).bind fun v17 => (v17).bind fun a21 => (tpz T13 a21 7 4 (1 : Int32)).bind fun T24 => some ((1 : Int32), T24))
theorem T_c_Reader_readMatch {l : Launch} {w : List mM} {F : Nat} {a0 : Nat} {T : tT} {yz : Int32} {Tz : tT} (ha0 : okr T.2.1 (some a0)) (h : RT T w) (h0 : D_c_Reader_readMatch F a0 T = some (yz, Tz)) : m_Rb l M_47 (m_ent M_47 [.ref a0] w) (fun v w' => v = some (.int yz) ∧ RT Tz w' ∧ m_Fm w w') T Tz 2 200 := by
  rw [show m_ent M_47 [.ref a0] w = (0, [(0, .ref a0)], [], w) from by first | rfl | (simp only [m_ent, lv_args_r, lv_args_a, lv_args_i, lv_args_l, lv_args_0]; done) | (simp only [m_ent, lv_args_r, lv_args_a, lv_args_i, lv_args_l, lv_args_0]; rfl)]
  generalize hw0 : w = w0 at h ⊢
  have hF : m_Fm w0 w0 := m_Fm.refl
  rw [D_c_Reader_readMatch] at h0
  refine m_Rb.n0 b_47 (x_aload_n d_47_0 rfl) ?_
  obtain ⟨_, e1, j2⟩ := bS h0
  obtain ⟨_, g3⟩ := RT.cls h e1
  obtain ⟨v4, e5, j6⟩ := bS j2
  refine m_Rb.callI b_47 (y_cv d_47_1 rfl q_22 (m_isRecv_of rfl g3) (show m_takeI _ _ = some (_, [_], []) from m_takeI_of rfl rfl rfl (Nat.le_of_ble_eq_true rfl)) (by simp only [m_okf, List.all_cons, List.all_nil, Bool.and_true, Bool.and_self, m_okv_i, m_okv_l, m_okv_0, m_okv_n0, m_okv_t, RT.okn h ha0, RT.okv h ha0]) rfl) (T_c_Reader_here ha0 h e5) hF rfl (fun w7 h7 f7 k7 => ?_) (by decide) (by decide)
  refine m_Rb.n0 b_47 (x_bipush (z := 42) d_47_4 (by decide)) ?_
  cases hc8 : m_c2 .ne v4 (42 : Int32) with
  | true =>
    have j9 := cT hc8 j6
    refine m_Rb.n0 b_47 (x_ict d_47_6 rfl hc8) ?_
    refine m_Rb.n0 b_47 (x_iconst (z := 0) d_47_29 (by decide)) ?_
    refine m_Rb.n0 b_47 (x_istore_n d_47_30 rfl (show m_put1 _ _ _ = [(1, _), (0, _)] from rfl)) ?_
    exact m_Rb.pick [1, 0] rfl (T_c_Reader_readMatch_31 F ha0 h7 f7 j9)
  | false =>
    have j9 := cF hc8 j6
    refine m_Rb.n0 b_47 (x_icf d_47_6 rfl hc8) ?_
    refine m_Rb.n0 b_47 (x_aload_n d_47_9 rfl) ?_
    refine m_Rb.n0 b_47 (x_dup d_47_10 rfl) ?_
    obtain ⟨v10, e11, j12⟩ := bS j9
    refine m_Rb.tgetI b_47 d_47_11 rfl h7 e11 ?_
    refine m_Rb.n0 b_47 (x_iconst (z := 1) d_47_14 (by decide)) ?_
    refine m_Rb.n0 b_47 (x_iadd d_47_15 rfl) ?_
    obtain ⟨T13, e14, j15⟩ := bS j12
    refine m_Rb.tputI b_47 d_47_16 rfl rfl (by decide) h7 f7 e14 (fun w16 h16 f16 k16 => ?_)
    refine m_Rb.n0 b_47 (x_aload_n d_47_19 rfl) ?_
    obtain ⟨v17, e18, j19⟩ := bS j15
    refine m_Rb.tgetR b_47 d_47_20 rfl h16 e18 (fun o20 => ?_)
    refine m_Rb.n0 b_47 (x_iconst (z := 1) d_47_23 (by decide)) ?_
    obtain ⟨a21, e22, j23⟩ := bS j19
    subst e22
    obtain ⟨T24, e25, j26⟩ := bS j23
    refine m_Rb.tputZ b_47 d_47_24 rfl rfl (by decide) h16 f16 e25 (fun w27 h27 f27 k27 => ?_)
    refine m_Rb.n0 b_47 (x_iconst (z := 1) d_47_27 (by decide)) ?_
    cases j26
    exact m_Rb.ret b_47 (m_rt_ir d_47_28 rfl m_nb1) ⟨rfl, h27, f27⟩
def D_c_Reader_readWord (F : Nat) (a0 : Nat) (T : tT) : Option (Int32 × tT) := (tgi T a0 1 2).bind fun v1 => (tpi T a0 1 6 v1).bind fun T4 => (tcl T4 a0 1).bind fun _ => (D_c_Reader_skipLetters F a0 T4).bind fun T11 => (tgi T11 a0 1 2).bind fun v15 => (tpi T11 a0 1 7 v15).bind fun T18 => (tgi T18 a0 1 2).bind fun v22 => (tgi T18 a0 1 6).bind fun v25 => cond (m_c2 .ne v22 v25) ((tgi T18 a0 1 2).bind fun v30 => (tgi T18 a0 1 6).bind fun v33 => cond (m_c2 .le (v30 - v33) (30 : Int32)) ((tcl T18 a0 1).bind fun _ => (D_c_Reader_here F a0 T18).bind fun v41 => (cond (m_c2 .eq v41 (61 : Int32)) (some (0 : Int32)) (some (1 : Int32))).bind fun v49 => (tpz T18 a0 1 8 v49).bind fun T52 => (tgi T52 a0 1 8).bind fun v56 => cond (m_c1 .eq v56) ((tgi T52 a0 1 2).bind fun v61 => (tpi T52 a0 1 2 (v61 + (1 : Int32))).bind fun T64 => (tcl T64 a0 1).bind fun _ => bd2 (D_c_Reader_readNumber F a0 (99999 : Int32) T64) fun v71 T72 => (bret v71).bind fun v76 => some (v76, T72)) (some ((1 : Int32), T52))) ((tgi T18 a0 1 6).bind fun v79 => (tcl T18 a0 1).bind fun _ => bd2 (D_c_Reader_no F a0 v79 T18) fun v85 T86 => (bret v85).bind fun v90 => some (v90, T86))) ((tgi T18 a0 1 2).bind fun v93 => (tcl T18 a0 1).bind fun _ => bd2 (D_c_Reader_no F a0 v93 T18) fun v99 T100 => (bret v99).bind fun v104 => some (v104, T100))
theorem T_c_Reader_readWord {l : Launch} {w : List mM} {F : Nat} {a0 : Nat} {T : tT} {yz : Int32} {Tz : tT} (ha0 : okr T.2.1 (some a0)) (h : RT T w) (h0 : D_c_Reader_readWord F a0 T = some (yz, Tz)) : m_Rb l M_50 (m_ent M_50 [.ref a0] w) (fun v w' => v = some (.int yz) ∧ RT Tz w' ∧ m_Fm w w') T Tz 2 200 := by
  rw [show m_ent M_50 [.ref a0] w = (0, [(0, .ref a0)], [], w) from by first | rfl | (simp only [m_ent, lv_args_r, lv_args_a, lv_args_i, lv_args_l, lv_args_0]; done) | (simp only [m_ent, lv_args_r, lv_args_a, lv_args_i, lv_args_l, lv_args_0]; rfl)]
  generalize hw0 : w = w0 at h ⊢
  have hF : m_Fm w0 w0 := m_Fm.refl
  rw [D_c_Reader_readWord] at h0
  refine m_Rb.n0 b_50 (x_aload_n d_50_0 rfl) ?_
  refine m_Rb.n0 b_50 (x_aload_n d_50_1 rfl) ?_
  obtain ⟨v1, e2, j3⟩ := bS h0
  refine m_Rb.tgetI b_50 d_50_2 rfl h e2 ?_
  obtain ⟨T4, e5, j6⟩ := bS j3
  refine m_Rb.tputI b_50 d_50_5 rfl rfl (by decide) h hF e5 (fun w7 h7 f7 k7 => ?_)
  refine m_Rb.n0 b_50 (x_aload_n d_50_8 rfl) ?_
  obtain ⟨_, e8, j9⟩ := bS j6
  obtain ⟨_, g10⟩ := RT.cls h7 e8
  obtain ⟨T11, e12, j13⟩ := bS j9
  refine m_Rb.callV b_50 (y_cv d_50_9 rfl q_41 (m_isRecv_of rfl g10) (show m_takeI _ _ = some (_, [_], []) from m_takeI_of rfl rfl rfl (Nat.le_of_ble_eq_true rfl)) (by simp only [m_okf, List.all_cons, List.all_nil, Bool.and_true, Bool.and_self, m_okv_i, m_okv_l, m_okv_0, m_okv_n0, m_okv_t, RT.okn h7 (okm ha0 k7), RT.okv h7 (okm ha0 k7)]) rfl) (T_c_Reader_skipLetters (okm ha0 k7) h7 e12) f7 rfl (fun w14 h14 f14 k14 => ?_) (by decide) (by decide)
  refine m_Rb.n0 b_50 (x_aload_n d_50_12 rfl) ?_
  refine m_Rb.n0 b_50 (x_aload_n d_50_13 rfl) ?_
  obtain ⟨v15, e16, j17⟩ := bS j13
  refine m_Rb.tgetI b_50 d_50_14 rfl h14 e16 ?_
  obtain ⟨T18, e19, j20⟩ := bS j17
  refine m_Rb.tputI b_50 d_50_17 rfl rfl (by decide) h14 f14 e19 (fun w21 h21 f21 k21 => ?_)
  refine m_Rb.n0 b_50 (x_aload_n d_50_20 rfl) ?_
  obtain ⟨v22, e23, j24⟩ := bS j20
  refine m_Rb.tgetI b_50 d_50_21 rfl h21 e23 ?_
  refine m_Rb.n0 b_50 (x_aload_n d_50_24 rfl) ?_
  obtain ⟨v25, e26, j27⟩ := bS j24
  refine m_Rb.tgetI b_50 d_50_25 rfl h21 e26 ?_
  cases hc28 : m_c2 .ne v22 v25 with
  | true =>
    have j29 := cT hc28 j27
    refine m_Rb.n0 b_50 (x_ict d_50_28 rfl hc28) ?_
    refine m_Rb.n0 b_50 (x_aload_n d_50_40 rfl) ?_
    obtain ⟨v30, e31, j32⟩ := bS j29
    refine m_Rb.tgetI b_50 d_50_41 rfl h21 e31 ?_
    refine m_Rb.n0 b_50 (x_aload_n d_50_44 rfl) ?_
    obtain ⟨v33, e34, j35⟩ := bS j32
    refine m_Rb.tgetI b_50 d_50_45 rfl h21 e34 ?_
    refine m_Rb.n0 b_50 (x_isub d_50_48 rfl) ?_
    refine m_Rb.n0 b_50 (x_bipush (z := 30) d_50_49 (by decide)) ?_
    cases hc36 : m_c2 .le (v30 - v33) (30 : Int32) with
    | true =>
      have j37 := cT hc36 j35
      refine m_Rb.n0 b_50 (x_ict d_50_51 rfl hc36) ?_
      refine m_Rb.n0 b_50 (x_aload_n d_50_63 rfl) ?_
      refine m_Rb.n0 b_50 (x_aload_n d_50_64 rfl) ?_
      obtain ⟨_, e38, j39⟩ := bS j37
      obtain ⟨_, g40⟩ := RT.cls h21 e38
      obtain ⟨v41, e42, j43⟩ := bS j39
      refine m_Rb.callI b_50 (y_cv d_50_65 rfl q_22 (m_isRecv_of rfl g40) (show m_takeI _ _ = some (_, [_], [_]) from m_takeI_of rfl rfl rfl (Nat.le_of_ble_eq_true rfl)) (by simp only [m_okf, List.all_cons, List.all_nil, Bool.and_true, Bool.and_self, m_okv_i, m_okv_l, m_okv_0, m_okv_n0, m_okv_t, RT.okn h21 (okm (okm (okm ha0 k7) k14) k21), RT.okv h21 (okm (okm (okm ha0 k7) k14) k21)]) rfl) (T_c_Reader_here (okm (okm (okm ha0 k7) k14) k21) h21 e42) f21 rfl (fun w44 h44 f44 k44 => ?_) (by decide) (by decide)
      refine m_Rb.n0 b_50 (x_bipush (z := 61) d_50_68 (by decide)) ?_
      obtain ⟨v49, e46, j50⟩ := bS j43
      have kk45 : ∀ (xz : Int32) (w1 : List mM), xz = v49 → RT T18 w1 → m_Fm w0 w1 → m_Rb l M_50 (78, [(0, .ref a0)], [.int xz, .ref a0], w1) (fun v w' => v = some (.int yz) ∧ RT Tz w' ∧ m_Fm w0 w') T18 Tz 2 200 := by
        intro xz w51 ez h51 f51
        rw [ez]
        obtain ⟨T52, e53, j54⟩ := bS j50
        refine m_Rb.tputZ b_50 d_50_78 rfl rfl (by decide) h51 f51 e53 (fun w55 h55 f55 k55 => ?_)
        refine m_Rb.n0 b_50 (x_aload_n d_50_81 rfl) ?_
        obtain ⟨v56, e57, j58⟩ := bS j54
        refine m_Rb.tgetI b_50 d_50_82 rfl h55 e57 ?_
        cases hc59 : m_c1 .eq v56 with
        | true =>
          have j60 := cT hc59 j58
          refine m_Rb.n0 b_50 (x_ift d_50_85 rfl hc59) ?_
          refine m_Rb.n0 b_50 (x_aload_n d_50_90 rfl) ?_
          refine m_Rb.n0 b_50 (x_dup d_50_91 rfl) ?_
          obtain ⟨v61, e62, j63⟩ := bS j60
          refine m_Rb.tgetI b_50 d_50_92 rfl h55 e62 ?_
          refine m_Rb.n0 b_50 (x_iconst (z := 1) d_50_95 (by decide)) ?_
          refine m_Rb.n0 b_50 (x_iadd d_50_96 rfl) ?_
          obtain ⟨T64, e65, j66⟩ := bS j63
          refine m_Rb.tputI b_50 d_50_97 rfl rfl (by decide) h55 f55 e65 (fun w67 h67 f67 k67 => ?_)
          refine m_Rb.n0 b_50 (x_aload_n d_50_100 rfl) ?_
          refine m_Rb.n0 b_50 (x_ldc (v := .int 99999) d_50_101 rfl) ?_
          obtain ⟨_, e68, j69⟩ := bS j66
          obtain ⟨_, g70⟩ := RT.cls h67 e68
          obtain ⟨v71, T72, e73, j74⟩ := bS2 j69
          refine m_Rb.callI b_50 (y_cv d_50_103 rfl q_38 (m_isRecv_of rfl g70) (show m_takeI _ _ = some (_, [_, _], []) from m_takeI_of rfl rfl rfl (Nat.le_of_ble_eq_true rfl)) (by simp only [m_okf, List.all_cons, List.all_nil, Bool.and_true, Bool.and_self, m_okv_i, m_okv_l, m_okv_0, m_okv_n0, m_okv_t, RT.okn h67 (okm (okm (okm (okm (okm ha0 k7) k14) k21) k55) k67), RT.okv h67 (okm (okm (okm (okm (okm ha0 k7) k14) k21) k55) k67)]) rfl) (T_c_Reader_readNumber (okm (okm (okm (okm (okm ha0 k7) k14) k21) k55) k67) h67 e73) f67 rfl (fun w75 h75 f75 k75 => ?_) (by decide) (by decide)
          obtain ⟨v76, e77, j78⟩ := bS j74
          cases j78
          exact m_Rb.retb b_50 d_50_106 rfl e77 ⟨rfl, h75, f75⟩
        | false =>
          have j60 := cF hc59 j58
          refine m_Rb.n0 b_50 (x_iff d_50_85 rfl hc59) ?_
          refine m_Rb.n0 b_50 (x_iconst (z := 1) d_50_88 (by decide)) ?_
          cases j60
          exact m_Rb.ret b_50 (m_rt_ir d_50_89 rfl m_nb1) ⟨rfl, h55, f55⟩
      cases hc47 : m_c2 .eq v41 (61 : Int32) with
      | true =>
        have j48 := cT hc47 e46
        refine m_Rb.n0 b_50 (x_ict d_50_70 rfl hc47) ?_
        refine m_Rb.n0 b_50 (x_iconst (z := 0) d_50_77 (by decide)) ?_
        exact kk45 _ _ (Option.some.inj j48) h44 f44
      | false =>
        have j48 := cF hc47 e46
        refine m_Rb.n0 b_50 (x_icf d_50_70 rfl hc47) ?_
        refine m_Rb.n0 b_50 (x_iconst (z := 1) d_50_73 (by decide)) ?_
        refine m_Rb.n0 b_50 (x_goto d_50_74 rfl) ?_
        exact kk45 _ _ (Option.some.inj j48) h44 f44
    | false =>
      have j37 := cF hc36 j35
      refine m_Rb.n0 b_50 (x_icf d_50_51 rfl hc36) ?_
      refine m_Rb.n0 b_50 (x_aload_n d_50_54 rfl) ?_
      refine m_Rb.n0 b_50 (x_aload_n d_50_55 rfl) ?_
      obtain ⟨v79, e80, j81⟩ := bS j37
      refine m_Rb.tgetI b_50 d_50_56 rfl h21 e80 ?_
      obtain ⟨_, e82, j83⟩ := bS j81
      obtain ⟨_, g84⟩ := RT.cls h21 e82
      obtain ⟨v85, T86, e87, j88⟩ := bS2 j83
      refine m_Rb.callI b_50 (y_cv d_50_59 rfl q_36 (m_isRecv_of rfl g84) (show m_takeI _ _ = some (_, [_, _], []) from m_takeI_of rfl rfl rfl (Nat.le_of_ble_eq_true rfl)) (by simp only [m_okf, List.all_cons, List.all_nil, Bool.and_true, Bool.and_self, m_okv_i, m_okv_l, m_okv_0, m_okv_n0, m_okv_t, RT.okn h21 (okm (okm (okm ha0 k7) k14) k21), RT.okv h21 (okm (okm (okm ha0 k7) k14) k21)]) rfl) (T_c_Reader_no (okm (okm (okm ha0 k7) k14) k21) h21 e87) f21 rfl (fun w89 h89 f89 k89 => ?_) (by decide) (by decide)
      obtain ⟨v90, e91, j92⟩ := bS j88
      cases j92
      exact m_Rb.retb b_50 d_50_62 rfl e91 ⟨rfl, h89, f89⟩
  | false =>
    have j29 := cF hc28 j27
    refine m_Rb.n0 b_50 (x_icf d_50_28 rfl hc28) ?_
    refine m_Rb.n0 b_50 (x_aload_n d_50_31 rfl) ?_
    refine m_Rb.n0 b_50 (x_aload_n d_50_32 rfl) ?_
    obtain ⟨v93, e94, j95⟩ := bS j29
    refine m_Rb.tgetI b_50 d_50_33 rfl h21 e94 ?_
    obtain ⟨_, e96, j97⟩ := bS j95
    obtain ⟨_, g98⟩ := RT.cls h21 e96
    obtain ⟨v99, T100, e101, j102⟩ := bS2 j97
    refine m_Rb.callI b_50 (y_cv d_50_36 rfl q_36 (m_isRecv_of rfl g98) (show m_takeI _ _ = some (_, [_, _], []) from m_takeI_of rfl rfl rfl (Nat.le_of_ble_eq_true rfl)) (by simp only [m_okf, List.all_cons, List.all_nil, Bool.and_true, Bool.and_self, m_okv_i, m_okv_l, m_okv_0, m_okv_n0, m_okv_t, RT.okn h21 (okm (okm (okm ha0 k7) k14) k21), RT.okv h21 (okm (okm (okm ha0 k7) k14) k21)]) rfl) (T_c_Reader_no (okm (okm (okm ha0 k7) k14) k21) h21 e101) f21 rfl (fun w103 h103 f103 k103 => ?_) (by decide) (by decide)
    obtain ⟨v104, e105, j106⟩ := bS j102
    cases j106
    exact m_Rb.retb b_50 d_50_39 rfl e105 ⟨rfl, h103, f103⟩
def D_c_Reader_weighLanguage (F : Nat) (a0 : Nat) (T : tT) : Option (tT) := (tgi T a0 1 8).bind fun v1 => (cond (m_c1 .eq v1) ((tgi T a0 1 9).bind fun v8 => some v8) (some (9 : Int32))).bind fun v11 => (tcl T a0 1).bind fun _ => (D_c_Reader_isWord F a0 18 T).bind fun v17 => cond (m_c1 .eq v17) ((tcl T a0 1).bind fun _ => (D_c_Reader_isWord F a0 19 T).bind fun v57 => cond (m_c1 .eq v57) ((tcl T a0 1).bind fun _ => (D_c_Reader_isWord F a0 20 T).bind fun v88 => cond (m_c1 .eq v88) ((tcl T a0 1).bind fun _ => (D_c_Reader_isWord F a0 21 T).bind fun v110 => cond (m_c1 .eq v110) (some T) ((tgr T a0 1 12).bind fun v120 => (v120).bind fun a124 => (tasi T a124 (3 : Int32) v11).bind fun T127 => some T127)) ((tgr T a0 1 12).bind fun v131 => (v131).bind fun a135 => (tasi T a135 (2 : Int32) v11).bind fun T138 => some T138)) ((tgr T a0 1 12).bind fun v142 => (v142).bind fun a146 => (tasi T a146 (1 : Int32) v11).bind fun T149 => some T149)) ((tgr T a0 1 12).bind fun v153 => (v153).bind fun a157 => (tasi T a157 (0 : Int32) v11).bind fun T160 => some T160)
theorem T_c_Reader_weighLanguage {l : Launch} {w : List mM} {F : Nat} {a0 : Nat} {T : tT} {Tz : tT} (ha0 : okr T.2.1 (some a0)) (h : RT T w) (h0 : D_c_Reader_weighLanguage F a0 T = some Tz) : m_Rb l M_51 (m_ent M_51 [.ref a0] w) (fun v w' => v = none ∧ RT Tz w' ∧ m_Fm w w') T Tz 5 500 := by
  rw [show m_ent M_51 [.ref a0] w = (0, [(0, .ref a0)], [], w) from by first | rfl | (simp only [m_ent, lv_args_r, lv_args_a, lv_args_i, lv_args_l, lv_args_0]; done) | (simp only [m_ent, lv_args_r, lv_args_a, lv_args_i, lv_args_l, lv_args_0]; rfl)]
  generalize hw0 : w = w0 at h ⊢
  have hF : m_Fm w0 w0 := m_Fm.refl
  rw [D_c_Reader_weighLanguage] at h0
  refine m_Rb.n0 b_51 (x_aload_n d_51_0 rfl) ?_
  obtain ⟨v1, e2, j3⟩ := bS h0
  refine m_Rb.tgetI b_51 d_51_1 rfl h e2 ?_
  obtain ⟨v11, e5, j12⟩ := bS j3
  have kk4 : ∀ (xz : Int32) (w1 : List mM), xz = v11 → RT T w1 → m_Fm w0 w1 → m_Rb l M_51 (16, [(0, .ref a0)], [.int xz], w1) (fun v w' => v = none ∧ RT Tz w' ∧ m_Fm w0 w') T Tz 5 500 := by
    intro xz w13 ez h13 f13
    rw [ez]
    refine m_Rb.n0 b_51 (x_istore_n d_51_16 rfl (show m_put1 _ _ _ = [(1, _), (0, _)] from rfl)) ?_
    refine m_Rb.n0 b_51 (x_aload_n d_51_17 rfl) ?_
    refine m_Rb.n0 b_51 (x_text d_51_18 rfl rfl) ?_
    obtain ⟨_, e14, j15⟩ := bS j12
    obtain ⟨_, g16⟩ := RT.cls h13 e14
    obtain ⟨v17, e18, j19⟩ := bS j15
    refine m_Rb.callI b_51 (y_cv d_51_20 rfl q_45 (m_isRecv_of rfl g16) (show m_takeI _ _ = some (_, [_, _], []) from m_takeI_of rfl rfl rfl (Nat.le_of_ble_eq_true rfl)) (by simp only [m_okf, List.all_cons, List.all_nil, Bool.and_true, Bool.and_self, m_okv_i, m_okv_l, m_okv_0, m_okv_n0, m_okv_t, RT.okn h13 ha0, RT.okv h13 ha0, m_okv_out (a := 18) (by decide)]) rfl) (T_c_Reader_isWord ha0 (by decide) h13 e18) f13 rfl (fun w20 h20 f20 k20 => ?_) (by decide) (by decide)
    cases hc52 : m_c1 .eq v17 with
    | true =>
      have j53 := cT hc52 j19
      refine m_Rb.n0 b_51 (x_ift d_51_23 rfl hc52) ?_
      refine m_Rb.n0 b_51 (x_aload_n d_51_36 rfl) ?_
      refine m_Rb.n0 b_51 (x_text d_51_37 rfl rfl) ?_
      obtain ⟨_, e54, j55⟩ := bS j53
      obtain ⟨_, g56⟩ := RT.cls h20 e54
      obtain ⟨v57, e58, j59⟩ := bS j55
      refine m_Rb.callI b_51 (y_cv d_51_39 rfl q_45 (m_isRecv_of rfl g56) (show m_takeI _ _ = some (_, [_, _], []) from m_takeI_of rfl rfl rfl (Nat.le_of_ble_eq_true rfl)) (by simp only [m_okf, List.all_cons, List.all_nil, Bool.and_true, Bool.and_self, m_okv_i, m_okv_l, m_okv_0, m_okv_n0, m_okv_t, RT.okn h20 ha0, RT.okv h20 ha0, m_okv_out (a := 19) (by decide)]) rfl) (T_c_Reader_isWord ha0 (by decide) h20 e58) f20 rfl (fun w60 h60 f60 k60 => ?_) (by decide) (by decide)
      cases hc83 : m_c1 .eq v57 with
      | true =>
        have j84 := cT hc83 j59
        refine m_Rb.n0 b_51 (x_ift d_51_42 rfl hc83) ?_
        refine m_Rb.n0 b_51 (x_aload_n d_51_55 rfl) ?_
        refine m_Rb.n0 b_51 (x_text d_51_56 rfl rfl) ?_
        obtain ⟨_, e85, j86⟩ := bS j84
        obtain ⟨_, g87⟩ := RT.cls h60 e85
        obtain ⟨v88, e89, j90⟩ := bS j86
        refine m_Rb.callI b_51 (y_cv d_51_58 rfl q_45 (m_isRecv_of rfl g87) (show m_takeI _ _ = some (_, [_, _], []) from m_takeI_of rfl rfl rfl (Nat.le_of_ble_eq_true rfl)) (by simp only [m_okf, List.all_cons, List.all_nil, Bool.and_true, Bool.and_self, m_okv_i, m_okv_l, m_okv_0, m_okv_n0, m_okv_t, RT.okn h60 ha0, RT.okv h60 ha0, m_okv_out (a := 20) (by decide)]) rfl) (T_c_Reader_isWord ha0 (by decide) h60 e89) f60 rfl (fun w91 h91 f91 k91 => ?_) (by decide) (by decide)
        cases hc105 : m_c1 .eq v88 with
        | true =>
          have j106 := cT hc105 j90
          refine m_Rb.n0 b_51 (x_ift d_51_61 rfl hc105) ?_
          refine m_Rb.n0 b_51 (x_aload_n d_51_74 rfl) ?_
          refine m_Rb.n0 b_51 (x_text d_51_75 rfl rfl) ?_
          obtain ⟨_, e107, j108⟩ := bS j106
          obtain ⟨_, g109⟩ := RT.cls h91 e107
          obtain ⟨v110, e111, j112⟩ := bS j108
          refine m_Rb.callI b_51 (y_cv d_51_77 rfl q_45 (m_isRecv_of rfl g109) (show m_takeI _ _ = some (_, [_, _], []) from m_takeI_of rfl rfl rfl (Nat.le_of_ble_eq_true rfl)) (by simp only [m_okf, List.all_cons, List.all_nil, Bool.and_true, Bool.and_self, m_okv_i, m_okv_l, m_okv_0, m_okv_n0, m_okv_t, RT.okn h91 ha0, RT.okv h91 ha0, m_okv_out (a := 21) (by decide)]) rfl) (T_c_Reader_isWord ha0 (by decide) h91 e111) f91 rfl (fun w113 h113 f113 k113 => ?_) (by decide) (by decide)
          cases hc118 : m_c1 .eq v110 with
          | true =>
            have j119 := cT hc118 j112
            refine m_Rb.n0 b_51 (x_ift d_51_80 rfl hc118) ?_
            cases j119
            exact m_Rb.ret b_51 (m_rt_vr d_51_90 rfl) ⟨rfl, h113, f113⟩
          | false =>
            have j119 := cF hc118 j112
            refine m_Rb.n0 b_51 (x_iff d_51_80 rfl hc118) ?_
            refine m_Rb.n0 b_51 (x_aload_n d_51_83 rfl) ?_
            obtain ⟨v120, e121, j122⟩ := bS j119
            refine m_Rb.tgetR b_51 d_51_84 rfl h113 e121 (fun o123 => ?_)
            refine m_Rb.n0 b_51 (x_iconst (z := 3) d_51_87 (by decide)) ?_
            refine m_Rb.n0 b_51 (x_iload_n d_51_88 rfl) ?_
            obtain ⟨a124, e125, j126⟩ := bS j122
            subst e125
            obtain ⟨T127, e128, j129⟩ := bS j126
            refine m_Rb.tputAI b_51 d_51_89 h113 f113 e128 (fun w130 h130 f130 k130 => ?_)
            cases j129
            exact m_Rb.ret b_51 (m_rt_vr d_51_90 rfl) ⟨rfl, h130, f130⟩
        | false =>
          have j106 := cF hc105 j90
          refine m_Rb.n0 b_51 (x_iff d_51_61 rfl hc105) ?_
          refine m_Rb.n0 b_51 (x_aload_n d_51_64 rfl) ?_
          obtain ⟨v131, e132, j133⟩ := bS j106
          refine m_Rb.tgetR b_51 d_51_65 rfl h91 e132 (fun o134 => ?_)
          refine m_Rb.n0 b_51 (x_iconst (z := 2) d_51_68 (by decide)) ?_
          refine m_Rb.n0 b_51 (x_iload_n d_51_69 rfl) ?_
          obtain ⟨a135, e136, j137⟩ := bS j133
          subst e136
          obtain ⟨T138, e139, j140⟩ := bS j137
          refine m_Rb.tputAI b_51 d_51_70 h91 f91 e139 (fun w141 h141 f141 k141 => ?_)
          refine m_Rb.n0 b_51 (x_goto d_51_71 rfl) ?_
          cases j140
          exact m_Rb.ret b_51 (m_rt_vr d_51_90 rfl) ⟨rfl, h141, f141⟩
      | false =>
        have j84 := cF hc83 j59
        refine m_Rb.n0 b_51 (x_iff d_51_42 rfl hc83) ?_
        refine m_Rb.n0 b_51 (x_aload_n d_51_45 rfl) ?_
        obtain ⟨v142, e143, j144⟩ := bS j84
        refine m_Rb.tgetR b_51 d_51_46 rfl h60 e143 (fun o145 => ?_)
        refine m_Rb.n0 b_51 (x_iconst (z := 1) d_51_49 (by decide)) ?_
        refine m_Rb.n0 b_51 (x_iload_n d_51_50 rfl) ?_
        obtain ⟨a146, e147, j148⟩ := bS j144
        subst e147
        obtain ⟨T149, e150, j151⟩ := bS j148
        refine m_Rb.tputAI b_51 d_51_51 h60 f60 e150 (fun w152 h152 f152 k152 => ?_)
        refine m_Rb.n0 b_51 (x_goto d_51_52 rfl) ?_
        cases j151
        exact m_Rb.ret b_51 (m_rt_vr d_51_90 rfl) ⟨rfl, h152, f152⟩
    | false =>
      have j53 := cF hc52 j19
      refine m_Rb.n0 b_51 (x_iff d_51_23 rfl hc52) ?_
      refine m_Rb.n0 b_51 (x_aload_n d_51_26 rfl) ?_
      obtain ⟨v153, e154, j155⟩ := bS j53
      refine m_Rb.tgetR b_51 d_51_27 rfl h20 e154 (fun o156 => ?_)
      refine m_Rb.n0 b_51 (x_iconst (z := 0) d_51_30 (by decide)) ?_
      refine m_Rb.n0 b_51 (x_iload_n d_51_31 rfl) ?_
      obtain ⟨a157, e158, j159⟩ := bS j155
      subst e158
      obtain ⟨T160, e161, j162⟩ := bS j159
      refine m_Rb.tputAI b_51 d_51_32 h20 f20 e161 (fun w163 h163 f163 k163 => ?_)
      refine m_Rb.n0 b_51 (x_goto d_51_33 rfl) ?_
      cases j162
      exact m_Rb.ret b_51 (m_rt_vr d_51_90 rfl) ⟨rfl, h163, f163⟩
  cases hc6 : m_c1 .eq v1 with
  | true =>
    have j7 := cT hc6 e5
    refine m_Rb.n0 b_51 (x_ift d_51_4 rfl hc6) ?_
    refine m_Rb.n0 b_51 (x_aload_n d_51_12 rfl) ?_
    obtain ⟨v8, e9, j10⟩ := bS j7
    refine m_Rb.tgetI b_51 d_51_13 rfl h e9 ?_
    exact kk4 _ _ (Option.some.inj j10) h hF
  | false =>
    have j7 := cF hc6 e5
    refine m_Rb.n0 b_51 (x_iff d_51_4 rfl hc6) ?_
    refine m_Rb.n0 b_51 (x_bipush (z := 9) d_51_7 (by decide)) ?_
    refine m_Rb.n0 b_51 (x_goto d_51_9 rfl) ?_
    exact kk4 _ _ (Option.some.inj j7) h hF
def D_c_Reader_weighForm (F : Nat) (a0 : Nat) (T : tT) : Option (tT) := (tcl T a0 1).bind fun _ => (D_c_Reader_isWord F a0 22 T).bind fun v4 => cond (m_c1 .eq v4) (some T) ((tgr T a0 1 13).bind fun v14 => (tgi T a0 1 8).bind fun v18 => (cond (m_c1 .ne v18) (some (1 : Int32)) ((tgi T a0 1 9).bind fun v25 => cond (m_c1 .le v25) (some (0 : Int32)) (some (1 : Int32)))).bind fun v30 => (v14).bind fun a33 => (tpi T a33 6 3 v30).bind fun T36 => some T36)
theorem T_c_Reader_weighForm {l : Launch} {w : List mM} {F : Nat} {a0 : Nat} {T : tT} {Tz : tT} (ha0 : okr T.2.1 (some a0)) (h : RT T w) (h0 : D_c_Reader_weighForm F a0 T = some Tz) : m_Rb l M_52 (m_ent M_52 [.ref a0] w) (fun v w' => v = none ∧ RT Tz w' ∧ m_Fm w w') T Tz 5 500 := by
  rw [show m_ent M_52 [.ref a0] w = (0, [(0, .ref a0)], [], w) from by first | rfl | (simp only [m_ent, lv_args_r, lv_args_a, lv_args_i, lv_args_l, lv_args_0]; done) | (simp only [m_ent, lv_args_r, lv_args_a, lv_args_i, lv_args_l, lv_args_0]; rfl)]
  generalize hw0 : w = w0 at h ⊢
  have hF : m_Fm w0 w0 := m_Fm.refl
  rw [D_c_Reader_weighForm] at h0
  refine m_Rb.n0 b_52 (x_aload_n d_52_0 rfl) ?_
  refine m_Rb.n0 b_52 (x_text d_52_1 rfl rfl) ?_
  obtain ⟨_, e1, j2⟩ := bS h0
  obtain ⟨_, g3⟩ := RT.cls h e1
  obtain ⟨v4, e5, j6⟩ := bS j2
  refine m_Rb.callI b_52 (y_cv d_52_3 rfl q_45 (m_isRecv_of rfl g3) (show m_takeI _ _ = some (_, [_, _], []) from m_takeI_of rfl rfl rfl (Nat.le_of_ble_eq_true rfl)) (by simp only [m_okf, List.all_cons, List.all_nil, Bool.and_true, Bool.and_self, m_okv_i, m_okv_l, m_okv_0, m_okv_n0, m_okv_t, RT.okn h ha0, RT.okv h ha0, m_okv_out (a := 22) (by decide)]) rfl) (T_c_Reader_isWord ha0 (by decide) h e5) hF rfl (fun w7 h7 f7 k7 => ?_) (by decide) (by decide)
  cases hc12 : m_c1 .eq v4 with
  | true =>
    have j13 := cT hc12 j6
    refine m_Rb.n0 b_52 (x_ift d_52_6 rfl hc12) ?_
    cases j13
    exact m_Rb.ret b_52 (m_rt_vr d_52_35 rfl) ⟨rfl, h7, f7⟩
  | false =>
    have j13 := cF hc12 j6
    refine m_Rb.n0 b_52 (x_iff d_52_6 rfl hc12) ?_
    refine m_Rb.n0 b_52 (x_aload_n d_52_9 rfl) ?_
    obtain ⟨v14, e15, j16⟩ := bS j13
    refine m_Rb.tgetR b_52 d_52_10 rfl h7 e15 (fun o17 => ?_)
    refine m_Rb.n0 b_52 (x_aload_n d_52_13 rfl) ?_
    obtain ⟨v18, e19, j20⟩ := bS j16
    refine m_Rb.tgetI b_52 d_52_14 rfl h7 e19 ?_
    obtain ⟨v30, e22, j31⟩ := bS j20
    have kk21 : ∀ (xz : Int32) (w1 : List mM), xz = v30 → RT T w1 → m_Fm w0 w1 → m_Rb l M_52 (32, [(0, .ref a0)], [.int xz, rv v14], w1) (fun v w' => v = none ∧ RT Tz w' ∧ m_Fm w0 w') T Tz 5 500 := by
      intro xz w32 ez h32 f32
      rw [ez]
      obtain ⟨a33, e34, j35⟩ := bS j31
      subst e34
      obtain ⟨T36, e37, j38⟩ := bS j35
      refine m_Rb.tputI b_52 d_52_32 rfl rfl (by decide) h32 f32 e37 (fun w39 h39 f39 k39 => ?_)
      cases j38
      exact m_Rb.ret b_52 (m_rt_vr d_52_35 rfl) ⟨rfl, h39, f39⟩
    cases hc23 : m_c1 .ne v18 with
    | true =>
      have j24 := cT hc23 e22
      refine m_Rb.n0 b_52 (x_ift d_52_17 rfl hc23) ?_
      refine m_Rb.n0 b_52 (x_iconst (z := 1) d_52_27 (by decide)) ?_
      refine m_Rb.n0 b_52 (x_goto d_52_28 rfl) ?_
      exact kk21 _ _ (Option.some.inj j24) h7 f7
    | false =>
      have j24 := cF hc23 e22
      refine m_Rb.n0 b_52 (x_iff d_52_17 rfl hc23) ?_
      refine m_Rb.n0 b_52 (x_aload_n d_52_20 rfl) ?_
      obtain ⟨v25, e26, j27⟩ := bS j24
      refine m_Rb.tgetI b_52 d_52_21 rfl h7 e26 ?_
      cases hc28 : m_c1 .le v25 with
      | true =>
        have j29 := cT hc28 j27
        refine m_Rb.n0 b_52 (x_ift d_52_24 rfl hc28) ?_
        refine m_Rb.n0 b_52 (x_iconst (z := 0) d_52_31 (by decide)) ?_
        exact kk21 _ _ (Option.some.inj j29) h7 f7
      | false =>
        have j29 := cF hc28 j27
        refine m_Rb.n0 b_52 (x_iff d_52_24 rfl hc28) ?_
        refine m_Rb.n0 b_52 (x_iconst (z := 1) d_52_27 (by decide)) ?_
        refine m_Rb.n0 b_52 (x_goto d_52_28 rfl) ?_
        exact kk21 _ _ (Option.some.inj j29) h7 f7
def D_c_Reader_countAsked_122 (F : Nat) (x0 : Nat) (T : tT) : Option (tT) := (tgi T x0 1 8).bind fun v220 => cond (m_c1 .ne v220) (some T) ((tcl T x0 1).bind fun _ => (D_c_Reader_isWord F x0 27 T).bind fun v232 => cond (m_c1 .eq v232) (some T) ((tgr T x0 1 13).bind fun v242 => (tgi T x0 1 9).bind fun v246 => (v242).bind fun a249 => (tpi T a249 6 9 v246).bind fun T252 => some T252))
theorem T_c_Reader_countAsked_122 {l : Launch} {w0 : List mM} {F : Nat} {x0 : Nat} {T : tT} {w : List mM} {Tz : tT} (hx0 : okr T.2.1 (some x0)) (h : RT T w) (hF : m_Fm w0 w) (h0 : D_c_Reader_countAsked_122 F x0 T = some Tz) : m_Rb l M_53 (122, [(0, .ref x0)], [], w) (fun v w' => v = none ∧ RT Tz w' ∧ m_Fm w0 w') T Tz 5 500 := by
  rw [D_c_Reader_countAsked_122] at h0
  refine m_Rb.n0 b_53 (x_aload_n d_53_122 rfl) ?_
  obtain ⟨v220, e221, j222⟩ := bS h0
  refine m_Rb.tgetI b_53 d_53_123 rfl h e221 ?_
  cases hc227 : m_c1 .ne v220 with
  | true =>
    have j228 := cT hc227 j222
    refine m_Rb.n0 b_53 (x_ift d_53_126 rfl hc227) ?_
    cases j228
    exact m_Rb.ret b_53 (m_rt_vr d_53_150 rfl) ⟨rfl, h, hF⟩
  | false =>
    have j228 := cF hc227 j222
    refine m_Rb.n0 b_53 (x_iff d_53_126 rfl hc227) ?_
    refine m_Rb.n0 b_53 (x_aload_n d_53_129 rfl) ?_
    refine m_Rb.n0 b_53 (x_textw d_53_130 rfl rfl) ?_
    obtain ⟨_, e229, j230⟩ := bS j228
    obtain ⟨_, g231⟩ := RT.cls h e229
    obtain ⟨v232, e233, j234⟩ := bS j230
    refine m_Rb.callI b_53 (y_cv d_53_133 rfl q_45 (m_isRecv_of rfl g231) (show m_takeI _ _ = some (_, [_, _], []) from m_takeI_of rfl rfl rfl (Nat.le_of_ble_eq_true rfl)) (by simp only [m_okf, List.all_cons, List.all_nil, Bool.and_true, Bool.and_self, m_okv_i, m_okv_l, m_okv_0, m_okv_n0, m_okv_t, RT.okn h hx0, RT.okv h hx0, m_okv_out (a := 27) (by decide)]) rfl) (T_c_Reader_isWord hx0 (by decide) h e233) hF rfl (fun w235 h235 f235 k235 => ?_) (by decide) (by decide)
    cases hc240 : m_c1 .eq v232 with
    | true =>
      have j241 := cT hc240 j234
      refine m_Rb.n0 b_53 (x_ift d_53_136 rfl hc240) ?_
      cases j241
      exact m_Rb.ret b_53 (m_rt_vr d_53_150 rfl) ⟨rfl, h235, f235⟩
    | false =>
      have j241 := cF hc240 j234
      refine m_Rb.n0 b_53 (x_iff d_53_136 rfl hc240) ?_
      refine m_Rb.n0 b_53 (x_aload_n d_53_139 rfl) ?_
      obtain ⟨v242, e243, j244⟩ := bS j241
      refine m_Rb.tgetR b_53 d_53_140 rfl h235 e243 (fun o245 => ?_)
      refine m_Rb.n0 b_53 (x_aload_n d_53_143 rfl) ?_
      obtain ⟨v246, e247, j248⟩ := bS j244
      refine m_Rb.tgetI b_53 d_53_144 rfl h235 e247 ?_
      obtain ⟨a249, e250, j251⟩ := bS j248
      subst e250
      obtain ⟨T252, e253, j254⟩ := bS j251
      refine m_Rb.tputI b_53 d_53_147 rfl rfl (by decide) h235 f235 e253 (fun w255 h255 f255 k255 => ?_)
      cases j254
      exact m_Rb.ret b_53 (m_rt_vr d_53_150 rfl) ⟨rfl, h255, f255⟩
def D_c_Reader_countAsked_91 (F : Nat) (x0 : Nat) (T : tT) : Option (tT) := (tgi T x0 1 8).bind fun v174 => cond (m_c1 .ne v174) (D_c_Reader_countAsked_122 F x0 T) ((tcl T x0 1).bind fun _ => (D_c_Reader_isWord F x0 26 T).bind fun v191 => cond (m_c1 .eq v191) (D_c_Reader_countAsked_122 F x0 T) ((tgr T x0 1 13).bind fun v206 => (tgi T x0 1 9).bind fun v210 => (v206).bind fun a213 => (tpi T a213 6 8 v210).bind fun T216 => some T216))
theorem T_c_Reader_countAsked_91 {l : Launch} {w0 : List mM} {F : Nat} {x0 : Nat} {T : tT} {w : List mM} {Tz : tT} (hx0 : okr T.2.1 (some x0)) (h : RT T w) (hF : m_Fm w0 w) (h0 : D_c_Reader_countAsked_91 F x0 T = some Tz) : m_Rb l M_53 (91, [(0, .ref x0)], [], w) (fun v w' => v = none ∧ RT Tz w' ∧ m_Fm w0 w') T Tz 5 500 := by
  rw [D_c_Reader_countAsked_91] at h0
  refine m_Rb.n0 b_53 (x_aload_n d_53_91 rfl) ?_
  obtain ⟨v174, e175, j176⟩ := bS h0
  refine m_Rb.tgetI b_53 d_53_92 rfl h e175 ?_
  cases hc186 : m_c1 .ne v174 with
  | true =>
    have j187 := cT hc186 j176
    refine m_Rb.n0 b_53 (x_ift d_53_95 rfl hc186) ?_
    exact m_Rb.pick [0] rfl (T_c_Reader_countAsked_122 hx0 h hF j187)
  | false =>
    have j187 := cF hc186 j176
    refine m_Rb.n0 b_53 (x_iff d_53_95 rfl hc186) ?_
    refine m_Rb.n0 b_53 (x_aload_n d_53_98 rfl) ?_
    refine m_Rb.n0 b_53 (x_textw d_53_99 rfl rfl) ?_
    obtain ⟨_, e188, j189⟩ := bS j187
    obtain ⟨_, g190⟩ := RT.cls h e188
    obtain ⟨v191, e192, j193⟩ := bS j189
    refine m_Rb.callI b_53 (y_cv d_53_102 rfl q_45 (m_isRecv_of rfl g190) (show m_takeI _ _ = some (_, [_, _], []) from m_takeI_of rfl rfl rfl (Nat.le_of_ble_eq_true rfl)) (by simp only [m_okf, List.all_cons, List.all_nil, Bool.and_true, Bool.and_self, m_okv_i, m_okv_l, m_okv_0, m_okv_n0, m_okv_t, RT.okn h hx0, RT.okv h hx0, m_okv_out (a := 26) (by decide)]) rfl) (T_c_Reader_isWord hx0 (by decide) h e192) hF rfl (fun w194 h194 f194 k194 => ?_) (by decide) (by decide)
    cases hc204 : m_c1 .eq v191 with
    | true =>
      have j205 := cT hc204 j193
      refine m_Rb.n0 b_53 (x_ift d_53_105 rfl hc204) ?_
      exact m_Rb.pick [0] rfl (T_c_Reader_countAsked_122 hx0 h194 f194 j205)
    | false =>
      have j205 := cF hc204 j193
      refine m_Rb.n0 b_53 (x_iff d_53_105 rfl hc204) ?_
      refine m_Rb.n0 b_53 (x_aload_n d_53_108 rfl) ?_
      obtain ⟨v206, e207, j208⟩ := bS j205
      refine m_Rb.tgetR b_53 d_53_109 rfl h194 e207 (fun o209 => ?_)
      refine m_Rb.n0 b_53 (x_aload_n d_53_112 rfl) ?_
      obtain ⟨v210, e211, j212⟩ := bS j208
      refine m_Rb.tgetI b_53 d_53_113 rfl h194 e211 ?_
      obtain ⟨a213, e214, j215⟩ := bS j212
      subst e214
      obtain ⟨T216, e217, j218⟩ := bS j215
      refine m_Rb.tputI b_53 d_53_116 rfl rfl (by decide) h194 f194 e217 (fun w219 h219 f219 k219 => ?_)
      refine m_Rb.n0 b_53 (x_goto d_53_119 rfl) ?_
      cases j218
      exact m_Rb.ret b_53 (m_rt_vr d_53_150 rfl) ⟨rfl, h219, f219⟩
def D_c_Reader_countAsked_63 (F : Nat) (x0 : Nat) (T : tT) : Option (tT) := (tgi T x0 1 8).bind fun v121 => cond (m_c1 .eq v121) (D_c_Reader_countAsked_91 F x0 T) ((tcl T x0 1).bind fun _ => (D_c_Reader_isWord F x0 25 T).bind fun v143 => cond (m_c1 .eq v143) (D_c_Reader_countAsked_91 F x0 T) ((tgr T x0 1 13).bind fun v163 => (v163).bind fun a167 => (tpz T a167 6 7 (1 : Int32)).bind fun T170 => some T170))
theorem T_c_Reader_countAsked_63 {l : Launch} {w0 : List mM} {F : Nat} {x0 : Nat} {T : tT} {w : List mM} {Tz : tT} (hx0 : okr T.2.1 (some x0)) (h : RT T w) (hF : m_Fm w0 w) (h0 : D_c_Reader_countAsked_63 F x0 T = some Tz) : m_Rb l M_53 (63, [(0, .ref x0)], [], w) (fun v w' => v = none ∧ RT Tz w' ∧ m_Fm w0 w') T Tz 5 500 := by
  rw [D_c_Reader_countAsked_63] at h0
  refine m_Rb.n0 b_53 (x_aload_n d_53_63 rfl) ?_
  obtain ⟨v121, e122, j123⟩ := bS h0
  refine m_Rb.tgetI b_53 d_53_64 rfl h e122 ?_
  cases hc138 : m_c1 .eq v121 with
  | true =>
    have j139 := cT hc138 j123
    refine m_Rb.n0 b_53 (x_ift d_53_67 rfl hc138) ?_
    exact m_Rb.pick [0] rfl (T_c_Reader_countAsked_91 hx0 h hF j139)
  | false =>
    have j139 := cF hc138 j123
    refine m_Rb.n0 b_53 (x_iff d_53_67 rfl hc138) ?_
    refine m_Rb.n0 b_53 (x_aload_n d_53_70 rfl) ?_
    refine m_Rb.n0 b_53 (x_textw d_53_71 rfl rfl) ?_
    obtain ⟨_, e140, j141⟩ := bS j139
    obtain ⟨_, g142⟩ := RT.cls h e140
    obtain ⟨v143, e144, j145⟩ := bS j141
    refine m_Rb.callI b_53 (y_cv d_53_74 rfl q_45 (m_isRecv_of rfl g142) (show m_takeI _ _ = some (_, [_, _], []) from m_takeI_of rfl rfl rfl (Nat.le_of_ble_eq_true rfl)) (by simp only [m_okf, List.all_cons, List.all_nil, Bool.and_true, Bool.and_self, m_okv_i, m_okv_l, m_okv_0, m_okv_n0, m_okv_t, RT.okn h hx0, RT.okv h hx0, m_okv_out (a := 25) (by decide)]) rfl) (T_c_Reader_isWord hx0 (by decide) h e144) hF rfl (fun w146 h146 f146 k146 => ?_) (by decide) (by decide)
    cases hc161 : m_c1 .eq v143 with
    | true =>
      have j162 := cT hc161 j145
      refine m_Rb.n0 b_53 (x_ift d_53_77 rfl hc161) ?_
      exact m_Rb.pick [0] rfl (T_c_Reader_countAsked_91 hx0 h146 f146 j162)
    | false =>
      have j162 := cF hc161 j145
      refine m_Rb.n0 b_53 (x_iff d_53_77 rfl hc161) ?_
      refine m_Rb.n0 b_53 (x_aload_n d_53_80 rfl) ?_
      obtain ⟨v163, e164, j165⟩ := bS j162
      refine m_Rb.tgetR b_53 d_53_81 rfl h146 e164 (fun o166 => ?_)
      refine m_Rb.n0 b_53 (x_iconst (z := 1) d_53_84 (by decide)) ?_
      obtain ⟨a167, e168, j169⟩ := bS j165
      subst e168
      obtain ⟨T170, e171, j172⟩ := bS j169
      refine m_Rb.tputZ b_53 d_53_85 rfl rfl (by decide) h146 f146 e171 (fun w173 h173 f173 k173 => ?_)
      refine m_Rb.n0 b_53 (x_goto d_53_88 rfl) ?_
      cases j172
      exact m_Rb.ret b_53 (m_rt_vr d_53_150 rfl) ⟨rfl, h173, f173⟩
def D_c_Reader_countAsked (F : Nat) (a0 : Nat) (T : tT) : Option (tT) := (tcl T a0 1).bind fun _ => (D_c_Reader_isWord F a0 23 T).bind fun v4 => cond (m_c1 .eq v4) ((tgi T a0 1 8).bind fun v34 => cond (m_c1 .eq v34) (D_c_Reader_countAsked_63 F a0 T) ((tcl T a0 1).bind fun _ => (D_c_Reader_isWord F a0 24 T).bind fun v61 => cond (m_c1 .eq v61) (D_c_Reader_countAsked_63 F a0 T) ((tgr T a0 1 13).bind fun v86 => (v86).bind fun a90 => (tpz T a90 6 6 (1 : Int32)).bind fun T93 => some T93))) ((tgr T a0 1 13).bind fun v97 => (tgi T a0 1 8).bind fun v101 => (cond (m_c1 .eq v101) ((tgi T a0 1 9).bind fun v108 => some v108) (some (1000000 : Int32))).bind fun v111 => (v97).bind fun a114 => (tpi T a114 6 10 v111).bind fun T117 => some T117)
theorem T_c_Reader_countAsked {l : Launch} {w : List mM} {F : Nat} {a0 : Nat} {T : tT} {Tz : tT} (ha0 : okr T.2.1 (some a0)) (h : RT T w) (h0 : D_c_Reader_countAsked F a0 T = some Tz) : m_Rb l M_53 (m_ent M_53 [.ref a0] w) (fun v w' => v = none ∧ RT Tz w' ∧ m_Fm w w') T Tz 5 500 := by
  rw [show m_ent M_53 [.ref a0] w = (0, [(0, .ref a0)], [], w) from by first | rfl | (simp only [m_ent, lv_args_r, lv_args_a, lv_args_i, lv_args_l, lv_args_0]; done) | (simp only [m_ent, lv_args_r, lv_args_a, lv_args_i, lv_args_l, lv_args_0]; rfl)]
  generalize hw0 : w = w0 at h ⊢
  have hF : m_Fm w0 w0 := m_Fm.refl
  rw [D_c_Reader_countAsked] at h0
  refine m_Rb.n0 b_53 (x_aload_n d_53_0 rfl) ?_
  refine m_Rb.n0 b_53 (x_text d_53_1 rfl rfl) ?_
  obtain ⟨_, e1, j2⟩ := bS h0
  obtain ⟨_, g3⟩ := RT.cls h e1
  obtain ⟨v4, e5, j6⟩ := bS j2
  refine m_Rb.callI b_53 (y_cv d_53_3 rfl q_45 (m_isRecv_of rfl g3) (show m_takeI _ _ = some (_, [_, _], []) from m_takeI_of rfl rfl rfl (Nat.le_of_ble_eq_true rfl)) (by simp only [m_okf, List.all_cons, List.all_nil, Bool.and_true, Bool.and_self, m_okv_i, m_okv_l, m_okv_0, m_okv_n0, m_okv_t, RT.okn h ha0, RT.okv h ha0, m_okv_out (a := 23) (by decide)]) rfl) (T_c_Reader_isWord ha0 (by decide) h e5) hF rfl (fun w7 h7 f7 k7 => ?_) (by decide) (by decide)
  cases hc32 : m_c1 .eq v4 with
  | true =>
    have j33 := cT hc32 j6
    refine m_Rb.n0 b_53 (x_ift d_53_6 rfl hc32) ?_
    refine m_Rb.n0 b_53 (x_aload_n d_53_35 rfl) ?_
    obtain ⟨v34, e35, j36⟩ := bS j33
    refine m_Rb.tgetI b_53 d_53_36 rfl h7 e35 ?_
    cases hc56 : m_c1 .eq v34 with
    | true =>
      have j57 := cT hc56 j36
      refine m_Rb.n0 b_53 (x_ift d_53_39 rfl hc56) ?_
      exact m_Rb.pick [0] rfl (T_c_Reader_countAsked_63 ha0 h7 f7 j57)
    | false =>
      have j57 := cF hc56 j36
      refine m_Rb.n0 b_53 (x_iff d_53_39 rfl hc56) ?_
      refine m_Rb.n0 b_53 (x_aload_n d_53_42 rfl) ?_
      refine m_Rb.n0 b_53 (x_textw d_53_43 rfl rfl) ?_
      obtain ⟨_, e58, j59⟩ := bS j57
      obtain ⟨_, g60⟩ := RT.cls h7 e58
      obtain ⟨v61, e62, j63⟩ := bS j59
      refine m_Rb.callI b_53 (y_cv d_53_46 rfl q_45 (m_isRecv_of rfl g60) (show m_takeI _ _ = some (_, [_, _], []) from m_takeI_of rfl rfl rfl (Nat.le_of_ble_eq_true rfl)) (by simp only [m_okf, List.all_cons, List.all_nil, Bool.and_true, Bool.and_self, m_okv_i, m_okv_l, m_okv_0, m_okv_n0, m_okv_t, RT.okn h7 ha0, RT.okv h7 ha0, m_okv_out (a := 24) (by decide)]) rfl) (T_c_Reader_isWord ha0 (by decide) h7 e62) f7 rfl (fun w64 h64 f64 k64 => ?_) (by decide) (by decide)
      cases hc84 : m_c1 .eq v61 with
      | true =>
        have j85 := cT hc84 j63
        refine m_Rb.n0 b_53 (x_ift d_53_49 rfl hc84) ?_
        exact m_Rb.pick [0] rfl (T_c_Reader_countAsked_63 ha0 h64 f64 j85)
      | false =>
        have j85 := cF hc84 j63
        refine m_Rb.n0 b_53 (x_iff d_53_49 rfl hc84) ?_
        refine m_Rb.n0 b_53 (x_aload_n d_53_52 rfl) ?_
        obtain ⟨v86, e87, j88⟩ := bS j85
        refine m_Rb.tgetR b_53 d_53_53 rfl h64 e87 (fun o89 => ?_)
        refine m_Rb.n0 b_53 (x_iconst (z := 1) d_53_56 (by decide)) ?_
        obtain ⟨a90, e91, j92⟩ := bS j88
        subst e91
        obtain ⟨T93, e94, j95⟩ := bS j92
        refine m_Rb.tputZ b_53 d_53_57 rfl rfl (by decide) h64 f64 e94 (fun w96 h96 f96 k96 => ?_)
        refine m_Rb.n0 b_53 (x_goto d_53_60 rfl) ?_
        cases j95
        exact m_Rb.ret b_53 (m_rt_vr d_53_150 rfl) ⟨rfl, h96, f96⟩
  | false =>
    have j33 := cF hc32 j6
    refine m_Rb.n0 b_53 (x_iff d_53_6 rfl hc32) ?_
    refine m_Rb.n0 b_53 (x_aload_n d_53_9 rfl) ?_
    obtain ⟨v97, e98, j99⟩ := bS j33
    refine m_Rb.tgetR b_53 d_53_10 rfl h7 e98 (fun o100 => ?_)
    refine m_Rb.n0 b_53 (x_aload_n d_53_13 rfl) ?_
    obtain ⟨v101, e102, j103⟩ := bS j99
    refine m_Rb.tgetI b_53 d_53_14 rfl h7 e102 ?_
    obtain ⟨v111, e105, j112⟩ := bS j103
    have kk104 : ∀ (xz : Int32) (w1 : List mM), xz = v111 → RT T w1 → m_Fm w0 w1 → m_Rb l M_53 (29, [(0, .ref a0)], [.int xz, rv v97], w1) (fun v w' => v = none ∧ RT Tz w' ∧ m_Fm w0 w') T Tz 5 500 := by
      intro xz w113 ez h113 f113
      rw [ez]
      obtain ⟨a114, e115, j116⟩ := bS j112
      subst e115
      obtain ⟨T117, e118, j119⟩ := bS j116
      refine m_Rb.tputI b_53 d_53_29 rfl rfl (by decide) h113 f113 e118 (fun w120 h120 f120 k120 => ?_)
      refine m_Rb.n0 b_53 (x_goto d_53_32 rfl) ?_
      cases j119
      exact m_Rb.ret b_53 (m_rt_vr d_53_150 rfl) ⟨rfl, h120, f120⟩
    cases hc106 : m_c1 .eq v101 with
    | true =>
      have j107 := cT hc106 e105
      refine m_Rb.n0 b_53 (x_ift d_53_17 rfl hc106) ?_
      refine m_Rb.n0 b_53 (x_aload_n d_53_25 rfl) ?_
      obtain ⟨v108, e109, j110⟩ := bS j107
      refine m_Rb.tgetI b_53 d_53_26 rfl h7 e109 ?_
      exact kk104 _ _ (Option.some.inj j110) h7 f7
    | false =>
      have j107 := cF hc106 e105
      refine m_Rb.n0 b_53 (x_iff d_53_17 rfl hc106) ?_
      refine m_Rb.n0 b_53 (x_ldc (v := .int 1000000) d_53_20 rfl) ?_
      refine m_Rb.n0 b_53 (x_goto d_53_22 rfl) ?_
      exact kk104 _ _ (Option.some.inj j107) h7 f7
def D_c_Reader_countKeeping_118 (F : Nat) (x0 : Nat) (T : tT) : Option (tT) := (tgi T x0 1 8).bind fun v239 => cond (m_c1 .ne v239) (some T) ((tcl T x0 1).bind fun _ => (D_c_Reader_isWord F x0 30 T).bind fun v251 => cond (m_c1 .eq v251) (some T) ((tgr T x0 1 15).bind fun v261 => (tgi T x0 1 9).bind fun v265 => (v261).bind fun a268 => (tpi T a268 13 5 v265).bind fun T271 => some T271))
theorem T_c_Reader_countKeeping_118 {l : Launch} {w0 : List mM} {F : Nat} {x0 : Nat} {T : tT} {w : List mM} {Tz : tT} (hx0 : okr T.2.1 (some x0)) (h : RT T w) (hF : m_Fm w0 w) (h0 : D_c_Reader_countKeeping_118 F x0 T = some Tz) : m_Rb l M_54 (118, [(0, .ref x0)], [], w) (fun v w' => v = none ∧ RT Tz w' ∧ m_Fm w0 w') T Tz 5 500 := by
  rw [D_c_Reader_countKeeping_118] at h0
  refine m_Rb.n0 b_54 (x_aload_n d_54_118 rfl) ?_
  obtain ⟨v239, e240, j241⟩ := bS h0
  refine m_Rb.tgetI b_54 d_54_119 rfl h e240 ?_
  cases hc246 : m_c1 .ne v239 with
  | true =>
    have j247 := cT hc246 j241
    refine m_Rb.n0 b_54 (x_ift d_54_122 rfl hc246) ?_
    cases j247
    exact m_Rb.ret b_54 (m_rt_vr d_54_146 rfl) ⟨rfl, h, hF⟩
  | false =>
    have j247 := cF hc246 j241
    refine m_Rb.n0 b_54 (x_iff d_54_122 rfl hc246) ?_
    refine m_Rb.n0 b_54 (x_aload_n d_54_125 rfl) ?_
    refine m_Rb.n0 b_54 (x_textw d_54_126 rfl rfl) ?_
    obtain ⟨_, e248, j249⟩ := bS j247
    obtain ⟨_, g250⟩ := RT.cls h e248
    obtain ⟨v251, e252, j253⟩ := bS j249
    refine m_Rb.callI b_54 (y_cv d_54_129 rfl q_45 (m_isRecv_of rfl g250) (show m_takeI _ _ = some (_, [_, _], []) from m_takeI_of rfl rfl rfl (Nat.le_of_ble_eq_true rfl)) (by simp only [m_okf, List.all_cons, List.all_nil, Bool.and_true, Bool.and_self, m_okv_i, m_okv_l, m_okv_0, m_okv_n0, m_okv_t, RT.okn h hx0, RT.okv h hx0, m_okv_out (a := 30) (by decide)]) rfl) (T_c_Reader_isWord hx0 (by decide) h e252) hF rfl (fun w254 h254 f254 k254 => ?_) (by decide) (by decide)
    cases hc259 : m_c1 .eq v251 with
    | true =>
      have j260 := cT hc259 j253
      refine m_Rb.n0 b_54 (x_ift d_54_132 rfl hc259) ?_
      cases j260
      exact m_Rb.ret b_54 (m_rt_vr d_54_146 rfl) ⟨rfl, h254, f254⟩
    | false =>
      have j260 := cF hc259 j253
      refine m_Rb.n0 b_54 (x_iff d_54_132 rfl hc259) ?_
      refine m_Rb.n0 b_54 (x_aload_n d_54_135 rfl) ?_
      obtain ⟨v261, e262, j263⟩ := bS j260
      refine m_Rb.tgetR b_54 d_54_136 rfl h254 e262 (fun o264 => ?_)
      refine m_Rb.n0 b_54 (x_aload_n d_54_139 rfl) ?_
      obtain ⟨v265, e266, j267⟩ := bS j263
      refine m_Rb.tgetI b_54 d_54_140 rfl h254 e266 ?_
      obtain ⟨a268, e269, j270⟩ := bS j267
      subst e269
      obtain ⟨T271, e272, j273⟩ := bS j270
      refine m_Rb.tputI b_54 d_54_143 rfl rfl (by decide) h254 f254 e272 (fun w274 h274 f274 k274 => ?_)
      cases j273
      exact m_Rb.ret b_54 (m_rt_vr d_54_146 rfl) ⟨rfl, h274, f274⟩
def D_c_Reader_countKeeping_87 (F : Nat) (x0 : Nat) (T : tT) : Option (tT) := (tgi T x0 1 8).bind fun v193 => cond (m_c1 .ne v193) (D_c_Reader_countKeeping_118 F x0 T) ((tcl T x0 1).bind fun _ => (D_c_Reader_isWord F x0 29 T).bind fun v210 => cond (m_c1 .eq v210) (D_c_Reader_countKeeping_118 F x0 T) ((tgr T x0 1 15).bind fun v225 => (tgi T x0 1 9).bind fun v229 => (v225).bind fun a232 => (tpi T a232 13 4 v229).bind fun T235 => some T235))
theorem T_c_Reader_countKeeping_87 {l : Launch} {w0 : List mM} {F : Nat} {x0 : Nat} {T : tT} {w : List mM} {Tz : tT} (hx0 : okr T.2.1 (some x0)) (h : RT T w) (hF : m_Fm w0 w) (h0 : D_c_Reader_countKeeping_87 F x0 T = some Tz) : m_Rb l M_54 (87, [(0, .ref x0)], [], w) (fun v w' => v = none ∧ RT Tz w' ∧ m_Fm w0 w') T Tz 5 500 := by
  rw [D_c_Reader_countKeeping_87] at h0
  refine m_Rb.n0 b_54 (x_aload_n d_54_87 rfl) ?_
  obtain ⟨v193, e194, j195⟩ := bS h0
  refine m_Rb.tgetI b_54 d_54_88 rfl h e194 ?_
  cases hc205 : m_c1 .ne v193 with
  | true =>
    have j206 := cT hc205 j195
    refine m_Rb.n0 b_54 (x_ift d_54_91 rfl hc205) ?_
    exact m_Rb.pick [0] rfl (T_c_Reader_countKeeping_118 hx0 h hF j206)
  | false =>
    have j206 := cF hc205 j195
    refine m_Rb.n0 b_54 (x_iff d_54_91 rfl hc205) ?_
    refine m_Rb.n0 b_54 (x_aload_n d_54_94 rfl) ?_
    refine m_Rb.n0 b_54 (x_textw d_54_95 rfl rfl) ?_
    obtain ⟨_, e207, j208⟩ := bS j206
    obtain ⟨_, g209⟩ := RT.cls h e207
    obtain ⟨v210, e211, j212⟩ := bS j208
    refine m_Rb.callI b_54 (y_cv d_54_98 rfl q_45 (m_isRecv_of rfl g209) (show m_takeI _ _ = some (_, [_, _], []) from m_takeI_of rfl rfl rfl (Nat.le_of_ble_eq_true rfl)) (by simp only [m_okf, List.all_cons, List.all_nil, Bool.and_true, Bool.and_self, m_okv_i, m_okv_l, m_okv_0, m_okv_n0, m_okv_t, RT.okn h hx0, RT.okv h hx0, m_okv_out (a := 29) (by decide)]) rfl) (T_c_Reader_isWord hx0 (by decide) h e211) hF rfl (fun w213 h213 f213 k213 => ?_) (by decide) (by decide)
    cases hc223 : m_c1 .eq v210 with
    | true =>
      have j224 := cT hc223 j212
      refine m_Rb.n0 b_54 (x_ift d_54_101 rfl hc223) ?_
      exact m_Rb.pick [0] rfl (T_c_Reader_countKeeping_118 hx0 h213 f213 j224)
    | false =>
      have j224 := cF hc223 j212
      refine m_Rb.n0 b_54 (x_iff d_54_101 rfl hc223) ?_
      refine m_Rb.n0 b_54 (x_aload_n d_54_104 rfl) ?_
      obtain ⟨v225, e226, j227⟩ := bS j224
      refine m_Rb.tgetR b_54 d_54_105 rfl h213 e226 (fun o228 => ?_)
      refine m_Rb.n0 b_54 (x_aload_n d_54_108 rfl) ?_
      obtain ⟨v229, e230, j231⟩ := bS j227
      refine m_Rb.tgetI b_54 d_54_109 rfl h213 e230 ?_
      obtain ⟨a232, e233, j234⟩ := bS j231
      subst e233
      obtain ⟨T235, e236, j237⟩ := bS j234
      refine m_Rb.tputI b_54 d_54_112 rfl rfl (by decide) h213 f213 e236 (fun w238 h238 f238 k238 => ?_)
      refine m_Rb.n0 b_54 (x_goto d_54_115 rfl) ?_
      cases j237
      exact m_Rb.ret b_54 (m_rt_vr d_54_146 rfl) ⟨rfl, h238, f238⟩
def D_c_Reader_countKeeping_56 (F : Nat) (x0 : Nat) (T : tT) : Option (tT) := (tgi T x0 1 8).bind fun v137 => cond (m_c1 .ne v137) (D_c_Reader_countKeeping_87 F x0 T) ((tcl T x0 1).bind fun _ => (D_c_Reader_isWord F x0 26 T).bind fun v159 => cond (m_c1 .eq v159) (D_c_Reader_countKeeping_87 F x0 T) ((tgr T x0 1 15).bind fun v179 => (tgi T x0 1 9).bind fun v183 => (v179).bind fun a186 => (tpi T a186 13 3 v183).bind fun T189 => some T189))
theorem T_c_Reader_countKeeping_56 {l : Launch} {w0 : List mM} {F : Nat} {x0 : Nat} {T : tT} {w : List mM} {Tz : tT} (hx0 : okr T.2.1 (some x0)) (h : RT T w) (hF : m_Fm w0 w) (h0 : D_c_Reader_countKeeping_56 F x0 T = some Tz) : m_Rb l M_54 (56, [(0, .ref x0)], [], w) (fun v w' => v = none ∧ RT Tz w' ∧ m_Fm w0 w') T Tz 5 500 := by
  rw [D_c_Reader_countKeeping_56] at h0
  refine m_Rb.n0 b_54 (x_aload_n d_54_56 rfl) ?_
  obtain ⟨v137, e138, j139⟩ := bS h0
  refine m_Rb.tgetI b_54 d_54_57 rfl h e138 ?_
  cases hc154 : m_c1 .ne v137 with
  | true =>
    have j155 := cT hc154 j139
    refine m_Rb.n0 b_54 (x_ift d_54_60 rfl hc154) ?_
    exact m_Rb.pick [0] rfl (T_c_Reader_countKeeping_87 hx0 h hF j155)
  | false =>
    have j155 := cF hc154 j139
    refine m_Rb.n0 b_54 (x_iff d_54_60 rfl hc154) ?_
    refine m_Rb.n0 b_54 (x_aload_n d_54_63 rfl) ?_
    refine m_Rb.n0 b_54 (x_textw d_54_64 rfl rfl) ?_
    obtain ⟨_, e156, j157⟩ := bS j155
    obtain ⟨_, g158⟩ := RT.cls h e156
    obtain ⟨v159, e160, j161⟩ := bS j157
    refine m_Rb.callI b_54 (y_cv d_54_67 rfl q_45 (m_isRecv_of rfl g158) (show m_takeI _ _ = some (_, [_, _], []) from m_takeI_of rfl rfl rfl (Nat.le_of_ble_eq_true rfl)) (by simp only [m_okf, List.all_cons, List.all_nil, Bool.and_true, Bool.and_self, m_okv_i, m_okv_l, m_okv_0, m_okv_n0, m_okv_t, RT.okn h hx0, RT.okv h hx0, m_okv_out (a := 26) (by decide)]) rfl) (T_c_Reader_isWord hx0 (by decide) h e160) hF rfl (fun w162 h162 f162 k162 => ?_) (by decide) (by decide)
    cases hc177 : m_c1 .eq v159 with
    | true =>
      have j178 := cT hc177 j161
      refine m_Rb.n0 b_54 (x_ift d_54_70 rfl hc177) ?_
      exact m_Rb.pick [0] rfl (T_c_Reader_countKeeping_87 hx0 h162 f162 j178)
    | false =>
      have j178 := cF hc177 j161
      refine m_Rb.n0 b_54 (x_iff d_54_70 rfl hc177) ?_
      refine m_Rb.n0 b_54 (x_aload_n d_54_73 rfl) ?_
      obtain ⟨v179, e180, j181⟩ := bS j178
      refine m_Rb.tgetR b_54 d_54_74 rfl h162 e180 (fun o182 => ?_)
      refine m_Rb.n0 b_54 (x_aload_n d_54_77 rfl) ?_
      obtain ⟨v183, e184, j185⟩ := bS j181
      refine m_Rb.tgetI b_54 d_54_78 rfl h162 e184 ?_
      obtain ⟨a186, e187, j188⟩ := bS j185
      subst e187
      obtain ⟨T189, e190, j191⟩ := bS j188
      refine m_Rb.tputI b_54 d_54_81 rfl rfl (by decide) h162 f162 e190 (fun w192 h192 f192 k192 => ?_)
      refine m_Rb.n0 b_54 (x_goto d_54_84 rfl) ?_
      cases j191
      exact m_Rb.ret b_54 (m_rt_vr d_54_146 rfl) ⟨rfl, h192, f192⟩
def D_c_Reader_countKeeping_28 (F : Nat) (x0 : Nat) (T : tT) : Option (tT) := (tgi T x0 1 8).bind fun v74 => cond (m_c1 .eq v74) (D_c_Reader_countKeeping_56 F x0 T) ((tcl T x0 1).bind fun _ => (D_c_Reader_isWord F x0 24 T).bind fun v101 => cond (m_c1 .eq v101) (D_c_Reader_countKeeping_56 F x0 T) ((tgr T x0 1 15).bind fun v126 => (v126).bind fun a130 => (tpz T a130 13 7 (1 : Int32)).bind fun T133 => some T133))
theorem T_c_Reader_countKeeping_28 {l : Launch} {w0 : List mM} {F : Nat} {x0 : Nat} {T : tT} {w : List mM} {Tz : tT} (hx0 : okr T.2.1 (some x0)) (h : RT T w) (hF : m_Fm w0 w) (h0 : D_c_Reader_countKeeping_28 F x0 T = some Tz) : m_Rb l M_54 (28, [(0, .ref x0)], [], w) (fun v w' => v = none ∧ RT Tz w' ∧ m_Fm w0 w') T Tz 5 500 := by
  rw [D_c_Reader_countKeeping_28] at h0
  refine m_Rb.n0 b_54 (x_aload_n d_54_28 rfl) ?_
  obtain ⟨v74, e75, j76⟩ := bS h0
  refine m_Rb.tgetI b_54 d_54_29 rfl h e75 ?_
  cases hc96 : m_c1 .eq v74 with
  | true =>
    have j97 := cT hc96 j76
    refine m_Rb.n0 b_54 (x_ift d_54_32 rfl hc96) ?_
    exact m_Rb.pick [0] rfl (T_c_Reader_countKeeping_56 hx0 h hF j97)
  | false =>
    have j97 := cF hc96 j76
    refine m_Rb.n0 b_54 (x_iff d_54_32 rfl hc96) ?_
    refine m_Rb.n0 b_54 (x_aload_n d_54_35 rfl) ?_
    refine m_Rb.n0 b_54 (x_textw d_54_36 rfl rfl) ?_
    obtain ⟨_, e98, j99⟩ := bS j97
    obtain ⟨_, g100⟩ := RT.cls h e98
    obtain ⟨v101, e102, j103⟩ := bS j99
    refine m_Rb.callI b_54 (y_cv d_54_39 rfl q_45 (m_isRecv_of rfl g100) (show m_takeI _ _ = some (_, [_, _], []) from m_takeI_of rfl rfl rfl (Nat.le_of_ble_eq_true rfl)) (by simp only [m_okf, List.all_cons, List.all_nil, Bool.and_true, Bool.and_self, m_okv_i, m_okv_l, m_okv_0, m_okv_n0, m_okv_t, RT.okn h hx0, RT.okv h hx0, m_okv_out (a := 24) (by decide)]) rfl) (T_c_Reader_isWord hx0 (by decide) h e102) hF rfl (fun w104 h104 f104 k104 => ?_) (by decide) (by decide)
    cases hc124 : m_c1 .eq v101 with
    | true =>
      have j125 := cT hc124 j103
      refine m_Rb.n0 b_54 (x_ift d_54_42 rfl hc124) ?_
      exact m_Rb.pick [0] rfl (T_c_Reader_countKeeping_56 hx0 h104 f104 j125)
    | false =>
      have j125 := cF hc124 j103
      refine m_Rb.n0 b_54 (x_iff d_54_42 rfl hc124) ?_
      refine m_Rb.n0 b_54 (x_aload_n d_54_45 rfl) ?_
      obtain ⟨v126, e127, j128⟩ := bS j125
      refine m_Rb.tgetR b_54 d_54_46 rfl h104 e127 (fun o129 => ?_)
      refine m_Rb.n0 b_54 (x_iconst (z := 1) d_54_49 (by decide)) ?_
      obtain ⟨a130, e131, j132⟩ := bS j128
      subst e131
      obtain ⟨T133, e134, j135⟩ := bS j132
      refine m_Rb.tputZ b_54 d_54_50 rfl rfl (by decide) h104 f104 e134 (fun w136 h136 f136 k136 => ?_)
      refine m_Rb.n0 b_54 (x_goto d_54_53 rfl) ?_
      cases j135
      exact m_Rb.ret b_54 (m_rt_vr d_54_146 rfl) ⟨rfl, h136, f136⟩
def D_c_Reader_countKeeping (F : Nat) (a0 : Nat) (T : tT) : Option (tT) := (tgi T a0 1 8).bind fun v1 => cond (m_c1 .eq v1) (D_c_Reader_countKeeping_28 F a0 T) ((tcl T a0 1).bind fun _ => (D_c_Reader_isWord F a0 28 T).bind fun v33 => cond (m_c1 .eq v33) (D_c_Reader_countKeeping_28 F a0 T) ((tgr T a0 1 15).bind fun v63 => (v63).bind fun a67 => (tpz T a67 13 6 (1 : Int32)).bind fun T70 => some T70))
theorem T_c_Reader_countKeeping {l : Launch} {w : List mM} {F : Nat} {a0 : Nat} {T : tT} {Tz : tT} (ha0 : okr T.2.1 (some a0)) (h : RT T w) (h0 : D_c_Reader_countKeeping F a0 T = some Tz) : m_Rb l M_54 (m_ent M_54 [.ref a0] w) (fun v w' => v = none ∧ RT Tz w' ∧ m_Fm w w') T Tz 5 500 := by
  rw [show m_ent M_54 [.ref a0] w = (0, [(0, .ref a0)], [], w) from by first | rfl | (simp only [m_ent, lv_args_r, lv_args_a, lv_args_i, lv_args_l, lv_args_0]; done) | (simp only [m_ent, lv_args_r, lv_args_a, lv_args_i, lv_args_l, lv_args_0]; rfl)]
  generalize hw0 : w = w0 at h ⊢
  have hF : m_Fm w0 w0 := m_Fm.refl
  rw [D_c_Reader_countKeeping] at h0
  refine m_Rb.n0 b_54 (x_aload_n d_54_0 rfl) ?_
  obtain ⟨v1, e2, j3⟩ := bS h0
  refine m_Rb.tgetI b_54 d_54_1 rfl h e2 ?_
  cases hc28 : m_c1 .eq v1 with
  | true =>
    have j29 := cT hc28 j3
    refine m_Rb.n0 b_54 (x_ift d_54_4 rfl hc28) ?_
    exact m_Rb.pick [0] rfl (T_c_Reader_countKeeping_28 ha0 h hF j29)
  | false =>
    have j29 := cF hc28 j3
    refine m_Rb.n0 b_54 (x_iff d_54_4 rfl hc28) ?_
    refine m_Rb.n0 b_54 (x_aload_n d_54_7 rfl) ?_
    refine m_Rb.n0 b_54 (x_textw d_54_8 rfl rfl) ?_
    obtain ⟨_, e30, j31⟩ := bS j29
    obtain ⟨_, g32⟩ := RT.cls h e30
    obtain ⟨v33, e34, j35⟩ := bS j31
    refine m_Rb.callI b_54 (y_cv d_54_11 rfl q_45 (m_isRecv_of rfl g32) (show m_takeI _ _ = some (_, [_, _], []) from m_takeI_of rfl rfl rfl (Nat.le_of_ble_eq_true rfl)) (by simp only [m_okf, List.all_cons, List.all_nil, Bool.and_true, Bool.and_self, m_okv_i, m_okv_l, m_okv_0, m_okv_n0, m_okv_t, RT.okn h ha0, RT.okv h ha0, m_okv_out (a := 28) (by decide)]) rfl) (T_c_Reader_isWord ha0 (by decide) h e34) hF rfl (fun w36 h36 f36 k36 => ?_) (by decide) (by decide)
    cases hc61 : m_c1 .eq v33 with
    | true =>
      have j62 := cT hc61 j35
      refine m_Rb.n0 b_54 (x_ift d_54_14 rfl hc61) ?_
      exact m_Rb.pick [0] rfl (T_c_Reader_countKeeping_28 ha0 h36 f36 j62)
    | false =>
      have j62 := cF hc61 j35
      refine m_Rb.n0 b_54 (x_iff d_54_14 rfl hc61) ?_
      refine m_Rb.n0 b_54 (x_aload_n d_54_17 rfl) ?_
      obtain ⟨v63, e64, j65⟩ := bS j62
      refine m_Rb.tgetR b_54 d_54_18 rfl h36 e64 (fun o66 => ?_)
      refine m_Rb.n0 b_54 (x_iconst (z := 1) d_54_21 (by decide)) ?_
      obtain ⟨a67, e68, j69⟩ := bS j65
      subst e68
      obtain ⟨T70, e71, j72⟩ := bS j69
      refine m_Rb.tputZ b_54 d_54_22 rfl rfl (by decide) h36 f36 e71 (fun w73 h73 f73 k73 => ?_)
      refine m_Rb.n0 b_54 (x_goto d_54_25 rfl) ?_
      cases j72
      exact m_Rb.ret b_54 (m_rt_vr d_54_146 rfl) ⟨rfl, h73, f73⟩
def D_c_Reader_countVarying_32 (F : Nat) (x0 : Nat) (T : tT) : Option (tT) := (tgi T x0 1 8).bind fun v47 => cond (m_c1 .eq v47) (some T) ((tcl T x0 1).bind fun _ => (D_c_Reader_isWord F x0 16 T).bind fun v59 => cond (m_c1 .eq v59) (some T) ((tgr T x0 1 15).bind fun v69 => (v69).bind fun a73 => (tgi T a73 13 9).bind fun v76 => (tpi T a73 13 9 (v76 ||| (2 : Int32))).bind fun T79 => some T79))
theorem T_c_Reader_countVarying_32 {l : Launch} {w0 : List mM} {F : Nat} {x0 : Nat} {T : tT} {w : List mM} {Tz : tT} (hx0 : okr T.2.1 (some x0)) (h : RT T w) (hF : m_Fm w0 w) (h0 : D_c_Reader_countVarying_32 F x0 T = some Tz) : m_Rb l M_55 (32, [(0, .ref x0)], [], w) (fun v w' => v = none ∧ RT Tz w' ∧ m_Fm w0 w') T Tz 5 500 := by
  rw [D_c_Reader_countVarying_32] at h0
  refine m_Rb.n0 b_55 (x_aload_n d_55_32 rfl) ?_
  obtain ⟨v47, e48, j49⟩ := bS h0
  refine m_Rb.tgetI b_55 d_55_33 rfl h e48 ?_
  cases hc54 : m_c1 .eq v47 with
  | true =>
    have j55 := cT hc54 j49
    refine m_Rb.n0 b_55 (x_ift d_55_36 rfl hc54) ?_
    cases j55
    exact m_Rb.ret b_55 (m_rt_vr d_55_61 rfl) ⟨rfl, h, hF⟩
  | false =>
    have j55 := cF hc54 j49
    refine m_Rb.n0 b_55 (x_iff d_55_36 rfl hc54) ?_
    refine m_Rb.n0 b_55 (x_aload_n d_55_39 rfl) ?_
    refine m_Rb.n0 b_55 (x_text d_55_40 rfl rfl) ?_
    obtain ⟨_, e56, j57⟩ := bS j55
    obtain ⟨_, g58⟩ := RT.cls h e56
    obtain ⟨v59, e60, j61⟩ := bS j57
    refine m_Rb.callI b_55 (y_cv d_55_42 rfl q_45 (m_isRecv_of rfl g58) (show m_takeI _ _ = some (_, [_, _], []) from m_takeI_of rfl rfl rfl (Nat.le_of_ble_eq_true rfl)) (by simp only [m_okf, List.all_cons, List.all_nil, Bool.and_true, Bool.and_self, m_okv_i, m_okv_l, m_okv_0, m_okv_n0, m_okv_t, RT.okn h hx0, RT.okv h hx0, m_okv_out (a := 16) (by decide)]) rfl) (T_c_Reader_isWord hx0 (by decide) h e60) hF rfl (fun w62 h62 f62 k62 => ?_) (by decide) (by decide)
    cases hc67 : m_c1 .eq v59 with
    | true =>
      have j68 := cT hc67 j61
      refine m_Rb.n0 b_55 (x_ift d_55_45 rfl hc67) ?_
      cases j68
      exact m_Rb.ret b_55 (m_rt_vr d_55_61 rfl) ⟨rfl, h62, f62⟩
    | false =>
      have j68 := cF hc67 j61
      refine m_Rb.n0 b_55 (x_iff d_55_45 rfl hc67) ?_
      refine m_Rb.n0 b_55 (x_aload_n d_55_48 rfl) ?_
      obtain ⟨v69, e70, j71⟩ := bS j68
      refine m_Rb.tgetR b_55 d_55_49 rfl h62 e70 (fun o72 => ?_)
      refine m_Rb.n0 b_55 (x_dup d_55_52 (cat_rv v69)) ?_
      obtain ⟨a73, e74, j75⟩ := bS j71
      subst e74
      obtain ⟨v76, e77, j78⟩ := bS j75
      refine m_Rb.tgetI b_55 d_55_53 rfl h62 e77 ?_
      refine m_Rb.n0 b_55 (x_iconst (z := 2) d_55_56 (by decide)) ?_
      refine m_Rb.n0 b_55 (x_ior d_55_57 rfl) ?_
      obtain ⟨T79, e80, j81⟩ := bS j78
      refine m_Rb.tputI b_55 d_55_58 rfl rfl (by decide) h62 f62 e80 (fun w82 h82 f82 k82 => ?_)
      cases j81
      exact m_Rb.ret b_55 (m_rt_vr d_55_61 rfl) ⟨rfl, h82, f82⟩
def D_c_Reader_countVarying (F : Nat) (a0 : Nat) (T : tT) : Option (tT) := (tgi T a0 1 8).bind fun v1 => cond (m_c1 .eq v1) (D_c_Reader_countVarying_32 F a0 T) ((tcl T a0 1).bind fun _ => (D_c_Reader_isWord F a0 15 T).bind fun v18 => cond (m_c1 .eq v18) (D_c_Reader_countVarying_32 F a0 T) ((tgr T a0 1 15).bind fun v33 => (v33).bind fun a37 => (tgi T a37 13 9).bind fun v40 => (tpi T a37 13 9 (v40 ||| (1 : Int32))).bind fun T43 => some T43))
theorem T_c_Reader_countVarying {l : Launch} {w : List mM} {F : Nat} {a0 : Nat} {T : tT} {Tz : tT} (ha0 : okr T.2.1 (some a0)) (h : RT T w) (h0 : D_c_Reader_countVarying F a0 T = some Tz) : m_Rb l M_55 (m_ent M_55 [.ref a0] w) (fun v w' => v = none ∧ RT Tz w' ∧ m_Fm w w') T Tz 5 500 := by
  rw [show m_ent M_55 [.ref a0] w = (0, [(0, .ref a0)], [], w) from by first | rfl | (simp only [m_ent, lv_args_r, lv_args_a, lv_args_i, lv_args_l, lv_args_0]; done) | (simp only [m_ent, lv_args_r, lv_args_a, lv_args_i, lv_args_l, lv_args_0]; rfl)]
  generalize hw0 : w = w0 at h ⊢
  have hF : m_Fm w0 w0 := m_Fm.refl
  rw [D_c_Reader_countVarying] at h0
  refine m_Rb.n0 b_55 (x_aload_n d_55_0 rfl) ?_
  obtain ⟨v1, e2, j3⟩ := bS h0
  refine m_Rb.tgetI b_55 d_55_1 rfl h e2 ?_
  cases hc13 : m_c1 .eq v1 with
  | true =>
    have j14 := cT hc13 j3
    refine m_Rb.n0 b_55 (x_ift d_55_4 rfl hc13) ?_
    exact m_Rb.pick [0] rfl (T_c_Reader_countVarying_32 ha0 h hF j14)
  | false =>
    have j14 := cF hc13 j3
    refine m_Rb.n0 b_55 (x_iff d_55_4 rfl hc13) ?_
    refine m_Rb.n0 b_55 (x_aload_n d_55_7 rfl) ?_
    refine m_Rb.n0 b_55 (x_text d_55_8 rfl rfl) ?_
    obtain ⟨_, e15, j16⟩ := bS j14
    obtain ⟨_, g17⟩ := RT.cls h e15
    obtain ⟨v18, e19, j20⟩ := bS j16
    refine m_Rb.callI b_55 (y_cv d_55_10 rfl q_45 (m_isRecv_of rfl g17) (show m_takeI _ _ = some (_, [_, _], []) from m_takeI_of rfl rfl rfl (Nat.le_of_ble_eq_true rfl)) (by simp only [m_okf, List.all_cons, List.all_nil, Bool.and_true, Bool.and_self, m_okv_i, m_okv_l, m_okv_0, m_okv_n0, m_okv_t, RT.okn h ha0, RT.okv h ha0, m_okv_out (a := 15) (by decide)]) rfl) (T_c_Reader_isWord ha0 (by decide) h e19) hF rfl (fun w21 h21 f21 k21 => ?_) (by decide) (by decide)
    cases hc31 : m_c1 .eq v18 with
    | true =>
      have j32 := cT hc31 j20
      refine m_Rb.n0 b_55 (x_ift d_55_13 rfl hc31) ?_
      exact m_Rb.pick [0] rfl (T_c_Reader_countVarying_32 ha0 h21 f21 j32)
    | false =>
      have j32 := cF hc31 j20
      refine m_Rb.n0 b_55 (x_iff d_55_13 rfl hc31) ?_
      refine m_Rb.n0 b_55 (x_aload_n d_55_16 rfl) ?_
      obtain ⟨v33, e34, j35⟩ := bS j32
      refine m_Rb.tgetR b_55 d_55_17 rfl h21 e34 (fun o36 => ?_)
      refine m_Rb.n0 b_55 (x_dup d_55_20 (cat_rv v33)) ?_
      obtain ⟨a37, e38, j39⟩ := bS j35
      subst e38
      obtain ⟨v40, e41, j42⟩ := bS j39
      refine m_Rb.tgetI b_55 d_55_21 rfl h21 e41 ?_
      refine m_Rb.n0 b_55 (x_iconst (z := 1) d_55_24 (by decide)) ?_
      refine m_Rb.n0 b_55 (x_ior d_55_25 rfl) ?_
      obtain ⟨T43, e44, j45⟩ := bS j42
      refine m_Rb.tputI b_55 d_55_26 rfl rfl (by decide) h21 f21 e44 (fun w46 h46 f46 k46 => ?_)
      refine m_Rb.n0 b_55 (x_goto d_55_29 rfl) ?_
      cases j45
      exact m_Rb.ret b_55 (m_rt_vr d_55_61 rfl) ⟨rfl, h46, f46⟩
def D_c_Reader_readList_69 (F : Nat) (rec2 : Nat → Int32 → Int32 → tT → Option (Int32 × tT)) (x0 : Nat) (x1 : Int32) (x2 : Int32) (T : tT) : Option (Int32 × tT) := (tcl T x0 1).bind fun _ => (D_c_Reader_here F x0 T).bind fun v129 => cond (m_c2 .eq v129 (44 : Int32)) ((tgi T x0 1 2).bind fun v135 => (tpi T x0 1 2 (v135 + (1 : Int32))).bind fun T138 => (tcl T138 x0 1).bind fun _ => bd2 (D_c_Reader_expect F x0 (32 : Int32) T138) fun v145 T146 => cond (m_c1 .ne v145) (rec2 x0 x1 (x2 + Int32.ofInt 1) T146) (some ((0 : Int32), T146))) (some ((1 : Int32), T))
theorem T_c_Reader_readList_69 {l : Launch} {w0 : List mM} {F : Nat} {rec2 : Nat → Int32 → Int32 → tT → Option (Int32 × tT)} (hr2 : ∀ {x0 : Nat} {x1 : Int32} {x2 : Int32} {T : tT} {w : List mM} {yz : Int32} {Tz : tT}, okr T.2.1 (some x0) → RT T w → m_Fm w0 w → rec2 x0 x1 x2 T = some (yz, Tz) → m_Rb l M_49 (2, [(0, .ref x0), (1, .int x1), (2, .int x2)], [], w) (fun v w' => v = some (.int yz) ∧ RT Tz w' ∧ m_Fm w0 w') T Tz 6 600) {x0 : Nat} {x1 : Int32} {x2 : Int32} {T : tT} {w : List mM} {yz : Int32} {Tz : tT} (hx0 : okr T.2.1 (some x0)) (h : RT T w) (hF : m_Fm w0 w) (h0 : D_c_Reader_readList_69 F rec2 x0 x1 x2 T = some (yz, Tz)) : m_Rb l M_49 (69, [(0, .ref x0), (1, .int x1), (2, .int x2)], [], w) (fun v w' => v = some (.int yz) ∧ RT Tz w' ∧ m_Fm w0 w') T Tz 6 600 := by
  rw [D_c_Reader_readList_69] at h0
  refine m_Rb.n0 b_49 (x_aload_n d_49_69 rfl) ?_
  obtain ⟨_, e126, j127⟩ := bS h0
  obtain ⟨_, g128⟩ := RT.cls h e126
  obtain ⟨v129, e130, j131⟩ := bS j127
  refine m_Rb.callI b_49 (y_cv d_49_70 rfl q_22 (m_isRecv_of rfl g128) (show m_takeI _ _ = some (_, [_], []) from m_takeI_of rfl rfl rfl (Nat.le_of_ble_eq_true rfl)) (by simp only [m_okf, List.all_cons, List.all_nil, Bool.and_true, Bool.and_self, m_okv_i, m_okv_l, m_okv_0, m_okv_n0, m_okv_t, RT.okn h hx0, RT.okv h hx0]) rfl) (T_c_Reader_here hx0 h e130) hF rfl (fun w132 h132 f132 k132 => ?_) (by decide) (by decide)
  refine m_Rb.n0 b_49 (x_bipush (z := 44) d_49_73 (by decide)) ?_
  cases hc133 : m_c2 .eq v129 (44 : Int32) with
  | true =>
    have j134 := cT hc133 j131
    refine m_Rb.n0 b_49 (x_ict d_49_75 rfl hc133) ?_
    refine m_Rb.n0 b_49 (x_aload_n d_49_80 rfl) ?_
    refine m_Rb.n0 b_49 (x_dup d_49_81 rfl) ?_
    obtain ⟨v135, e136, j137⟩ := bS j134
    refine m_Rb.tgetI b_49 d_49_82 rfl h132 e136 ?_
    refine m_Rb.n0 b_49 (x_iconst (z := 1) d_49_85 (by decide)) ?_
    refine m_Rb.n0 b_49 (x_iadd d_49_86 rfl) ?_
    obtain ⟨T138, e139, j140⟩ := bS j137
    refine m_Rb.tputI b_49 d_49_87 rfl rfl (by decide) h132 f132 e139 (fun w141 h141 f141 k141 => ?_)
    refine m_Rb.n0 b_49 (x_aload_n d_49_90 rfl) ?_
    refine m_Rb.n0 b_49 (x_bipush (z := 32) d_49_91 (by decide)) ?_
    obtain ⟨_, e142, j143⟩ := bS j140
    obtain ⟨_, g144⟩ := RT.cls h141 e142
    obtain ⟨v145, T146, e147, j148⟩ := bS2 j143
    refine m_Rb.callI b_49 (y_cv d_49_93 rfl q_35 (m_isRecv_of rfl g144) (show m_takeI _ _ = some (_, [_, _], []) from m_takeI_of rfl rfl rfl (Nat.le_of_ble_eq_true rfl)) (by simp only [m_okf, List.all_cons, List.all_nil, Bool.and_true, Bool.and_self, m_okv_i, m_okv_l, m_okv_0, m_okv_n0, m_okv_t, RT.okn h141 (okm hx0 k141), RT.okv h141 (okm hx0 k141)]) rfl) (T_c_Reader_expect (okm hx0 k141) h141 e147) f141 rfl (fun w149 h149 f149 k149 => ?_) (by decide) (by decide)
    cases hc150 : m_c1 .ne v145 with
    | true =>
      have j151 := cT hc150 j148
      refine m_Rb.n0 b_49 (x_ift d_49_96 rfl hc150) ?_
      refine m_Rb.n0 b_49 (x_iinc d_49_101 rfl rfl rfl (show m_put1 _ _ _ = [(2, _), (0, _), (1, _)] from rfl)) ?_
      refine m_Rb.n0 b_49 (x_goto d_49_104 rfl) ?_
      exact m_Rb.pick [1, 2, 0] rfl (hr2 (okm (okm hx0 k141) k149) h149 f149 j151)
    | false =>
      have j151 := cF hc150 j148
      refine m_Rb.n0 b_49 (x_iff d_49_96 rfl hc150) ?_
      refine m_Rb.n0 b_49 (x_iconst (z := 0) d_49_99 (by decide)) ?_
      cases j151
      exact m_Rb.ret b_49 (m_rt_ir d_49_100 rfl m_nb0) ⟨rfl, h149, f149⟩
  | false =>
    have j134 := cF hc133 j131
    refine m_Rb.n0 b_49 (x_icf d_49_75 rfl hc133) ?_
    refine m_Rb.n0 b_49 (x_iconst (z := 1) d_49_78 (by decide)) ?_
    cases j134
    exact m_Rb.ret b_49 (m_rt_ir d_49_79 rfl m_nb1) ⟨rfl, h132, f132⟩
def D_c_Reader_readList_2 (F : Nat) : Nat → Nat → Int32 → Int32 → tT → Option (Int32 × tT)
  | 0, _, _, _, _ => none
  | n + 1, x0, x1, x2, T => cond (m_c2 .ge x2 (300 : Int32)) ((tgi T x0 1 2).bind fun v3 => (tcl T x0 1).bind fun _ => bd2 (D_c_Reader_no F x0 v3 T) fun v9 T10 => (bret v9).bind fun v14 => some (v14, T10)) ((tcl T x0 1).bind fun _ => bd2 (D_c_Reader_readWord F x0 T) fun v20 T21 => cond (m_c1 .ne v20) (cond (m_c1 .ne x1) (cond (m_c2 .ne x1 (1 : Int32)) (cond (m_c2 .ne x1 (2 : Int32)) (cond (m_c2 .ne x1 (3 : Int32)) ((tcl T21 x0 1).bind fun _ => (D_c_Reader_countVarying F x0 T21).bind fun T94 => D_c_Reader_readList_69 F (D_c_Reader_readList_2 F n) x0 x1 x2 T94) ((tcl T21 x0 1).bind fun _ => (D_c_Reader_countKeeping F x0 T21).bind fun T101 => D_c_Reader_readList_69 F (D_c_Reader_readList_2 F n) x0 x1 x2 T101)) ((tcl T21 x0 1).bind fun _ => (D_c_Reader_countAsked F x0 T21).bind fun T108 => D_c_Reader_readList_69 F (D_c_Reader_readList_2 F n) x0 x1 x2 T108)) ((tcl T21 x0 1).bind fun _ => (D_c_Reader_weighForm F x0 T21).bind fun T115 => D_c_Reader_readList_69 F (D_c_Reader_readList_2 F n) x0 x1 x2 T115)) ((tcl T21 x0 1).bind fun _ => (D_c_Reader_weighLanguage F x0 T21).bind fun T122 => D_c_Reader_readList_69 F (D_c_Reader_readList_2 F n) x0 x1 x2 T122)) (some ((0 : Int32), T21)))
theorem T_c_Reader_readList_2 {l : Launch} {w0 : List mM} {F : Nat} : ∀ (n : Nat) {x0 : Nat} {x1 : Int32} {x2 : Int32} {T : tT} {w : List mM} {yz : Int32} {Tz : tT}, okr T.2.1 (some x0) → RT T w → m_Fm w0 w → D_c_Reader_readList_2 F n x0 x1 x2 T = some (yz, Tz) → m_Rb l M_49 (2, [(0, .ref x0), (1, .int x1), (2, .int x2)], [], w) (fun v w' => v = some (.int yz) ∧ RT Tz w' ∧ m_Fm w0 w') T Tz 6 600 := by
  intro n
  induction n with
  | zero => intro x0 x1 x2 T w yz Tz hx0 h hF h0; cases h0
  | succ n ih =>
    intro x0 x1 x2 T w yz Tz hx0 h hF h0
    rw [D_c_Reader_readList_2] at h0
    refine m_Rb.n0 b_49 (x_iload_n d_49_2 rfl) ?_
    refine m_Rb.n0 b_49 (x_sipush (z := 300) d_49_3 (by decide)) ?_
    cases hc1 : m_c2 .ge x2 (300 : Int32) with
    | true =>
      have j2 := cT hc1 h0
      refine m_Rb.n0 b_49 (x_ict d_49_6 rfl hc1) ?_
      refine m_Rb.n0 b_49 (x_aload_n d_49_107 rfl) ?_
      refine m_Rb.n0 b_49 (x_aload_n d_49_108 rfl) ?_
      obtain ⟨v3, e4, j5⟩ := bS j2
      refine m_Rb.tgetI b_49 d_49_109 rfl h e4 ?_
      obtain ⟨_, e6, j7⟩ := bS j5
      obtain ⟨_, g8⟩ := RT.cls h e6
      obtain ⟨v9, T10, e11, j12⟩ := bS2 j7
      refine m_Rb.callI b_49 (y_cv d_49_112 rfl q_36 (m_isRecv_of rfl g8) (show m_takeI _ _ = some (_, [_, _], []) from m_takeI_of rfl rfl rfl (Nat.le_of_ble_eq_true rfl)) (by simp only [m_okf, List.all_cons, List.all_nil, Bool.and_true, Bool.and_self, m_okv_i, m_okv_l, m_okv_0, m_okv_n0, m_okv_t, RT.okn h hx0, RT.okv h hx0]) rfl) (T_c_Reader_no hx0 h e11) hF rfl (fun w13 h13 f13 k13 => ?_) (by decide) (by decide)
      obtain ⟨v14, e15, j16⟩ := bS j12
      cases j16
      exact m_Rb.retb b_49 d_49_115 rfl e15 ⟨rfl, h13, f13⟩
    | false =>
      have j2 := cF hc1 h0
      refine m_Rb.n0 b_49 (x_icf d_49_6 rfl hc1) ?_
      refine m_Rb.n0 b_49 (x_aload_n d_49_9 rfl) ?_
      obtain ⟨_, e17, j18⟩ := bS j2
      obtain ⟨_, g19⟩ := RT.cls h e17
      obtain ⟨v20, T21, e22, j23⟩ := bS2 j18
      refine m_Rb.callI b_49 (y_cv d_49_10 rfl q_50 (m_isRecv_of rfl g19) (show m_takeI _ _ = some (_, [_], []) from m_takeI_of rfl rfl rfl (Nat.le_of_ble_eq_true rfl)) (by simp only [m_okf, List.all_cons, List.all_nil, Bool.and_true, Bool.and_self, m_okv_i, m_okv_l, m_okv_0, m_okv_n0, m_okv_t, RT.okn h hx0, RT.okv h hx0]) rfl) (T_c_Reader_readWord hx0 h e22) hF rfl (fun w24 h24 f24 k24 => ?_) (by decide) (by decide)
      cases hc25 : m_c1 .ne v20 with
      | true =>
        have j26 := cT hc25 j23
        refine m_Rb.n0 b_49 (x_ift d_49_13 rfl hc25) ?_
        refine m_Rb.n0 b_49 (x_iload_n d_49_18 rfl) ?_
        cases hc44 : m_c1 .ne x1 with
        | true =>
          have j45 := cT hc44 j26
          refine m_Rb.n0 b_49 (x_ift d_49_19 rfl hc44) ?_
          refine m_Rb.n0 b_49 (x_iload_n d_49_29 rfl) ?_
          refine m_Rb.n0 b_49 (x_iconst (z := 1) d_49_30 (by decide)) ?_
          cases hc61 : m_c2 .ne x1 (1 : Int32) with
          | true =>
            have j62 := cT hc61 j45
            refine m_Rb.n0 b_49 (x_ict d_49_31 rfl hc61) ?_
            refine m_Rb.n0 b_49 (x_iload_n d_49_41 rfl) ?_
            refine m_Rb.n0 b_49 (x_iconst (z := 2) d_49_42 (by decide)) ?_
            cases hc76 : m_c2 .ne x1 (2 : Int32) with
            | true =>
              have j77 := cT hc76 j62
              refine m_Rb.n0 b_49 (x_ict d_49_43 rfl hc76) ?_
              refine m_Rb.n0 b_49 (x_iload_n d_49_53 rfl) ?_
              refine m_Rb.n0 b_49 (x_iconst (z := 3) d_49_54 (by decide)) ?_
              cases hc89 : m_c2 .ne x1 (3 : Int32) with
              | true =>
                have j90 := cT hc89 j77
                refine m_Rb.n0 b_49 (x_ict d_49_55 rfl hc89) ?_
                refine m_Rb.n0 b_49 (x_aload_n d_49_65 rfl) ?_
                obtain ⟨_, e91, j92⟩ := bS j90
                obtain ⟨_, g93⟩ := RT.cls h24 e91
                obtain ⟨T94, e95, j96⟩ := bS j92
                refine m_Rb.callV b_49 (y_cv d_49_66 rfl q_55 (m_isRecv_of rfl g93) (show m_takeI _ _ = some (_, [_], []) from m_takeI_of rfl rfl rfl (Nat.le_of_ble_eq_true rfl)) (by simp only [m_okf, List.all_cons, List.all_nil, Bool.and_true, Bool.and_self, m_okv_i, m_okv_l, m_okv_0, m_okv_n0, m_okv_t, RT.okn h24 (okm hx0 k24), RT.okv h24 (okm hx0 k24)]) rfl) (T_c_Reader_countVarying (okm hx0 k24) h24 e95) f24 rfl (fun w97 h97 f97 k97 => ?_) (by decide) (by decide)
                exact m_Rb.pick [0, 1, 2] rfl (T_c_Reader_readList_69 ih (okm (okm hx0 k24) k97) h97 f97 j96)
              | false =>
                have j90 := cF hc89 j77
                refine m_Rb.n0 b_49 (x_icf d_49_55 rfl hc89) ?_
                refine m_Rb.n0 b_49 (x_aload_n d_49_58 rfl) ?_
                obtain ⟨_, e98, j99⟩ := bS j90
                obtain ⟨_, g100⟩ := RT.cls h24 e98
                obtain ⟨T101, e102, j103⟩ := bS j99
                refine m_Rb.callV b_49 (y_cv d_49_59 rfl q_54 (m_isRecv_of rfl g100) (show m_takeI _ _ = some (_, [_], []) from m_takeI_of rfl rfl rfl (Nat.le_of_ble_eq_true rfl)) (by simp only [m_okf, List.all_cons, List.all_nil, Bool.and_true, Bool.and_self, m_okv_i, m_okv_l, m_okv_0, m_okv_n0, m_okv_t, RT.okn h24 (okm hx0 k24), RT.okv h24 (okm hx0 k24)]) rfl) (T_c_Reader_countKeeping (okm hx0 k24) h24 e102) f24 rfl (fun w104 h104 f104 k104 => ?_) (by decide) (by decide)
                refine m_Rb.n0 b_49 (x_goto d_49_62 rfl) ?_
                exact m_Rb.pick [0, 1, 2] rfl (T_c_Reader_readList_69 ih (okm (okm hx0 k24) k104) h104 f104 j103)
            | false =>
              have j77 := cF hc76 j62
              refine m_Rb.n0 b_49 (x_icf d_49_43 rfl hc76) ?_
              refine m_Rb.n0 b_49 (x_aload_n d_49_46 rfl) ?_
              obtain ⟨_, e105, j106⟩ := bS j77
              obtain ⟨_, g107⟩ := RT.cls h24 e105
              obtain ⟨T108, e109, j110⟩ := bS j106
              refine m_Rb.callV b_49 (y_cv d_49_47 rfl q_53 (m_isRecv_of rfl g107) (show m_takeI _ _ = some (_, [_], []) from m_takeI_of rfl rfl rfl (Nat.le_of_ble_eq_true rfl)) (by simp only [m_okf, List.all_cons, List.all_nil, Bool.and_true, Bool.and_self, m_okv_i, m_okv_l, m_okv_0, m_okv_n0, m_okv_t, RT.okn h24 (okm hx0 k24), RT.okv h24 (okm hx0 k24)]) rfl) (T_c_Reader_countAsked (okm hx0 k24) h24 e109) f24 rfl (fun w111 h111 f111 k111 => ?_) (by decide) (by decide)
              refine m_Rb.n0 b_49 (x_goto d_49_50 rfl) ?_
              exact m_Rb.pick [0, 1, 2] rfl (T_c_Reader_readList_69 ih (okm (okm hx0 k24) k111) h111 f111 j110)
          | false =>
            have j62 := cF hc61 j45
            refine m_Rb.n0 b_49 (x_icf d_49_31 rfl hc61) ?_
            refine m_Rb.n0 b_49 (x_aload_n d_49_34 rfl) ?_
            obtain ⟨_, e112, j113⟩ := bS j62
            obtain ⟨_, g114⟩ := RT.cls h24 e112
            obtain ⟨T115, e116, j117⟩ := bS j113
            refine m_Rb.callV b_49 (y_cv d_49_35 rfl q_52 (m_isRecv_of rfl g114) (show m_takeI _ _ = some (_, [_], []) from m_takeI_of rfl rfl rfl (Nat.le_of_ble_eq_true rfl)) (by simp only [m_okf, List.all_cons, List.all_nil, Bool.and_true, Bool.and_self, m_okv_i, m_okv_l, m_okv_0, m_okv_n0, m_okv_t, RT.okn h24 (okm hx0 k24), RT.okv h24 (okm hx0 k24)]) rfl) (T_c_Reader_weighForm (okm hx0 k24) h24 e116) f24 rfl (fun w118 h118 f118 k118 => ?_) (by decide) (by decide)
            refine m_Rb.n0 b_49 (x_goto d_49_38 rfl) ?_
            exact m_Rb.pick [0, 1, 2] rfl (T_c_Reader_readList_69 ih (okm (okm hx0 k24) k118) h118 f118 j117)
        | false =>
          have j45 := cF hc44 j26
          refine m_Rb.n0 b_49 (x_iff d_49_19 rfl hc44) ?_
          refine m_Rb.n0 b_49 (x_aload_n d_49_22 rfl) ?_
          obtain ⟨_, e119, j120⟩ := bS j45
          obtain ⟨_, g121⟩ := RT.cls h24 e119
          obtain ⟨T122, e123, j124⟩ := bS j120
          refine m_Rb.callV b_49 (y_cv d_49_23 rfl q_51 (m_isRecv_of rfl g121) (show m_takeI _ _ = some (_, [_], []) from m_takeI_of rfl rfl rfl (Nat.le_of_ble_eq_true rfl)) (by simp only [m_okf, List.all_cons, List.all_nil, Bool.and_true, Bool.and_self, m_okv_i, m_okv_l, m_okv_0, m_okv_n0, m_okv_t, RT.okn h24 (okm hx0 k24), RT.okv h24 (okm hx0 k24)]) rfl) (T_c_Reader_weighLanguage (okm hx0 k24) h24 e123) f24 rfl (fun w125 h125 f125 k125 => ?_) (by decide) (by decide)
          refine m_Rb.n0 b_49 (x_goto d_49_26 rfl) ?_
          exact m_Rb.pick [0, 1, 2] rfl (T_c_Reader_readList_69 ih (okm (okm hx0 k24) k125) h125 f125 j124)
      | false =>
        have j26 := cF hc25 j23
        refine m_Rb.n0 b_49 (x_iff d_49_13 rfl hc25) ?_
        refine m_Rb.n0 b_49 (x_iconst (z := 0) d_49_16 (by decide)) ?_
        cases j26
        exact m_Rb.ret b_49 (m_rt_ir d_49_17 rfl m_nb0) ⟨rfl, h24, f24⟩
def D_c_Reader_readList (F : Nat) (a0 : Nat) (p0 : Int32) (T : tT) : Option (Int32 × tT) := D_c_Reader_readList_2 F F a0 p0 (0 : Int32) T
theorem T_c_Reader_readList {l : Launch} {w : List mM} {F : Nat} {a0 : Nat} {p0 : Int32} {T : tT} {yz : Int32} {Tz : tT} (ha0 : okr T.2.1 (some a0)) (h : RT T w) (h0 : D_c_Reader_readList F a0 p0 T = some (yz, Tz)) : m_Rb l M_49 (m_ent M_49 [.ref a0, .int p0] w) (fun v w' => v = some (.int yz) ∧ RT Tz w' ∧ m_Fm w w') T Tz 6 600 := by
  rw [show m_ent M_49 [.ref a0, .int p0] w = (0, [(0, .ref a0), (1, .int p0)], [], w) from by first | rfl | (simp only [m_ent, lv_args_r, lv_args_a, lv_args_i, lv_args_l, lv_args_0]; done) | (simp only [m_ent, lv_args_r, lv_args_a, lv_args_i, lv_args_l, lv_args_0]; rfl)]
  generalize hw0 : w = w0 at h ⊢
  have hF : m_Fm w0 w0 := m_Fm.refl
  rw [D_c_Reader_readList] at h0
  refine m_Rb.n0 b_49 (x_iconst (z := 0) d_49_0 (by decide)) ?_
  refine m_Rb.n0 b_49 (x_istore_n d_49_1 rfl (show m_put1 _ _ _ = [(2, _), (0, _), (1, _)] from rfl)) ?_
  exact m_Rb.pick [1, 2, 0] rfl (T_c_Reader_readList_2 F ha0 h hF h0)
def D_c_Reader_skipValue_0 (F : Nat) : Nat → Nat → tT → Option (Int32 × tT)
  | 0, _, _ => none
  | n + 1, x0, T => (tgi T x0 1 2).bind fun v1 => (tgi T x0 1 1).bind fun v4 => cond (m_c2 .ge v1 v4) (some ((1 : Int32), T)) ((tcl T x0 1).bind fun _ => (D_c_Reader_here F x0 T).bind fun v12 => cond (m_c2 .eq v12 (10 : Int32)) (some ((1 : Int32), T)) ((tgi T x0 1 2).bind fun v18 => (tpi T x0 1 2 (v18 + (1 : Int32))).bind fun T21 => D_c_Reader_skipValue_0 F n x0 T21))
theorem T_c_Reader_skipValue_0 {l : Launch} {w0 : List mM} {F : Nat} : ∀ (n : Nat) {x0 : Nat} {T : tT} {w : List mM} {yz : Int32} {Tz : tT}, okr T.2.1 (some x0) → RT T w → m_Fm w0 w → D_c_Reader_skipValue_0 F n x0 T = some (yz, Tz) → m_Rb l M_56 (0, [(0, .ref x0)], [], w) (fun v w' => v = some (.int yz) ∧ RT Tz w' ∧ m_Fm w0 w') T Tz 1 100 := by
  intro n
  induction n with
  | zero => intro x0 T w yz Tz hx0 h hF h0; cases h0
  | succ n ih =>
    intro x0 T w yz Tz hx0 h hF h0
    rw [D_c_Reader_skipValue_0] at h0
    refine m_Rb.n0 b_56 (x_aload_n d_56_0 rfl) ?_
    obtain ⟨v1, e2, j3⟩ := bS h0
    refine m_Rb.tgetI b_56 d_56_1 rfl h e2 ?_
    refine m_Rb.n0 b_56 (x_aload_n d_56_4 rfl) ?_
    obtain ⟨v4, e5, j6⟩ := bS j3
    refine m_Rb.tgetI b_56 d_56_5 rfl h e5 ?_
    cases hc7 : m_c2 .ge v1 v4 with
    | true =>
      have j8 := cT hc7 j6
      refine m_Rb.n0 b_56 (x_ict d_56_8 rfl hc7) ?_
      refine m_Rb.n0 b_56 (x_iconst (z := 1) d_56_33 (by decide)) ?_
      cases j8
      exact m_Rb.ret b_56 (m_rt_ir d_56_34 rfl m_nb1) ⟨rfl, h, hF⟩
    | false =>
      have j8 := cF hc7 j6
      refine m_Rb.n0 b_56 (x_icf d_56_8 rfl hc7) ?_
      refine m_Rb.n0 b_56 (x_aload_n d_56_11 rfl) ?_
      obtain ⟨_, e9, j10⟩ := bS j8
      obtain ⟨_, g11⟩ := RT.cls h e9
      obtain ⟨v12, e13, j14⟩ := bS j10
      refine m_Rb.callI b_56 (y_cv d_56_12 rfl q_22 (m_isRecv_of rfl g11) (show m_takeI _ _ = some (_, [_], []) from m_takeI_of rfl rfl rfl (Nat.le_of_ble_eq_true rfl)) (by simp only [m_okf, List.all_cons, List.all_nil, Bool.and_true, Bool.and_self, m_okv_i, m_okv_l, m_okv_0, m_okv_n0, m_okv_t, RT.okn h hx0, RT.okv h hx0]) rfl) (T_c_Reader_here hx0 h e13) hF rfl (fun w15 h15 f15 k15 => ?_) (by decide) (by decide)
      refine m_Rb.n0 b_56 (x_bipush (z := 10) d_56_15 (by decide)) ?_
      cases hc16 : m_c2 .eq v12 (10 : Int32) with
      | true =>
        have j17 := cT hc16 j14
        refine m_Rb.n0 b_56 (x_ict d_56_17 rfl hc16) ?_
        refine m_Rb.n0 b_56 (x_iconst (z := 1) d_56_33 (by decide)) ?_
        cases j17
        exact m_Rb.ret b_56 (m_rt_ir d_56_34 rfl m_nb1) ⟨rfl, h15, f15⟩
      | false =>
        have j17 := cF hc16 j14
        refine m_Rb.n0 b_56 (x_icf d_56_17 rfl hc16) ?_
        refine m_Rb.n0 b_56 (x_aload_n d_56_20 rfl) ?_
        refine m_Rb.n0 b_56 (x_dup d_56_21 rfl) ?_
        obtain ⟨v18, e19, j20⟩ := bS j17
        refine m_Rb.tgetI b_56 d_56_22 rfl h15 e19 ?_
        refine m_Rb.n0 b_56 (x_iconst (z := 1) d_56_25 (by decide)) ?_
        refine m_Rb.n0 b_56 (x_iadd d_56_26 rfl) ?_
        obtain ⟨T21, e22, j23⟩ := bS j20
        refine m_Rb.tputI b_56 d_56_27 rfl rfl (by decide) h15 f15 e22 (fun w24 h24 f24 k24 => ?_)
        refine m_Rb.n0 b_56 (x_goto d_56_30 rfl) ?_
        exact m_Rb.pick [0] rfl (ih (okm hx0 k24) h24 f24 j23)
def D_c_Reader_skipValue (F : Nat) (a0 : Nat) (T : tT) : Option (Int32 × tT) := D_c_Reader_skipValue_0 F F a0 T
theorem T_c_Reader_skipValue {l : Launch} {w : List mM} {F : Nat} {a0 : Nat} {T : tT} {yz : Int32} {Tz : tT} (ha0 : okr T.2.1 (some a0)) (h : RT T w) (h0 : D_c_Reader_skipValue F a0 T = some (yz, Tz)) : m_Rb l M_56 (m_ent M_56 [.ref a0] w) (fun v w' => v = some (.int yz) ∧ RT Tz w' ∧ m_Fm w w') T Tz 1 100 := by
  rw [show m_ent M_56 [.ref a0] w = (0, [(0, .ref a0)], [], w) from by first | rfl | (simp only [m_ent, lv_args_r, lv_args_a, lv_args_i, lv_args_l, lv_args_0]; done) | (simp only [m_ent, lv_args_r, lv_args_a, lv_args_i, lv_args_l, lv_args_0]; rfl)]
  generalize hw0 : w = w0 at h ⊢
  have hF : m_Fm w0 w0 := m_Fm.refl
  rw [D_c_Reader_skipValue] at h0
  exact m_Rb.pick [0] rfl (T_c_Reader_skipValue_0 F ha0 h hF h0)
def D_c_Reader_readAskedValue_69 (F : Nat) (x0 : Nat) (y0 : Int32) (T : tT) : Option (Int32 × tT) := (tgr T x0 1 14).bind fun v201 => (tgi T x0 1 9).bind fun v205 => (v201).bind fun a208 => (tpi T a208 7 7 v205).bind fun T211 => (bret y0).bind fun v215 => some (v215, T211)
theorem T_c_Reader_readAskedValue_69 {l : Launch} {w0 : List mM} {F : Nat} {x0 : Nat} {y0 : Int32} {T : tT} {w : List mM} {yz : Int32} {Tz : tT} (hx0 : okr T.2.1 (some x0)) (h : RT T w) (hF : m_Fm w0 w) (h0 : D_c_Reader_readAskedValue_69 F x0 y0 T = some (yz, Tz)) : m_Rb l M_44 (69, [(0, .ref x0)], [.int y0], w) (fun v w' => v = some (.int yz) ∧ RT Tz w' ∧ m_Fm w0 w') T Tz 7 700 := by
  rw [D_c_Reader_readAskedValue_69] at h0
  refine m_Rb.n0 b_44 (x_istore_n d_44_69 rfl (show m_put1 _ _ _ = [(1, _), (0, _)] from rfl)) ?_
  refine m_Rb.n0 b_44 (x_aload_n d_44_70 rfl) ?_
  obtain ⟨v201, e202, j203⟩ := bS h0
  refine m_Rb.tgetR b_44 d_44_71 rfl h e202 (fun o204 => ?_)
  refine m_Rb.n0 b_44 (x_aload_n d_44_74 rfl) ?_
  obtain ⟨v205, e206, j207⟩ := bS j203
  refine m_Rb.tgetI b_44 d_44_75 rfl h e206 ?_
  obtain ⟨a208, e209, j210⟩ := bS j207
  subst e209
  obtain ⟨T211, e212, j213⟩ := bS j210
  refine m_Rb.tputI b_44 d_44_78 rfl rfl (by decide) h hF e212 (fun w214 h214 f214 k214 => ?_)
  refine m_Rb.n0 b_44 (x_iload_n d_44_81 rfl) ?_
  obtain ⟨v215, e216, j217⟩ := bS j213
  cases j217
  exact m_Rb.retb b_44 d_44_82 rfl e216 ⟨rfl, h214, f214⟩
def D_c_Reader_readAskedValue_68 (F : Nat) (x0 : Nat) (T : tT) : Option (Int32 × tT) := D_c_Reader_readAskedValue_69 F x0 (0 : Int32) T
theorem T_c_Reader_readAskedValue_68 {l : Launch} {w0 : List mM} {F : Nat} {x0 : Nat} {T : tT} {w : List mM} {yz : Int32} {Tz : tT} (hx0 : okr T.2.1 (some x0)) (h : RT T w) (hF : m_Fm w0 w) (h0 : D_c_Reader_readAskedValue_68 F x0 T = some (yz, Tz)) : m_Rb l M_44 (68, [(0, .ref x0)], [], w) (fun v w' => v = some (.int yz) ∧ RT Tz w' ∧ m_Fm w0 w') T Tz 7 700 := by
  rw [D_c_Reader_readAskedValue_68] at h0
  refine m_Rb.n0 b_44 (x_iconst (z := 0) d_44_68 (by decide)) ?_
  exact m_Rb.pick [0] rfl (T_c_Reader_readAskedValue_69 hx0 h hF h0)
def D_c_Reader_readAskedValue (F : Nat) (a0 : Nat) (T : tT) : Option (Int32 × tT) := (tcl T a0 1).bind fun _ => (D_c_Reader_isWord F a0 12 T).bind fun v4 => cond (m_c1 .eq v4) ((tcl T a0 1).bind fun _ => (D_c_Reader_isWord F a0 13 T).bind fun v13 => cond (m_c1 .eq v13) ((tcl T a0 1).bind fun _ => (D_c_Reader_isWord F a0 14 T).bind fun v22 => cond (m_c1 .eq v22) ((tcl T a0 1).bind fun _ => (D_c_Reader_isWord F a0 15 T).bind fun v31 => cond (m_c1 .eq v31) ((tcl T a0 1).bind fun _ => (D_c_Reader_isWord F a0 16 T).bind fun v40 => cond (m_c1 .eq v40) ((tcl T a0 1).bind fun _ => (D_c_Reader_isWord F a0 9 T).bind fun v49 => cond (m_c1 .eq v49) ((tcl T a0 1).bind fun _ => bd2 (D_c_Reader_skipValue F a0 T) fun v58 T59 => (bret v58).bind fun v63 => some (v63, T59)) ((tcl T a0 1).bind fun _ => bd2 (D_c_Reader_readList F a0 (2 : Int32) T) fun v69 T70 => (bret v69).bind fun v74 => some (v74, T70))) ((tcl T a0 1).bind fun _ => bd2 (D_c_Reader_readList F a0 (1 : Int32) T) fun v80 T81 => (bret v80).bind fun v85 => some (v85, T81))) ((tcl T a0 1).bind fun _ => bd2 (D_c_Reader_readList F a0 (0 : Int32) T) fun v91 T92 => (bret v91).bind fun v96 => some (v96, T92))) ((tcl T a0 1).bind fun _ => bd2 (D_c_Reader_expect F a0 (34 : Int32) T) fun v102 T103 => cond (m_c1 .eq v102) (D_c_Reader_readAskedValue_68 F a0 T103) ((tcl T103 a0 1).bind fun _ => bd2 (D_c_Reader_readNumber F a0 (99999 : Int32) T103) fun v126 T127 => cond (m_c1 .eq v126) (D_c_Reader_readAskedValue_68 F a0 T127) ((tcl T127 a0 1).bind fun _ => bd2 (D_c_Reader_expect F a0 (34 : Int32) T127) fun v150 T151 => (cond (m_c1 .eq v150) (some (0 : Int32)) (some (1 : Int32))).bind fun v159 => (tgr T151 a0 1 14).bind fun v162 => (tgi T151 a0 1 9).bind fun v166 => (v162).bind fun a169 => (tpi T151 a169 7 7 v166).bind fun T172 => (bret v159).bind fun v176 => some (v176, T172))))) ((tcl T a0 1).bind fun _ => bd2 (D_c_Reader_readMatch F a0 T) fun v182 T183 => (bret v182).bind fun v187 => some (v187, T183))) ((tcl T a0 1).bind fun _ => bd2 (D_c_Reader_readRange F a0 T) fun v193 T194 => (bret v193).bind fun v198 => some (v198, T194))
theorem T_c_Reader_readAskedValue {l : Launch} {w : List mM} {F : Nat} {a0 : Nat} {T : tT} {yz : Int32} {Tz : tT} (ha0 : okr T.2.1 (some a0)) (h : RT T w) (h0 : D_c_Reader_readAskedValue F a0 T = some (yz, Tz)) : m_Rb l M_44 (m_ent M_44 [.ref a0] w) (fun v w' => v = some (.int yz) ∧ RT Tz w' ∧ m_Fm w w') T Tz 7 700 := by
  rw [show m_ent M_44 [.ref a0] w = (0, [(0, .ref a0)], [], w) from by first | rfl | (simp only [m_ent, lv_args_r, lv_args_a, lv_args_i, lv_args_l, lv_args_0]; done) | (simp only [m_ent, lv_args_r, lv_args_a, lv_args_i, lv_args_l, lv_args_0]; rfl)]
  generalize hw0 : w = w0 at h ⊢
  have hF : m_Fm w0 w0 := m_Fm.refl
  rw [D_c_Reader_readAskedValue] at h0
  refine m_Rb.n0 b_44 (x_aload_n d_44_0 rfl) ?_
  refine m_Rb.n0 b_44 (x_text d_44_1 rfl rfl) ?_
  obtain ⟨_, e1, j2⟩ := bS h0
  obtain ⟨_, g3⟩ := RT.cls h e1
  obtain ⟨v4, e5, j6⟩ := bS j2
  refine m_Rb.callI b_44 (y_cv d_44_3 rfl q_45 (m_isRecv_of rfl g3) (show m_takeI _ _ = some (_, [_, _], []) from m_takeI_of rfl rfl rfl (Nat.le_of_ble_eq_true rfl)) (by simp only [m_okf, List.all_cons, List.all_nil, Bool.and_true, Bool.and_self, m_okv_i, m_okv_l, m_okv_0, m_okv_n0, m_okv_t, RT.okn h ha0, RT.okv h ha0, m_okv_out (a := 12) (by decide)]) rfl) (T_c_Reader_isWord ha0 (by decide) h e5) hF rfl (fun w7 h7 f7 k7 => ?_) (by decide) (by decide)
  cases hc8 : m_c1 .eq v4 with
  | true =>
    have j9 := cT hc8 j6
    refine m_Rb.n0 b_44 (x_ift d_44_6 rfl hc8) ?_
    refine m_Rb.n0 b_44 (x_aload_n d_44_14 rfl) ?_
    refine m_Rb.n0 b_44 (x_text d_44_15 rfl rfl) ?_
    obtain ⟨_, e10, j11⟩ := bS j9
    obtain ⟨_, g12⟩ := RT.cls h7 e10
    obtain ⟨v13, e14, j15⟩ := bS j11
    refine m_Rb.callI b_44 (y_cv d_44_17 rfl q_45 (m_isRecv_of rfl g12) (show m_takeI _ _ = some (_, [_, _], []) from m_takeI_of rfl rfl rfl (Nat.le_of_ble_eq_true rfl)) (by simp only [m_okf, List.all_cons, List.all_nil, Bool.and_true, Bool.and_self, m_okv_i, m_okv_l, m_okv_0, m_okv_n0, m_okv_t, RT.okn h7 ha0, RT.okv h7 ha0, m_okv_out (a := 13) (by decide)]) rfl) (T_c_Reader_isWord ha0 (by decide) h7 e14) f7 rfl (fun w16 h16 f16 k16 => ?_) (by decide) (by decide)
    cases hc17 : m_c1 .eq v13 with
    | true =>
      have j18 := cT hc17 j15
      refine m_Rb.n0 b_44 (x_ift d_44_20 rfl hc17) ?_
      refine m_Rb.n0 b_44 (x_aload_n d_44_28 rfl) ?_
      refine m_Rb.n0 b_44 (x_text d_44_29 rfl rfl) ?_
      obtain ⟨_, e19, j20⟩ := bS j18
      obtain ⟨_, g21⟩ := RT.cls h16 e19
      obtain ⟨v22, e23, j24⟩ := bS j20
      refine m_Rb.callI b_44 (y_cv d_44_31 rfl q_45 (m_isRecv_of rfl g21) (show m_takeI _ _ = some (_, [_, _], []) from m_takeI_of rfl rfl rfl (Nat.le_of_ble_eq_true rfl)) (by simp only [m_okf, List.all_cons, List.all_nil, Bool.and_true, Bool.and_self, m_okv_i, m_okv_l, m_okv_0, m_okv_n0, m_okv_t, RT.okn h16 ha0, RT.okv h16 ha0, m_okv_out (a := 14) (by decide)]) rfl) (T_c_Reader_isWord ha0 (by decide) h16 e23) f16 rfl (fun w25 h25 f25 k25 => ?_) (by decide) (by decide)
      cases hc26 : m_c1 .eq v22 with
      | true =>
        have j27 := cT hc26 j24
        refine m_Rb.n0 b_44 (x_ift d_44_34 rfl hc26) ?_
        refine m_Rb.n0 b_44 (x_aload_n d_44_83 rfl) ?_
        refine m_Rb.n0 b_44 (x_text d_44_84 rfl rfl) ?_
        obtain ⟨_, e28, j29⟩ := bS j27
        obtain ⟨_, g30⟩ := RT.cls h25 e28
        obtain ⟨v31, e32, j33⟩ := bS j29
        refine m_Rb.callI b_44 (y_cv d_44_86 rfl q_45 (m_isRecv_of rfl g30) (show m_takeI _ _ = some (_, [_, _], []) from m_takeI_of rfl rfl rfl (Nat.le_of_ble_eq_true rfl)) (by simp only [m_okf, List.all_cons, List.all_nil, Bool.and_true, Bool.and_self, m_okv_i, m_okv_l, m_okv_0, m_okv_n0, m_okv_t, RT.okn h25 ha0, RT.okv h25 ha0, m_okv_out (a := 15) (by decide)]) rfl) (T_c_Reader_isWord ha0 (by decide) h25 e32) f25 rfl (fun w34 h34 f34 k34 => ?_) (by decide) (by decide)
        cases hc35 : m_c1 .eq v31 with
        | true =>
          have j36 := cT hc35 j33
          refine m_Rb.n0 b_44 (x_ift d_44_89 rfl hc35) ?_
          refine m_Rb.n0 b_44 (x_aload_n d_44_98 rfl) ?_
          refine m_Rb.n0 b_44 (x_text d_44_99 rfl rfl) ?_
          obtain ⟨_, e37, j38⟩ := bS j36
          obtain ⟨_, g39⟩ := RT.cls h34 e37
          obtain ⟨v40, e41, j42⟩ := bS j38
          refine m_Rb.callI b_44 (y_cv d_44_101 rfl q_45 (m_isRecv_of rfl g39) (show m_takeI _ _ = some (_, [_, _], []) from m_takeI_of rfl rfl rfl (Nat.le_of_ble_eq_true rfl)) (by simp only [m_okf, List.all_cons, List.all_nil, Bool.and_true, Bool.and_self, m_okv_i, m_okv_l, m_okv_0, m_okv_n0, m_okv_t, RT.okn h34 ha0, RT.okv h34 ha0, m_okv_out (a := 16) (by decide)]) rfl) (T_c_Reader_isWord ha0 (by decide) h34 e41) f34 rfl (fun w43 h43 f43 k43 => ?_) (by decide) (by decide)
          cases hc44 : m_c1 .eq v40 with
          | true =>
            have j45 := cT hc44 j42
            refine m_Rb.n0 b_44 (x_ift d_44_104 rfl hc44) ?_
            refine m_Rb.n0 b_44 (x_aload_n d_44_113 rfl) ?_
            refine m_Rb.n0 b_44 (x_text d_44_114 rfl rfl) ?_
            obtain ⟨_, e46, j47⟩ := bS j45
            obtain ⟨_, g48⟩ := RT.cls h43 e46
            obtain ⟨v49, e50, j51⟩ := bS j47
            refine m_Rb.callI b_44 (y_cv d_44_116 rfl q_45 (m_isRecv_of rfl g48) (show m_takeI _ _ = some (_, [_, _], []) from m_takeI_of rfl rfl rfl (Nat.le_of_ble_eq_true rfl)) (by simp only [m_okf, List.all_cons, List.all_nil, Bool.and_true, Bool.and_self, m_okv_i, m_okv_l, m_okv_0, m_okv_n0, m_okv_t, RT.okn h43 ha0, RT.okv h43 ha0, m_okv_out (a := 9) (by decide)]) rfl) (T_c_Reader_isWord ha0 (by decide) h43 e50) f43 rfl (fun w52 h52 f52 k52 => ?_) (by decide) (by decide)
            cases hc53 : m_c1 .eq v49 with
            | true =>
              have j54 := cT hc53 j51
              refine m_Rb.n0 b_44 (x_ift d_44_119 rfl hc53) ?_
              refine m_Rb.n0 b_44 (x_aload_n d_44_128 rfl) ?_
              obtain ⟨_, e55, j56⟩ := bS j54
              obtain ⟨_, g57⟩ := RT.cls h52 e55
              obtain ⟨v58, T59, e60, j61⟩ := bS2 j56
              refine m_Rb.callI b_44 (y_cv d_44_129 rfl q_56 (m_isRecv_of rfl g57) (show m_takeI _ _ = some (_, [_], []) from m_takeI_of rfl rfl rfl (Nat.le_of_ble_eq_true rfl)) (by simp only [m_okf, List.all_cons, List.all_nil, Bool.and_true, Bool.and_self, m_okv_i, m_okv_l, m_okv_0, m_okv_n0, m_okv_t, RT.okn h52 ha0, RT.okv h52 ha0]) rfl) (T_c_Reader_skipValue ha0 h52 e60) f52 rfl (fun w62 h62 f62 k62 => ?_) (by decide) (by decide)
              obtain ⟨v63, e64, j65⟩ := bS j61
              cases j65
              exact m_Rb.retb b_44 d_44_132 rfl e64 ⟨rfl, h62, f62⟩
            | false =>
              have j54 := cF hc53 j51
              refine m_Rb.n0 b_44 (x_iff d_44_119 rfl hc53) ?_
              refine m_Rb.n0 b_44 (x_aload_n d_44_122 rfl) ?_
              refine m_Rb.n0 b_44 (x_iconst (z := 2) d_44_123 (by decide)) ?_
              obtain ⟨_, e66, j67⟩ := bS j54
              obtain ⟨_, g68⟩ := RT.cls h52 e66
              obtain ⟨v69, T70, e71, j72⟩ := bS2 j67
              refine m_Rb.callI b_44 (y_cv d_44_124 rfl q_49 (m_isRecv_of rfl g68) (show m_takeI _ _ = some (_, [_, _], []) from m_takeI_of rfl rfl rfl (Nat.le_of_ble_eq_true rfl)) (by simp only [m_okf, List.all_cons, List.all_nil, Bool.and_true, Bool.and_self, m_okv_i, m_okv_l, m_okv_0, m_okv_n0, m_okv_t, RT.okn h52 ha0, RT.okv h52 ha0]) rfl) (T_c_Reader_readList ha0 h52 e71) f52 rfl (fun w73 h73 f73 k73 => ?_) (by decide) (by decide)
              obtain ⟨v74, e75, j76⟩ := bS j72
              cases j76
              exact m_Rb.retb b_44 d_44_127 rfl e75 ⟨rfl, h73, f73⟩
          | false =>
            have j45 := cF hc44 j42
            refine m_Rb.n0 b_44 (x_iff d_44_104 rfl hc44) ?_
            refine m_Rb.n0 b_44 (x_aload_n d_44_107 rfl) ?_
            refine m_Rb.n0 b_44 (x_iconst (z := 1) d_44_108 (by decide)) ?_
            obtain ⟨_, e77, j78⟩ := bS j45
            obtain ⟨_, g79⟩ := RT.cls h43 e77
            obtain ⟨v80, T81, e82, j83⟩ := bS2 j78
            refine m_Rb.callI b_44 (y_cv d_44_109 rfl q_49 (m_isRecv_of rfl g79) (show m_takeI _ _ = some (_, [_, _], []) from m_takeI_of rfl rfl rfl (Nat.le_of_ble_eq_true rfl)) (by simp only [m_okf, List.all_cons, List.all_nil, Bool.and_true, Bool.and_self, m_okv_i, m_okv_l, m_okv_0, m_okv_n0, m_okv_t, RT.okn h43 ha0, RT.okv h43 ha0]) rfl) (T_c_Reader_readList ha0 h43 e82) f43 rfl (fun w84 h84 f84 k84 => ?_) (by decide) (by decide)
            obtain ⟨v85, e86, j87⟩ := bS j83
            cases j87
            exact m_Rb.retb b_44 d_44_112 rfl e86 ⟨rfl, h84, f84⟩
        | false =>
          have j36 := cF hc35 j33
          refine m_Rb.n0 b_44 (x_iff d_44_89 rfl hc35) ?_
          refine m_Rb.n0 b_44 (x_aload_n d_44_92 rfl) ?_
          refine m_Rb.n0 b_44 (x_iconst (z := 0) d_44_93 (by decide)) ?_
          obtain ⟨_, e88, j89⟩ := bS j36
          obtain ⟨_, g90⟩ := RT.cls h34 e88
          obtain ⟨v91, T92, e93, j94⟩ := bS2 j89
          refine m_Rb.callI b_44 (y_cv d_44_94 rfl q_49 (m_isRecv_of rfl g90) (show m_takeI _ _ = some (_, [_, _], []) from m_takeI_of rfl rfl rfl (Nat.le_of_ble_eq_true rfl)) (by simp only [m_okf, List.all_cons, List.all_nil, Bool.and_true, Bool.and_self, m_okv_i, m_okv_l, m_okv_0, m_okv_n0, m_okv_t, RT.okn h34 ha0, RT.okv h34 ha0]) rfl) (T_c_Reader_readList ha0 h34 e93) f34 rfl (fun w95 h95 f95 k95 => ?_) (by decide) (by decide)
          obtain ⟨v96, e97, j98⟩ := bS j94
          cases j98
          exact m_Rb.retb b_44 d_44_97 rfl e97 ⟨rfl, h95, f95⟩
      | false =>
        have j27 := cF hc26 j24
        refine m_Rb.n0 b_44 (x_iff d_44_34 rfl hc26) ?_
        refine m_Rb.n0 b_44 (x_aload_n d_44_37 rfl) ?_
        refine m_Rb.n0 b_44 (x_bipush (z := 34) d_44_38 (by decide)) ?_
        obtain ⟨_, e99, j100⟩ := bS j27
        obtain ⟨_, g101⟩ := RT.cls h25 e99
        obtain ⟨v102, T103, e104, j105⟩ := bS2 j100
        refine m_Rb.callI b_44 (y_cv d_44_40 rfl q_35 (m_isRecv_of rfl g101) (show m_takeI _ _ = some (_, [_, _], []) from m_takeI_of rfl rfl rfl (Nat.le_of_ble_eq_true rfl)) (by simp only [m_okf, List.all_cons, List.all_nil, Bool.and_true, Bool.and_self, m_okv_i, m_okv_l, m_okv_0, m_okv_n0, m_okv_t, RT.okn h25 ha0, RT.okv h25 ha0]) rfl) (T_c_Reader_expect ha0 h25 e104) f25 rfl (fun w106 h106 f106 k106 => ?_) (by decide) (by decide)
        cases hc121 : m_c1 .eq v102 with
        | true =>
          have j122 := cT hc121 j105
          refine m_Rb.n0 b_44 (x_ift d_44_43 rfl hc121) ?_
          exact m_Rb.pick [0] rfl (T_c_Reader_readAskedValue_68 (okm ha0 k106) h106 f106 j122)
        | false =>
          have j122 := cF hc121 j105
          refine m_Rb.n0 b_44 (x_iff d_44_43 rfl hc121) ?_
          refine m_Rb.n0 b_44 (x_aload_n d_44_46 rfl) ?_
          refine m_Rb.n0 b_44 (x_ldc (v := .int 99999) d_44_47 rfl) ?_
          obtain ⟨_, e123, j124⟩ := bS j122
          obtain ⟨_, g125⟩ := RT.cls h106 e123
          obtain ⟨v126, T127, e128, j129⟩ := bS2 j124
          refine m_Rb.callI b_44 (y_cv d_44_49 rfl q_38 (m_isRecv_of rfl g125) (show m_takeI _ _ = some (_, [_, _], []) from m_takeI_of rfl rfl rfl (Nat.le_of_ble_eq_true rfl)) (by simp only [m_okf, List.all_cons, List.all_nil, Bool.and_true, Bool.and_self, m_okv_i, m_okv_l, m_okv_0, m_okv_n0, m_okv_t, RT.okn h106 (okm ha0 k106), RT.okv h106 (okm ha0 k106)]) rfl) (T_c_Reader_readNumber (okm ha0 k106) h106 e128) f106 rfl (fun w130 h130 f130 k130 => ?_) (by decide) (by decide)
          cases hc145 : m_c1 .eq v126 with
          | true =>
            have j146 := cT hc145 j129
            refine m_Rb.n0 b_44 (x_ift d_44_52 rfl hc145) ?_
            exact m_Rb.pick [0] rfl (T_c_Reader_readAskedValue_68 (okm (okm ha0 k106) k130) h130 f130 j146)
          | false =>
            have j146 := cF hc145 j129
            refine m_Rb.n0 b_44 (x_iff d_44_52 rfl hc145) ?_
            refine m_Rb.n0 b_44 (x_aload_n d_44_55 rfl) ?_
            refine m_Rb.n0 b_44 (x_bipush (z := 34) d_44_56 (by decide)) ?_
            obtain ⟨_, e147, j148⟩ := bS j146
            obtain ⟨_, g149⟩ := RT.cls h130 e147
            obtain ⟨v150, T151, e152, j153⟩ := bS2 j148
            refine m_Rb.callI b_44 (y_cv d_44_58 rfl q_35 (m_isRecv_of rfl g149) (show m_takeI _ _ = some (_, [_, _], []) from m_takeI_of rfl rfl rfl (Nat.le_of_ble_eq_true rfl)) (by simp only [m_okf, List.all_cons, List.all_nil, Bool.and_true, Bool.and_self, m_okv_i, m_okv_l, m_okv_0, m_okv_n0, m_okv_t, RT.okn h130 (okm (okm ha0 k106) k130), RT.okv h130 (okm (okm ha0 k106) k130)]) rfl) (T_c_Reader_expect (okm (okm ha0 k106) k130) h130 e152) f130 rfl (fun w154 h154 f154 k154 => ?_) (by decide) (by decide)
            obtain ⟨v159, e156, j160⟩ := bS j153
            have kk155 : ∀ (xz : Int32) (w1 : List mM), xz = v159 → RT T151 w1 → m_Fm w0 w1 → m_Rb l M_44 (69, [(0, .ref a0)], [.int xz], w1) (fun v w' => v = some (.int yz) ∧ RT Tz w' ∧ m_Fm w0 w') T151 Tz 7 700 := by
              intro xz w161 ez h161 f161
              rw [ez]
              refine m_Rb.n0 b_44 (x_istore_n d_44_69 rfl (show m_put1 _ _ _ = [(1, _), (0, _)] from rfl)) ?_
              refine m_Rb.n0 b_44 (x_aload_n d_44_70 rfl) ?_
              obtain ⟨v162, e163, j164⟩ := bS j160
              refine m_Rb.tgetR b_44 d_44_71 rfl h161 e163 (fun o165 => ?_)
              refine m_Rb.n0 b_44 (x_aload_n d_44_74 rfl) ?_
              obtain ⟨v166, e167, j168⟩ := bS j164
              refine m_Rb.tgetI b_44 d_44_75 rfl h161 e167 ?_
              obtain ⟨a169, e170, j171⟩ := bS j168
              subst e170
              obtain ⟨T172, e173, j174⟩ := bS j171
              refine m_Rb.tputI b_44 d_44_78 rfl rfl (by decide) h161 f161 e173 (fun w175 h175 f175 k175 => ?_)
              refine m_Rb.n0 b_44 (x_iload_n d_44_81 rfl) ?_
              obtain ⟨v176, e177, j178⟩ := bS j174
              cases j178
              exact m_Rb.retb b_44 d_44_82 rfl e177 ⟨rfl, h175, f175⟩
            cases hc157 : m_c1 .eq v150 with
            | true =>
              have j158 := cT hc157 e156
              refine m_Rb.n0 b_44 (x_ift d_44_61 rfl hc157) ?_
              refine m_Rb.n0 b_44 (x_iconst (z := 0) d_44_68 (by decide)) ?_
              exact kk155 _ _ (Option.some.inj j158) h154 f154
            | false =>
              have j158 := cF hc157 e156
              refine m_Rb.n0 b_44 (x_iff d_44_61 rfl hc157) ?_
              refine m_Rb.n0 b_44 (x_iconst (z := 1) d_44_64 (by decide)) ?_
              refine m_Rb.n0 b_44 (x_goto d_44_65 rfl) ?_
              exact kk155 _ _ (Option.some.inj j158) h154 f154
    | false =>
      have j18 := cF hc17 j15
      refine m_Rb.n0 b_44 (x_iff d_44_20 rfl hc17) ?_
      refine m_Rb.n0 b_44 (x_aload_n d_44_23 rfl) ?_
      obtain ⟨_, e179, j180⟩ := bS j18
      obtain ⟨_, g181⟩ := RT.cls h16 e179
      obtain ⟨v182, T183, e184, j185⟩ := bS2 j180
      refine m_Rb.callI b_44 (y_cv d_44_24 rfl q_47 (m_isRecv_of rfl g181) (show m_takeI _ _ = some (_, [_], []) from m_takeI_of rfl rfl rfl (Nat.le_of_ble_eq_true rfl)) (by simp only [m_okf, List.all_cons, List.all_nil, Bool.and_true, Bool.and_self, m_okv_i, m_okv_l, m_okv_0, m_okv_n0, m_okv_t, RT.okn h16 ha0, RT.okv h16 ha0]) rfl) (T_c_Reader_readMatch ha0 h16 e184) f16 rfl (fun w186 h186 f186 k186 => ?_) (by decide) (by decide)
      obtain ⟨v187, e188, j189⟩ := bS j185
      cases j189
      exact m_Rb.retb b_44 d_44_27 rfl e188 ⟨rfl, h186, f186⟩
  | false =>
    have j9 := cF hc8 j6
    refine m_Rb.n0 b_44 (x_iff d_44_6 rfl hc8) ?_
    refine m_Rb.n0 b_44 (x_aload_n d_44_9 rfl) ?_
    obtain ⟨_, e190, j191⟩ := bS j9
    obtain ⟨_, g192⟩ := RT.cls h7 e190
    obtain ⟨v193, T194, e195, j196⟩ := bS2 j191
    refine m_Rb.callI b_44 (y_cv d_44_10 rfl q_46 (m_isRecv_of rfl g192) (show m_takeI _ _ = some (_, [_], []) from m_takeI_of rfl rfl rfl (Nat.le_of_ble_eq_true rfl)) (by simp only [m_okf, List.all_cons, List.all_nil, Bool.and_true, Bool.and_self, m_okv_i, m_okv_l, m_okv_0, m_okv_n0, m_okv_t, RT.okn h7 ha0, RT.okv h7 ha0]) rfl) (T_c_Reader_readRange ha0 h7 e195) f7 rfl (fun w197 h197 f197 k197 => ?_) (by decide) (by decide)
    obtain ⟨v198, e199, j200⟩ := bS j196
    cases j200
    exact m_Rb.retb b_44 d_44_13 rfl e199 ⟨rfl, h197, f197⟩
def D_c_Reader_readEnd_31 (F : Nat) (x0 : Nat) (T : tT) : Option (Int32 × tT) := some ((1 : Int32), T)
theorem T_c_Reader_readEnd_31 {l : Launch} {w0 : List mM} {F : Nat} {x0 : Nat} {T : tT} {w : List mM} {yz : Int32} {Tz : tT} (hx0 : okr T.2.1 (some x0)) (h : RT T w) (hF : m_Fm w0 w) (h0 : D_c_Reader_readEnd_31 F x0 T = some (yz, Tz)) : m_Rb l M_57 (31, [(0, .ref x0)], [], w) (fun v w' => v = some (.int yz) ∧ RT Tz w' ∧ m_Fm w0 w') T Tz 2 200 := by
  rw [D_c_Reader_readEnd_31] at h0
  refine m_Rb.n0 b_57 (x_iconst (z := 1) d_57_31 (by decide)) ?_
  refine m_Rb.n0 b_57 (x_goto d_57_32 rfl) ?_
  cases h0
  exact m_Rb.ret b_57 (m_rt_ir d_57_36 rfl m_nb1) ⟨rfl, h, hF⟩
def D_c_Reader_readEnd (F : Nat) (a0 : Nat) (T : tT) : Option (Int32 × tT) := (tcl T a0 1).bind fun _ => bd2 (D_c_Reader_expect F a0 (10 : Int32) T) fun v4 T5 => cond (m_c1 .eq v4) (some ((0 : Int32), T5)) ((tgi T5 a0 1 2).bind fun v36 => (tgi T5 a0 1 1).bind fun v39 => cond (m_c2 .eq v36 v39) (D_c_Reader_readEnd_31 F a0 T5) ((tgi T5 a0 1 2).bind fun v61 => (tcl T5 a0 1).bind fun _ => bd2 (D_c_Reader_no F a0 v61 T5) fun v67 T68 => (cond (m_c1 .eq v67) (some (0 : Int32)) (some (1 : Int32))).bind fun v76 => (bret v76).bind fun v79 => some (v79, T68)))
theorem T_c_Reader_readEnd {l : Launch} {w : List mM} {F : Nat} {a0 : Nat} {T : tT} {yz : Int32} {Tz : tT} (ha0 : okr T.2.1 (some a0)) (h : RT T w) (h0 : D_c_Reader_readEnd F a0 T = some (yz, Tz)) : m_Rb l M_57 (m_ent M_57 [.ref a0] w) (fun v w' => v = some (.int yz) ∧ RT Tz w' ∧ m_Fm w w') T Tz 2 200 := by
  rw [show m_ent M_57 [.ref a0] w = (0, [(0, .ref a0)], [], w) from by first | rfl | (simp only [m_ent, lv_args_r, lv_args_a, lv_args_i, lv_args_l, lv_args_0]; done) | (simp only [m_ent, lv_args_r, lv_args_a, lv_args_i, lv_args_l, lv_args_0]; rfl)]
  generalize hw0 : w = w0 at h ⊢
  have hF : m_Fm w0 w0 := m_Fm.refl
  rw [D_c_Reader_readEnd] at h0
  refine m_Rb.n0 b_57 (x_aload_n d_57_0 rfl) ?_
  refine m_Rb.n0 b_57 (x_bipush (z := 10) d_57_1 (by decide)) ?_
  obtain ⟨_, e1, j2⟩ := bS h0
  obtain ⟨_, g3⟩ := RT.cls h e1
  obtain ⟨v4, T5, e6, j7⟩ := bS2 j2
  refine m_Rb.callI b_57 (y_cv d_57_3 rfl q_35 (m_isRecv_of rfl g3) (show m_takeI _ _ = some (_, [_, _], []) from m_takeI_of rfl rfl rfl (Nat.le_of_ble_eq_true rfl)) (by simp only [m_okf, List.all_cons, List.all_nil, Bool.and_true, Bool.and_self, m_okv_i, m_okv_l, m_okv_0, m_okv_n0, m_okv_t, RT.okn h ha0, RT.okv h ha0]) rfl) (T_c_Reader_expect ha0 h e6) hF rfl (fun w8 h8 f8 k8 => ?_) (by decide) (by decide)
  cases hc34 : m_c1 .eq v4 with
  | true =>
    have j35 := cT hc34 j7
    refine m_Rb.n0 b_57 (x_ift d_57_6 rfl hc34) ?_
    refine m_Rb.n0 b_57 (x_iconst (z := 0) d_57_35 (by decide)) ?_
    cases j35
    exact m_Rb.ret b_57 (m_rt_ir d_57_36 rfl m_nb0) ⟨rfl, h8, f8⟩
  | false =>
    have j35 := cF hc34 j7
    refine m_Rb.n0 b_57 (x_iff d_57_6 rfl hc34) ?_
    refine m_Rb.n0 b_57 (x_aload_n d_57_9 rfl) ?_
    obtain ⟨v36, e37, j38⟩ := bS j35
    refine m_Rb.tgetI b_57 d_57_10 rfl h8 e37 ?_
    refine m_Rb.n0 b_57 (x_aload_n d_57_13 rfl) ?_
    obtain ⟨v39, e40, j41⟩ := bS j38
    refine m_Rb.tgetI b_57 d_57_14 rfl h8 e40 ?_
    cases hc59 : m_c2 .eq v36 v39 with
    | true =>
      have j60 := cT hc59 j41
      refine m_Rb.n0 b_57 (x_ict d_57_17 rfl hc59) ?_
      exact m_Rb.pick [0] rfl (T_c_Reader_readEnd_31 (okm ha0 k8) h8 f8 j60)
    | false =>
      have j60 := cF hc59 j41
      refine m_Rb.n0 b_57 (x_icf d_57_17 rfl hc59) ?_
      refine m_Rb.n0 b_57 (x_aload_n d_57_20 rfl) ?_
      refine m_Rb.n0 b_57 (x_aload_n d_57_21 rfl) ?_
      obtain ⟨v61, e62, j63⟩ := bS j60
      refine m_Rb.tgetI b_57 d_57_22 rfl h8 e62 ?_
      obtain ⟨_, e64, j65⟩ := bS j63
      obtain ⟨_, g66⟩ := RT.cls h8 e64
      obtain ⟨v67, T68, e69, j70⟩ := bS2 j65
      refine m_Rb.callI b_57 (y_cv d_57_25 rfl q_36 (m_isRecv_of rfl g66) (show m_takeI _ _ = some (_, [_, _], []) from m_takeI_of rfl rfl rfl (Nat.le_of_ble_eq_true rfl)) (by simp only [m_okf, List.all_cons, List.all_nil, Bool.and_true, Bool.and_self, m_okv_i, m_okv_l, m_okv_0, m_okv_n0, m_okv_t, RT.okn h8 (okm ha0 k8), RT.okv h8 (okm ha0 k8)]) rfl) (T_c_Reader_no (okm ha0 k8) h8 e69) f8 rfl (fun w71 h71 f71 k71 => ?_) (by decide) (by decide)
      obtain ⟨v76, e73, j77⟩ := bS j70
      have kk72 : ∀ (xz : Int32) (w1 : List mM), xz = v76 → RT T68 w1 → m_Fm w0 w1 → m_Rb l M_57 (36, [(0, .ref a0)], [.int xz], w1) (fun v w' => v = some (.int yz) ∧ RT Tz w' ∧ m_Fm w0 w') T68 Tz 2 200 := by
        intro xz w78 ez h78 f78
        rw [ez]
        obtain ⟨v79, e80, j81⟩ := bS j77
        cases j81
        exact m_Rb.retb b_57 d_57_36 rfl e80 ⟨rfl, h78, f78⟩
      cases hc74 : m_c1 .eq v67 with
      | true =>
        have j75 := cT hc74 e73
        refine m_Rb.n0 b_57 (x_ift d_57_28 rfl hc74) ?_
        refine m_Rb.n0 b_57 (x_iconst (z := 0) d_57_35 (by decide)) ?_
        exact kk72 _ _ (Option.some.inj j75) h71 f71
      | false =>
        have j75 := cF hc74 e73
        refine m_Rb.n0 b_57 (x_iff d_57_28 rfl hc74) ?_
        refine m_Rb.n0 b_57 (x_iconst (z := 1) d_57_31 (by decide)) ?_
        refine m_Rb.n0 b_57 (x_goto d_57_32 rfl) ?_
        exact kk72 _ _ (Option.some.inj j75) h71 f71
