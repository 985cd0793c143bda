/-! The class's methods as guarded functions. Written by wip/tool/decc1.py. -/
theorem q_1 : m_mt[1]? = some M_1 := by rfl
theorem q_10 : m_mt[10]? = some M_10 := by rfl
theorem q_11 : m_mt[11]? = some M_11 := by rfl
theorem q_13 : m_mt[13]? = some M_13 := by rfl
theorem q_12 : m_mt[12]? = some M_12 := by rfl
theorem q_15 : m_mt[15]? = some M_15 := by rfl
theorem q_14 : m_mt[14]? = some M_14 := by rfl
theorem q_19 : m_mt[19]? = some M_19 := by rfl
theorem q_20 : m_mt[20]? = some M_20 := by rfl
theorem q_21 : m_mt[21]? = some M_21 := by rfl
theorem q_22 : m_mt[22]? = some M_22 := by rfl
theorem q_36 : m_mt[36]? = some M_36 := by rfl
theorem q_35 : m_mt[35]? = some M_35 := by rfl
theorem q_23 : m_mt[23]? = some M_23 := by rfl
theorem q_39 : m_mt[39]? = some M_39 := by rfl
theorem q_38 : m_mt[38]? = some M_38 := by rfl
theorem q_37 : m_mt[37]? = some M_37 := by rfl
theorem q_41 : m_mt[41]? = some M_41 := by rfl
theorem q_43 : m_mt[43]? = some M_43 := by rfl
theorem q_42 : m_mt[42]? = some M_42 := by rfl
theorem q_40 : m_mt[40]? = some M_40 := by rfl
theorem q_45 : m_mt[45]? = some M_45 := by rfl
theorem q_46 : m_mt[46]? = some M_46 := by rfl
theorem q_48 : m_mt[48]? = some M_48 := by rfl
theorem q_47 : m_mt[47]? = some M_47 := by rfl
theorem q_50 : m_mt[50]? = some M_50 := by rfl
theorem q_51 : m_mt[51]? = some M_51 := by rfl
theorem q_52 : m_mt[52]? = some M_52 := by rfl
theorem q_53 : m_mt[53]? = some M_53 := by rfl
theorem q_54 : m_mt[54]? = some M_54 := by rfl
theorem q_55 : m_mt[55]? = some M_55 := by rfl
theorem q_49 : m_mt[49]? = some M_49 := by rfl
theorem q_56 : m_mt[56]? = some M_56 := by rfl
theorem q_44 : m_mt[44]? = some M_44 := by rfl
theorem q_57 : m_mt[57]? = some M_57 := by rfl
theorem q_58 : m_mt[58]? = some M_58 := by rfl
theorem b_1 : m_bOk M_1 := (m_mt_ok M_1 (List.mem_of_getElem? q_1)).body
theorem b_10 : m_bOk M_10 := (m_mt_ok M_10 (List.mem_of_getElem? q_10)).body
theorem b_11 : m_bOk M_11 := (m_mt_ok M_11 (List.mem_of_getElem? q_11)).body
theorem b_13 : m_bOk M_13 := (m_mt_ok M_13 (List.mem_of_getElem? q_13)).body
theorem b_12 : m_bOk M_12 := (m_mt_ok M_12 (List.mem_of_getElem? q_12)).body
theorem b_15 : m_bOk M_15 := (m_mt_ok M_15 (List.mem_of_getElem? q_15)).body
theorem b_14 : m_bOk M_14 := (m_mt_ok M_14 (List.mem_of_getElem? q_14)).body
theorem b_19 : m_bOk M_19 := (m_mt_ok M_19 (List.mem_of_getElem? q_19)).body
theorem b_20 : m_bOk M_20 := (m_mt_ok M_20 (List.mem_of_getElem? q_20)).body
theorem b_21 : m_bOk M_21 := (m_mt_ok M_21 (List.mem_of_getElem? q_21)).body
theorem b_22 : m_bOk M_22 := (m_mt_ok M_22 (List.mem_of_getElem? q_22)).body
theorem b_36 : m_bOk M_36 := (m_mt_ok M_36 (List.mem_of_getElem? q_36)).body
theorem b_35 : m_bOk M_35 := (m_mt_ok M_35 (List.mem_of_getElem? q_35)).body
theorem b_23 : m_bOk M_23 := (m_mt_ok M_23 (List.mem_of_getElem? q_23)).body
theorem b_39 : m_bOk M_39 := (m_mt_ok M_39 (List.mem_of_getElem? q_39)).body
theorem b_38 : m_bOk M_38 := (m_mt_ok M_38 (List.mem_of_getElem? q_38)).body
theorem b_37 : m_bOk M_37 := (m_mt_ok M_37 (List.mem_of_getElem? q_37)).body
theorem b_41 : m_bOk M_41 := (m_mt_ok M_41 (List.mem_of_getElem? q_41)).body
theorem b_43 : m_bOk M_43 := (m_mt_ok M_43 (List.mem_of_getElem? q_43)).body
theorem b_42 : m_bOk M_42 := (m_mt_ok M_42 (List.mem_of_getElem? q_42)).body
theorem b_40 : m_bOk M_40 := (m_mt_ok M_40 (List.mem_of_getElem? q_40)).body
theorem b_45 : m_bOk M_45 := (m_mt_ok M_45 (List.mem_of_getElem? q_45)).body
theorem b_46 : m_bOk M_46 := (m_mt_ok M_46 (List.mem_of_getElem? q_46)).body
theorem b_48 : m_bOk M_48 := (m_mt_ok M_48 (List.mem_of_getElem? q_48)).body
theorem b_47 : m_bOk M_47 := (m_mt_ok M_47 (List.mem_of_getElem? q_47)).body
theorem b_50 : m_bOk M_50 := (m_mt_ok M_50 (List.mem_of_getElem? q_50)).body
theorem b_51 : m_bOk M_51 := (m_mt_ok M_51 (List.mem_of_getElem? q_51)).body
theorem b_52 : m_bOk M_52 := (m_mt_ok M_52 (List.mem_of_getElem? q_52)).body
theorem b_53 : m_bOk M_53 := (m_mt_ok M_53 (List.mem_of_getElem? q_53)).body
theorem b_54 : m_bOk M_54 := (m_mt_ok M_54 (List.mem_of_getElem? q_54)).body
theorem b_55 : m_bOk M_55 := (m_mt_ok M_55 (List.mem_of_getElem? q_55)).body
theorem b_49 : m_bOk M_49 := (m_mt_ok M_49 (List.mem_of_getElem? q_49)).body
theorem b_56 : m_bOk M_56 := (m_mt_ok M_56 (List.mem_of_getElem? q_56)).body
theorem b_44 : m_bOk M_44 := (m_mt_ok M_44 (List.mem_of_getElem? q_44)).body
theorem b_57 : m_bOk M_57 := (m_mt_ok M_57 (List.mem_of_getElem? q_57)).body
theorem b_58 : m_bOk M_58 := (m_mt_ok M_58 (List.mem_of_getElem? q_58)).body
theorem d_11_0 : m_dn M_11 0 (.iload_n 0) 1 1 := by decide +kernel
theorem d_11_1 : m_dn M_11 1 (.ldc_w 264) 3 4 := by decide +kernel
theorem d_11_10 : m_dn M_11 10 (.iadd) 1 11 := by decide +kernel
theorem d_11_11 : m_dn M_11 11 (.istore_n 2) 1 12 := by decide +kernel
theorem d_11_12 : m_dn M_11 12 (.iload_n 2) 1 13 := by decide +kernel
theorem d_11_13 : m_dn M_11 13 (.iload_n 2) 1 14 := by decide +kernel
theorem d_11_14 : m_dn M_11 14 (.bipush 15) 2 16 := by decide +kernel
theorem d_11_16 : m_dn M_11 16 (.iushr) 1 17 := by decide +kernel
theorem d_11_17 : m_dn M_11 17 (.ixor) 1 18 := by decide +kernel
theorem d_11_18 : m_dn M_11 18 (.istore_n 2) 1 19 := by decide +kernel
theorem d_11_19 : m_dn M_11 19 (.iload_n 2) 1 20 := by decide +kernel
theorem d_11_20 : m_dn M_11 20 (.ldc_w 266) 3 23 := by decide +kernel
theorem d_11_23 : m_dn M_11 23 (.imul) 1 24 := by decide +kernel
theorem d_11_24 : m_dn M_11 24 (.istore_n 2) 1 25 := by decide +kernel
theorem d_11_25 : m_dn M_11 25 (.iload_n 2) 1 26 := by decide +kernel
theorem d_11_26 : m_dn M_11 26 (.iload_n 2) 1 27 := by decide +kernel
theorem d_11_27 : m_dn M_11 27 (.bipush 12) 2 29 := by decide +kernel
theorem d_11_29 : m_dn M_11 29 (.iushr) 1 30 := by decide +kernel
theorem d_11_30 : m_dn M_11 30 (.ixor) 1 31 := by decide +kernel
theorem d_11_31 : m_dn M_11 31 (.istore_n 2) 1 32 := by decide +kernel
theorem d_11_32 : m_dn M_11 32 (.iload_n 2) 1 33 := by decide +kernel
theorem d_11_33 : m_dn M_11 33 (.bipush 16) 2 35 := by decide +kernel
theorem d_11_35 : m_dn M_11 35 (.iushr) 1 36 := by decide +kernel
theorem d_11_36 : m_dn M_11 36 (.ireturn) 1 37 := by decide +kernel
theorem d_11_4 : m_dn M_11 4 (.imul) 1 5 := by decide +kernel
theorem d_11_5 : m_dn M_11 5 (.iload_n 1) 1 6 := by decide +kernel
theorem d_11_6 : m_dn M_11 6 (.ldc_w 265) 3 9 := by decide +kernel
theorem d_11_9 : m_dn M_11 9 (.imul) 1 10 := by decide +kernel
theorem d_12_0 : m_dn M_12 0 (.aload_n 0) 1 1 := by decide +kernel
theorem d_12_1 : m_dn M_12 1 (.getfield 10) 3 4 := by decide +kernel
theorem d_12_4 : m_dn M_12 4 (.lload_n 1) 1 5 := by decide +kernel
theorem d_12_5 : m_dn M_12 5 (.iload_n 3) 1 6 := by decide +kernel
theorem d_12_6 : m_dn M_12 6 (.invokevirtual 65) 3 9 := by decide +kernel
theorem d_12_9 : m_dn M_12 9 (.ireturn) 1 10 := by decide +kernel
theorem d_13_0 : m_dn M_13 0 (.iload_n 3) 1 1 := by decide +kernel
theorem d_13_1 : m_dn M_13 1 (.iconst 1) 1 2 := by decide +kernel
theorem d_13_100 : m_dn M_13 100 (.imul) 1 101 := by decide +kernel
theorem d_13_101 : m_dn M_13 101 (.lushr) 1 102 := by decide +kernel
theorem d_13_102 : m_dn M_13 102 (.ldc2_w 29) 3 105 := by decide +kernel
theorem d_13_105 : m_dn M_13 105 (.land) 1 106 := by decide +kernel
theorem d_13_106 : m_dn M_13 106 (.l2i) 1 107 := by decide +kernel
theorem d_13_107 : m_dn M_13 107 (.i2c) 1 108 := by decide +kernel
theorem d_13_108 : m_dn M_13 108 (.castore) 1 109 := by decide +kernel
theorem d_13_109 : m_dn M_13 109 (.aload_n 0) 1 110 := by decide +kernel
theorem d_13_11 : m_dn M_13 11 (.aload_n 0) 1 12 := by decide +kernel
theorem d_13_110 : m_dn M_13 110 (.dup) 1 111 := by decide +kernel
theorem d_13_111 : m_dn M_13 111 (.getfield 26) 3 114 := by decide +kernel
theorem d_13_114 : m_dn M_13 114 (.iconst 1) 1 115 := by decide +kernel
theorem d_13_115 : m_dn M_13 115 (.iadd) 1 116 := by decide +kernel
theorem d_13_116 : m_dn M_13 116 (.putfield 26) 3 119 := by decide +kernel
theorem d_13_119 : m_dn M_13 119 (.iinc 4 (-1)) 3 122 := by decide +kernel
theorem d_13_12 : m_dn M_13 12 (.getfield 26) 3 15 := by decide +kernel
theorem d_13_122 : m_dn M_13 122 (.goto (-40)) 3 125 := by decide +kernel
theorem d_13_125 : m_dn M_13 125 (.iconst 1) 1 126 := by decide +kernel
theorem d_13_126 : m_dn M_13 126 (.ireturn) 1 127 := by decide +kernel
theorem d_13_15 : m_dn M_13 15 (.iload_n 3) 1 16 := by decide +kernel
theorem d_13_16 : m_dn M_13 16 (.iadd) 1 17 := by decide +kernel
theorem d_13_17 : m_dn M_13 17 (.sipush 300) 3 20 := by decide +kernel
theorem d_13_2 : m_dn M_13 2 (.if_icmp .lt 21) 3 5 := by decide +kernel
theorem d_13_20 : m_dn M_13 20 (.if_icmp .le 5) 3 23 := by decide +kernel
theorem d_13_23 : m_dn M_13 23 (.iconst 0) 1 24 := by decide +kernel
theorem d_13_24 : m_dn M_13 24 (.ireturn) 1 25 := by decide +kernel
theorem d_13_25 : m_dn M_13 25 (.iconst 0) 1 26 := by decide +kernel
theorem d_13_26 : m_dn M_13 26 (.istore 4) 2 28 := by decide +kernel
theorem d_13_28 : m_dn M_13 28 (.iload 4) 2 30 := by decide +kernel
theorem d_13_30 : m_dn M_13 30 (.iload_n 3) 1 31 := by decide +kernel
theorem d_13_31 : m_dn M_13 31 (.if_icmp .ge 46) 3 34 := by decide +kernel
theorem d_13_34 : m_dn M_13 34 (.lload_n 1) 1 35 := by decide +kernel
theorem d_13_35 : m_dn M_13 35 (.bipush 8) 2 37 := by decide +kernel
theorem d_13_37 : m_dn M_13 37 (.iload 4) 2 39 := by decide +kernel
theorem d_13_39 : m_dn M_13 39 (.imul) 1 40 := by decide +kernel
theorem d_13_40 : m_dn M_13 40 (.lushr) 1 41 := by decide +kernel
theorem d_13_41 : m_dn M_13 41 (.ldc2_w 29) 3 44 := by decide +kernel
theorem d_13_44 : m_dn M_13 44 (.land) 1 45 := by decide +kernel
theorem d_13_45 : m_dn M_13 45 (.l2i) 1 46 := by decide +kernel
theorem d_13_46 : m_dn M_13 46 (.istore 5) 2 48 := by decide +kernel
theorem d_13_48 : m_dn M_13 48 (.iload 5) 2 50 := by decide +kernel
theorem d_13_5 : m_dn M_13 5 (.iload_n 3) 1 6 := by decide +kernel
theorem d_13_50 : m_dn M_13 50 (.bipush 10) 2 52 := by decide +kernel
theorem d_13_52 : m_dn M_13 52 (.if_icmp .eq 19) 3 55 := by decide +kernel
theorem d_13_55 : m_dn M_13 55 (.iload 5) 2 57 := by decide +kernel
theorem d_13_57 : m_dn M_13 57 (.bipush 32) 2 59 := by decide +kernel
theorem d_13_59 : m_dn M_13 59 (.if_icmp .lt 10) 3 62 := by decide +kernel
theorem d_13_6 : m_dn M_13 6 (.bipush 8) 2 8 := by decide +kernel
theorem d_13_62 : m_dn M_13 62 (.iload 5) 2 64 := by decide +kernel
theorem d_13_64 : m_dn M_13 64 (.bipush 126) 2 66 := by decide +kernel
theorem d_13_66 : m_dn M_13 66 (.if_icmp .le 5) 3 69 := by decide +kernel
theorem d_13_69 : m_dn M_13 69 (.iconst 0) 1 70 := by decide +kernel
theorem d_13_70 : m_dn M_13 70 (.ireturn) 1 71 := by decide +kernel
theorem d_13_71 : m_dn M_13 71 (.iinc 4 1) 3 74 := by decide +kernel
theorem d_13_74 : m_dn M_13 74 (.goto (-46)) 3 77 := by decide +kernel
theorem d_13_77 : m_dn M_13 77 (.iload_n 3) 1 78 := by decide +kernel
theorem d_13_78 : m_dn M_13 78 (.iconst 1) 1 79 := by decide +kernel
theorem d_13_79 : m_dn M_13 79 (.isub) 1 80 := by decide +kernel
theorem d_13_8 : m_dn M_13 8 (.if_icmp .gt 15) 3 11 := by decide +kernel
theorem d_13_80 : m_dn M_13 80 (.istore 4) 2 82 := by decide +kernel
theorem d_13_82 : m_dn M_13 82 (.iload 4) 2 84 := by decide +kernel
theorem d_13_84 : m_dn M_13 84 (.ifCond .lt 41) 3 87 := by decide +kernel
theorem d_13_87 : m_dn M_13 87 (.aload_n 0) 1 88 := by decide +kernel
theorem d_13_88 : m_dn M_13 88 (.getfield 11) 3 91 := by decide +kernel
theorem d_13_91 : m_dn M_13 91 (.aload_n 0) 1 92 := by decide +kernel
theorem d_13_92 : m_dn M_13 92 (.getfield 26) 3 95 := by decide +kernel
theorem d_13_95 : m_dn M_13 95 (.lload_n 1) 1 96 := by decide +kernel
theorem d_13_96 : m_dn M_13 96 (.bipush 8) 2 98 := by decide +kernel
theorem d_13_98 : m_dn M_13 98 (.iload 4) 2 100 := by decide +kernel
theorem d_14_0 : m_dn M_14 0 (.iload_n 1) 1 1 := by decide +kernel
theorem d_14_1 : m_dn M_14 1 (.invokestatic 80) 3 4 := by decide +kernel
theorem d_14_11 : m_dn M_14 11 (.iload_n 1) 1 12 := by decide +kernel
theorem d_14_12 : m_dn M_14 12 (.aaload) 1 13 := by decide +kernel
theorem d_14_13 : m_dn M_14 13 (.ifnonnull 5) 3 16 := by decide +kernel
theorem d_14_16 : m_dn M_14 16 (.iconst 0) 1 17 := by decide +kernel
theorem d_14_17 : m_dn M_14 17 (.ireturn) 1 18 := by decide +kernel
theorem d_14_18 : m_dn M_14 18 (.aload_n 0) 1 19 := by decide +kernel
theorem d_14_19 : m_dn M_14 19 (.getfield 18) 3 22 := by decide +kernel
theorem d_14_22 : m_dn M_14 22 (.iload_n 1) 1 23 := by decide +kernel
theorem d_14_23 : m_dn M_14 23 (.aconst_null) 1 24 := by decide +kernel
theorem d_14_24 : m_dn M_14 24 (.aastore) 1 25 := by decide +kernel
theorem d_14_25 : m_dn M_14 25 (.iconst 1) 1 26 := by decide +kernel
theorem d_14_26 : m_dn M_14 26 (.ireturn) 1 27 := by decide +kernel
theorem d_14_4 : m_dn M_14 4 (.ifCond .eq 12) 3 7 := by decide +kernel
theorem d_14_7 : m_dn M_14 7 (.aload_n 0) 1 8 := by decide +kernel
theorem d_14_8 : m_dn M_14 8 (.getfield 18) 3 11 := by decide +kernel
theorem d_15_0 : m_dn M_15 0 (.iload_n 0) 1 1 := by decide +kernel
theorem d_15_1 : m_dn M_15 1 (.ifCond .lt 13) 3 4 := by decide +kernel
theorem d_15_10 : m_dn M_15 10 (.iconst 1) 1 11 := by decide +kernel
theorem d_15_11 : m_dn M_15 11 (.goto 4) 3 14 := by decide +kernel
theorem d_15_14 : m_dn M_15 14 (.iconst 0) 1 15 := by decide +kernel
theorem d_15_15 : m_dn M_15 15 (.ireturn) 1 16 := by decide +kernel
theorem d_15_4 : m_dn M_15 4 (.iload_n 0) 1 5 := by decide +kernel
theorem d_15_5 : m_dn M_15 5 (.bipush 32) 2 7 := by decide +kernel
theorem d_15_7 : m_dn M_15 7 (.if_icmp .ge 7) 3 10 := by decide +kernel
theorem d_19_0 : m_dn M_19 0 (.aload_n 0) 1 1 := by decide +kernel
theorem d_19_1 : m_dn M_19 1 (.iconst 0) 1 2 := by decide +kernel
theorem d_19_10 : m_dn M_19 10 (.aload_n 0) 1 11 := by decide +kernel
theorem d_19_11 : m_dn M_19 11 (.iconst 0) 1 12 := by decide +kernel
theorem d_19_12 : m_dn M_19 12 (.putfield 117) 3 15 := by decide +kernel
theorem d_19_15 : m_dn M_19 15 (.iconst 0) 1 16 := by decide +kernel
theorem d_19_16 : m_dn M_19 16 (.istore_n 1) 1 17 := by decide +kernel
theorem d_19_17 : m_dn M_19 17 (.iload_n 1) 1 18 := by decide +kernel
theorem d_19_18 : m_dn M_19 18 (.aload_n 0) 1 19 := by decide +kernel
theorem d_19_19 : m_dn M_19 19 (.getfield 23) 3 22 := by decide +kernel
theorem d_19_2 : m_dn M_19 2 (.putfield 114) 3 5 := by decide +kernel
theorem d_19_22 : m_dn M_19 22 (.arraylength) 1 23 := by decide +kernel
theorem d_19_23 : m_dn M_19 23 (.if_icmp .ge 16) 3 26 := by decide +kernel
theorem d_19_26 : m_dn M_19 26 (.aload_n 0) 1 27 := by decide +kernel
theorem d_19_27 : m_dn M_19 27 (.getfield 23) 3 30 := by decide +kernel
theorem d_19_30 : m_dn M_19 30 (.iload_n 1) 1 31 := by decide +kernel
theorem d_19_31 : m_dn M_19 31 (.iconst 0) 1 32 := by decide +kernel
theorem d_19_32 : m_dn M_19 32 (.iastore) 1 33 := by decide +kernel
theorem d_19_33 : m_dn M_19 33 (.iinc 1 1) 3 36 := by decide +kernel
theorem d_19_36 : m_dn M_19 36 (.goto (-19)) 3 39 := by decide +kernel
theorem d_19_39 : m_dn M_19 39 (.return_) 1 40 := by decide +kernel
theorem d_19_5 : m_dn M_19 5 (.aload_n 0) 1 6 := by decide +kernel
theorem d_19_6 : m_dn M_19 6 (.iconst (-1)) 1 7 := by decide +kernel
theorem d_19_7 : m_dn M_19 7 (.putfield 15) 3 10 := by decide +kernel
theorem d_1_0 : m_dn M_1 0 (.aload_n 0) 1 1 := by decide +kernel
theorem d_1_1 : m_dn M_1 1 (.invokespecial 3) 3 4 := by decide +kernel
theorem d_1_10 : m_dn M_1 10 (.putfield 11) 3 13 := by decide +kernel
theorem d_1_13 : m_dn M_1 13 (.aload_n 0) 1 14 := by decide +kernel
theorem d_1_14 : m_dn M_1 14 (.iconst (-1)) 1 15 := by decide +kernel
theorem d_1_15 : m_dn M_1 15 (.putfield 15) 3 18 := by decide +kernel
theorem d_1_18 : m_dn M_1 18 (.aload_n 0) 1 19 := by decide +kernel
theorem d_1_19 : m_dn M_1 19 (.sipush 300) 3 22 := by decide +kernel
theorem d_1_22 : m_dn M_1 22 (.newarray .int) 2 24 := by decide +kernel
theorem d_1_24 : m_dn M_1 24 (.putfield 19) 3 27 := by decide +kernel
theorem d_1_27 : m_dn M_1 27 (.aload_n 0) 1 28 := by decide +kernel
theorem d_1_28 : m_dn M_1 28 (.iconst 4) 1 29 := by decide +kernel
theorem d_1_29 : m_dn M_1 29 (.newarray .int) 2 31 := by decide +kernel
theorem d_1_31 : m_dn M_1 31 (.putfield 23) 3 34 := by decide +kernel
theorem d_1_34 : m_dn M_1 34 (.return_) 1 35 := by decide +kernel
theorem d_1_4 : m_dn M_1 4 (.aload_n 0) 1 5 := by decide +kernel
theorem d_1_5 : m_dn M_1 5 (.sipush 300) 3 8 := by decide +kernel
theorem d_1_8 : m_dn M_1 8 (.newarray .char) 2 10 := by decide +kernel
theorem d_20_0 : m_dn M_20 0 (.aload_n 0) 1 1 := by decide +kernel
theorem d_20_1 : m_dn M_20 1 (.invokespecial 3) 3 4 := by decide +kernel
theorem d_20_10 : m_dn M_20 10 (.aload_n 0) 1 11 := by decide +kernel
theorem d_20_11 : m_dn M_20 11 (.iconst (-1)) 1 12 := by decide +kernel
theorem d_20_12 : m_dn M_20 12 (.putfield 15) 3 15 := by decide +kernel
theorem d_20_15 : m_dn M_20 15 (.aload_n 0) 1 16 := by decide +kernel
theorem d_20_16 : m_dn M_20 16 (.iconst (-1)) 1 17 := by decide +kernel
theorem d_20_17 : m_dn M_20 17 (.putfield 18) 3 20 := by decide +kernel
theorem d_20_20 : m_dn M_20 20 (.aload_n 0) 1 21 := by decide +kernel
theorem d_20_21 : m_dn M_20 21 (.iconst (-1)) 1 22 := by decide +kernel
theorem d_20_22 : m_dn M_20 22 (.putfield 21) 3 25 := by decide +kernel
theorem d_20_25 : m_dn M_20 25 (.return_) 1 26 := by decide +kernel
theorem d_20_4 : m_dn M_20 4 (.aload_n 0) 1 5 := by decide +kernel
theorem d_20_5 : m_dn M_20 5 (.bipush 15) 2 7 := by decide +kernel
theorem d_20_7 : m_dn M_20 7 (.putfield 9) 3 10 := by decide +kernel
theorem d_21_0 : m_dn M_21 0 (.aload_n 0) 1 1 := by decide +kernel
theorem d_21_1 : m_dn M_21 1 (.invokespecial 3) 3 4 := by decide +kernel
theorem d_21_10 : m_dn M_21 10 (.bipush 8) 2 12 := by decide +kernel
theorem d_21_12 : m_dn M_21 12 (.newarray .int) 2 14 := by decide +kernel
theorem d_21_14 : m_dn M_21 14 (.putfield 15) 3 17 := by decide +kernel
theorem d_21_17 : m_dn M_21 17 (.aload_n 0) 1 18 := by decide +kernel
theorem d_21_18 : m_dn M_21 18 (.iconst (-1)) 1 19 := by decide +kernel
theorem d_21_19 : m_dn M_21 19 (.putfield 19) 3 22 := by decide +kernel
theorem d_21_22 : m_dn M_21 22 (.return_) 1 23 := by decide +kernel
theorem d_21_4 : m_dn M_21 4 (.aload_n 0) 1 5 := by decide +kernel
theorem d_21_5 : m_dn M_21 5 (.iconst 0) 1 6 := by decide +kernel
theorem d_21_6 : m_dn M_21 6 (.putfield 11) 3 9 := by decide +kernel
theorem d_21_9 : m_dn M_21 9 (.aload_n 0) 1 10 := by decide +kernel
theorem d_22_0 : m_dn M_22 0 (.aload_n 0) 1 1 := by decide +kernel
theorem d_22_1 : m_dn M_22 1 (.getfield 114) 3 4 := by decide +kernel
theorem d_22_11 : m_dn M_22 11 (.aload_n 0) 1 12 := by decide +kernel
theorem d_22_12 : m_dn M_22 12 (.getfield 26) 3 15 := by decide +kernel
theorem d_22_15 : m_dn M_22 15 (.if_icmp .ge 27) 3 18 := by decide +kernel
theorem d_22_18 : m_dn M_22 18 (.aload_n 0) 1 19 := by decide +kernel
theorem d_22_19 : m_dn M_22 19 (.getfield 114) 3 22 := by decide +kernel
theorem d_22_22 : m_dn M_22 22 (.aload_n 0) 1 23 := by decide +kernel
theorem d_22_23 : m_dn M_22 23 (.getfield 11) 3 26 := by decide +kernel
theorem d_22_26 : m_dn M_22 26 (.arraylength) 1 27 := by decide +kernel
theorem d_22_27 : m_dn M_22 27 (.if_icmp .ge 15) 3 30 := by decide +kernel
theorem d_22_30 : m_dn M_22 30 (.aload_n 0) 1 31 := by decide +kernel
theorem d_22_31 : m_dn M_22 31 (.getfield 11) 3 34 := by decide +kernel
theorem d_22_34 : m_dn M_22 34 (.aload_n 0) 1 35 := by decide +kernel
theorem d_22_35 : m_dn M_22 35 (.getfield 114) 3 38 := by decide +kernel
theorem d_22_38 : m_dn M_22 38 (.caload) 1 39 := by decide +kernel
theorem d_22_39 : m_dn M_22 39 (.goto 4) 3 42 := by decide +kernel
theorem d_22_4 : m_dn M_22 4 (.ifCond .lt 38) 3 7 := by decide +kernel
theorem d_22_42 : m_dn M_22 42 (.iconst 0) 1 43 := by decide +kernel
theorem d_22_43 : m_dn M_22 43 (.ireturn) 1 44 := by decide +kernel
theorem d_22_7 : m_dn M_22 7 (.aload_n 0) 1 8 := by decide +kernel
theorem d_22_8 : m_dn M_22 8 (.getfield 114) 3 11 := by decide +kernel
theorem d_23_0 : m_dn M_23 0 (.iconst 0) 1 1 := by decide +kernel
theorem d_23_1 : m_dn M_23 1 (.istore_n 2) 1 2 := by decide +kernel
theorem d_23_10 : m_dn M_23 10 (.aload_n 0) 1 11 := by decide +kernel
theorem d_23_11 : m_dn M_23 11 (.aload_n 1) 1 12 := by decide +kernel
theorem d_23_12 : m_dn M_23 12 (.iload_n 2) 1 13 := by decide +kernel
theorem d_23_13 : m_dn M_23 13 (.invokevirtual 128) 3 16 := by decide +kernel
theorem d_23_16 : m_dn M_23 16 (.invokevirtual 62) 3 19 := by decide +kernel
theorem d_23_19 : m_dn M_23 19 (.ifCond .ne 5) 3 22 := by decide +kernel
theorem d_23_2 : m_dn M_23 2 (.iload_n 2) 1 3 := by decide +kernel
theorem d_23_22 : m_dn M_23 22 (.iconst 0) 1 23 := by decide +kernel
theorem d_23_23 : m_dn M_23 23 (.ireturn) 1 24 := by decide +kernel
theorem d_23_24 : m_dn M_23 24 (.iinc 2 1) 3 27 := by decide +kernel
theorem d_23_27 : m_dn M_23 27 (.goto (-25)) 3 30 := by decide +kernel
theorem d_23_3 : m_dn M_23 3 (.aload_n 1) 1 4 := by decide +kernel
theorem d_23_30 : m_dn M_23 30 (.iconst 1) 1 31 := by decide +kernel
theorem d_23_31 : m_dn M_23 31 (.ireturn) 1 32 := by decide +kernel
theorem d_23_4 : m_dn M_23 4 (.invokevirtual 124) 3 7 := by decide +kernel
theorem d_23_7 : m_dn M_23 7 (.if_icmp .ge 23) 3 10 := by decide +kernel
theorem d_35_0 : m_dn M_35 0 (.aload_n 0) 1 1 := by decide +kernel
theorem d_35_1 : m_dn M_35 1 (.invokevirtual 51) 3 4 := by decide +kernel
theorem d_35_10 : m_dn M_35 10 (.getfield 114) 3 13 := by decide +kernel
theorem d_35_13 : m_dn M_35 13 (.invokevirtual 120) 3 16 := by decide +kernel
theorem d_35_16 : m_dn M_35 16 (.ireturn) 1 17 := by decide +kernel
theorem d_35_17 : m_dn M_35 17 (.aload_n 0) 1 18 := by decide +kernel
theorem d_35_18 : m_dn M_35 18 (.dup) 1 19 := by decide +kernel
theorem d_35_19 : m_dn M_35 19 (.getfield 114) 3 22 := by decide +kernel
theorem d_35_22 : m_dn M_35 22 (.iconst 1) 1 23 := by decide +kernel
theorem d_35_23 : m_dn M_35 23 (.iadd) 1 24 := by decide +kernel
theorem d_35_24 : m_dn M_35 24 (.putfield 114) 3 27 := by decide +kernel
theorem d_35_27 : m_dn M_35 27 (.iconst 1) 1 28 := by decide +kernel
theorem d_35_28 : m_dn M_35 28 (.ireturn) 1 29 := by decide +kernel
theorem d_35_4 : m_dn M_35 4 (.iload_n 1) 1 5 := by decide +kernel
theorem d_35_5 : m_dn M_35 5 (.if_icmp .eq 12) 3 8 := by decide +kernel
theorem d_35_8 : m_dn M_35 8 (.aload_n 0) 1 9 := by decide +kernel
theorem d_35_9 : m_dn M_35 9 (.aload_n 0) 1 10 := by decide +kernel
theorem d_36_0 : m_dn M_36 0 (.aload_n 0) 1 1 := by decide +kernel
theorem d_36_1 : m_dn M_36 1 (.iload_n 1) 1 2 := by decide +kernel
theorem d_36_2 : m_dn M_36 2 (.putfield 15) 3 5 := by decide +kernel
theorem d_36_5 : m_dn M_36 5 (.iconst 0) 1 6 := by decide +kernel
theorem d_36_6 : m_dn M_36 6 (.ireturn) 1 7 := by decide +kernel
theorem d_37_0 : m_dn M_37 0 (.aload_n 0) 1 1 := by decide +kernel
theorem d_37_1 : m_dn M_37 1 (.bipush 47) 2 3 := by decide +kernel
theorem d_37_10 : m_dn M_37 10 (.bipush 31) 2 12 := by decide +kernel
theorem d_37_12 : m_dn M_37 12 (.invokevirtual 138) 3 15 := by decide +kernel
theorem d_37_15 : m_dn M_37 15 (.ifCond .ne 5) 3 18 := by decide +kernel
theorem d_37_18 : m_dn M_37 18 (.iconst 0) 1 19 := by decide +kernel
theorem d_37_19 : m_dn M_37 19 (.ireturn) 1 20 := by decide +kernel
theorem d_37_20 : m_dn M_37 20 (.aload_n 0) 1 21 := by decide +kernel
theorem d_37_21 : m_dn M_37 21 (.aload_n 0) 1 22 := by decide +kernel
theorem d_37_22 : m_dn M_37 22 (.getfield 132) 3 25 := by decide +kernel
theorem d_37_25 : m_dn M_37 25 (.putfield 69) 3 28 := by decide +kernel
theorem d_37_28 : m_dn M_37 28 (.aload_n 0) 1 29 := by decide +kernel
theorem d_37_29 : m_dn M_37 29 (.iconst 0) 1 30 := by decide +kernel
theorem d_37_3 : m_dn M_37 3 (.invokevirtual 62) 3 6 := by decide +kernel
theorem d_37_30 : m_dn M_37 30 (.putfield 99) 3 33 := by decide +kernel
theorem d_37_33 : m_dn M_37 33 (.iload_n 1) 1 34 := by decide +kernel
theorem d_37_34 : m_dn M_37 34 (.ifCond .eq 40) 3 37 := by decide +kernel
theorem d_37_37 : m_dn M_37 37 (.aload_n 0) 1 38 := by decide +kernel
theorem d_37_38 : m_dn M_37 38 (.invokevirtual 51) 3 41 := by decide +kernel
theorem d_37_41 : m_dn M_37 41 (.bipush 47) 2 43 := by decide +kernel
theorem d_37_43 : m_dn M_37 43 (.if_icmp .ne 31) 3 46 := by decide +kernel
theorem d_37_46 : m_dn M_37 46 (.aload_n 0) 1 47 := by decide +kernel
theorem d_37_47 : m_dn M_37 47 (.dup) 1 48 := by decide +kernel
theorem d_37_48 : m_dn M_37 48 (.getfield 114) 3 51 := by decide +kernel
theorem d_37_51 : m_dn M_37 51 (.iconst 1) 1 52 := by decide +kernel
theorem d_37_52 : m_dn M_37 52 (.iadd) 1 53 := by decide +kernel
theorem d_37_53 : m_dn M_37 53 (.putfield 114) 3 56 := by decide +kernel
theorem d_37_56 : m_dn M_37 56 (.aload_n 0) 1 57 := by decide +kernel
theorem d_37_57 : m_dn M_37 57 (.iconst 3) 1 58 := by decide +kernel
theorem d_37_58 : m_dn M_37 58 (.invokevirtual 138) 3 61 := by decide +kernel
theorem d_37_6 : m_dn M_37 6 (.ifCond .eq 12) 3 9 := by decide +kernel
theorem d_37_61 : m_dn M_37 61 (.ifCond .ne 5) 3 64 := by decide +kernel
theorem d_37_64 : m_dn M_37 64 (.iconst 0) 1 65 := by decide +kernel
theorem d_37_65 : m_dn M_37 65 (.ireturn) 1 66 := by decide +kernel
theorem d_37_66 : m_dn M_37 66 (.aload_n 0) 1 67 := by decide +kernel
theorem d_37_67 : m_dn M_37 67 (.aload_n 0) 1 68 := by decide +kernel
theorem d_37_68 : m_dn M_37 68 (.getfield 132) 3 71 := by decide +kernel
theorem d_37_71 : m_dn M_37 71 (.putfield 99) 3 74 := by decide +kernel
theorem d_37_74 : m_dn M_37 74 (.aload_n 0) 1 75 := by decide +kernel
theorem d_37_75 : m_dn M_37 75 (.bipush 10) 2 77 := by decide +kernel
theorem d_37_77 : m_dn M_37 77 (.invokevirtual 62) 3 80 := by decide +kernel
theorem d_37_80 : m_dn M_37 80 (.ireturn) 1 81 := by decide +kernel
theorem d_37_9 : m_dn M_37 9 (.aload_n 0) 1 10 := by decide +kernel
theorem d_38_0 : m_dn M_38 0 (.aload_n 0) 1 1 := by decide +kernel
theorem d_38_1 : m_dn M_38 1 (.getfield 114) 3 4 := by decide +kernel
theorem d_38_10 : m_dn M_38 10 (.iconst 0) 1 11 := by decide +kernel
theorem d_38_100 : m_dn M_38 100 (.ifCond .eq 14) 3 103 := by decide +kernel
theorem d_38_103 : m_dn M_38 103 (.aload_n 0) 1 104 := by decide +kernel
theorem d_38_104 : m_dn M_38 104 (.aload_n 0) 1 105 := by decide +kernel
theorem d_38_105 : m_dn M_38 105 (.getfield 114) 3 108 := by decide +kernel
theorem d_38_108 : m_dn M_38 108 (.invokevirtual 120) 3 111 := by decide +kernel
theorem d_38_11 : m_dn M_38 11 (.istore_n 3) 1 12 := by decide +kernel
theorem d_38_111 : m_dn M_38 111 (.ifCond .eq 7) 3 114 := by decide +kernel
theorem d_38_114 : m_dn M_38 114 (.iconst 1) 1 115 := by decide +kernel
theorem d_38_115 : m_dn M_38 115 (.goto 4) 3 118 := by decide +kernel
theorem d_38_118 : m_dn M_38 118 (.iconst 0) 1 119 := by decide +kernel
theorem d_38_119 : m_dn M_38 119 (.ireturn) 1 120 := by decide +kernel
theorem d_38_12 : m_dn M_38 12 (.iload_n 3) 1 13 := by decide +kernel
theorem d_38_13 : m_dn M_38 13 (.iconst 5) 1 14 := by decide +kernel
theorem d_38_14 : m_dn M_38 14 (.if_icmp .ge 48) 3 17 := by decide +kernel
theorem d_38_17 : m_dn M_38 17 (.aload_n 0) 1 18 := by decide +kernel
theorem d_38_18 : m_dn M_38 18 (.invokevirtual 51) 3 21 := by decide +kernel
theorem d_38_21 : m_dn M_38 21 (.invokestatic 135) 3 24 := by decide +kernel
theorem d_38_24 : m_dn M_38 24 (.ifCond .eq 38) 3 27 := by decide +kernel
theorem d_38_27 : m_dn M_38 27 (.aload_n 0) 1 28 := by decide +kernel
theorem d_38_28 : m_dn M_38 28 (.bipush 10) 2 30 := by decide +kernel
theorem d_38_30 : m_dn M_38 30 (.aload_n 0) 1 31 := by decide +kernel
theorem d_38_31 : m_dn M_38 31 (.getfield 132) 3 34 := by decide +kernel
theorem d_38_34 : m_dn M_38 34 (.imul) 1 35 := by decide +kernel
theorem d_38_35 : m_dn M_38 35 (.aload_n 0) 1 36 := by decide +kernel
theorem d_38_36 : m_dn M_38 36 (.invokevirtual 51) 3 39 := by decide +kernel
theorem d_38_39 : m_dn M_38 39 (.bipush 48) 2 41 := by decide +kernel
theorem d_38_4 : m_dn M_38 4 (.istore_n 2) 1 5 := by decide +kernel
theorem d_38_41 : m_dn M_38 41 (.isub) 1 42 := by decide +kernel
theorem d_38_42 : m_dn M_38 42 (.iadd) 1 43 := by decide +kernel
theorem d_38_43 : m_dn M_38 43 (.putfield 132) 3 46 := by decide +kernel
theorem d_38_46 : m_dn M_38 46 (.aload_n 0) 1 47 := by decide +kernel
theorem d_38_47 : m_dn M_38 47 (.dup) 1 48 := by decide +kernel
theorem d_38_48 : m_dn M_38 48 (.getfield 114) 3 51 := by decide +kernel
theorem d_38_5 : m_dn M_38 5 (.aload_n 0) 1 6 := by decide +kernel
theorem d_38_51 : m_dn M_38 51 (.iconst 1) 1 52 := by decide +kernel
theorem d_38_52 : m_dn M_38 52 (.iadd) 1 53 := by decide +kernel
theorem d_38_53 : m_dn M_38 53 (.putfield 114) 3 56 := by decide +kernel
theorem d_38_56 : m_dn M_38 56 (.iinc 3 1) 3 59 := by decide +kernel
theorem d_38_59 : m_dn M_38 59 (.goto (-47)) 3 62 := by decide +kernel
theorem d_38_6 : m_dn M_38 6 (.iconst 0) 1 7 := by decide +kernel
theorem d_38_62 : m_dn M_38 62 (.aload_n 0) 1 63 := by decide +kernel
theorem d_38_63 : m_dn M_38 63 (.getfield 114) 3 66 := by decide +kernel
theorem d_38_66 : m_dn M_38 66 (.iload_n 2) 1 67 := by decide +kernel
theorem d_38_67 : m_dn M_38 67 (.if_icmp .ne 12) 3 70 := by decide +kernel
theorem d_38_7 : m_dn M_38 7 (.putfield 132) 3 10 := by decide +kernel
theorem d_38_70 : m_dn M_38 70 (.aload_n 0) 1 71 := by decide +kernel
theorem d_38_71 : m_dn M_38 71 (.aload_n 0) 1 72 := by decide +kernel
theorem d_38_72 : m_dn M_38 72 (.getfield 114) 3 75 := by decide +kernel
theorem d_38_75 : m_dn M_38 75 (.invokevirtual 120) 3 78 := by decide +kernel
theorem d_38_78 : m_dn M_38 78 (.ireturn) 1 79 := by decide +kernel
theorem d_38_79 : m_dn M_38 79 (.aload_n 0) 1 80 := by decide +kernel
theorem d_38_80 : m_dn M_38 80 (.getfield 132) 3 83 := by decide +kernel
theorem d_38_83 : m_dn M_38 83 (.iload_n 1) 1 84 := by decide +kernel
theorem d_38_84 : m_dn M_38 84 (.if_icmp .le 9) 3 87 := by decide +kernel
theorem d_38_87 : m_dn M_38 87 (.aload_n 0) 1 88 := by decide +kernel
theorem d_38_88 : m_dn M_38 88 (.iload_n 2) 1 89 := by decide +kernel
theorem d_38_89 : m_dn M_38 89 (.invokevirtual 120) 3 92 := by decide +kernel
theorem d_38_92 : m_dn M_38 92 (.ireturn) 1 93 := by decide +kernel
theorem d_38_93 : m_dn M_38 93 (.aload_n 0) 1 94 := by decide +kernel
theorem d_38_94 : m_dn M_38 94 (.invokevirtual 51) 3 97 := by decide +kernel
theorem d_38_97 : m_dn M_38 97 (.invokestatic 135) 3 100 := by decide +kernel
theorem d_39_0 : m_dn M_39 0 (.iload_n 0) 1 1 := by decide +kernel
theorem d_39_1 : m_dn M_39 1 (.bipush 48) 2 3 := by decide +kernel
theorem d_39_12 : m_dn M_39 12 (.iconst 1) 1 13 := by decide +kernel
theorem d_39_13 : m_dn M_39 13 (.goto 4) 3 16 := by decide +kernel
theorem d_39_16 : m_dn M_39 16 (.iconst 0) 1 17 := by decide +kernel
theorem d_39_17 : m_dn M_39 17 (.ireturn) 1 18 := by decide +kernel
theorem d_39_3 : m_dn M_39 3 (.if_icmp .lt 13) 3 6 := by decide +kernel
theorem d_39_6 : m_dn M_39 6 (.iload_n 0) 1 7 := by decide +kernel
theorem d_39_7 : m_dn M_39 7 (.bipush 57) 2 9 := by decide +kernel
theorem d_39_9 : m_dn M_39 9 (.if_icmp .gt 7) 3 12 := by decide +kernel
theorem d_40_0 : m_dn M_40 0 (.aload_n 0) 1 1 := by decide +kernel
theorem d_40_1 : m_dn M_40 1 (.aload_n 0) 1 2 := by decide +kernel
theorem d_40_100 : m_dn M_40 100 (.aload_n 0) 1 101 := by decide +kernel
theorem d_40_101 : m_dn M_40 101 (.aload_n 0) 1 102 := by decide +kernel
theorem d_40_102 : m_dn M_40 102 (.getfield 141) 3 105 := by decide +kernel
theorem d_40_105 : m_dn M_40 105 (.invokevirtual 120) 3 108 := by decide +kernel
theorem d_40_108 : m_dn M_40 108 (.ireturn) 1 109 := by decide +kernel
theorem d_40_109 : m_dn M_40 109 (.aload_n 0) 1 110 := by decide +kernel
theorem d_40_110 : m_dn M_40 110 (.getfield 19) 3 113 := by decide +kernel
theorem d_40_113 : m_dn M_40 113 (.aload_n 0) 1 114 := by decide +kernel
theorem d_40_114 : m_dn M_40 114 (.getfield 117) 3 117 := by decide +kernel
theorem d_40_117 : m_dn M_40 117 (.aload_n 0) 1 118 := by decide +kernel
theorem d_40_118 : m_dn M_40 118 (.getfield 141) 3 121 := by decide +kernel
theorem d_40_12 : m_dn M_40 12 (.aload_n 0) 1 13 := by decide +kernel
theorem d_40_121 : m_dn M_40 121 (.iastore) 1 122 := by decide +kernel
theorem d_40_122 : m_dn M_40 122 (.aload_n 0) 1 123 := by decide +kernel
theorem d_40_123 : m_dn M_40 123 (.dup) 1 124 := by decide +kernel
theorem d_40_124 : m_dn M_40 124 (.getfield 117) 3 127 := by decide +kernel
theorem d_40_127 : m_dn M_40 127 (.iconst 1) 1 128 := by decide +kernel
theorem d_40_128 : m_dn M_40 128 (.iadd) 1 129 := by decide +kernel
theorem d_40_129 : m_dn M_40 129 (.putfield 117) 3 132 := by decide +kernel
theorem d_40_13 : m_dn M_40 13 (.aload_n 0) 1 14 := by decide +kernel
theorem d_40_132 : m_dn M_40 132 (.aload_n 0) 1 133 := by decide +kernel
theorem d_40_133 : m_dn M_40 133 (.dup) 1 134 := by decide +kernel
theorem d_40_134 : m_dn M_40 134 (.getfield 114) 3 137 := by decide +kernel
theorem d_40_137 : m_dn M_40 137 (.iconst 1) 1 138 := by decide +kernel
theorem d_40_138 : m_dn M_40 138 (.iadd) 1 139 := by decide +kernel
theorem d_40_139 : m_dn M_40 139 (.putfield 114) 3 142 := by decide +kernel
theorem d_40_14 : m_dn M_40 14 (.getfield 114) 3 17 := by decide +kernel
theorem d_40_142 : m_dn M_40 142 (.aload_n 0) 1 143 := by decide +kernel
theorem d_40_143 : m_dn M_40 143 (.invokevirtual 51) 3 146 := by decide +kernel
theorem d_40_146 : m_dn M_40 146 (.bipush 32) 2 148 := by decide +kernel
theorem d_40_148 : m_dn M_40 148 (.if_icmp .ne 13) 3 151 := by decide +kernel
theorem d_40_151 : m_dn M_40 151 (.aload_n 0) 1 152 := by decide +kernel
theorem d_40_152 : m_dn M_40 152 (.dup) 1 153 := by decide +kernel
theorem d_40_153 : m_dn M_40 153 (.getfield 114) 3 156 := by decide +kernel
theorem d_40_156 : m_dn M_40 156 (.iconst 1) 1 157 := by decide +kernel
theorem d_40_157 : m_dn M_40 157 (.iadd) 1 158 := by decide +kernel
theorem d_40_158 : m_dn M_40 158 (.putfield 114) 3 161 := by decide +kernel
theorem d_40_161 : m_dn M_40 161 (.iconst 1) 1 162 := by decide +kernel
theorem d_40_162 : m_dn M_40 162 (.ireturn) 1 163 := by decide +kernel
theorem d_40_17 : m_dn M_40 17 (.putfield 147) 3 20 := by decide +kernel
theorem d_40_2 : m_dn M_40 2 (.getfield 114) 3 5 := by decide +kernel
theorem d_40_20 : m_dn M_40 20 (.aload_n 0) 1 21 := by decide +kernel
theorem d_40_21 : m_dn M_40 21 (.getfield 114) 3 24 := by decide +kernel
theorem d_40_24 : m_dn M_40 24 (.aload_n 0) 1 25 := by decide +kernel
theorem d_40_25 : m_dn M_40 25 (.getfield 141) 3 28 := by decide +kernel
theorem d_40_28 : m_dn M_40 28 (.if_icmp .ne 12) 3 31 := by decide +kernel
theorem d_40_31 : m_dn M_40 31 (.aload_n 0) 1 32 := by decide +kernel
theorem d_40_32 : m_dn M_40 32 (.aload_n 0) 1 33 := by decide +kernel
theorem d_40_33 : m_dn M_40 33 (.getfield 114) 3 36 := by decide +kernel
theorem d_40_36 : m_dn M_40 36 (.invokevirtual 120) 3 39 := by decide +kernel
theorem d_40_39 : m_dn M_40 39 (.ireturn) 1 40 := by decide +kernel
theorem d_40_40 : m_dn M_40 40 (.aload_n 0) 1 41 := by decide +kernel
theorem d_40_41 : m_dn M_40 41 (.getfield 114) 3 44 := by decide +kernel
theorem d_40_44 : m_dn M_40 44 (.aload_n 0) 1 45 := by decide +kernel
theorem d_40_45 : m_dn M_40 45 (.getfield 141) 3 48 := by decide +kernel
theorem d_40_48 : m_dn M_40 48 (.isub) 1 49 := by decide +kernel
theorem d_40_49 : m_dn M_40 49 (.bipush 20) 2 51 := by decide +kernel
theorem d_40_5 : m_dn M_40 5 (.putfield 141) 3 8 := by decide +kernel
theorem d_40_51 : m_dn M_40 51 (.if_icmp .le 12) 3 54 := by decide +kernel
theorem d_40_54 : m_dn M_40 54 (.aload_n 0) 1 55 := by decide +kernel
theorem d_40_55 : m_dn M_40 55 (.aload_n 0) 1 56 := by decide +kernel
theorem d_40_56 : m_dn M_40 56 (.getfield 141) 3 59 := by decide +kernel
theorem d_40_59 : m_dn M_40 59 (.invokevirtual 120) 3 62 := by decide +kernel
theorem d_40_62 : m_dn M_40 62 (.ireturn) 1 63 := by decide +kernel
theorem d_40_63 : m_dn M_40 63 (.aload_n 0) 1 64 := by decide +kernel
theorem d_40_64 : m_dn M_40 64 (.invokevirtual 51) 3 67 := by decide +kernel
theorem d_40_67 : m_dn M_40 67 (.bipush 58) 2 69 := by decide +kernel
theorem d_40_69 : m_dn M_40 69 (.if_icmp .eq 12) 3 72 := by decide +kernel
theorem d_40_72 : m_dn M_40 72 (.aload_n 0) 1 73 := by decide +kernel
theorem d_40_73 : m_dn M_40 73 (.aload_n 0) 1 74 := by decide +kernel
theorem d_40_74 : m_dn M_40 74 (.getfield 114) 3 77 := by decide +kernel
theorem d_40_77 : m_dn M_40 77 (.invokevirtual 120) 3 80 := by decide +kernel
theorem d_40_8 : m_dn M_40 8 (.aload_n 0) 1 9 := by decide +kernel
theorem d_40_80 : m_dn M_40 80 (.ireturn) 1 81 := by decide +kernel
theorem d_40_81 : m_dn M_40 81 (.aload_n 0) 1 82 := by decide +kernel
theorem d_40_82 : m_dn M_40 82 (.invokevirtual 150) 3 85 := by decide +kernel
theorem d_40_85 : m_dn M_40 85 (.ifCond .ne 15) 3 88 := by decide +kernel
theorem d_40_88 : m_dn M_40 88 (.aload_n 0) 1 89 := by decide +kernel
theorem d_40_89 : m_dn M_40 89 (.getfield 117) 3 92 := by decide +kernel
theorem d_40_9 : m_dn M_40 9 (.invokevirtual 144) 3 12 := by decide +kernel
theorem d_40_92 : m_dn M_40 92 (.aload_n 0) 1 93 := by decide +kernel
theorem d_40_93 : m_dn M_40 93 (.getfield 19) 3 96 := by decide +kernel
theorem d_40_96 : m_dn M_40 96 (.arraylength) 1 97 := by decide +kernel
theorem d_40_97 : m_dn M_40 97 (.if_icmp .lt 12) 3 100 := by decide +kernel
theorem d_41_0 : m_dn M_41 0 (.aload_n 0) 1 1 := by decide +kernel
theorem d_41_1 : m_dn M_41 1 (.getfield 114) 3 4 := by decide +kernel
theorem d_41_11 : m_dn M_41 11 (.aload_n 0) 1 12 := by decide +kernel
theorem d_41_12 : m_dn M_41 12 (.invokevirtual 51) 3 15 := by decide +kernel
theorem d_41_15 : m_dn M_41 15 (.bipush 45) 2 17 := by decide +kernel
theorem d_41_17 : m_dn M_41 17 (.if_icmp .eq 21) 3 20 := by decide +kernel
theorem d_41_20 : m_dn M_41 20 (.aload_n 0) 1 21 := by decide +kernel
theorem d_41_21 : m_dn M_41 21 (.invokevirtual 51) 3 24 := by decide +kernel
theorem d_41_24 : m_dn M_41 24 (.bipush 97) 2 26 := by decide +kernel
theorem d_41_26 : m_dn M_41 26 (.if_icmp .lt 25) 3 29 := by decide +kernel
theorem d_41_29 : m_dn M_41 29 (.aload_n 0) 1 30 := by decide +kernel
theorem d_41_30 : m_dn M_41 30 (.invokevirtual 51) 3 33 := by decide +kernel
theorem d_41_33 : m_dn M_41 33 (.bipush 122) 2 35 := by decide +kernel
theorem d_41_35 : m_dn M_41 35 (.if_icmp .gt 16) 3 38 := by decide +kernel
theorem d_41_38 : m_dn M_41 38 (.aload_n 0) 1 39 := by decide +kernel
theorem d_41_39 : m_dn M_41 39 (.dup) 1 40 := by decide +kernel
theorem d_41_4 : m_dn M_41 4 (.aload_n 0) 1 5 := by decide +kernel
theorem d_41_40 : m_dn M_41 40 (.getfield 114) 3 43 := by decide +kernel
theorem d_41_43 : m_dn M_41 43 (.iconst 1) 1 44 := by decide +kernel
theorem d_41_44 : m_dn M_41 44 (.iadd) 1 45 := by decide +kernel
theorem d_41_45 : m_dn M_41 45 (.putfield 114) 3 48 := by decide +kernel
theorem d_41_48 : m_dn M_41 48 (.goto (-48)) 3 51 := by decide +kernel
theorem d_41_5 : m_dn M_41 5 (.getfield 26) 3 8 := by decide +kernel
theorem d_41_51 : m_dn M_41 51 (.return_) 1 52 := by decide +kernel
theorem d_41_8 : m_dn M_41 8 (.if_icmp .ge 43) 3 11 := by decide +kernel
theorem d_42_0 : m_dn M_42 0 (.iconst 0) 1 1 := by decide +kernel
theorem d_42_1 : m_dn M_42 1 (.istore_n 1) 1 2 := by decide +kernel
theorem d_42_10 : m_dn M_42 10 (.aload_n 0) 1 11 := by decide +kernel
theorem d_42_11 : m_dn M_42 11 (.aload_n 0) 1 12 := by decide +kernel
theorem d_42_12 : m_dn M_42 12 (.getfield 19) 3 15 := by decide +kernel
theorem d_42_15 : m_dn M_42 15 (.iload_n 1) 1 16 := by decide +kernel
theorem d_42_16 : m_dn M_42 16 (.iaload) 1 17 := by decide +kernel
theorem d_42_17 : m_dn M_42 17 (.aload_n 0) 1 18 := by decide +kernel
theorem d_42_18 : m_dn M_42 18 (.getfield 141) 3 21 := by decide +kernel
theorem d_42_2 : m_dn M_42 2 (.iload_n 1) 1 3 := by decide +kernel
theorem d_42_21 : m_dn M_42 21 (.aload_n 0) 1 22 := by decide +kernel
theorem d_42_22 : m_dn M_42 22 (.getfield 147) 3 25 := by decide +kernel
theorem d_42_25 : m_dn M_42 25 (.aload_n 0) 1 26 := by decide +kernel
theorem d_42_26 : m_dn M_42 26 (.getfield 141) 3 29 := by decide +kernel
theorem d_42_29 : m_dn M_42 29 (.isub) 1 30 := by decide +kernel
theorem d_42_3 : m_dn M_42 3 (.aload_n 0) 1 4 := by decide +kernel
theorem d_42_30 : m_dn M_42 30 (.invokevirtual 153) 3 33 := by decide +kernel
theorem d_42_33 : m_dn M_42 33 (.ifCond .eq 5) 3 36 := by decide +kernel
theorem d_42_36 : m_dn M_42 36 (.iconst 1) 1 37 := by decide +kernel
theorem d_42_37 : m_dn M_42 37 (.ireturn) 1 38 := by decide +kernel
theorem d_42_38 : m_dn M_42 38 (.iinc 1 1) 3 41 := by decide +kernel
theorem d_42_4 : m_dn M_42 4 (.getfield 117) 3 7 := by decide +kernel
theorem d_42_41 : m_dn M_42 41 (.goto (-39)) 3 44 := by decide +kernel
theorem d_42_44 : m_dn M_42 44 (.iconst 0) 1 45 := by decide +kernel
theorem d_42_45 : m_dn M_42 45 (.ireturn) 1 46 := by decide +kernel
theorem d_42_7 : m_dn M_42 7 (.if_icmp .ge 37) 3 10 := by decide +kernel
theorem d_43_0 : m_dn M_43 0 (.iconst 0) 1 1 := by decide +kernel
theorem d_43_1 : m_dn M_43 1 (.istore 4) 2 3 := by decide +kernel
theorem d_43_10 : m_dn M_43 10 (.iload 4) 2 12 := by decide +kernel
theorem d_43_12 : m_dn M_43 12 (.iadd) 1 13 := by decide +kernel
theorem d_43_13 : m_dn M_43 13 (.aload_n 0) 1 14 := by decide +kernel
theorem d_43_14 : m_dn M_43 14 (.getfield 26) 3 17 := by decide +kernel
theorem d_43_17 : m_dn M_43 17 (.if_icmp .ge 35) 3 20 := by decide +kernel
theorem d_43_20 : m_dn M_43 20 (.iload_n 2) 1 21 := by decide +kernel
theorem d_43_21 : m_dn M_43 21 (.iload 4) 2 23 := by decide +kernel
theorem d_43_23 : m_dn M_43 23 (.iadd) 1 24 := by decide +kernel
theorem d_43_24 : m_dn M_43 24 (.aload_n 0) 1 25 := by decide +kernel
theorem d_43_25 : m_dn M_43 25 (.getfield 26) 3 28 := by decide +kernel
theorem d_43_28 : m_dn M_43 28 (.if_icmp .ge 24) 3 31 := by decide +kernel
theorem d_43_3 : m_dn M_43 3 (.iload 4) 2 5 := by decide +kernel
theorem d_43_31 : m_dn M_43 31 (.aload_n 0) 1 32 := by decide +kernel
theorem d_43_32 : m_dn M_43 32 (.getfield 11) 3 35 := by decide +kernel
theorem d_43_35 : m_dn M_43 35 (.iload_n 1) 1 36 := by decide +kernel
theorem d_43_36 : m_dn M_43 36 (.iload 4) 2 38 := by decide +kernel
theorem d_43_38 : m_dn M_43 38 (.iadd) 1 39 := by decide +kernel
theorem d_43_39 : m_dn M_43 39 (.caload) 1 40 := by decide +kernel
theorem d_43_40 : m_dn M_43 40 (.aload_n 0) 1 41 := by decide +kernel
theorem d_43_41 : m_dn M_43 41 (.getfield 11) 3 44 := by decide +kernel
theorem d_43_44 : m_dn M_43 44 (.iload_n 2) 1 45 := by decide +kernel
theorem d_43_45 : m_dn M_43 45 (.iload 4) 2 47 := by decide +kernel
theorem d_43_47 : m_dn M_43 47 (.iadd) 1 48 := by decide +kernel
theorem d_43_48 : m_dn M_43 48 (.caload) 1 49 := by decide +kernel
theorem d_43_49 : m_dn M_43 49 (.if_icmp .eq 5) 3 52 := by decide +kernel
theorem d_43_5 : m_dn M_43 5 (.iload_n 3) 1 6 := by decide +kernel
theorem d_43_52 : m_dn M_43 52 (.iconst 0) 1 53 := by decide +kernel
theorem d_43_53 : m_dn M_43 53 (.ireturn) 1 54 := by decide +kernel
theorem d_43_54 : m_dn M_43 54 (.iinc 4 1) 3 57 := by decide +kernel
theorem d_43_57 : m_dn M_43 57 (.goto (-54)) 3 60 := by decide +kernel
theorem d_43_6 : m_dn M_43 6 (.if_icmp .gt 54) 3 9 := by decide +kernel
theorem d_43_60 : m_dn M_43 60 (.iconst 1) 1 61 := by decide +kernel
theorem d_43_61 : m_dn M_43 61 (.ireturn) 1 62 := by decide +kernel
theorem d_43_9 : m_dn M_43 9 (.iload_n 1) 1 10 := by decide +kernel
theorem d_44_0 : m_dn M_44 0 (.aload_n 0) 1 1 := by decide +kernel
theorem d_44_1 : m_dn M_44 1 (.ldc 177) 2 3 := by decide +kernel
theorem d_44_10 : m_dn M_44 10 (.invokevirtual 179) 3 13 := by decide +kernel
theorem d_44_101 : m_dn M_44 101 (.invokevirtual 158) 3 104 := by decide +kernel
theorem d_44_104 : m_dn M_44 104 (.ifCond .eq 9) 3 107 := by decide +kernel
theorem d_44_107 : m_dn M_44 107 (.aload_n 0) 1 108 := by decide +kernel
theorem d_44_108 : m_dn M_44 108 (.iconst 1) 1 109 := by decide +kernel
theorem d_44_109 : m_dn M_44 109 (.invokevirtual 164) 3 112 := by decide +kernel
theorem d_44_112 : m_dn M_44 112 (.ireturn) 1 113 := by decide +kernel
theorem d_44_113 : m_dn M_44 113 (.aload_n 0) 1 114 := by decide +kernel
theorem d_44_114 : m_dn M_44 114 (.ldc 162) 2 116 := by decide +kernel
theorem d_44_116 : m_dn M_44 116 (.invokevirtual 158) 3 119 := by decide +kernel
theorem d_44_119 : m_dn M_44 119 (.ifCond .eq 9) 3 122 := by decide +kernel
theorem d_44_122 : m_dn M_44 122 (.aload_n 0) 1 123 := by decide +kernel
theorem d_44_123 : m_dn M_44 123 (.iconst 2) 1 124 := by decide +kernel
theorem d_44_124 : m_dn M_44 124 (.invokevirtual 164) 3 127 := by decide +kernel
theorem d_44_127 : m_dn M_44 127 (.ireturn) 1 128 := by decide +kernel
theorem d_44_128 : m_dn M_44 128 (.aload_n 0) 1 129 := by decide +kernel
theorem d_44_129 : m_dn M_44 129 (.invokevirtual 174) 3 132 := by decide +kernel
theorem d_44_13 : m_dn M_44 13 (.ireturn) 1 14 := by decide +kernel
theorem d_44_132 : m_dn M_44 132 (.ireturn) 1 133 := by decide +kernel
theorem d_44_14 : m_dn M_44 14 (.aload_n 0) 1 15 := by decide +kernel
theorem d_44_15 : m_dn M_44 15 (.ldc 182) 2 17 := by decide +kernel
theorem d_44_17 : m_dn M_44 17 (.invokevirtual 158) 3 20 := by decide +kernel
theorem d_44_20 : m_dn M_44 20 (.ifCond .eq 8) 3 23 := by decide +kernel
theorem d_44_23 : m_dn M_44 23 (.aload_n 0) 1 24 := by decide +kernel
theorem d_44_24 : m_dn M_44 24 (.invokevirtual 184) 3 27 := by decide +kernel
theorem d_44_27 : m_dn M_44 27 (.ireturn) 1 28 := by decide +kernel
theorem d_44_28 : m_dn M_44 28 (.aload_n 0) 1 29 := by decide +kernel
theorem d_44_29 : m_dn M_44 29 (.ldc 187) 2 31 := by decide +kernel
theorem d_44_3 : m_dn M_44 3 (.invokevirtual 158) 3 6 := by decide +kernel
theorem d_44_31 : m_dn M_44 31 (.invokevirtual 158) 3 34 := by decide +kernel
theorem d_44_34 : m_dn M_44 34 (.ifCond .eq 49) 3 37 := by decide +kernel
theorem d_44_37 : m_dn M_44 37 (.aload_n 0) 1 38 := by decide +kernel
theorem d_44_38 : m_dn M_44 38 (.bipush 34) 2 40 := by decide +kernel
theorem d_44_40 : m_dn M_44 40 (.invokevirtual 62) 3 43 := by decide +kernel
theorem d_44_43 : m_dn M_44 43 (.ifCond .eq 25) 3 46 := by decide +kernel
theorem d_44_46 : m_dn M_44 46 (.aload_n 0) 1 47 := by decide +kernel
theorem d_44_47 : m_dn M_44 47 (.ldc 189) 2 49 := by decide +kernel
theorem d_44_49 : m_dn M_44 49 (.invokevirtual 138) 3 52 := by decide +kernel
theorem d_44_52 : m_dn M_44 52 (.ifCond .eq 16) 3 55 := by decide +kernel
theorem d_44_55 : m_dn M_44 55 (.aload_n 0) 1 56 := by decide +kernel
theorem d_44_56 : m_dn M_44 56 (.bipush 34) 2 58 := by decide +kernel
theorem d_44_58 : m_dn M_44 58 (.invokevirtual 62) 3 61 := by decide +kernel
theorem d_44_6 : m_dn M_44 6 (.ifCond .eq 8) 3 9 := by decide +kernel
theorem d_44_61 : m_dn M_44 61 (.ifCond .eq 7) 3 64 := by decide +kernel
theorem d_44_64 : m_dn M_44 64 (.iconst 1) 1 65 := by decide +kernel
theorem d_44_65 : m_dn M_44 65 (.goto 4) 3 68 := by decide +kernel
theorem d_44_68 : m_dn M_44 68 (.iconst 0) 1 69 := by decide +kernel
theorem d_44_69 : m_dn M_44 69 (.istore_n 1) 1 70 := by decide +kernel
theorem d_44_70 : m_dn M_44 70 (.aload_n 0) 1 71 := by decide +kernel
theorem d_44_71 : m_dn M_44 71 (.getfield 83) 3 74 := by decide +kernel
theorem d_44_74 : m_dn M_44 74 (.aload_n 0) 1 75 := by decide +kernel
theorem d_44_75 : m_dn M_44 75 (.getfield 132) 3 78 := by decide +kernel
theorem d_44_78 : m_dn M_44 78 (.putfield 190) 3 81 := by decide +kernel
theorem d_44_81 : m_dn M_44 81 (.iload_n 1) 1 82 := by decide +kernel
theorem d_44_82 : m_dn M_44 82 (.ireturn) 1 83 := by decide +kernel
theorem d_44_83 : m_dn M_44 83 (.aload_n 0) 1 84 := by decide +kernel
theorem d_44_84 : m_dn M_44 84 (.ldc 193) 2 86 := by decide +kernel
theorem d_44_86 : m_dn M_44 86 (.invokevirtual 158) 3 89 := by decide +kernel
theorem d_44_89 : m_dn M_44 89 (.ifCond .eq 9) 3 92 := by decide +kernel
theorem d_44_9 : m_dn M_44 9 (.aload_n 0) 1 10 := by decide +kernel
theorem d_44_92 : m_dn M_44 92 (.aload_n 0) 1 93 := by decide +kernel
theorem d_44_93 : m_dn M_44 93 (.iconst 0) 1 94 := by decide +kernel
theorem d_44_94 : m_dn M_44 94 (.invokevirtual 164) 3 97 := by decide +kernel
theorem d_44_97 : m_dn M_44 97 (.ireturn) 1 98 := by decide +kernel
theorem d_44_98 : m_dn M_44 98 (.aload_n 0) 1 99 := by decide +kernel
theorem d_44_99 : m_dn M_44 99 (.ldc 195) 2 101 := by decide +kernel
theorem d_45_0 : m_dn M_45 0 (.aload_n 0) 1 1 := by decide +kernel
theorem d_45_1 : m_dn M_45 1 (.getfield 147) 3 4 := by decide +kernel
theorem d_45_10 : m_dn M_45 10 (.invokevirtual 124) 3 13 := by decide +kernel
theorem d_45_13 : m_dn M_45 13 (.if_icmp .ne 22) 3 16 := by decide +kernel
theorem d_45_16 : m_dn M_45 16 (.aload_n 0) 1 17 := by decide +kernel
theorem d_45_17 : m_dn M_45 17 (.getfield 141) 3 20 := by decide +kernel
theorem d_45_20 : m_dn M_45 20 (.ifCond .lt 15) 3 23 := by decide +kernel
theorem d_45_23 : m_dn M_45 23 (.aload_n 0) 1 24 := by decide +kernel
theorem d_45_24 : m_dn M_45 24 (.getfield 147) 3 27 := by decide +kernel
theorem d_45_27 : m_dn M_45 27 (.aload_n 0) 1 28 := by decide +kernel
theorem d_45_28 : m_dn M_45 28 (.getfield 11) 3 31 := by decide +kernel
theorem d_45_31 : m_dn M_45 31 (.arraylength) 1 32 := by decide +kernel
theorem d_45_32 : m_dn M_45 32 (.if_icmp .le 5) 3 35 := by decide +kernel
theorem d_45_35 : m_dn M_45 35 (.iconst 0) 1 36 := by decide +kernel
theorem d_45_36 : m_dn M_45 36 (.ireturn) 1 37 := by decide +kernel
theorem d_45_37 : m_dn M_45 37 (.iconst 0) 1 38 := by decide +kernel
theorem d_45_38 : m_dn M_45 38 (.istore_n 2) 1 39 := by decide +kernel
theorem d_45_39 : m_dn M_45 39 (.iload_n 2) 1 40 := by decide +kernel
theorem d_45_4 : m_dn M_45 4 (.aload_n 0) 1 5 := by decide +kernel
theorem d_45_40 : m_dn M_45 40 (.aload_n 1) 1 41 := by decide +kernel
theorem d_45_41 : m_dn M_45 41 (.invokevirtual 124) 3 44 := by decide +kernel
theorem d_45_44 : m_dn M_45 44 (.if_icmp .ge 30) 3 47 := by decide +kernel
theorem d_45_47 : m_dn M_45 47 (.aload_n 0) 1 48 := by decide +kernel
theorem d_45_48 : m_dn M_45 48 (.getfield 11) 3 51 := by decide +kernel
theorem d_45_5 : m_dn M_45 5 (.getfield 141) 3 8 := by decide +kernel
theorem d_45_51 : m_dn M_45 51 (.aload_n 0) 1 52 := by decide +kernel
theorem d_45_52 : m_dn M_45 52 (.getfield 141) 3 55 := by decide +kernel
theorem d_45_55 : m_dn M_45 55 (.iload_n 2) 1 56 := by decide +kernel
theorem d_45_56 : m_dn M_45 56 (.iadd) 1 57 := by decide +kernel
theorem d_45_57 : m_dn M_45 57 (.caload) 1 58 := by decide +kernel
theorem d_45_58 : m_dn M_45 58 (.aload_n 1) 1 59 := by decide +kernel
theorem d_45_59 : m_dn M_45 59 (.iload_n 2) 1 60 := by decide +kernel
theorem d_45_60 : m_dn M_45 60 (.invokevirtual 128) 3 63 := by decide +kernel
theorem d_45_63 : m_dn M_45 63 (.if_icmp .eq 5) 3 66 := by decide +kernel
theorem d_45_66 : m_dn M_45 66 (.iconst 0) 1 67 := by decide +kernel
theorem d_45_67 : m_dn M_45 67 (.ireturn) 1 68 := by decide +kernel
theorem d_45_68 : m_dn M_45 68 (.iinc 2 1) 3 71 := by decide +kernel
theorem d_45_71 : m_dn M_45 71 (.goto (-32)) 3 74 := by decide +kernel
theorem d_45_74 : m_dn M_45 74 (.iconst 1) 1 75 := by decide +kernel
theorem d_45_75 : m_dn M_45 75 (.ireturn) 1 76 := by decide +kernel
theorem d_45_8 : m_dn M_45 8 (.isub) 1 9 := by decide +kernel
theorem d_45_9 : m_dn M_45 9 (.aload_n 1) 1 10 := by decide +kernel
theorem d_46_0 : m_dn M_46 0 (.aload_n 0) 1 1 := by decide +kernel
theorem d_46_1 : m_dn M_46 1 (.ldc 199) 2 3 := by decide +kernel
theorem d_46_10 : m_dn M_46 10 (.ireturn) 1 11 := by decide +kernel
theorem d_46_101 : m_dn M_46 101 (.invokevirtual 138) 3 104 := by decide +kernel
theorem d_46_104 : m_dn M_46 104 (.ifCond .ne 5) 3 107 := by decide +kernel
theorem d_46_107 : m_dn M_46 107 (.iconst 0) 1 108 := by decide +kernel
theorem d_46_108 : m_dn M_46 108 (.ireturn) 1 109 := by decide +kernel
theorem d_46_109 : m_dn M_46 109 (.aload_n 0) 1 110 := by decide +kernel
theorem d_46_11 : m_dn M_46 11 (.aload_n 0) 1 12 := by decide +kernel
theorem d_46_110 : m_dn M_46 110 (.getfield 132) 3 113 := by decide +kernel
theorem d_46_113 : m_dn M_46 113 (.istore_n 2) 1 114 := by decide +kernel
theorem d_46_114 : m_dn M_46 114 (.iload_n 1) 1 115 := by decide +kernel
theorem d_46_115 : m_dn M_46 115 (.iload_n 2) 1 116 := by decide +kernel
theorem d_46_116 : m_dn M_46 116 (.if_icmp .gt 27) 3 119 := by decide +kernel
theorem d_46_119 : m_dn M_46 119 (.aload_n 0) 1 120 := by decide +kernel
theorem d_46_12 : m_dn M_46 12 (.invokevirtual 51) 3 15 := by decide +kernel
theorem d_46_120 : m_dn M_46 120 (.getfield 83) 3 123 := by decide +kernel
theorem d_46_123 : m_dn M_46 123 (.iconst 1) 1 124 := by decide +kernel
theorem d_46_124 : m_dn M_46 124 (.putfield 201) 3 127 := by decide +kernel
theorem d_46_127 : m_dn M_46 127 (.aload_n 0) 1 128 := by decide +kernel
theorem d_46_128 : m_dn M_46 128 (.getfield 83) 3 131 := by decide +kernel
theorem d_46_131 : m_dn M_46 131 (.iload_n 1) 1 132 := by decide +kernel
theorem d_46_132 : m_dn M_46 132 (.putfield 203) 3 135 := by decide +kernel
theorem d_46_135 : m_dn M_46 135 (.aload_n 0) 1 136 := by decide +kernel
theorem d_46_136 : m_dn M_46 136 (.getfield 83) 3 139 := by decide +kernel
theorem d_46_139 : m_dn M_46 139 (.iload_n 2) 1 140 := by decide +kernel
theorem d_46_140 : m_dn M_46 140 (.putfield 206) 3 143 := by decide +kernel
theorem d_46_143 : m_dn M_46 143 (.iconst 1) 1 144 := by decide +kernel
theorem d_46_144 : m_dn M_46 144 (.ireturn) 1 145 := by decide +kernel
theorem d_46_15 : m_dn M_46 15 (.bipush 45) 2 17 := by decide +kernel
theorem d_46_17 : m_dn M_46 17 (.if_icmp .ne 41) 3 20 := by decide +kernel
theorem d_46_20 : m_dn M_46 20 (.aload_n 0) 1 21 := by decide +kernel
theorem d_46_21 : m_dn M_46 21 (.dup) 1 22 := by decide +kernel
theorem d_46_22 : m_dn M_46 22 (.getfield 114) 3 25 := by decide +kernel
theorem d_46_25 : m_dn M_46 25 (.iconst 1) 1 26 := by decide +kernel
theorem d_46_26 : m_dn M_46 26 (.iadd) 1 27 := by decide +kernel
theorem d_46_27 : m_dn M_46 27 (.putfield 114) 3 30 := by decide +kernel
theorem d_46_3 : m_dn M_46 3 (.invokevirtual 43) 3 6 := by decide +kernel
theorem d_46_30 : m_dn M_46 30 (.aload_n 0) 1 31 := by decide +kernel
theorem d_46_31 : m_dn M_46 31 (.getfield 83) 3 34 := by decide +kernel
theorem d_46_34 : m_dn M_46 34 (.iconst 2) 1 35 := by decide +kernel
theorem d_46_35 : m_dn M_46 35 (.putfield 201) 3 38 := by decide +kernel
theorem d_46_38 : m_dn M_46 38 (.aload_n 0) 1 39 := by decide +kernel
theorem d_46_39 : m_dn M_46 39 (.ldc 189) 2 41 := by decide +kernel
theorem d_46_41 : m_dn M_46 41 (.invokevirtual 138) 3 44 := by decide +kernel
theorem d_46_44 : m_dn M_46 44 (.istore_n 1) 1 45 := by decide +kernel
theorem d_46_45 : m_dn M_46 45 (.aload_n 0) 1 46 := by decide +kernel
theorem d_46_46 : m_dn M_46 46 (.getfield 83) 3 49 := by decide +kernel
theorem d_46_49 : m_dn M_46 49 (.aload_n 0) 1 50 := by decide +kernel
theorem d_46_50 : m_dn M_46 50 (.getfield 132) 3 53 := by decide +kernel
theorem d_46_53 : m_dn M_46 53 (.putfield 203) 3 56 := by decide +kernel
theorem d_46_56 : m_dn M_46 56 (.iload_n 1) 1 57 := by decide +kernel
theorem d_46_57 : m_dn M_46 57 (.ireturn) 1 58 := by decide +kernel
theorem d_46_58 : m_dn M_46 58 (.aload_n 0) 1 59 := by decide +kernel
theorem d_46_59 : m_dn M_46 59 (.ldc 189) 2 61 := by decide +kernel
theorem d_46_6 : m_dn M_46 6 (.ifCond .ne 5) 3 9 := by decide +kernel
theorem d_46_61 : m_dn M_46 61 (.invokevirtual 138) 3 64 := by decide +kernel
theorem d_46_64 : m_dn M_46 64 (.ifCond .ne 5) 3 67 := by decide +kernel
theorem d_46_67 : m_dn M_46 67 (.iconst 0) 1 68 := by decide +kernel
theorem d_46_68 : m_dn M_46 68 (.ireturn) 1 69 := by decide +kernel
theorem d_46_69 : m_dn M_46 69 (.aload_n 0) 1 70 := by decide +kernel
theorem d_46_70 : m_dn M_46 70 (.getfield 132) 3 73 := by decide +kernel
theorem d_46_73 : m_dn M_46 73 (.istore_n 1) 1 74 := by decide +kernel
theorem d_46_74 : m_dn M_46 74 (.ldc 189) 2 76 := by decide +kernel
theorem d_46_76 : m_dn M_46 76 (.istore_n 2) 1 77 := by decide +kernel
theorem d_46_77 : m_dn M_46 77 (.aload_n 0) 1 78 := by decide +kernel
theorem d_46_78 : m_dn M_46 78 (.bipush 45) 2 80 := by decide +kernel
theorem d_46_80 : m_dn M_46 80 (.invokevirtual 62) 3 83 := by decide +kernel
theorem d_46_83 : m_dn M_46 83 (.ifCond .ne 5) 3 86 := by decide +kernel
theorem d_46_86 : m_dn M_46 86 (.iconst 0) 1 87 := by decide +kernel
theorem d_46_87 : m_dn M_46 87 (.ireturn) 1 88 := by decide +kernel
theorem d_46_88 : m_dn M_46 88 (.aload_n 0) 1 89 := by decide +kernel
theorem d_46_89 : m_dn M_46 89 (.invokevirtual 51) 3 92 := by decide +kernel
theorem d_46_9 : m_dn M_46 9 (.iconst 0) 1 10 := by decide +kernel
theorem d_46_92 : m_dn M_46 92 (.invokestatic 135) 3 95 := by decide +kernel
theorem d_46_95 : m_dn M_46 95 (.ifCond .eq 19) 3 98 := by decide +kernel
theorem d_46_98 : m_dn M_46 98 (.aload_n 0) 1 99 := by decide +kernel
theorem d_46_99 : m_dn M_46 99 (.ldc 189) 2 101 := by decide +kernel
theorem d_47_0 : m_dn M_47 0 (.aload_n 0) 1 1 := by decide +kernel
theorem d_47_1 : m_dn M_47 1 (.invokevirtual 51) 3 4 := by decide +kernel
theorem d_47_10 : m_dn M_47 10 (.dup) 1 11 := by decide +kernel
theorem d_47_101 : m_dn M_47 101 (.bipush 44) 2 103 := by decide +kernel
theorem d_47_103 : m_dn M_47 103 (.if_icmp .eq 6) 3 106 := by decide +kernel
theorem d_47_106 : m_dn M_47 106 (.goto 30) 3 109 := by decide +kernel
theorem d_47_109 : m_dn M_47 109 (.aload_n 0) 1 110 := by decide +kernel
theorem d_47_11 : m_dn M_47 11 (.getfield 114) 3 14 := by decide +kernel
theorem d_47_110 : m_dn M_47 110 (.dup) 1 111 := by decide +kernel
theorem d_47_111 : m_dn M_47 111 (.getfield 114) 3 114 := by decide +kernel
theorem d_47_114 : m_dn M_47 114 (.iconst 1) 1 115 := by decide +kernel
theorem d_47_115 : m_dn M_47 115 (.iadd) 1 116 := by decide +kernel
theorem d_47_116 : m_dn M_47 116 (.putfield 114) 3 119 := by decide +kernel
theorem d_47_119 : m_dn M_47 119 (.aload_n 0) 1 120 := by decide +kernel
theorem d_47_120 : m_dn M_47 120 (.bipush 32) 2 122 := by decide +kernel
theorem d_47_122 : m_dn M_47 122 (.invokevirtual 62) 3 125 := by decide +kernel
theorem d_47_125 : m_dn M_47 125 (.ifCond .ne 5) 3 128 := by decide +kernel
theorem d_47_128 : m_dn M_47 128 (.iconst 0) 1 129 := by decide +kernel
theorem d_47_129 : m_dn M_47 129 (.ireturn) 1 130 := by decide +kernel
theorem d_47_130 : m_dn M_47 130 (.iinc 1 1) 3 133 := by decide +kernel
theorem d_47_133 : m_dn M_47 133 (.goto (-102)) 3 136 := by decide +kernel
theorem d_47_136 : m_dn M_47 136 (.iconst 1) 1 137 := by decide +kernel
theorem d_47_137 : m_dn M_47 137 (.ireturn) 1 138 := by decide +kernel
theorem d_47_14 : m_dn M_47 14 (.iconst 1) 1 15 := by decide +kernel
theorem d_47_15 : m_dn M_47 15 (.iadd) 1 16 := by decide +kernel
theorem d_47_16 : m_dn M_47 16 (.putfield 114) 3 19 := by decide +kernel
theorem d_47_19 : m_dn M_47 19 (.aload_n 0) 1 20 := by decide +kernel
theorem d_47_20 : m_dn M_47 20 (.getfield 83) 3 23 := by decide +kernel
theorem d_47_23 : m_dn M_47 23 (.iconst 1) 1 24 := by decide +kernel
theorem d_47_24 : m_dn M_47 24 (.putfield 209) 3 27 := by decide +kernel
theorem d_47_27 : m_dn M_47 27 (.iconst 1) 1 28 := by decide +kernel
theorem d_47_28 : m_dn M_47 28 (.ireturn) 1 29 := by decide +kernel
theorem d_47_29 : m_dn M_47 29 (.iconst 0) 1 30 := by decide +kernel
theorem d_47_30 : m_dn M_47 30 (.istore_n 1) 1 31 := by decide +kernel
theorem d_47_31 : m_dn M_47 31 (.iload_n 1) 1 32 := by decide +kernel
theorem d_47_32 : m_dn M_47 32 (.aload_n 0) 1 33 := by decide +kernel
theorem d_47_33 : m_dn M_47 33 (.getfield 83) 3 36 := by decide +kernel
theorem d_47_36 : m_dn M_47 36 (.getfield 212) 3 39 := by decide +kernel
theorem d_47_39 : m_dn M_47 39 (.arraylength) 1 40 := by decide +kernel
theorem d_47_4 : m_dn M_47 4 (.bipush 42) 2 6 := by decide +kernel
theorem d_47_40 : m_dn M_47 40 (.if_icmp .ge 96) 3 43 := by decide +kernel
theorem d_47_43 : m_dn M_47 43 (.aload_n 0) 1 44 := by decide +kernel
theorem d_47_44 : m_dn M_47 44 (.bipush 34) 2 46 := by decide +kernel
theorem d_47_46 : m_dn M_47 46 (.invokevirtual 62) 3 49 := by decide +kernel
theorem d_47_49 : m_dn M_47 49 (.ifCond .eq 21) 3 52 := by decide +kernel
theorem d_47_52 : m_dn M_47 52 (.aload_n 0) 1 53 := by decide +kernel
theorem d_47_53 : m_dn M_47 53 (.ldc 189) 2 55 := by decide +kernel
theorem d_47_55 : m_dn M_47 55 (.invokevirtual 138) 3 58 := by decide +kernel
theorem d_47_58 : m_dn M_47 58 (.ifCond .eq 12) 3 61 := by decide +kernel
theorem d_47_6 : m_dn M_47 6 (.if_icmp .ne 23) 3 9 := by decide +kernel
theorem d_47_61 : m_dn M_47 61 (.aload_n 0) 1 62 := by decide +kernel
theorem d_47_62 : m_dn M_47 62 (.bipush 34) 2 64 := by decide +kernel
theorem d_47_64 : m_dn M_47 64 (.invokevirtual 62) 3 67 := by decide +kernel
theorem d_47_67 : m_dn M_47 67 (.ifCond .ne 5) 3 70 := by decide +kernel
theorem d_47_70 : m_dn M_47 70 (.iconst 0) 1 71 := by decide +kernel
theorem d_47_71 : m_dn M_47 71 (.ireturn) 1 72 := by decide +kernel
theorem d_47_72 : m_dn M_47 72 (.aload_n 0) 1 73 := by decide +kernel
theorem d_47_73 : m_dn M_47 73 (.getfield 83) 3 76 := by decide +kernel
theorem d_47_76 : m_dn M_47 76 (.aload_n 0) 1 77 := by decide +kernel
theorem d_47_77 : m_dn M_47 77 (.getfield 132) 3 80 := by decide +kernel
theorem d_47_80 : m_dn M_47 80 (.invokevirtual 215) 3 83 := by decide +kernel
theorem d_47_83 : m_dn M_47 83 (.iload_n 1) 1 84 := by decide +kernel
theorem d_47_84 : m_dn M_47 84 (.aload_n 0) 1 85 := by decide +kernel
theorem d_47_85 : m_dn M_47 85 (.getfield 83) 3 88 := by decide +kernel
theorem d_47_88 : m_dn M_47 88 (.getfield 212) 3 91 := by decide +kernel
theorem d_47_9 : m_dn M_47 9 (.aload_n 0) 1 10 := by decide +kernel
theorem d_47_91 : m_dn M_47 91 (.arraylength) 1 92 := by decide +kernel
theorem d_47_92 : m_dn M_47 92 (.iconst 1) 1 93 := by decide +kernel
theorem d_47_93 : m_dn M_47 93 (.isub) 1 94 := by decide +kernel
theorem d_47_94 : m_dn M_47 94 (.if_icmp .eq 42) 3 97 := by decide +kernel
theorem d_47_97 : m_dn M_47 97 (.aload_n 0) 1 98 := by decide +kernel
theorem d_47_98 : m_dn M_47 98 (.invokevirtual 51) 3 101 := by decide +kernel
theorem d_48_0 : m_dn M_48 0 (.aload_n 0) 1 1 := by decide +kernel
theorem d_48_1 : m_dn M_48 1 (.getfield 37) 3 4 := by decide +kernel
theorem d_48_12 : m_dn M_48 12 (.aload_n 0) 1 13 := by decide +kernel
theorem d_48_13 : m_dn M_48 13 (.getfield 15) 3 16 := by decide +kernel
theorem d_48_16 : m_dn M_48 16 (.aload_n 0) 1 17 := by decide +kernel
theorem d_48_17 : m_dn M_48 17 (.getfield 37) 3 20 := by decide +kernel
theorem d_48_20 : m_dn M_48 20 (.iload_n 1) 1 21 := by decide +kernel
theorem d_48_21 : m_dn M_48 21 (.iastore) 1 22 := by decide +kernel
theorem d_48_22 : m_dn M_48 22 (.aload_n 0) 1 23 := by decide +kernel
theorem d_48_23 : m_dn M_48 23 (.dup) 1 24 := by decide +kernel
theorem d_48_24 : m_dn M_48 24 (.getfield 37) 3 27 := by decide +kernel
theorem d_48_27 : m_dn M_48 27 (.iconst 1) 1 28 := by decide +kernel
theorem d_48_28 : m_dn M_48 28 (.iadd) 1 29 := by decide +kernel
theorem d_48_29 : m_dn M_48 29 (.putfield 37) 3 32 := by decide +kernel
theorem d_48_32 : m_dn M_48 32 (.return_) 1 33 := by decide +kernel
theorem d_48_4 : m_dn M_48 4 (.aload_n 0) 1 5 := by decide +kernel
theorem d_48_5 : m_dn M_48 5 (.getfield 15) 3 8 := by decide +kernel
theorem d_48_8 : m_dn M_48 8 (.arraylength) 1 9 := by decide +kernel
theorem d_48_9 : m_dn M_48 9 (.if_icmp .ge 23) 3 12 := by decide +kernel
theorem d_49_0 : m_dn M_49 0 (.iconst 0) 1 1 := by decide +kernel
theorem d_49_1 : m_dn M_49 1 (.istore_n 2) 1 2 := by decide +kernel
theorem d_49_10 : m_dn M_49 10 (.invokevirtual 219) 3 13 := by decide +kernel
theorem d_49_100 : m_dn M_49 100 (.ireturn) 1 101 := by decide +kernel
theorem d_49_101 : m_dn M_49 101 (.iinc 2 1) 3 104 := by decide +kernel
theorem d_49_104 : m_dn M_49 104 (.goto (-102)) 3 107 := by decide +kernel
theorem d_49_107 : m_dn M_49 107 (.aload_n 0) 1 108 := by decide +kernel
theorem d_49_108 : m_dn M_49 108 (.aload_n 0) 1 109 := by decide +kernel
theorem d_49_109 : m_dn M_49 109 (.getfield 114) 3 112 := by decide +kernel
theorem d_49_112 : m_dn M_49 112 (.invokevirtual 120) 3 115 := by decide +kernel
theorem d_49_115 : m_dn M_49 115 (.ireturn) 1 116 := by decide +kernel
theorem d_49_13 : m_dn M_49 13 (.ifCond .ne 5) 3 16 := by decide +kernel
theorem d_49_16 : m_dn M_49 16 (.iconst 0) 1 17 := by decide +kernel
theorem d_49_17 : m_dn M_49 17 (.ireturn) 1 18 := by decide +kernel
theorem d_49_18 : m_dn M_49 18 (.iload_n 1) 1 19 := by decide +kernel
theorem d_49_19 : m_dn M_49 19 (.ifCond .ne 10) 3 22 := by decide +kernel
theorem d_49_2 : m_dn M_49 2 (.iload_n 2) 1 3 := by decide +kernel
theorem d_49_22 : m_dn M_49 22 (.aload_n 0) 1 23 := by decide +kernel
theorem d_49_23 : m_dn M_49 23 (.invokevirtual 222) 3 26 := by decide +kernel
theorem d_49_26 : m_dn M_49 26 (.goto 43) 3 29 := by decide +kernel
theorem d_49_29 : m_dn M_49 29 (.iload_n 1) 1 30 := by decide +kernel
theorem d_49_3 : m_dn M_49 3 (.sipush 300) 3 6 := by decide +kernel
theorem d_49_30 : m_dn M_49 30 (.iconst 1) 1 31 := by decide +kernel
theorem d_49_31 : m_dn M_49 31 (.if_icmp .ne 10) 3 34 := by decide +kernel
theorem d_49_34 : m_dn M_49 34 (.aload_n 0) 1 35 := by decide +kernel
theorem d_49_35 : m_dn M_49 35 (.invokevirtual 225) 3 38 := by decide +kernel
theorem d_49_38 : m_dn M_49 38 (.goto 31) 3 41 := by decide +kernel
theorem d_49_41 : m_dn M_49 41 (.iload_n 1) 1 42 := by decide +kernel
theorem d_49_42 : m_dn M_49 42 (.iconst 2) 1 43 := by decide +kernel
theorem d_49_43 : m_dn M_49 43 (.if_icmp .ne 10) 3 46 := by decide +kernel
theorem d_49_46 : m_dn M_49 46 (.aload_n 0) 1 47 := by decide +kernel
theorem d_49_47 : m_dn M_49 47 (.invokevirtual 228) 3 50 := by decide +kernel
theorem d_49_50 : m_dn M_49 50 (.goto 19) 3 53 := by decide +kernel
theorem d_49_53 : m_dn M_49 53 (.iload_n 1) 1 54 := by decide +kernel
theorem d_49_54 : m_dn M_49 54 (.iconst 3) 1 55 := by decide +kernel
theorem d_49_55 : m_dn M_49 55 (.if_icmp .ne 10) 3 58 := by decide +kernel
theorem d_49_58 : m_dn M_49 58 (.aload_n 0) 1 59 := by decide +kernel
theorem d_49_59 : m_dn M_49 59 (.invokevirtual 231) 3 62 := by decide +kernel
theorem d_49_6 : m_dn M_49 6 (.if_icmp .ge 101) 3 9 := by decide +kernel
theorem d_49_62 : m_dn M_49 62 (.goto 7) 3 65 := by decide +kernel
theorem d_49_65 : m_dn M_49 65 (.aload_n 0) 1 66 := by decide +kernel
theorem d_49_66 : m_dn M_49 66 (.invokevirtual 234) 3 69 := by decide +kernel
theorem d_49_69 : m_dn M_49 69 (.aload_n 0) 1 70 := by decide +kernel
theorem d_49_70 : m_dn M_49 70 (.invokevirtual 51) 3 73 := by decide +kernel
theorem d_49_73 : m_dn M_49 73 (.bipush 44) 2 75 := by decide +kernel
theorem d_49_75 : m_dn M_49 75 (.if_icmp .eq 5) 3 78 := by decide +kernel
theorem d_49_78 : m_dn M_49 78 (.iconst 1) 1 79 := by decide +kernel
theorem d_49_79 : m_dn M_49 79 (.ireturn) 1 80 := by decide +kernel
theorem d_49_80 : m_dn M_49 80 (.aload_n 0) 1 81 := by decide +kernel
theorem d_49_81 : m_dn M_49 81 (.dup) 1 82 := by decide +kernel
theorem d_49_82 : m_dn M_49 82 (.getfield 114) 3 85 := by decide +kernel
theorem d_49_85 : m_dn M_49 85 (.iconst 1) 1 86 := by decide +kernel
theorem d_49_86 : m_dn M_49 86 (.iadd) 1 87 := by decide +kernel
theorem d_49_87 : m_dn M_49 87 (.putfield 114) 3 90 := by decide +kernel
theorem d_49_9 : m_dn M_49 9 (.aload_n 0) 1 10 := by decide +kernel
theorem d_49_90 : m_dn M_49 90 (.aload_n 0) 1 91 := by decide +kernel
theorem d_49_91 : m_dn M_49 91 (.bipush 32) 2 93 := by decide +kernel
theorem d_49_93 : m_dn M_49 93 (.invokevirtual 62) 3 96 := by decide +kernel
theorem d_49_96 : m_dn M_49 96 (.ifCond .ne 5) 3 99 := by decide +kernel
theorem d_49_99 : m_dn M_49 99 (.iconst 0) 1 100 := by decide +kernel
theorem d_50_0 : m_dn M_50 0 (.aload_n 0) 1 1 := by decide +kernel
theorem d_50_1 : m_dn M_50 1 (.aload_n 0) 1 2 := by decide +kernel
theorem d_50_100 : m_dn M_50 100 (.aload_n 0) 1 101 := by decide +kernel
theorem d_50_101 : m_dn M_50 101 (.ldc 189) 2 103 := by decide +kernel
theorem d_50_103 : m_dn M_50 103 (.invokevirtual 138) 3 106 := by decide +kernel
theorem d_50_106 : m_dn M_50 106 (.ireturn) 1 107 := by decide +kernel
theorem d_50_12 : m_dn M_50 12 (.aload_n 0) 1 13 := by decide +kernel
theorem d_50_13 : m_dn M_50 13 (.aload_n 0) 1 14 := by decide +kernel
theorem d_50_14 : m_dn M_50 14 (.getfield 114) 3 17 := by decide +kernel
theorem d_50_17 : m_dn M_50 17 (.putfield 147) 3 20 := by decide +kernel
theorem d_50_2 : m_dn M_50 2 (.getfield 114) 3 5 := by decide +kernel
theorem d_50_20 : m_dn M_50 20 (.aload_n 0) 1 21 := by decide +kernel
theorem d_50_21 : m_dn M_50 21 (.getfield 114) 3 24 := by decide +kernel
theorem d_50_24 : m_dn M_50 24 (.aload_n 0) 1 25 := by decide +kernel
theorem d_50_25 : m_dn M_50 25 (.getfield 141) 3 28 := by decide +kernel
theorem d_50_28 : m_dn M_50 28 (.if_icmp .ne 12) 3 31 := by decide +kernel
theorem d_50_31 : m_dn M_50 31 (.aload_n 0) 1 32 := by decide +kernel
theorem d_50_32 : m_dn M_50 32 (.aload_n 0) 1 33 := by decide +kernel
theorem d_50_33 : m_dn M_50 33 (.getfield 114) 3 36 := by decide +kernel
theorem d_50_36 : m_dn M_50 36 (.invokevirtual 120) 3 39 := by decide +kernel
theorem d_50_39 : m_dn M_50 39 (.ireturn) 1 40 := by decide +kernel
theorem d_50_40 : m_dn M_50 40 (.aload_n 0) 1 41 := by decide +kernel
theorem d_50_41 : m_dn M_50 41 (.getfield 114) 3 44 := by decide +kernel
theorem d_50_44 : m_dn M_50 44 (.aload_n 0) 1 45 := by decide +kernel
theorem d_50_45 : m_dn M_50 45 (.getfield 141) 3 48 := by decide +kernel
theorem d_50_48 : m_dn M_50 48 (.isub) 1 49 := by decide +kernel
theorem d_50_49 : m_dn M_50 49 (.bipush 30) 2 51 := by decide +kernel
theorem d_50_5 : m_dn M_50 5 (.putfield 141) 3 8 := by decide +kernel
theorem d_50_51 : m_dn M_50 51 (.if_icmp .le 12) 3 54 := by decide +kernel
theorem d_50_54 : m_dn M_50 54 (.aload_n 0) 1 55 := by decide +kernel
theorem d_50_55 : m_dn M_50 55 (.aload_n 0) 1 56 := by decide +kernel
theorem d_50_56 : m_dn M_50 56 (.getfield 141) 3 59 := by decide +kernel
theorem d_50_59 : m_dn M_50 59 (.invokevirtual 120) 3 62 := by decide +kernel
theorem d_50_62 : m_dn M_50 62 (.ireturn) 1 63 := by decide +kernel
theorem d_50_63 : m_dn M_50 63 (.aload_n 0) 1 64 := by decide +kernel
theorem d_50_64 : m_dn M_50 64 (.aload_n 0) 1 65 := by decide +kernel
theorem d_50_65 : m_dn M_50 65 (.invokevirtual 51) 3 68 := by decide +kernel
theorem d_50_68 : m_dn M_50 68 (.bipush 61) 2 70 := by decide +kernel
theorem d_50_70 : m_dn M_50 70 (.if_icmp .eq 7) 3 73 := by decide +kernel
theorem d_50_73 : m_dn M_50 73 (.iconst 1) 1 74 := by decide +kernel
theorem d_50_74 : m_dn M_50 74 (.goto 4) 3 77 := by decide +kernel
theorem d_50_77 : m_dn M_50 77 (.iconst 0) 1 78 := by decide +kernel
theorem d_50_78 : m_dn M_50 78 (.putfield 237) 3 81 := by decide +kernel
theorem d_50_8 : m_dn M_50 8 (.aload_n 0) 1 9 := by decide +kernel
theorem d_50_81 : m_dn M_50 81 (.aload_n 0) 1 82 := by decide +kernel
theorem d_50_82 : m_dn M_50 82 (.getfield 237) 3 85 := by decide +kernel
theorem d_50_85 : m_dn M_50 85 (.ifCond .eq 5) 3 88 := by decide +kernel
theorem d_50_88 : m_dn M_50 88 (.iconst 1) 1 89 := by decide +kernel
theorem d_50_89 : m_dn M_50 89 (.ireturn) 1 90 := by decide +kernel
theorem d_50_9 : m_dn M_50 9 (.invokevirtual 144) 3 12 := by decide +kernel
theorem d_50_90 : m_dn M_50 90 (.aload_n 0) 1 91 := by decide +kernel
theorem d_50_91 : m_dn M_50 91 (.dup) 1 92 := by decide +kernel
theorem d_50_92 : m_dn M_50 92 (.getfield 114) 3 95 := by decide +kernel
theorem d_50_95 : m_dn M_50 95 (.iconst 1) 1 96 := by decide +kernel
theorem d_50_96 : m_dn M_50 96 (.iadd) 1 97 := by decide +kernel
theorem d_50_97 : m_dn M_50 97 (.putfield 114) 3 100 := by decide +kernel
theorem d_51_0 : m_dn M_51 0 (.aload_n 0) 1 1 := by decide +kernel
theorem d_51_1 : m_dn M_51 1 (.getfield 237) 3 4 := by decide +kernel
theorem d_51_12 : m_dn M_51 12 (.aload_n 0) 1 13 := by decide +kernel
theorem d_51_13 : m_dn M_51 13 (.getfield 132) 3 16 := by decide +kernel
theorem d_51_16 : m_dn M_51 16 (.istore_n 1) 1 17 := by decide +kernel
theorem d_51_17 : m_dn M_51 17 (.aload_n 0) 1 18 := by decide +kernel
theorem d_51_18 : m_dn M_51 18 (.ldc 240) 2 20 := by decide +kernel
theorem d_51_20 : m_dn M_51 20 (.invokevirtual 158) 3 23 := by decide +kernel
theorem d_51_23 : m_dn M_51 23 (.ifCond .eq 13) 3 26 := by decide +kernel
theorem d_51_26 : m_dn M_51 26 (.aload_n 0) 1 27 := by decide +kernel
theorem d_51_27 : m_dn M_51 27 (.getfield 23) 3 30 := by decide +kernel
theorem d_51_30 : m_dn M_51 30 (.iconst 0) 1 31 := by decide +kernel
theorem d_51_31 : m_dn M_51 31 (.iload_n 1) 1 32 := by decide +kernel
theorem d_51_32 : m_dn M_51 32 (.iastore) 1 33 := by decide +kernel
theorem d_51_33 : m_dn M_51 33 (.goto 57) 3 36 := by decide +kernel
theorem d_51_36 : m_dn M_51 36 (.aload_n 0) 1 37 := by decide +kernel
theorem d_51_37 : m_dn M_51 37 (.ldc 242) 2 39 := by decide +kernel
theorem d_51_39 : m_dn M_51 39 (.invokevirtual 158) 3 42 := by decide +kernel
theorem d_51_4 : m_dn M_51 4 (.ifCond .eq 8) 3 7 := by decide +kernel
theorem d_51_42 : m_dn M_51 42 (.ifCond .eq 13) 3 45 := by decide +kernel
theorem d_51_45 : m_dn M_51 45 (.aload_n 0) 1 46 := by decide +kernel
theorem d_51_46 : m_dn M_51 46 (.getfield 23) 3 49 := by decide +kernel
theorem d_51_49 : m_dn M_51 49 (.iconst 1) 1 50 := by decide +kernel
theorem d_51_50 : m_dn M_51 50 (.iload_n 1) 1 51 := by decide +kernel
theorem d_51_51 : m_dn M_51 51 (.iastore) 1 52 := by decide +kernel
theorem d_51_52 : m_dn M_51 52 (.goto 38) 3 55 := by decide +kernel
theorem d_51_55 : m_dn M_51 55 (.aload_n 0) 1 56 := by decide +kernel
theorem d_51_56 : m_dn M_51 56 (.ldc 244) 2 58 := by decide +kernel
theorem d_51_58 : m_dn M_51 58 (.invokevirtual 158) 3 61 := by decide +kernel
theorem d_51_61 : m_dn M_51 61 (.ifCond .eq 13) 3 64 := by decide +kernel
theorem d_51_64 : m_dn M_51 64 (.aload_n 0) 1 65 := by decide +kernel
theorem d_51_65 : m_dn M_51 65 (.getfield 23) 3 68 := by decide +kernel
theorem d_51_68 : m_dn M_51 68 (.iconst 2) 1 69 := by decide +kernel
theorem d_51_69 : m_dn M_51 69 (.iload_n 1) 1 70 := by decide +kernel
theorem d_51_7 : m_dn M_51 7 (.bipush 9) 2 9 := by decide +kernel
theorem d_51_70 : m_dn M_51 70 (.iastore) 1 71 := by decide +kernel
theorem d_51_71 : m_dn M_51 71 (.goto 19) 3 74 := by decide +kernel
theorem d_51_74 : m_dn M_51 74 (.aload_n 0) 1 75 := by decide +kernel
theorem d_51_75 : m_dn M_51 75 (.ldc 246) 2 77 := by decide +kernel
theorem d_51_77 : m_dn M_51 77 (.invokevirtual 158) 3 80 := by decide +kernel
theorem d_51_80 : m_dn M_51 80 (.ifCond .eq 10) 3 83 := by decide +kernel
theorem d_51_83 : m_dn M_51 83 (.aload_n 0) 1 84 := by decide +kernel
theorem d_51_84 : m_dn M_51 84 (.getfield 23) 3 87 := by decide +kernel
theorem d_51_87 : m_dn M_51 87 (.iconst 3) 1 88 := by decide +kernel
theorem d_51_88 : m_dn M_51 88 (.iload_n 1) 1 89 := by decide +kernel
theorem d_51_89 : m_dn M_51 89 (.iastore) 1 90 := by decide +kernel
theorem d_51_9 : m_dn M_51 9 (.goto 7) 3 12 := by decide +kernel
theorem d_51_90 : m_dn M_51 90 (.return_) 1 91 := by decide +kernel
theorem d_52_0 : m_dn M_52 0 (.aload_n 0) 1 1 := by decide +kernel
theorem d_52_1 : m_dn M_52 1 (.ldc 248) 2 3 := by decide +kernel
theorem d_52_10 : m_dn M_52 10 (.getfield 76) 3 13 := by decide +kernel
theorem d_52_13 : m_dn M_52 13 (.aload_n 0) 1 14 := by decide +kernel
theorem d_52_14 : m_dn M_52 14 (.getfield 237) 3 17 := by decide +kernel
theorem d_52_17 : m_dn M_52 17 (.ifCond .ne 10) 3 20 := by decide +kernel
theorem d_52_20 : m_dn M_52 20 (.aload_n 0) 1 21 := by decide +kernel
theorem d_52_21 : m_dn M_52 21 (.getfield 132) 3 24 := by decide +kernel
theorem d_52_24 : m_dn M_52 24 (.ifCond .le 7) 3 27 := by decide +kernel
theorem d_52_27 : m_dn M_52 27 (.iconst 1) 1 28 := by decide +kernel
theorem d_52_28 : m_dn M_52 28 (.goto 4) 3 31 := by decide +kernel
theorem d_52_3 : m_dn M_52 3 (.invokevirtual 158) 3 6 := by decide +kernel
theorem d_52_31 : m_dn M_52 31 (.iconst 0) 1 32 := by decide +kernel
theorem d_52_32 : m_dn M_52 32 (.putfield 250) 3 35 := by decide +kernel
theorem d_52_35 : m_dn M_52 35 (.return_) 1 36 := by decide +kernel
theorem d_52_6 : m_dn M_52 6 (.ifCond .eq 29) 3 9 := by decide +kernel
theorem d_52_9 : m_dn M_52 9 (.aload_n 0) 1 10 := by decide +kernel
theorem d_53_0 : m_dn M_53 0 (.aload_n 0) 1 1 := by decide +kernel
theorem d_53_1 : m_dn M_53 1 (.ldc 253) 2 3 := by decide +kernel
theorem d_53_10 : m_dn M_53 10 (.getfield 76) 3 13 := by decide +kernel
theorem d_53_102 : m_dn M_53 102 (.invokevirtual 158) 3 105 := by decide +kernel
theorem d_53_105 : m_dn M_53 105 (.ifCond .eq 17) 3 108 := by decide +kernel
theorem d_53_108 : m_dn M_53 108 (.aload_n 0) 1 109 := by decide +kernel
theorem d_53_109 : m_dn M_53 109 (.getfield 76) 3 112 := by decide +kernel
theorem d_53_112 : m_dn M_53 112 (.aload_n 0) 1 113 := by decide +kernel
theorem d_53_113 : m_dn M_53 113 (.getfield 132) 3 116 := by decide +kernel
theorem d_53_116 : m_dn M_53 116 (.putfield 271) 3 119 := by decide +kernel
theorem d_53_119 : m_dn M_53 119 (.goto 31) 3 122 := by decide +kernel
theorem d_53_122 : m_dn M_53 122 (.aload_n 0) 1 123 := by decide +kernel
theorem d_53_123 : m_dn M_53 123 (.getfield 237) 3 126 := by decide +kernel
theorem d_53_126 : m_dn M_53 126 (.ifCond .ne 24) 3 129 := by decide +kernel
theorem d_53_129 : m_dn M_53 129 (.aload_n 0) 1 130 := by decide +kernel
theorem d_53_13 : m_dn M_53 13 (.aload_n 0) 1 14 := by decide +kernel
theorem d_53_130 : m_dn M_53 130 (.ldc_w 274) 3 133 := by decide +kernel
theorem d_53_133 : m_dn M_53 133 (.invokevirtual 158) 3 136 := by decide +kernel
theorem d_53_136 : m_dn M_53 136 (.ifCond .eq 14) 3 139 := by decide +kernel
theorem d_53_139 : m_dn M_53 139 (.aload_n 0) 1 140 := by decide +kernel
theorem d_53_14 : m_dn M_53 14 (.getfield 237) 3 17 := by decide +kernel
theorem d_53_140 : m_dn M_53 140 (.getfield 76) 3 143 := by decide +kernel
theorem d_53_143 : m_dn M_53 143 (.aload_n 0) 1 144 := by decide +kernel
theorem d_53_144 : m_dn M_53 144 (.getfield 132) 3 147 := by decide +kernel
theorem d_53_147 : m_dn M_53 147 (.putfield 276) 3 150 := by decide +kernel
theorem d_53_150 : m_dn M_53 150 (.return_) 1 151 := by decide +kernel
theorem d_53_17 : m_dn M_53 17 (.ifCond .eq 8) 3 20 := by decide +kernel
theorem d_53_20 : m_dn M_53 20 (.ldc 255) 2 22 := by decide +kernel
theorem d_53_22 : m_dn M_53 22 (.goto 7) 3 25 := by decide +kernel
theorem d_53_25 : m_dn M_53 25 (.aload_n 0) 1 26 := by decide +kernel
theorem d_53_26 : m_dn M_53 26 (.getfield 132) 3 29 := by decide +kernel
theorem d_53_29 : m_dn M_53 29 (.putfield 256) 3 32 := by decide +kernel
theorem d_53_3 : m_dn M_53 3 (.invokevirtual 158) 3 6 := by decide +kernel
theorem d_53_32 : m_dn M_53 32 (.goto 118) 3 35 := by decide +kernel
theorem d_53_35 : m_dn M_53 35 (.aload_n 0) 1 36 := by decide +kernel
theorem d_53_36 : m_dn M_53 36 (.getfield 237) 3 39 := by decide +kernel
theorem d_53_39 : m_dn M_53 39 (.ifCond .eq 24) 3 42 := by decide +kernel
theorem d_53_42 : m_dn M_53 42 (.aload_n 0) 1 43 := by decide +kernel
theorem d_53_43 : m_dn M_53 43 (.ldc_w 259) 3 46 := by decide +kernel
theorem d_53_46 : m_dn M_53 46 (.invokevirtual 158) 3 49 := by decide +kernel
theorem d_53_49 : m_dn M_53 49 (.ifCond .eq 14) 3 52 := by decide +kernel
theorem d_53_52 : m_dn M_53 52 (.aload_n 0) 1 53 := by decide +kernel
theorem d_53_53 : m_dn M_53 53 (.getfield 76) 3 56 := by decide +kernel
theorem d_53_56 : m_dn M_53 56 (.iconst 1) 1 57 := by decide +kernel
theorem d_53_57 : m_dn M_53 57 (.putfield 261) 3 60 := by decide +kernel
theorem d_53_6 : m_dn M_53 6 (.ifCond .eq 29) 3 9 := by decide +kernel
theorem d_53_60 : m_dn M_53 60 (.goto 90) 3 63 := by decide +kernel
theorem d_53_63 : m_dn M_53 63 (.aload_n 0) 1 64 := by decide +kernel
theorem d_53_64 : m_dn M_53 64 (.getfield 237) 3 67 := by decide +kernel
theorem d_53_67 : m_dn M_53 67 (.ifCond .eq 24) 3 70 := by decide +kernel
theorem d_53_70 : m_dn M_53 70 (.aload_n 0) 1 71 := by decide +kernel
theorem d_53_71 : m_dn M_53 71 (.ldc_w 264) 3 74 := by decide +kernel
theorem d_53_74 : m_dn M_53 74 (.invokevirtual 158) 3 77 := by decide +kernel
theorem d_53_77 : m_dn M_53 77 (.ifCond .eq 14) 3 80 := by decide +kernel
theorem d_53_80 : m_dn M_53 80 (.aload_n 0) 1 81 := by decide +kernel
theorem d_53_81 : m_dn M_53 81 (.getfield 76) 3 84 := by decide +kernel
theorem d_53_84 : m_dn M_53 84 (.iconst 1) 1 85 := by decide +kernel
theorem d_53_85 : m_dn M_53 85 (.putfield 266) 3 88 := by decide +kernel
theorem d_53_88 : m_dn M_53 88 (.goto 62) 3 91 := by decide +kernel
theorem d_53_9 : m_dn M_53 9 (.aload_n 0) 1 10 := by decide +kernel
theorem d_53_91 : m_dn M_53 91 (.aload_n 0) 1 92 := by decide +kernel
theorem d_53_92 : m_dn M_53 92 (.getfield 237) 3 95 := by decide +kernel
theorem d_53_95 : m_dn M_53 95 (.ifCond .ne 27) 3 98 := by decide +kernel
theorem d_53_98 : m_dn M_53 98 (.aload_n 0) 1 99 := by decide +kernel
theorem d_53_99 : m_dn M_53 99 (.ldc_w 269) 3 102 := by decide +kernel
theorem d_54_0 : m_dn M_54 0 (.aload_n 0) 1 1 := by decide +kernel
theorem d_54_1 : m_dn M_54 1 (.getfield 237) 3 4 := by decide +kernel
theorem d_54_101 : m_dn M_54 101 (.ifCond .eq 17) 3 104 := by decide +kernel
theorem d_54_104 : m_dn M_54 104 (.aload_n 0) 1 105 := by decide +kernel
theorem d_54_105 : m_dn M_54 105 (.getfield 37) 3 108 := by decide +kernel
theorem d_54_108 : m_dn M_54 108 (.aload_n 0) 1 109 := by decide +kernel
theorem d_54_109 : m_dn M_54 109 (.getfield 132) 3 112 := by decide +kernel
theorem d_54_11 : m_dn M_54 11 (.invokevirtual 158) 3 14 := by decide +kernel
theorem d_54_112 : m_dn M_54 112 (.putfield 290) 3 115 := by decide +kernel
theorem d_54_115 : m_dn M_54 115 (.goto 31) 3 118 := by decide +kernel
theorem d_54_118 : m_dn M_54 118 (.aload_n 0) 1 119 := by decide +kernel
theorem d_54_119 : m_dn M_54 119 (.getfield 237) 3 122 := by decide +kernel
theorem d_54_122 : m_dn M_54 122 (.ifCond .ne 24) 3 125 := by decide +kernel
theorem d_54_125 : m_dn M_54 125 (.aload_n 0) 1 126 := by decide +kernel
theorem d_54_126 : m_dn M_54 126 (.ldc_w 293) 3 129 := by decide +kernel
theorem d_54_129 : m_dn M_54 129 (.invokevirtual 158) 3 132 := by decide +kernel
theorem d_54_132 : m_dn M_54 132 (.ifCond .eq 14) 3 135 := by decide +kernel
theorem d_54_135 : m_dn M_54 135 (.aload_n 0) 1 136 := by decide +kernel
theorem d_54_136 : m_dn M_54 136 (.getfield 37) 3 139 := by decide +kernel
theorem d_54_139 : m_dn M_54 139 (.aload_n 0) 1 140 := by decide +kernel
theorem d_54_14 : m_dn M_54 14 (.ifCond .eq 14) 3 17 := by decide +kernel
theorem d_54_140 : m_dn M_54 140 (.getfield 132) 3 143 := by decide +kernel
theorem d_54_143 : m_dn M_54 143 (.putfield 295) 3 146 := by decide +kernel
theorem d_54_146 : m_dn M_54 146 (.return_) 1 147 := by decide +kernel
theorem d_54_17 : m_dn M_54 17 (.aload_n 0) 1 18 := by decide +kernel
theorem d_54_18 : m_dn M_54 18 (.getfield 37) 3 21 := by decide +kernel
theorem d_54_21 : m_dn M_54 21 (.iconst 1) 1 22 := by decide +kernel
theorem d_54_22 : m_dn M_54 22 (.putfield 281) 3 25 := by decide +kernel
theorem d_54_25 : m_dn M_54 25 (.goto 121) 3 28 := by decide +kernel
theorem d_54_28 : m_dn M_54 28 (.aload_n 0) 1 29 := by decide +kernel
theorem d_54_29 : m_dn M_54 29 (.getfield 237) 3 32 := by decide +kernel
theorem d_54_32 : m_dn M_54 32 (.ifCond .eq 24) 3 35 := by decide +kernel
theorem d_54_35 : m_dn M_54 35 (.aload_n 0) 1 36 := by decide +kernel
theorem d_54_36 : m_dn M_54 36 (.ldc_w 259) 3 39 := by decide +kernel
theorem d_54_39 : m_dn M_54 39 (.invokevirtual 158) 3 42 := by decide +kernel
theorem d_54_4 : m_dn M_54 4 (.ifCond .eq 24) 3 7 := by decide +kernel
theorem d_54_42 : m_dn M_54 42 (.ifCond .eq 14) 3 45 := by decide +kernel
theorem d_54_45 : m_dn M_54 45 (.aload_n 0) 1 46 := by decide +kernel
theorem d_54_46 : m_dn M_54 46 (.getfield 37) 3 49 := by decide +kernel
theorem d_54_49 : m_dn M_54 49 (.iconst 1) 1 50 := by decide +kernel
theorem d_54_50 : m_dn M_54 50 (.putfield 284) 3 53 := by decide +kernel
theorem d_54_53 : m_dn M_54 53 (.goto 93) 3 56 := by decide +kernel
theorem d_54_56 : m_dn M_54 56 (.aload_n 0) 1 57 := by decide +kernel
theorem d_54_57 : m_dn M_54 57 (.getfield 237) 3 60 := by decide +kernel
theorem d_54_60 : m_dn M_54 60 (.ifCond .ne 27) 3 63 := by decide +kernel
theorem d_54_63 : m_dn M_54 63 (.aload_n 0) 1 64 := by decide +kernel
theorem d_54_64 : m_dn M_54 64 (.ldc_w 269) 3 67 := by decide +kernel
theorem d_54_67 : m_dn M_54 67 (.invokevirtual 158) 3 70 := by decide +kernel
theorem d_54_7 : m_dn M_54 7 (.aload_n 0) 1 8 := by decide +kernel
theorem d_54_70 : m_dn M_54 70 (.ifCond .eq 17) 3 73 := by decide +kernel
theorem d_54_73 : m_dn M_54 73 (.aload_n 0) 1 74 := by decide +kernel
theorem d_54_74 : m_dn M_54 74 (.getfield 37) 3 77 := by decide +kernel
theorem d_54_77 : m_dn M_54 77 (.aload_n 0) 1 78 := by decide +kernel
theorem d_54_78 : m_dn M_54 78 (.getfield 132) 3 81 := by decide +kernel
theorem d_54_8 : m_dn M_54 8 (.ldc_w 279) 3 11 := by decide +kernel
theorem d_54_81 : m_dn M_54 81 (.putfield 287) 3 84 := by decide +kernel
theorem d_54_84 : m_dn M_54 84 (.goto 62) 3 87 := by decide +kernel
theorem d_54_87 : m_dn M_54 87 (.aload_n 0) 1 88 := by decide +kernel
theorem d_54_88 : m_dn M_54 88 (.getfield 237) 3 91 := by decide +kernel
theorem d_54_91 : m_dn M_54 91 (.ifCond .ne 27) 3 94 := by decide +kernel
theorem d_54_94 : m_dn M_54 94 (.aload_n 0) 1 95 := by decide +kernel
theorem d_54_95 : m_dn M_54 95 (.ldc_w 288) 3 98 := by decide +kernel
theorem d_54_98 : m_dn M_54 98 (.invokevirtual 158) 3 101 := by decide +kernel
theorem d_55_0 : m_dn M_55 0 (.aload_n 0) 1 1 := by decide +kernel
theorem d_55_1 : m_dn M_55 1 (.getfield 237) 3 4 := by decide +kernel
theorem d_55_10 : m_dn M_55 10 (.invokevirtual 158) 3 13 := by decide +kernel
theorem d_55_13 : m_dn M_55 13 (.ifCond .eq 19) 3 16 := by decide +kernel
theorem d_55_16 : m_dn M_55 16 (.aload_n 0) 1 17 := by decide +kernel
theorem d_55_17 : m_dn M_55 17 (.getfield 37) 3 20 := by decide +kernel
theorem d_55_20 : m_dn M_55 20 (.dup) 1 21 := by decide +kernel
theorem d_55_21 : m_dn M_55 21 (.getfield 298) 3 24 := by decide +kernel
theorem d_55_24 : m_dn M_55 24 (.iconst 1) 1 25 := by decide +kernel
theorem d_55_25 : m_dn M_55 25 (.ior) 1 26 := by decide +kernel
theorem d_55_26 : m_dn M_55 26 (.putfield 298) 3 29 := by decide +kernel
theorem d_55_29 : m_dn M_55 29 (.goto 32) 3 32 := by decide +kernel
theorem d_55_32 : m_dn M_55 32 (.aload_n 0) 1 33 := by decide +kernel
theorem d_55_33 : m_dn M_55 33 (.getfield 237) 3 36 := by decide +kernel
theorem d_55_36 : m_dn M_55 36 (.ifCond .eq 25) 3 39 := by decide +kernel
theorem d_55_39 : m_dn M_55 39 (.aload_n 0) 1 40 := by decide +kernel
theorem d_55_4 : m_dn M_55 4 (.ifCond .eq 28) 3 7 := by decide +kernel
theorem d_55_40 : m_dn M_55 40 (.ldc 195) 2 42 := by decide +kernel
theorem d_55_42 : m_dn M_55 42 (.invokevirtual 158) 3 45 := by decide +kernel
theorem d_55_45 : m_dn M_55 45 (.ifCond .eq 16) 3 48 := by decide +kernel
theorem d_55_48 : m_dn M_55 48 (.aload_n 0) 1 49 := by decide +kernel
theorem d_55_49 : m_dn M_55 49 (.getfield 37) 3 52 := by decide +kernel
theorem d_55_52 : m_dn M_55 52 (.dup) 1 53 := by decide +kernel
theorem d_55_53 : m_dn M_55 53 (.getfield 298) 3 56 := by decide +kernel
theorem d_55_56 : m_dn M_55 56 (.iconst 2) 1 57 := by decide +kernel
theorem d_55_57 : m_dn M_55 57 (.ior) 1 58 := by decide +kernel
theorem d_55_58 : m_dn M_55 58 (.putfield 298) 3 61 := by decide +kernel
theorem d_55_61 : m_dn M_55 61 (.return_) 1 62 := by decide +kernel
theorem d_55_7 : m_dn M_55 7 (.aload_n 0) 1 8 := by decide +kernel
theorem d_55_8 : m_dn M_55 8 (.ldc 193) 2 10 := by decide +kernel
theorem d_56_0 : m_dn M_56 0 (.aload_n 0) 1 1 := by decide +kernel
theorem d_56_1 : m_dn M_56 1 (.getfield 114) 3 4 := by decide +kernel
theorem d_56_11 : m_dn M_56 11 (.aload_n 0) 1 12 := by decide +kernel
theorem d_56_12 : m_dn M_56 12 (.invokevirtual 51) 3 15 := by decide +kernel
theorem d_56_15 : m_dn M_56 15 (.bipush 10) 2 17 := by decide +kernel
theorem d_56_17 : m_dn M_56 17 (.if_icmp .eq 16) 3 20 := by decide +kernel
theorem d_56_20 : m_dn M_56 20 (.aload_n 0) 1 21 := by decide +kernel
theorem d_56_21 : m_dn M_56 21 (.dup) 1 22 := by decide +kernel
theorem d_56_22 : m_dn M_56 22 (.getfield 114) 3 25 := by decide +kernel
theorem d_56_25 : m_dn M_56 25 (.iconst 1) 1 26 := by decide +kernel
theorem d_56_26 : m_dn M_56 26 (.iadd) 1 27 := by decide +kernel
theorem d_56_27 : m_dn M_56 27 (.putfield 114) 3 30 := by decide +kernel
theorem d_56_30 : m_dn M_56 30 (.goto (-30)) 3 33 := by decide +kernel
theorem d_56_33 : m_dn M_56 33 (.iconst 1) 1 34 := by decide +kernel
theorem d_56_34 : m_dn M_56 34 (.ireturn) 1 35 := by decide +kernel
theorem d_56_4 : m_dn M_56 4 (.aload_n 0) 1 5 := by decide +kernel
theorem d_56_5 : m_dn M_56 5 (.getfield 26) 3 8 := by decide +kernel
theorem d_56_8 : m_dn M_56 8 (.if_icmp .ge 25) 3 11 := by decide +kernel
theorem d_57_0 : m_dn M_57 0 (.aload_n 0) 1 1 := by decide +kernel
theorem d_57_1 : m_dn M_57 1 (.bipush 10) 2 3 := by decide +kernel
theorem d_57_10 : m_dn M_57 10 (.getfield 114) 3 13 := by decide +kernel
theorem d_57_13 : m_dn M_57 13 (.aload_n 0) 1 14 := by decide +kernel
theorem d_57_14 : m_dn M_57 14 (.getfield 26) 3 17 := by decide +kernel
theorem d_57_17 : m_dn M_57 17 (.if_icmp .eq 14) 3 20 := by decide +kernel
theorem d_57_20 : m_dn M_57 20 (.aload_n 0) 1 21 := by decide +kernel
theorem d_57_21 : m_dn M_57 21 (.aload_n 0) 1 22 := by decide +kernel
theorem d_57_22 : m_dn M_57 22 (.getfield 114) 3 25 := by decide +kernel
theorem d_57_25 : m_dn M_57 25 (.invokevirtual 120) 3 28 := by decide +kernel
theorem d_57_28 : m_dn M_57 28 (.ifCond .eq 7) 3 31 := by decide +kernel
theorem d_57_3 : m_dn M_57 3 (.invokevirtual 62) 3 6 := by decide +kernel
theorem d_57_31 : m_dn M_57 31 (.iconst 1) 1 32 := by decide +kernel
theorem d_57_32 : m_dn M_57 32 (.goto 4) 3 35 := by decide +kernel
theorem d_57_35 : m_dn M_57 35 (.iconst 0) 1 36 := by decide +kernel
theorem d_57_36 : m_dn M_57 36 (.ireturn) 1 37 := by decide +kernel
theorem d_57_6 : m_dn M_57 6 (.ifCond .eq 29) 3 9 := by decide +kernel
theorem d_57_9 : m_dn M_57 9 (.aload_n 0) 1 10 := by decide +kernel
theorem d_58_0 : m_dn M_58 0 (.iconst 0) 1 1 := by decide +kernel
theorem d_58_1 : m_dn M_58 1 (.istore_n 1) 1 2 := by decide +kernel
theorem d_58_10 : m_dn M_58 10 (.getfield 23) 3 13 := by decide +kernel
theorem d_58_13 : m_dn M_58 13 (.iload_n 2) 1 14 := by decide +kernel
theorem d_58_14 : m_dn M_58 14 (.iaload) 1 15 := by decide +kernel
theorem d_58_15 : m_dn M_58 15 (.aload_n 0) 1 16 := by decide +kernel
theorem d_58_16 : m_dn M_58 16 (.getfield 23) 3 19 := by decide +kernel
theorem d_58_19 : m_dn M_58 19 (.iload_n 1) 1 20 := by decide +kernel
theorem d_58_2 : m_dn M_58 2 (.iconst 1) 1 3 := by decide +kernel
theorem d_58_20 : m_dn M_58 20 (.iaload) 1 21 := by decide +kernel
theorem d_58_21 : m_dn M_58 21 (.if_icmp .le 5) 3 24 := by decide +kernel
theorem d_58_24 : m_dn M_58 24 (.iload_n 2) 1 25 := by decide +kernel
theorem d_58_25 : m_dn M_58 25 (.istore_n 1) 1 26 := by decide +kernel
theorem d_58_26 : m_dn M_58 26 (.iinc 2 1) 3 29 := by decide +kernel
theorem d_58_29 : m_dn M_58 29 (.goto (-25)) 3 32 := by decide +kernel
theorem d_58_3 : m_dn M_58 3 (.istore_n 2) 1 4 := by decide +kernel
theorem d_58_32 : m_dn M_58 32 (.iload_n 1) 1 33 := by decide +kernel
theorem d_58_33 : m_dn M_58 33 (.ireturn) 1 34 := by decide +kernel
theorem d_58_4 : m_dn M_58 4 (.iload_n 2) 1 5 := by decide +kernel
theorem d_58_5 : m_dn M_58 5 (.iconst 4) 1 6 := by decide +kernel
theorem d_58_6 : m_dn M_58 6 (.if_icmp .ge 26) 3 9 := by decide +kernel
theorem d_58_9 : m_dn M_58 9 (.aload_n 0) 1 10 := by decide +kernel
def D_c_Reader_init (F : Nat) (a0 : Nat) (T : tT) : Option (tT) := bd2 (tna T 2 (300 : Int32)) fun a1 T2 => (tpr T2 a0 1 0 (some a1)).bind fun T5 => (tpi T5 a0 1 3 ((-1) : Int32)).bind fun T8 => bd2 (tna T8 0 (300 : Int32)) fun a11 T12 => (tpr T12 a0 1 4 (some a11)).bind fun T15 => bd2 (tna T15 0 (4 : Int32)) fun a18 T19 => (tpr T19 a0 1 12 (some a18)).bind fun T22 => some T22
theorem T_c_Reader_init {l : Launch} {w : List mM} {F : Nat} {a0 : Nat} {T : tT} {T9 : tT} (ha0 : okr T.2.1 (some a0)) (h : RT T w) (h0 : D_c_Reader_init F a0 T = some T9) : m_Rb l M_1 (m_ent M_1 [.ref a0] w) (fun v w' => v = none ∧ RT T9 w' ∧ m_Fm w w') T T9 1 100 := by
  rw [show m_ent M_1 [.ref a0] w = (0, [(0, .ref a0)], [], w) from by first | rfl | (simp only [m_ent, lv_args_r, lv_args_a, lv_args_i, lv_args_l, lv_args_0]; done) | (simp only [m_ent, lv_args_r, lv_args_a, lv_args_i, lv_args_l, lv_args_0]; rfl)]
  generalize hw0 : w = w0 at h ⊢
  have hF : m_Fm w0 w0 := m_Fm.refl
  rw [D_c_Reader_init] at h0
  refine m_Rb.n0 b_1 (x_aload_n d_1_0 rfl) ?_
  refine m_Rb.toinit b_1 d_1_1 rfl (Nat.le_of_ble_eq_true rfl) ?_ (by decide) (by decide)
  refine m_Rb.n0 b_1 (x_aload_n d_1_4 rfl) ?_
  refine m_Rb.n0 b_1 (x_sipush (z := 300) d_1_5 (by decide)) ?_
  obtain ⟨a1, T2, e3, h0⟩ := bS2 h0
  refine m_Rb.tnewa b_1 d_1_8 rfl (by simp only [m_okf, List.all_cons, List.all_nil, Bool.and_true, Bool.and_self, m_okv_i, m_okv_l, m_okv_0, m_okv_n0, m_okv_t, RT.okn h ha0]) h hF e3 (fun w4 o4 h4 f4 k4 => ?_)
  obtain ⟨T5, e6, h0⟩ := bS h0
  refine m_Rb.tputA (z := (some a1)) b_1 d_1_10 rfl rfl (by decide) h4 f4 e6 o4 (fun w7 h7 f7 k7 => ?_)
  refine m_Rb.n0 b_1 (x_aload_n d_1_13 rfl) ?_
  refine m_Rb.n0 b_1 (x_iconst (z := (-1)) d_1_14 (by decide)) ?_
  obtain ⟨T8, e9, h0⟩ := bS h0
  refine m_Rb.tputI b_1 d_1_15 rfl rfl (by decide) h7 f7 e9 (fun w10 h10 f10 k10 => ?_)
  refine m_Rb.n0 b_1 (x_aload_n d_1_18 rfl) ?_
  refine m_Rb.n0 b_1 (x_sipush (z := 300) d_1_19 (by decide)) ?_
  obtain ⟨a11, T12, e13, h0⟩ := bS2 h0
  refine m_Rb.tnewa b_1 d_1_22 rfl (by simp only [m_okf, List.all_cons, List.all_nil, Bool.and_true, Bool.and_self, m_okv_i, m_okv_l, m_okv_0, m_okv_n0, m_okv_t, RT.okn h10 (okm (okm (okm ha0 k4) k7) k10)]) h10 f10 e13 (fun w14 o14 h14 f14 k14 => ?_)
  obtain ⟨T15, e16, h0⟩ := bS h0
  refine m_Rb.tputA (z := (some a11)) b_1 d_1_24 rfl rfl (by decide) h14 f14 e16 o14 (fun w17 h17 f17 k17 => ?_)
  refine m_Rb.n0 b_1 (x_aload_n d_1_27 rfl) ?_
  refine m_Rb.n0 b_1 (x_iconst (z := 4) d_1_28 (by decide)) ?_
  obtain ⟨a18, T19, e20, h0⟩ := bS2 h0
  refine m_Rb.tnewa b_1 d_1_29 rfl (by simp only [m_okf, List.all_cons, List.all_nil, Bool.and_true, Bool.and_self, m_okv_i, m_okv_l, m_okv_0, m_okv_n0, m_okv_t, RT.okn h17 (okm (okm (okm (okm (okm ha0 k4) k7) k10) k14) k17)]) h17 f17 e20 (fun w21 o21 h21 f21 k21 => ?_)
  obtain ⟨T22, e23, h0⟩ := bS h0
  refine m_Rb.tputA (z := (some a18)) b_1 d_1_31 rfl rfl (by decide) h21 f21 e23 o21 (fun w24 h24 f24 k24 => ?_)
  cases h0
  exact m_Rb.ret b_1 (m_rt_vr d_1_34 rfl) ⟨rfl, h24, f24⟩
def D_c_EdgeHouse_hash (F : Nat) (p0 : Int32) (p1 : Int32) (T0 : tT) : Option (Int32) := some (((((((p0 * ((-1640531535) : Int32)) + (p1 * ((-2048144789) : Int32))) ^^^ ((((p0 * ((-1640531535) : Int32)) + (p1 * ((-2048144789) : Int32))) : Int32).toUInt32 >>> (((15 : Int32) : Int32).toUInt32 &&& Int32.toUInt32 31)).toInt32) * (739982445 : Int32)) ^^^ ((((((p0 * ((-1640531535) : Int32)) + (p1 * ((-2048144789) : Int32))) ^^^ ((((p0 * ((-1640531535) : Int32)) + (p1 * ((-2048144789) : Int32))) : Int32).toUInt32 >>> (((15 : Int32) : Int32).toUInt32 &&& Int32.toUInt32 31)).toInt32) * (739982445 : Int32)) : Int32).toUInt32 >>> (((12 : Int32) : Int32).toUInt32 &&& Int32.toUInt32 31)).toInt32) : Int32).toUInt32 >>> (((16 : Int32) : Int32).toUInt32 &&& Int32.toUInt32 31)).toInt32
theorem T_c_EdgeHouse_hash {l : Launch} {w : List mM} {F : Nat} {p0 : Int32} {p1 : Int32} {T0 : tT} {y9 : Int32} (h : RT T0 w) (h0 : D_c_EdgeHouse_hash F p0 p1 T0 = some y9) : m_Rb l M_11 (m_ent M_11 [.int p0, .int p1] w) (fun v w' => v = some (.int y9) ∧ RT T0 w' ∧ m_Fm w w') T0 T0 0 0 := by
  rw [show m_ent M_11 [.int p0, .int p1] w = (0, [(0, .int p0), (1, .int p1)], [], w) from by first | rfl | (simp only [m_ent, lv_args_r, lv_args_a, lv_args_i, lv_args_l, lv_args_0]; done) | (simp only [m_ent, lv_args_r, lv_args_a, lv_args_i, lv_args_l, lv_args_0]; rfl)]
  generalize hw0 : w = w0 at h ⊢
  have hF : m_Fm w0 w0 := m_Fm.refl
  rw [D_c_EdgeHouse_hash] at h0
  refine m_Rb.n0 b_11 (x_iload_n d_11_0 rfl) ?_
  refine m_Rb.n0 b_11 (x_ldcw (v := .int (-1640531535)) d_11_1 rfl) ?_
  refine m_Rb.n0 b_11 (x_imul d_11_4 rfl) ?_
  refine m_Rb.n0 b_11 (x_iload_n d_11_5 rfl) ?_
  refine m_Rb.n0 b_11 (x_ldcw (v := .int (-2048144789)) d_11_6 rfl) ?_
  refine m_Rb.n0 b_11 (x_imul d_11_9 rfl) ?_
  refine m_Rb.n0 b_11 (x_iadd d_11_10 rfl) ?_
  refine m_Rb.n0 b_11 (x_istore_n d_11_11 rfl (show m_put1 _ _ _ = [(2, _), (0, _), (1, _)] from rfl)) ?_
  refine m_Rb.n0 b_11 (x_iload_n d_11_12 rfl) ?_
  refine m_Rb.n0 b_11 (x_iload_n d_11_13 rfl) ?_
  refine m_Rb.n0 b_11 (x_bipush (z := 15) d_11_14 (by decide)) ?_
  refine m_Rb.n0 b_11 (x_iushr d_11_16 rfl) ?_
  refine m_Rb.n0 b_11 (x_ixor d_11_17 rfl) ?_
  refine m_Rb.n0 b_11 (x_istore_n d_11_18 rfl (show m_put1 _ _ _ = [(2, _), (0, _), (1, _)] from rfl)) ?_
  refine m_Rb.n0 b_11 (x_iload_n d_11_19 rfl) ?_
  refine m_Rb.n0 b_11 (x_ldcw (v := .int 739982445) d_11_20 rfl) ?_
  refine m_Rb.n0 b_11 (x_imul d_11_23 rfl) ?_
  refine m_Rb.n0 b_11 (x_istore_n d_11_24 rfl (show m_put1 _ _ _ = [(2, _), (0, _), (1, _)] from rfl)) ?_
  refine m_Rb.n0 b_11 (x_iload_n d_11_25 rfl) ?_
  refine m_Rb.n0 b_11 (x_iload_n d_11_26 rfl) ?_
  refine m_Rb.n0 b_11 (x_bipush (z := 12) d_11_27 (by decide)) ?_
  refine m_Rb.n0 b_11 (x_iushr d_11_29 rfl) ?_
  refine m_Rb.n0 b_11 (x_ixor d_11_30 rfl) ?_
  refine m_Rb.n0 b_11 (x_istore_n d_11_31 rfl (show m_put1 _ _ _ = [(2, _), (0, _), (1, _)] from rfl)) ?_
  refine m_Rb.n0 b_11 (x_iload_n d_11_32 rfl) ?_
  refine m_Rb.n0 b_11 (x_bipush (z := 16) d_11_33 (by decide)) ?_
  refine m_Rb.n0 b_11 (x_iushr d_11_35 rfl) ?_
  cases h0
  exact m_Rb.ret b_11 (m_rt_ir d_11_36 rfl rfl) ⟨rfl, h, hF⟩
def D_c_Reader_write_71 (F : Nat) (rec28 : Nat → Int64 → Int32 → Int32 → tT → Option (Int32 × tT)) (x0 : Nat) (x1 : Int64) (x3 : Int32) (x4 : Int32) (T : tT) : Option (Int32 × tT) := rec28 x0 x1 x3 (x4 + Int32.ofInt 1) T
theorem T_c_Reader_write_71 {l : Launch} {w0 : List mM} {F : Nat} {rec28 : Nat → Int64 → Int32 → Int32 → tT → Option (Int32 × tT)} (hr28 : ∀ {x0 : Nat} {x1 : Int64} {x3 : Int32} {x4 : Int32} {T : tT} {w : List mM} {y9 : Int32} {T9 : tT}, okr T.2.1 (some x0) → RT T w → m_Fm w0 w → rec28 x0 x1 x3 x4 T = some (y9, T9) → m_Rb l M_13 (28, [(0, .ref x0), (1, .long x1), (3, .int x3), (4, .int x4)], [], w) (fun v w' => v = some (.int y9) ∧ RT T9 w' ∧ m_Fm w0 w') T T9 0 0) {x0 : Nat} {x1 : Int64} {x3 : Int32} {x4 : Int32} {T : tT} {w : List mM} {y9 : Int32} {T9 : tT} (hx0 : okr T.2.1 (some x0)) (h : RT T w) (hF : m_Fm w0 w) (h0 : D_c_Reader_write_71 F rec28 x0 x1 x3 x4 T = some (y9, T9)) : m_Rb l M_13 (71, [(0, .ref x0), (1, .long x1), (3, .int x3), (4, .int x4)], [], w) (fun v w' => v = some (.int y9) ∧ RT T9 w' ∧ m_Fm w0 w') T T9 0 0 := by
  rw [D_c_Reader_write_71] at h0
  refine m_Rb.n0 b_13 (x_iinc d_13_71 rfl rfl rfl (show m_put1 _ _ _ = [(4, _), (0, _), (1, _), (3, _)] from rfl)) ?_
  refine m_Rb.n0 b_13 (x_goto d_13_74 rfl) ?_
  exact m_Rb.pick [1, 2, 3, 0] rfl (hr28 hx0 h hF h0)
def D_c_Reader_write_82 (F : Nat) : Nat → Nat → Int64 → Int32 → tT → Option (Int32 × tT)
  | 0, _, _, _, _ => none
  | n + 1, x0, x1, x4, T => cond (m_c1 .lt x4) (some ((1 : Int32), T)) ((tgr T x0 1 0).bind fun v11 => (tgi T x0 1 1).bind fun v14 => (v11).bind fun a16 => (tasc T a16 v14 ((((((x1 : Int64).toUInt64 >>> ((((8 : Int32) * x4) : Int32).toInt64.toUInt64 &&& Int64.toUInt64 63)).toInt64 &&& ((255) : Int64)) : Int64).toInt32.toUInt32 % 65536).toInt32)).bind fun T18 => (tgi T18 x0 1 1).bind fun v21 => (tpi T18 x0 1 1 (v21 + (1 : Int32))).bind fun T23 => D_c_Reader_write_82 F n x0 x1 (x4 + Int32.ofInt (-1)) T23)
theorem T_c_Reader_write_82 {l : Launch} {w0 : List mM} {F : Nat} : ∀ (n : Nat) {x0 : Nat} {x1 : Int64} {x4 : Int32} {T : tT} {w : List mM} {y9 : Int32} {T9 : tT}, okr T.2.1 (some x0) → RT T w → m_Fm w0 w → D_c_Reader_write_82 F n x0 x1 x4 T = some (y9, T9) → m_Rb l M_13 (82, [(0, .ref x0), (1, .long x1), (4, .int x4)], [], w) (fun v w' => v = some (.int y9) ∧ RT T9 w' ∧ m_Fm w0 w') T T9 0 0 := by
  intro n
  induction n with
  | zero => intro x0 x1 x4 T w y9 T9 hx0 h hF h0; cases h0
  | succ n ih =>
    intro x0 x1 x4 T w y9 T9 hx0 h hF h0
    rw [D_c_Reader_write_82] at h0
    refine m_Rb.n0 b_13 (x_iload d_13_82 rfl) ?_
    cases hc10 : m_c1 .lt x4 with
    | true =>
      have h0 := cT hc10 h0
      refine m_Rb.n0 b_13 (x_ift d_13_84 rfl hc10) ?_
      refine m_Rb.n0 b_13 (x_iconst (z := 1) d_13_125 (by decide)) ?_
      cases h0
      exact m_Rb.ret b_13 (m_rt_ir d_13_126 rfl m_nb1) ⟨rfl, h, hF⟩
    | false =>
      have h0 := cF hc10 h0
      refine m_Rb.n0 b_13 (x_iff d_13_84 rfl hc10) ?_
      refine m_Rb.n0 b_13 (x_aload_n d_13_87 rfl) ?_
      obtain ⟨v11, e12, h0⟩ := bS h0
      refine m_Rb.tgetR b_13 d_13_88 rfl h e12 (fun o13 => ?_)
      refine m_Rb.n0 b_13 (x_aload_n d_13_91 rfl) ?_
      obtain ⟨v14, e15, h0⟩ := bS h0
      refine m_Rb.tgetI b_13 d_13_92 rfl h e15 ?_
      refine m_Rb.n0 b_13 (x_lload_n d_13_95 rfl) ?_
      refine m_Rb.n0 b_13 (x_bipush (z := 8) d_13_96 (by decide)) ?_
      refine m_Rb.n0 b_13 (x_iload d_13_98 rfl) ?_
      refine m_Rb.n0 b_13 (x_imul d_13_100 rfl) ?_
      refine m_Rb.n0 b_13 (x_lushr d_13_101 rfl) ?_
      refine m_Rb.n0 b_13 (x_ldc2 (v := .long (255)) d_13_102 rfl) ?_
      refine m_Rb.n0 b_13 (x_land d_13_105 rfl) ?_
      refine m_Rb.n0 b_13 (x_l2i d_13_106 rfl) ?_
      refine m_Rb.n0 b_13 (x_i2c d_13_107 rfl) ?_
      obtain ⟨a16, e17, h0⟩ := bS h0
      subst e17
      obtain ⟨T18, e19, h0⟩ := bS h0
      refine m_Rb.tputAC b_13 d_13_108 h hF e19 (fun w20 h20 f20 k20 => ?_)
      refine m_Rb.n0 b_13 (x_aload_n d_13_109 rfl) ?_
      refine m_Rb.n0 b_13 (x_dup d_13_110 rfl) ?_
      obtain ⟨v21, e22, h0⟩ := bS h0
      refine m_Rb.tgetI b_13 d_13_111 rfl h20 e22 ?_
      refine m_Rb.n0 b_13 (x_iconst (z := 1) d_13_114 (by decide)) ?_
      refine m_Rb.n0 b_13 (x_iadd d_13_115 rfl) ?_
      obtain ⟨T23, e24, h0⟩ := bS h0
      refine m_Rb.tputI b_13 d_13_116 rfl rfl (by decide) h20 f20 e24 (fun w25 h25 f25 k25 => ?_)
      refine m_Rb.n0 b_13 (x_iinc d_13_119 rfl rfl rfl (show m_put1 _ _ _ = [(4, _), (0, _), (1, _)] from rfl)) ?_
      refine m_Rb.n0 b_13 (x_goto d_13_122 rfl) ?_
      exact m_Rb.pick [1, 2, 0] rfl (ih (okm (okm hx0 k20) k25) h25 f25 h0)
def D_c_Reader_write_28 (F : Nat) : Nat → Nat → Int64 → Int32 → Int32 → tT → Option (Int32 × tT)
  | 0, _, _, _, _, _ => none
  | n + 1, x0, x1, x3, x4, T => cond (m_c2 .ge x4 x3) (D_c_Reader_write_82 F F x0 x1 (x3 - (1 : Int32)) T) (cond (m_c2 .eq ((((x1 : Int64).toUInt64 >>> ((((8 : Int32) * x4) : Int32).toInt64.toUInt64 &&& Int64.toUInt64 63)).toInt64 &&& ((255) : Int64)) : Int64).toInt32 (10 : Int32)) (D_c_Reader_write_71 F (D_c_Reader_write_28 F n) x0 x1 x3 x4 T) (cond (m_c2 .lt ((((x1 : Int64).toUInt64 >>> ((((8 : Int32) * x4) : Int32).toInt64.toUInt64 &&& Int64.toUInt64 63)).toInt64 &&& ((255) : Int64)) : Int64).toInt32 (32 : Int32)) (some ((0 : Int32), T)) (cond (m_c2 .le ((((x1 : Int64).toUInt64 >>> ((((8 : Int32) * x4) : Int32).toInt64.toUInt64 &&& Int64.toUInt64 63)).toInt64 &&& ((255) : Int64)) : Int64).toInt32 (126 : Int32)) (D_c_Reader_write_71 F (D_c_Reader_write_28 F n) x0 x1 x3 x4 T) (some ((0 : Int32), T)))))
theorem T_c_Reader_write_28 {l : Launch} {w0 : List mM} {F : Nat} : ∀ (n : Nat) {x0 : Nat} {x1 : Int64} {x3 : Int32} {x4 : Int32} {T : tT} {w : List mM} {y9 : Int32} {T9 : tT}, okr T.2.1 (some x0) → RT T w → m_Fm w0 w → D_c_Reader_write_28 F n x0 x1 x3 x4 T = some (y9, T9) → m_Rb l M_13 (28, [(0, .ref x0), (1, .long x1), (3, .int x3), (4, .int x4)], [], w) (fun v w' => v = some (.int y9) ∧ RT T9 w' ∧ m_Fm w0 w') T T9 0 0 := by
  intro n
  induction n with
  | zero => intro x0 x1 x3 x4 T w y9 T9 hx0 h hF h0; cases h0
  | succ n ih =>
    intro x0 x1 x3 x4 T w y9 T9 hx0 h hF h0
    rw [D_c_Reader_write_28] at h0
    refine m_Rb.n0 b_13 (x_iload d_13_28 rfl) ?_
    refine m_Rb.n0 b_13 (x_iload_n d_13_30 rfl) ?_
    cases hc6 : m_c2 .ge x4 x3 with
    | true =>
      have h0 := cT hc6 h0
      refine m_Rb.n0 b_13 (x_ict d_13_31 rfl hc6) ?_
      refine m_Rb.n0 b_13 (x_iload_n d_13_77 rfl) ?_
      refine m_Rb.n0 b_13 (x_iconst (z := 1) d_13_78 (by decide)) ?_
      refine m_Rb.n0 b_13 (x_isub d_13_79 rfl) ?_
      refine m_Rb.n0 b_13 (x_istore d_13_80 rfl (show m_put1 _ _ _ = [(4, _), (0, _), (1, _), (3, _)] from rfl)) ?_
      exact m_Rb.pick [1, 2, 0] rfl (T_c_Reader_write_82 F hx0 h hF h0)
    | false =>
      have h0 := cF hc6 h0
      refine m_Rb.n0 b_13 (x_icf d_13_31 rfl hc6) ?_
      refine m_Rb.n0 b_13 (x_lload_n d_13_34 rfl) ?_
      refine m_Rb.n0 b_13 (x_bipush (z := 8) d_13_35 (by decide)) ?_
      refine m_Rb.n0 b_13 (x_iload d_13_37 rfl) ?_
      refine m_Rb.n0 b_13 (x_imul d_13_39 rfl) ?_
      refine m_Rb.n0 b_13 (x_lushr d_13_40 rfl) ?_
      refine m_Rb.n0 b_13 (x_ldc2 (v := .long (255)) d_13_41 rfl) ?_
      refine m_Rb.n0 b_13 (x_land d_13_44 rfl) ?_
      refine m_Rb.n0 b_13 (x_l2i d_13_45 rfl) ?_
      refine m_Rb.n0 b_13 (x_istore d_13_46 rfl (show m_put1 _ _ _ = [(5, _), (0, _), (1, _), (3, _), (4, _)] from rfl)) ?_
      refine m_Rb.n0 b_13 (x_iload d_13_48 rfl) ?_
      refine m_Rb.n0 b_13 (x_bipush (z := 10) d_13_50 (by decide)) ?_
      cases hc7 : m_c2 .eq ((((x1 : Int64).toUInt64 >>> ((((8 : Int32) * x4) : Int32).toInt64.toUInt64 &&& Int64.toUInt64 63)).toInt64 &&& ((255) : Int64)) : Int64).toInt32 (10 : Int32) with
      | true =>
        have h0 := cT hc7 h0
        refine m_Rb.n0 b_13 (x_ict d_13_52 rfl hc7) ?_
        exact m_Rb.pick [1, 2, 3, 4] rfl (T_c_Reader_write_71 ih hx0 h hF h0)
      | false =>
        have h0 := cF hc7 h0
        refine m_Rb.n0 b_13 (x_icf d_13_52 rfl hc7) ?_
        refine m_Rb.n0 b_13 (x_iload d_13_55 rfl) ?_
        refine m_Rb.n0 b_13 (x_bipush (z := 32) d_13_57 (by decide)) ?_
        cases hc8 : m_c2 .lt ((((x1 : Int64).toUInt64 >>> ((((8 : Int32) * x4) : Int32).toInt64.toUInt64 &&& Int64.toUInt64 63)).toInt64 &&& ((255) : Int64)) : Int64).toInt32 (32 : Int32) with
        | true =>
          have h0 := cT hc8 h0
          refine m_Rb.n0 b_13 (x_ict d_13_59 rfl hc8) ?_
          refine m_Rb.n0 b_13 (x_iconst (z := 0) d_13_69 (by decide)) ?_
          cases h0
          exact m_Rb.ret b_13 (m_rt_ir d_13_70 rfl m_nb0) ⟨rfl, h, hF⟩
        | false =>
          have h0 := cF hc8 h0
          refine m_Rb.n0 b_13 (x_icf d_13_59 rfl hc8) ?_
          refine m_Rb.n0 b_13 (x_iload d_13_62 rfl) ?_
          refine m_Rb.n0 b_13 (x_bipush (z := 126) d_13_64 (by decide)) ?_
          cases hc9 : m_c2 .le ((((x1 : Int64).toUInt64 >>> ((((8 : Int32) * x4) : Int32).toInt64.toUInt64 &&& Int64.toUInt64 63)).toInt64 &&& ((255) : Int64)) : Int64).toInt32 (126 : Int32) with
          | true =>
            have h0 := cT hc9 h0
            refine m_Rb.n0 b_13 (x_ict d_13_66 rfl hc9) ?_
            exact m_Rb.pick [1, 2, 3, 4] rfl (T_c_Reader_write_71 ih hx0 h hF h0)
          | false =>
            have h0 := cF hc9 h0
            refine m_Rb.n0 b_13 (x_icf d_13_66 rfl hc9) ?_
            refine m_Rb.n0 b_13 (x_iconst (z := 0) d_13_69 (by decide)) ?_
            cases h0
            exact m_Rb.ret b_13 (m_rt_ir d_13_70 rfl m_nb0) ⟨rfl, h, hF⟩
def D_c_Reader_write (F : Nat) (a0 : Nat) (p0 : Int64) (p1 : Int32) (T : tT) : Option (Int32 × tT) := cond (m_c2 .lt p1 (1 : Int32)) (some ((0 : Int32), T)) (cond (m_c2 .gt p1 (8 : Int32)) (some ((0 : Int32), T)) ((tgi T a0 1 1).bind fun v3 => cond (m_c2 .le (v3 + p1) (300 : Int32)) (D_c_Reader_write_28 F F a0 p0 p1 (0 : Int32) T) (some ((0 : Int32), T))))
theorem T_c_Reader_write {l : Launch} {w : List mM} {F : Nat} {a0 : Nat} {p0 : Int64} {p1 : Int32} {T : tT} {y9 : Int32} {T9 : tT} (ha0 : okr T.2.1 (some a0)) (h : RT T w) (h0 : D_c_Reader_write F a0 p0 p1 T = some (y9, T9)) : m_Rb l M_13 (m_ent M_13 [.ref a0, .long p0, .int p1] w) (fun v w' => v = some (.int y9) ∧ RT T9 w' ∧ m_Fm w w') T T9 0 0 := by
  rw [show m_ent M_13 [.ref a0, .long p0, .int p1] w = (0, [(0, .ref a0), (1, .long p0), (3, .int p1)], [], w) from by first | rfl | (simp only [m_ent, lv_args_r, lv_args_a, lv_args_i, lv_args_l, lv_args_0]; done) | (simp only [m_ent, lv_args_r, lv_args_a, lv_args_i, lv_args_l, lv_args_0]; rfl)]
  generalize hw0 : w = w0 at h ⊢
  have hF : m_Fm w0 w0 := m_Fm.refl
  rw [D_c_Reader_write] at h0
  refine m_Rb.n0 b_13 (x_iload_n d_13_0 rfl) ?_
  refine m_Rb.n0 b_13 (x_iconst (z := 1) d_13_1 (by decide)) ?_
  cases hc1 : m_c2 .lt p1 (1 : Int32) with
  | true =>
    have h0 := cT hc1 h0
    refine m_Rb.n0 b_13 (x_ict d_13_2 rfl hc1) ?_
    refine m_Rb.n0 b_13 (x_iconst (z := 0) d_13_23 (by decide)) ?_
    cases h0
    exact m_Rb.ret b_13 (m_rt_ir d_13_24 rfl m_nb0) ⟨rfl, h, hF⟩
  | false =>
    have h0 := cF hc1 h0
    refine m_Rb.n0 b_13 (x_icf d_13_2 rfl hc1) ?_
    refine m_Rb.n0 b_13 (x_iload_n d_13_5 rfl) ?_
    refine m_Rb.n0 b_13 (x_bipush (z := 8) d_13_6 (by decide)) ?_
    cases hc2 : m_c2 .gt p1 (8 : Int32) with
    | true =>
      have h0 := cT hc2 h0
      refine m_Rb.n0 b_13 (x_ict d_13_8 rfl hc2) ?_
      refine m_Rb.n0 b_13 (x_iconst (z := 0) d_13_23 (by decide)) ?_
      cases h0
      exact m_Rb.ret b_13 (m_rt_ir d_13_24 rfl m_nb0) ⟨rfl, h, hF⟩
    | false =>
      have h0 := cF hc2 h0
      refine m_Rb.n0 b_13 (x_icf d_13_8 rfl hc2) ?_
      refine m_Rb.n0 b_13 (x_aload_n d_13_11 rfl) ?_
      obtain ⟨v3, e4, h0⟩ := bS h0
      refine m_Rb.tgetI b_13 d_13_12 rfl h e4 ?_
      refine m_Rb.n0 b_13 (x_iload_n d_13_15 rfl) ?_
      refine m_Rb.n0 b_13 (x_iadd d_13_16 rfl) ?_
      refine m_Rb.n0 b_13 (x_sipush (z := 300) d_13_17 (by decide)) ?_
      cases hc5 : m_c2 .le (v3 + p1) (300 : Int32) with
      | true =>
        have h0 := cT hc5 h0
        refine m_Rb.n0 b_13 (x_ict d_13_20 rfl hc5) ?_
        refine m_Rb.n0 b_13 (x_iconst (z := 0) d_13_25 (by decide)) ?_
        refine m_Rb.n0 b_13 (x_istore d_13_26 rfl (show m_put1 _ _ _ = [(4, _), (0, _), (1, _), (3, _)] from rfl)) ?_
        exact m_Rb.pick [1, 2, 3, 0] rfl (T_c_Reader_write_28 F ha0 h hF h0)
      | false =>
        have h0 := cF hc5 h0
        refine m_Rb.n0 b_13 (x_icf d_13_20 rfl hc5) ?_
        refine m_Rb.n0 b_13 (x_iconst (z := 0) d_13_23 (by decide)) ?_
        cases h0
        exact m_Rb.ret b_13 (m_rt_ir d_13_24 rfl m_nb0) ⟨rfl, h, hF⟩
def D_c_EdgeHouse_type (F : Nat) (a0 : Nat) (p0 : Int64) (p1 : Int32) (T : tT) : Option (Int32 × tT) := (tgr T a0 0 0).bind fun v1 => (v1).bind fun a4 => (tcl T a4 1).bind fun _ => bd2 (D_c_Reader_write F a4 p0 p1 T) fun v8 T9 => (bret v8).bind fun v12 => some (v12, T9)
theorem T_c_EdgeHouse_type {l : Launch} {w : List mM} {F : Nat} {a0 : Nat} {p0 : Int64} {p1 : Int32} {T : tT} {y9 : Int32} {T9 : tT} (ha0 : okr T.2.1 (some a0)) (h : RT T w) (h0 : D_c_EdgeHouse_type F a0 p0 p1 T = some (y9, T9)) : m_Rb l M_12 (m_ent M_12 [.ref a0, .long p0, .int p1] w) (fun v w' => v = some (.int y9) ∧ RT T9 w' ∧ m_Fm w w') T T9 1 100 := by
  rw [show m_ent M_12 [.ref a0, .long p0, .int p1] w = (0, [(0, .ref a0), (1, .long p0), (3, .int p1)], [], w) from by first | rfl | (simp only [m_ent, lv_args_r, lv_args_a, lv_args_i, lv_args_l, lv_args_0]; done) | (simp only [m_ent, lv_args_r, lv_args_a, lv_args_i, lv_args_l, lv_args_0]; rfl)]
  generalize hw0 : w = w0 at h ⊢
  have hF : m_Fm w0 w0 := m_Fm.refl
  rw [D_c_EdgeHouse_type] at h0
  refine m_Rb.n0 b_12 (x_aload_n d_12_0 rfl) ?_
  obtain ⟨v1, e2, h0⟩ := bS h0
  refine m_Rb.tgetR b_12 d_12_1 rfl h e2 (fun o3 => ?_)
  refine m_Rb.n0 b_12 (x_lload_n d_12_4 rfl) ?_
  refine m_Rb.n0 b_12 (x_iload_n d_12_5 rfl) ?_
  obtain ⟨a4, e5, h0⟩ := bS h0
  subst e5
  obtain ⟨_, e6, h0⟩ := bS h0
  obtain ⟨_, g7⟩ := RT.cls h e6
  obtain ⟨v8, T9, e10, h0⟩ := bS2 h0
  refine m_Rb.callI b_12 (y_cv d_12_6 rfl q_13 (m_isRecv_of rfl g7) (show m_takeI _ _ = some (_, [_, _, _], []) from m_takeI_of rfl rfl rfl (Nat.le_of_ble_eq_true rfl)) (by simp only [m_okf, List.all_cons, List.all_nil, Bool.and_true, Bool.and_self, m_okv_i, m_okv_l, m_okv_0, m_okv_n0, m_okv_t, RT.okn h ha0, RT.okn h o3]) rfl) (T_c_Reader_write o3 h e10) hF rfl (fun w11 h11 f11 k11 => ?_) (by decide) (by decide)
  obtain ⟨v12, e13, h0⟩ := bS h0
  cases h0
  exact m_Rb.retb b_12 d_12_9 rfl e13 ⟨rfl, h11, f11⟩
def D_c_EdgeHouse_isPath (F : Nat) (p0 : Int32) (T0 : tT) : Option (Int32) := (cond (m_c1 .lt p0) (some (0 : Int32)) (cond (m_c2 .ge p0 (32 : Int32)) (some (0 : Int32)) (some (1 : Int32)))).bind fun v5 => (bret v5).bind fun v7 => some v7
theorem T_c_EdgeHouse_isPath {l : Launch} {w : List mM} {F : Nat} {p0 : Int32} {T0 : tT} {y9 : Int32} (h : RT T0 w) (h0 : D_c_EdgeHouse_isPath F p0 T0 = some y9) : m_Rb l M_15 (m_ent M_15 [.int p0] w) (fun v w' => v = some (.int y9) ∧ RT T0 w' ∧ m_Fm w w') T0 T0 0 0 := by
  rw [show m_ent M_15 [.int p0] w = (0, [(0, .int p0)], [], w) from by first | rfl | (simp only [m_ent, lv_args_r, lv_args_a, lv_args_i, lv_args_l, lv_args_0]; done) | (simp only [m_ent, lv_args_r, lv_args_a, lv_args_i, lv_args_l, lv_args_0]; rfl)]
  generalize hw0 : w = w0 at h ⊢
  have hF : m_Fm w0 w0 := m_Fm.refl
  rw [D_c_EdgeHouse_isPath] at h0
  refine m_Rb.n0 b_15 (x_iload_n d_15_0 rfl) ?_
  obtain ⟨v5, e2, h0⟩ := bS h0
  have kk1 : ∀ (xz : Int32) (w1 : List mM), xz = v5 → RT T0 w1 → m_Fm w0 w1 → m_Rb l M_15 (15, [(0, .int p0)], [.int xz], w1) (fun v w' => v = some (.int y9) ∧ RT T0 w' ∧ m_Fm w0 w') T0 T0 0 0 := by
    intro xz w6 ez h6 f6
    rw [ez]
    obtain ⟨v7, e8, h0⟩ := bS h0
    cases h0
    exact m_Rb.retb b_15 d_15_15 rfl e8 ⟨rfl, h6, f6⟩
  cases hc3 : m_c1 .lt p0 with
  | true =>
    have e2 := cT hc3 e2
    refine m_Rb.n0 b_15 (x_ift d_15_1 rfl hc3) ?_
    refine m_Rb.n0 b_15 (x_iconst (z := 0) d_15_14 (by decide)) ?_
    exact kk1 _ _ (Option.some.inj e2) h hF
  | false =>
    have e2 := cF hc3 e2
    refine m_Rb.n0 b_15 (x_iff d_15_1 rfl hc3) ?_
    refine m_Rb.n0 b_15 (x_iload_n d_15_4 rfl) ?_
    refine m_Rb.n0 b_15 (x_bipush (z := 32) d_15_5 (by decide)) ?_
    cases hc4 : m_c2 .ge p0 (32 : Int32) with
    | true =>
      have e2 := cT hc4 e2
      refine m_Rb.n0 b_15 (x_ict d_15_7 rfl hc4) ?_
      refine m_Rb.n0 b_15 (x_iconst (z := 0) d_15_14 (by decide)) ?_
      exact kk1 _ _ (Option.some.inj e2) h hF
    | false =>
      have e2 := cF hc4 e2
      refine m_Rb.n0 b_15 (x_icf d_15_7 rfl hc4) ?_
      refine m_Rb.n0 b_15 (x_iconst (z := 1) d_15_10 (by decide)) ?_
      refine m_Rb.n0 b_15 (x_goto d_15_11 rfl) ?_
      exact kk1 _ _ (Option.some.inj e2) h hF
def D_c_EdgeHouse_drop (F : Nat) (a0 : Nat) (p0 : Int32) (T : tT) : Option (Int32 × tT) := (D_c_EdgeHouse_isPath F p0 T).bind fun v1 => cond (m_c1 .eq v1) (some ((0 : Int32), T)) ((tgr T a0 0 1).bind fun v5 => (v5).bind fun a8 => (tar T a8 6 p0).bind fun v10 => nc v10 (some ((0 : Int32), T)) fun a13 => ((tgr T a0 0 1).bind fun v14 => (v14).bind fun a17 => (tasr T a17 6 p0 none).bind fun T19 => some ((1 : Int32), T19)))
theorem T_c_EdgeHouse_drop {l : Launch} {w : List mM} {F : Nat} {a0 : Nat} {p0 : Int32} {T : tT} {y9 : Int32} {T9 : tT} (ha0 : okr T.2.1 (some a0)) (h : RT T w) (h0 : D_c_EdgeHouse_drop F a0 p0 T = some (y9, T9)) : m_Rb l M_14 (m_ent M_14 [.ref a0, .int p0] w) (fun v w' => v = some (.int y9) ∧ RT T9 w' ∧ m_Fm w w') T T9 1 100 := by
  rw [show m_ent M_14 [.ref a0, .int p0] w = (0, [(0, .ref a0), (1, .int p0)], [], w) from by first | rfl | (simp only [m_ent, lv_args_r, lv_args_a, lv_args_i, lv_args_l, lv_args_0]; done) | (simp only [m_ent, lv_args_r, lv_args_a, lv_args_i, lv_args_l, lv_args_0]; rfl)]
  generalize hw0 : w = w0 at h ⊢
  have hF : m_Fm w0 w0 := m_Fm.refl
  rw [D_c_EdgeHouse_drop] at h0
  refine m_Rb.n0 b_14 (x_iload_n d_14_0 rfl) ?_
  obtain ⟨v1, e2, h0⟩ := bS h0
  refine m_Rb.callI b_14 (y_cs d_14_1 rfl q_15 (show m_takeS _ _ = some (_, [_], []) from m_takeS_of (Nat.le_of_ble_eq_true rfl) rfl rfl (Nat.le_of_ble_eq_true rfl)) (by simp only [m_okf, List.all_cons, List.all_nil, Bool.and_true, Bool.and_self, m_okv_i, m_okv_l, m_okv_0, m_okv_n0, m_okv_t, RT.okn h ha0]) rfl) (T_c_EdgeHouse_isPath h e2) hF rfl (fun w3 h3 f3 k3 => ?_) (by decide) (by decide)
  cases hc4 : m_c1 .eq v1 with
  | true =>
    have h0 := cT hc4 h0
    refine m_Rb.n0 b_14 (x_ift d_14_4 rfl hc4) ?_
    refine m_Rb.n0 b_14 (x_iconst (z := 0) d_14_16 (by decide)) ?_
    cases h0
    exact m_Rb.ret b_14 (m_rt_ir d_14_17 rfl m_nb0) ⟨rfl, h3, f3⟩
  | false =>
    have h0 := cF hc4 h0
    refine m_Rb.n0 b_14 (x_iff d_14_4 rfl hc4) ?_
    refine m_Rb.n0 b_14 (x_aload_n d_14_7 rfl) ?_
    obtain ⟨v5, e6, h0⟩ := bS h0
    refine m_Rb.tgetR b_14 d_14_8 rfl h3 e6 (fun o7 => ?_)
    refine m_Rb.n0 b_14 (x_iload_n d_14_11 rfl) ?_
    obtain ⟨a8, e9, h0⟩ := bS h0
    subst e9
    obtain ⟨v10, e11, h0⟩ := bS h0
    refine m_Rb.tgetO (t := 6) b_14 d_14_12 rfl rfl h3 e11 (fun o12 => ?_)
    cases v10 with
    | none =>
      have h0 := nN h0
      refine m_Rb.n0 b_14 (x_ifnonnull0 d_14_13 rfl) ?_
      refine m_Rb.n0 b_14 (x_iconst (z := 0) d_14_16 (by decide)) ?_
      cases h0
      exact m_Rb.ret b_14 (m_rt_ir d_14_17 rfl m_nb0) ⟨rfl, h3, f3⟩
    | some a13 =>
      have h0 := nS h0
      refine m_Rb.n0 b_14 (x_ifnonnull1 d_14_13 rfl) ?_
      refine m_Rb.n0 b_14 (x_aload_n d_14_18 rfl) ?_
      obtain ⟨v14, e15, h0⟩ := bS h0
      refine m_Rb.tgetR b_14 d_14_19 rfl h3 e15 (fun o16 => ?_)
      refine m_Rb.n0 b_14 (x_iload_n d_14_22 rfl) ?_
      refine m_Rb.n0 b_14 (x_null d_14_23) ?_
      obtain ⟨a17, e18, h0⟩ := bS h0
      subst e18
      obtain ⟨T19, e20, h0⟩ := bS h0
      refine m_Rb.tputO (z := none) (t := 6) b_14 d_14_24 rfl rfl h3 f3 e20 okr_none (fun w21 h21 f21 k21 => ?_)
      refine m_Rb.n0 b_14 (x_iconst (z := 1) d_14_25 (by decide)) ?_
      cases h0
      exact m_Rb.ret b_14 (m_rt_ir d_14_26 rfl m_nb1) ⟨rfl, h21, f21⟩
def D_c_Reader_begin_17 (F : Nat) : Nat → Nat → Int32 → tT → Option (tT)
  | 0, _, _, _ => none
  | n + 1, x0, x1, T => (tgr T x0 1 12).bind fun v10 => (v10).bind fun a13 => (tal T a13).bind fun v15 => cond (m_c2 .ge x1 v15) (some T) ((tgr T x0 1 12).bind fun v18 => (v18).bind fun a21 => (tasi T a21 x1 (0 : Int32)).bind fun T23 => D_c_Reader_begin_17 F n x0 (x1 + Int32.ofInt 1) T23)
theorem T_c_Reader_begin_17 {l : Launch} {w0 : List mM} {F : Nat} : ∀ (n : Nat) {x0 : Nat} {x1 : Int32} {T : tT} {w : List mM} {T9 : tT}, okr T.2.1 (some x0) → RT T w → m_Fm w0 w → D_c_Reader_begin_17 F n x0 x1 T = some T9 → m_Rb l M_19 (17, [(0, .ref x0), (1, .int x1)], [], w) (fun v w' => v = none ∧ RT T9 w' ∧ m_Fm w0 w') T T9 0 0 := by
  intro n
  induction n with
  | zero => intro x0 x1 T w T9 hx0 h hF h0; cases h0
  | succ n ih =>
    intro x0 x1 T w T9 hx0 h hF h0
    rw [D_c_Reader_begin_17] at h0
    refine m_Rb.n0 b_19 (x_iload_n d_19_17 rfl) ?_
    refine m_Rb.n0 b_19 (x_aload_n d_19_18 rfl) ?_
    obtain ⟨v10, e11, h0⟩ := bS h0
    refine m_Rb.tgetR b_19 d_19_19 rfl h e11 (fun o12 => ?_)
    obtain ⟨a13, e14, h0⟩ := bS h0
    subst e14
    obtain ⟨v15, e16, h0⟩ := bS h0
    refine m_Rb.talen b_19 d_19_22 h e16 ?_
    cases hc17 : m_c2 .ge x1 v15 with
    | true =>
      have h0 := cT hc17 h0
      refine m_Rb.n0 b_19 (x_ict d_19_23 rfl hc17) ?_
      cases h0
      exact m_Rb.ret b_19 (m_rt_vr d_19_39 rfl) ⟨rfl, h, hF⟩
    | false =>
      have h0 := cF hc17 h0
      refine m_Rb.n0 b_19 (x_icf d_19_23 rfl hc17) ?_
      refine m_Rb.n0 b_19 (x_aload_n d_19_26 rfl) ?_
      obtain ⟨v18, e19, h0⟩ := bS h0
      refine m_Rb.tgetR b_19 d_19_27 rfl h e19 (fun o20 => ?_)
      refine m_Rb.n0 b_19 (x_iload_n d_19_30 rfl) ?_
      refine m_Rb.n0 b_19 (x_iconst (z := 0) d_19_31 (by decide)) ?_
      obtain ⟨a21, e22, h0⟩ := bS h0
      subst e22
      obtain ⟨T23, e24, h0⟩ := bS h0
      refine m_Rb.tputAI b_19 d_19_32 h hF e24 (fun w25 h25 f25 k25 => ?_)
      refine m_Rb.n0 b_19 (x_iinc d_19_33 rfl rfl rfl (show m_put1 _ _ _ = [(1, _), (0, _)] from rfl)) ?_
      refine m_Rb.n0 b_19 (x_goto d_19_36 rfl) ?_
      exact m_Rb.pick [1, 0] rfl (ih (okm hx0 k25) h25 f25 h0)
def D_c_Reader_begin (F : Nat) (a0 : Nat) (T : tT) : Option (tT) := (tpi T a0 1 2 (0 : Int32)).bind fun T1 => (tpi T1 a0 1 3 ((-1) : Int32)).bind fun T4 => (tpi T4 a0 1 5 (0 : Int32)).bind fun T7 => D_c_Reader_begin_17 F F a0 (0 : Int32) T7
theorem T_c_Reader_begin {l : Launch} {w : List mM} {F : Nat} {a0 : Nat} {T : tT} {T9 : tT} (ha0 : okr T.2.1 (some a0)) (h : RT T w) (h0 : D_c_Reader_begin F a0 T = some T9) : m_Rb l M_19 (m_ent M_19 [.ref a0] w) (fun v w' => v = none ∧ RT T9 w' ∧ m_Fm w w') T T9 0 0 := by
  rw [show m_ent M_19 [.ref a0] w = (0, [(0, .ref a0)], [], w) from by first | rfl | (simp only [m_ent, lv_args_r, lv_args_a, lv_args_i, lv_args_l, lv_args_0]; done) | (simp only [m_ent, lv_args_r, lv_args_a, lv_args_i, lv_args_l, lv_args_0]; rfl)]
  generalize hw0 : w = w0 at h ⊢
  have hF : m_Fm w0 w0 := m_Fm.refl
  rw [D_c_Reader_begin] at h0
  refine m_Rb.n0 b_19 (x_aload_n d_19_0 rfl) ?_
  refine m_Rb.n0 b_19 (x_iconst (z := 0) d_19_1 (by decide)) ?_
  obtain ⟨T1, e2, h0⟩ := bS h0
  refine m_Rb.tputI b_19 d_19_2 rfl rfl (by decide) h hF e2 (fun w3 h3 f3 k3 => ?_)
  refine m_Rb.n0 b_19 (x_aload_n d_19_5 rfl) ?_
  refine m_Rb.n0 b_19 (x_iconst (z := (-1)) d_19_6 (by decide)) ?_
  obtain ⟨T4, e5, h0⟩ := bS h0
  refine m_Rb.tputI b_19 d_19_7 rfl rfl (by decide) h3 f3 e5 (fun w6 h6 f6 k6 => ?_)
  refine m_Rb.n0 b_19 (x_aload_n d_19_10 rfl) ?_
  refine m_Rb.n0 b_19 (x_iconst (z := 0) d_19_11 (by decide)) ?_
  obtain ⟨T7, e8, h0⟩ := bS h0
  refine m_Rb.tputI b_19 d_19_12 rfl rfl (by decide) h6 f6 e8 (fun w9 h9 f9 k9 => ?_)
  refine m_Rb.n0 b_19 (x_iconst (z := 0) d_19_15 (by decide)) ?_
  refine m_Rb.n0 b_19 (x_istore_n d_19_16 rfl (show m_put1 _ _ _ = [(1, _), (0, _)] from rfl)) ?_
  exact m_Rb.pick [1, 0] rfl (T_c_Reader_begin_17 F (okm (okm (okm ha0 k3) k6) k9) h9 f9 h0)
def D_c_Request_init (F : Nat) (a0 : Nat) (T : tT) : Option (tT) := (tpi T a0 6 5 (15 : Int32)).bind fun T1 => (tpi T1 a0 6 8 ((-1) : Int32)).bind fun T4 => (tpi T4 a0 6 9 ((-1) : Int32)).bind fun T7 => (tpi T7 a0 6 10 ((-1) : Int32)).bind fun T10 => some T10
theorem T_c_Request_init {l : Launch} {w : List mM} {F : Nat} {a0 : Nat} {T : tT} {T9 : tT} (ha0 : okr T.2.1 (some a0)) (h : RT T w) (h0 : D_c_Request_init F a0 T = some T9) : m_Rb l M_20 (m_ent M_20 [.ref a0] w) (fun v w' => v = none ∧ RT T9 w' ∧ m_Fm w w') T T9 1 100 := by
  rw [show m_ent M_20 [.ref a0] w = (0, [(0, .ref a0)], [], w) from by first | rfl | (simp only [m_ent, lv_args_r, lv_args_a, lv_args_i, lv_args_l, lv_args_0]; done) | (simp only [m_ent, lv_args_r, lv_args_a, lv_args_i, lv_args_l, lv_args_0]; rfl)]
  generalize hw0 : w = w0 at h ⊢
  have hF : m_Fm w0 w0 := m_Fm.refl
  rw [D_c_Request_init] at h0
  refine m_Rb.n0 b_20 (x_aload_n d_20_0 rfl) ?_
  refine m_Rb.toinit b_20 d_20_1 rfl (Nat.le_of_ble_eq_true rfl) ?_ (by decide) (by decide)
  refine m_Rb.n0 b_20 (x_aload_n d_20_4 rfl) ?_
  refine m_Rb.n0 b_20 (x_bipush (z := 15) d_20_5 (by decide)) ?_
  obtain ⟨T1, e2, h0⟩ := bS h0
  refine m_Rb.tputI b_20 d_20_7 rfl rfl (by decide) h hF e2 (fun w3 h3 f3 k3 => ?_)
  refine m_Rb.n0 b_20 (x_aload_n d_20_10 rfl) ?_
  refine m_Rb.n0 b_20 (x_iconst (z := (-1)) d_20_11 (by decide)) ?_
  obtain ⟨T4, e5, h0⟩ := bS h0
  refine m_Rb.tputI b_20 d_20_12 rfl rfl (by decide) h3 f3 e5 (fun w6 h6 f6 k6 => ?_)
  refine m_Rb.n0 b_20 (x_aload_n d_20_15 rfl) ?_
  refine m_Rb.n0 b_20 (x_iconst (z := (-1)) d_20_16 (by decide)) ?_
  obtain ⟨T7, e8, h0⟩ := bS h0
  refine m_Rb.tputI b_20 d_20_17 rfl rfl (by decide) h6 f6 e8 (fun w9 h9 f9 k9 => ?_)
  refine m_Rb.n0 b_20 (x_aload_n d_20_20 rfl) ?_
  refine m_Rb.n0 b_20 (x_iconst (z := (-1)) d_20_21 (by decide)) ?_
  obtain ⟨T10, e11, h0⟩ := bS h0
  refine m_Rb.tputI b_20 d_20_22 rfl rfl (by decide) h9 f9 e11 (fun w12 h12 f12 k12 => ?_)
  cases h0
  exact m_Rb.ret b_20 (m_rt_vr d_20_25 rfl) ⟨rfl, h12, f12⟩
def D_c_Conditions_init (F : Nat) (a0 : Nat) (T : tT) : Option (tT) := (tpi T a0 7 1 (0 : Int32)).bind fun T1 => bd2 (tna T1 0 (8 : Int32)) fun a4 T5 => (tpr T5 a0 7 5 (some a4)).bind fun T8 => (tpi T8 a0 7 7 ((-1) : Int32)).bind fun T11 => some T11
theorem T_c_Conditions_init {l : Launch} {w : List mM} {F : Nat} {a0 : Nat} {T : tT} {T9 : tT} (ha0 : okr T.2.1 (some a0)) (h : RT T w) (h0 : D_c_Conditions_init F a0 T = some T9) : m_Rb l M_21 (m_ent M_21 [.ref a0] w) (fun v w' => v = none ∧ RT T9 w' ∧ m_Fm w w') T T9 1 100 := by
  rw [show m_ent M_21 [.ref a0] w = (0, [(0, .ref a0)], [], w) from by first | rfl | (simp only [m_ent, lv_args_r, lv_args_a, lv_args_i, lv_args_l, lv_args_0]; done) | (simp only [m_ent, lv_args_r, lv_args_a, lv_args_i, lv_args_l, lv_args_0]; rfl)]
  generalize hw0 : w = w0 at h ⊢
  have hF : m_Fm w0 w0 := m_Fm.refl
  rw [D_c_Conditions_init] at h0
  refine m_Rb.n0 b_21 (x_aload_n d_21_0 rfl) ?_
  refine m_Rb.toinit b_21 d_21_1 rfl (Nat.le_of_ble_eq_true rfl) ?_ (by decide) (by decide)
  refine m_Rb.n0 b_21 (x_aload_n d_21_4 rfl) ?_
  refine m_Rb.n0 b_21 (x_iconst (z := 0) d_21_5 (by decide)) ?_
  obtain ⟨T1, e2, h0⟩ := bS h0
  refine m_Rb.tputI b_21 d_21_6 rfl rfl (by decide) h hF e2 (fun w3 h3 f3 k3 => ?_)
  refine m_Rb.n0 b_21 (x_aload_n d_21_9 rfl) ?_
  refine m_Rb.n0 b_21 (x_bipush (z := 8) d_21_10 (by decide)) ?_
  obtain ⟨a4, T5, e6, h0⟩ := bS2 h0
  refine m_Rb.tnewa b_21 d_21_12 rfl (by simp only [m_okf, List.all_cons, List.all_nil, Bool.and_true, Bool.and_self, m_okv_i, m_okv_l, m_okv_0, m_okv_n0, m_okv_t, RT.okn h3 (okm ha0 k3)]) h3 f3 e6 (fun w7 o7 h7 f7 k7 => ?_)
  obtain ⟨T8, e9, h0⟩ := bS h0
  refine m_Rb.tputA (z := (some a4)) b_21 d_21_14 rfl rfl (by decide) h7 f7 e9 o7 (fun w10 h10 f10 k10 => ?_)
  refine m_Rb.n0 b_21 (x_aload_n d_21_17 rfl) ?_
  refine m_Rb.n0 b_21 (x_iconst (z := (-1)) d_21_18 (by decide)) ?_
  obtain ⟨T11, e12, h0⟩ := bS h0
  refine m_Rb.tputI b_21 d_21_19 rfl rfl (by decide) h10 f10 e12 (fun w13 h13 f13 k13 => ?_)
  cases h0
  exact m_Rb.ret b_21 (m_rt_vr d_21_22 rfl) ⟨rfl, h13, f13⟩
def D_c_Reader_here (F : Nat) (a0 : Nat) (T0 : tT) : Option (Int32) := (tgi T0 a0 1 2).bind fun v1 => (cond (m_c1 .lt v1) (some (0 : Int32)) ((tgi T0 a0 1 2).bind fun v6 => (tgi T0 a0 1 1).bind fun v8 => cond (m_c2 .ge v6 v8) (some (0 : Int32)) ((tgi T0 a0 1 2).bind fun v11 => (tgr T0 a0 1 0).bind fun v13 => (v13).bind fun a16 => (tal T0 a16).bind fun v18 => cond (m_c2 .ge v11 v18) (some (0 : Int32)) ((tgr T0 a0 1 0).bind fun v21 => (tgi T0 a0 1 2).bind fun v24 => (v21).bind fun a26 => (tai T0 a26 2 v24).bind fun v28 => some v28)))).bind fun v30 => (cret v30).bind fun v32 => some v32
theorem T_c_Reader_here {l : Launch} {w : List mM} {F : Nat} {a0 : Nat} {T0 : tT} {y9 : Int32} (ha0 : okr T0.2.1 (some a0)) (h : RT T0 w) (h0 : D_c_Reader_here F a0 T0 = some y9) : m_Rb l M_22 (m_ent M_22 [.ref a0] w) (fun v w' => v = some (.int y9) ∧ RT T0 w' ∧ m_Fm w w') T0 T0 0 0 := by
  rw [show m_ent M_22 [.ref a0] w = (0, [(0, .ref a0)], [], w) from by first | rfl | (simp only [m_ent, lv_args_r, lv_args_a, lv_args_i, lv_args_l, lv_args_0]; done) | (simp only [m_ent, lv_args_r, lv_args_a, lv_args_i, lv_args_l, lv_args_0]; rfl)]
  generalize hw0 : w = w0 at h ⊢
  have hF : m_Fm w0 w0 := m_Fm.refl
  rw [D_c_Reader_here] at h0
  refine m_Rb.n0 b_22 (x_aload_n d_22_0 rfl) ?_
  obtain ⟨v1, e2, h0⟩ := bS h0
  refine m_Rb.tgetI b_22 d_22_1 rfl h e2 ?_
  obtain ⟨v30, e4, h0⟩ := bS h0
  have kk3 : ∀ (xz : Int32) (w1 : List mM), xz = v30 → RT T0 w1 → m_Fm w0 w1 → m_Rb l M_22 (43, [(0, .ref a0)], [.int xz], w1) (fun v w' => v = some (.int y9) ∧ RT T0 w' ∧ m_Fm w0 w') T0 T0 0 0 := by
    intro xz w31 ez h31 f31
    rw [ez]
    obtain ⟨v32, e33, h0⟩ := bS h0
    cases h0
    exact m_Rb.retc b_22 d_22_43 rfl e33 ⟨rfl, h31, f31⟩
  cases hc5 : m_c1 .lt v1 with
  | true =>
    have e4 := cT hc5 e4
    refine m_Rb.n0 b_22 (x_ift d_22_4 rfl hc5) ?_
    refine m_Rb.n0 b_22 (x_iconst (z := 0) d_22_42 (by decide)) ?_
    exact kk3 _ _ (Option.some.inj e4) h hF
  | false =>
    have e4 := cF hc5 e4
    refine m_Rb.n0 b_22 (x_iff d_22_4 rfl hc5) ?_
    refine m_Rb.n0 b_22 (x_aload_n d_22_7 rfl) ?_
    obtain ⟨v6, e7, e4⟩ := bS e4
    refine m_Rb.tgetI b_22 d_22_8 rfl h e7 ?_
    refine m_Rb.n0 b_22 (x_aload_n d_22_11 rfl) ?_
    obtain ⟨v8, e9, e4⟩ := bS e4
    refine m_Rb.tgetI b_22 d_22_12 rfl h e9 ?_
    cases hc10 : m_c2 .ge v6 v8 with
    | true =>
      have e4 := cT hc10 e4
      refine m_Rb.n0 b_22 (x_ict d_22_15 rfl hc10) ?_
      refine m_Rb.n0 b_22 (x_iconst (z := 0) d_22_42 (by decide)) ?_
      exact kk3 _ _ (Option.some.inj e4) h hF
    | false =>
      have e4 := cF hc10 e4
      refine m_Rb.n0 b_22 (x_icf d_22_15 rfl hc10) ?_
      refine m_Rb.n0 b_22 (x_aload_n d_22_18 rfl) ?_
      obtain ⟨v11, e12, e4⟩ := bS e4
      refine m_Rb.tgetI b_22 d_22_19 rfl h e12 ?_
      refine m_Rb.n0 b_22 (x_aload_n d_22_22 rfl) ?_
      obtain ⟨v13, e14, e4⟩ := bS e4
      refine m_Rb.tgetR b_22 d_22_23 rfl h e14 (fun o15 => ?_)
      obtain ⟨a16, e17, e4⟩ := bS e4
      subst e17
      obtain ⟨v18, e19, e4⟩ := bS e4
      refine m_Rb.talen b_22 d_22_26 h e19 ?_
      cases hc20 : m_c2 .ge v11 v18 with
      | true =>
        have e4 := cT hc20 e4
        refine m_Rb.n0 b_22 (x_ict d_22_27 rfl hc20) ?_
        refine m_Rb.n0 b_22 (x_iconst (z := 0) d_22_42 (by decide)) ?_
        exact kk3 _ _ (Option.some.inj e4) h hF
      | false =>
        have e4 := cF hc20 e4
        refine m_Rb.n0 b_22 (x_icf d_22_27 rfl hc20) ?_
        refine m_Rb.n0 b_22 (x_aload_n d_22_30 rfl) ?_
        obtain ⟨v21, e22, e4⟩ := bS e4
        refine m_Rb.tgetR b_22 d_22_31 rfl h e22 (fun o23 => ?_)
        refine m_Rb.n0 b_22 (x_aload_n d_22_34 rfl) ?_
        obtain ⟨v24, e25, e4⟩ := bS e4
        refine m_Rb.tgetI b_22 d_22_35 rfl h e25 ?_
        obtain ⟨a26, e27, e4⟩ := bS e4
        subst e27
        obtain ⟨v28, e29, e4⟩ := bS e4
        refine m_Rb.tgetC b_22 d_22_38 h e29 ?_
        refine m_Rb.n0 b_22 (x_goto d_22_39 rfl) ?_
        exact kk3 _ _ (Option.some.inj e4) h hF
def D_c_Reader_no (F : Nat) (a0 : Nat) (p0 : Int32) (T : tT) : Option (Int32 × tT) := (tpi T a0 1 3 p0).bind fun T1 => some ((0 : Int32), T1)
theorem T_c_Reader_no {l : Launch} {w : List mM} {F : Nat} {a0 : Nat} {p0 : Int32} {T : tT} {y9 : Int32} {T9 : tT} (ha0 : okr T.2.1 (some a0)) (h : RT T w) (h0 : D_c_Reader_no F a0 p0 T = some (y9, T9)) : m_Rb l M_36 (m_ent M_36 [.ref a0, .int p0] w) (fun v w' => v = some (.int y9) ∧ RT T9 w' ∧ m_Fm w w') T T9 0 0 := by
  rw [show m_ent M_36 [.ref a0, .int p0] w = (0, [(0, .ref a0), (1, .int p0)], [], w) from by first | rfl | (simp only [m_ent, lv_args_r, lv_args_a, lv_args_i, lv_args_l, lv_args_0]; done) | (simp only [m_ent, lv_args_r, lv_args_a, lv_args_i, lv_args_l, lv_args_0]; rfl)]
  generalize hw0 : w = w0 at h ⊢
  have hF : m_Fm w0 w0 := m_Fm.refl
  rw [D_c_Reader_no] at h0
  refine m_Rb.n0 b_36 (x_aload_n d_36_0 rfl) ?_
  refine m_Rb.n0 b_36 (x_iload_n d_36_1 rfl) ?_
  obtain ⟨T1, e2, h0⟩ := bS h0
  refine m_Rb.tputI b_36 d_36_2 rfl rfl (by decide) h hF e2 (fun w3 h3 f3 k3 => ?_)
  refine m_Rb.n0 b_36 (x_iconst (z := 0) d_36_5 (by decide)) ?_
  cases h0
  exact m_Rb.ret b_36 (m_rt_ir d_36_6 rfl m_nb0) ⟨rfl, h3, f3⟩
def D_c_Reader_expect (F : Nat) (a0 : Nat) (p0 : Int32) (T : tT) : Option (Int32 × tT) := (tcl T a0 1).bind fun _ => (D_c_Reader_here F a0 T).bind fun v3 => cond (m_c2 .eq v3 p0) ((tgi T a0 1 2).bind fun v7 => (tpi T a0 1 2 (v7 + (1 : Int32))).bind fun T9 => some ((1 : Int32), T9)) ((tgi T a0 1 2).bind fun v12 => (tcl T a0 1).bind fun _ => bd2 (D_c_Reader_no F a0 v12 T) fun v16 T17 => (bret v16).bind fun v20 => some (v20, T17))
theorem T_c_Reader_expect {l : Launch} {w : List mM} {F : Nat} {a0 : Nat} {p0 : Int32} {T : tT} {y9 : Int32} {T9 : tT} (ha0 : okr T.2.1 (some a0)) (h : RT T w) (h0 : D_c_Reader_expect F a0 p0 T = some (y9, T9)) : m_Rb l M_35 (m_ent M_35 [.ref a0, .int p0] w) (fun v w' => v = some (.int y9) ∧ RT T9 w' ∧ m_Fm w w') T T9 1 100 := by
  rw [show m_ent M_35 [.ref a0, .int p0] w = (0, [(0, .ref a0), (1, .int p0)], [], w) from by first | rfl | (simp only [m_ent, lv_args_r, lv_args_a, lv_args_i, lv_args_l, lv_args_0]; done) | (simp only [m_ent, lv_args_r, lv_args_a, lv_args_i, lv_args_l, lv_args_0]; rfl)]
  generalize hw0 : w = w0 at h ⊢
  have hF : m_Fm w0 w0 := m_Fm.refl
  rw [D_c_Reader_expect] at h0
  refine m_Rb.n0 b_35 (x_aload_n d_35_0 rfl) ?_
  obtain ⟨_, e1, h0⟩ := bS h0
  obtain ⟨_, g2⟩ := RT.cls h e1
  obtain ⟨v3, e4, h0⟩ := bS h0
  refine m_Rb.callI b_35 (y_cv d_35_1 rfl q_22 (m_isRecv_of rfl g2) (show m_takeI _ _ = some (_, [_], []) from m_takeI_of rfl rfl rfl (Nat.le_of_ble_eq_true rfl)) (by simp only [m_okf, List.all_cons, List.all_nil, Bool.and_true, Bool.and_self, m_okv_i, m_okv_l, m_okv_0, m_okv_n0, m_okv_t, RT.okn h ha0]) rfl) (T_c_Reader_here ha0 h e4) hF rfl (fun w5 h5 f5 k5 => ?_) (by decide) (by decide)
  refine m_Rb.n0 b_35 (x_iload_n d_35_4 rfl) ?_
  cases hc6 : m_c2 .eq v3 p0 with
  | true =>
    have h0 := cT hc6 h0
    refine m_Rb.n0 b_35 (x_ict d_35_5 rfl hc6) ?_
    refine m_Rb.n0 b_35 (x_aload_n d_35_17 rfl) ?_
    refine m_Rb.n0 b_35 (x_dup d_35_18 rfl) ?_
    obtain ⟨v7, e8, h0⟩ := bS h0
    refine m_Rb.tgetI b_35 d_35_19 rfl h5 e8 ?_
    refine m_Rb.n0 b_35 (x_iconst (z := 1) d_35_22 (by decide)) ?_
    refine m_Rb.n0 b_35 (x_iadd d_35_23 rfl) ?_
    obtain ⟨T9, e10, h0⟩ := bS h0
    refine m_Rb.tputI b_35 d_35_24 rfl rfl (by decide) h5 f5 e10 (fun w11 h11 f11 k11 => ?_)
    refine m_Rb.n0 b_35 (x_iconst (z := 1) d_35_27 (by decide)) ?_
    cases h0
    exact m_Rb.ret b_35 (m_rt_ir d_35_28 rfl m_nb1) ⟨rfl, h11, f11⟩
  | false =>
    have h0 := cF hc6 h0
    refine m_Rb.n0 b_35 (x_icf d_35_5 rfl hc6) ?_
    refine m_Rb.n0 b_35 (x_aload_n d_35_8 rfl) ?_
    refine m_Rb.n0 b_35 (x_aload_n d_35_9 rfl) ?_
    obtain ⟨v12, e13, h0⟩ := bS h0
    refine m_Rb.tgetI b_35 d_35_10 rfl h5 e13 ?_
    obtain ⟨_, e14, h0⟩ := bS h0
    obtain ⟨_, g15⟩ := RT.cls h5 e14
    obtain ⟨v16, T17, e18, h0⟩ := bS2 h0
    refine m_Rb.callI b_35 (y_cv d_35_13 rfl q_36 (m_isRecv_of rfl g15) (show m_takeI _ _ = some (_, [_, _], []) from m_takeI_of rfl rfl rfl (Nat.le_of_ble_eq_true rfl)) (by simp only [m_okf, List.all_cons, List.all_nil, Bool.and_true, Bool.and_self, m_okv_i, m_okv_l, m_okv_0, m_okv_n0, m_okv_t, RT.okn h5 ha0]) rfl) (T_c_Reader_no ha0 h5 e18) f5 rfl (fun w19 h19 f19 k19 => ?_) (by decide) (by decide)
    obtain ⟨v20, e21, h0⟩ := bS h0
    cases h0
    exact m_Rb.retb b_35 d_35_16 rfl e21 ⟨rfl, h19, f19⟩
def D_c_Reader_expectText_2 (F : Nat) : Nat → Nat → Nat → Int32 → tT → Option (Int32 × tT)
  | 0, _, _, _, _ => none
  | n + 1, x0, x1, x2, T => (xlen x1).bind fun v1 => cond (m_c2 .ge x2 v1) (some ((1 : Int32), T)) ((xchr x1 x2).bind fun v4 => (tcl T x0 1).bind fun _ => bd2 (D_c_Reader_expect F x0 v4 T) fun v8 T9 => cond (m_c1 .ne v8) (D_c_Reader_expectText_2 F n x0 x1 (x2 + Int32.ofInt 1) T9) (some ((0 : Int32), T9)))
theorem T_c_Reader_expectText_2 {l : Launch} {w0 : List mM} {F : Nat} : ∀ (n : Nat) {x0 : Nat} {x1 : Nat} {x2 : Int32} {T : tT} {w : List mM} {y9 : Int32} {T9 : tT}, okr T.2.1 (some x0) → x1 < 512 → RT T w → m_Fm w0 w → D_c_Reader_expectText_2 F n x0 x1 x2 T = some (y9, T9) → m_Rb l M_23 (2, [(0, .ref x0), (1, .ref x1), (2, .int x2)], [], w) (fun v w' => v = some (.int y9) ∧ RT T9 w' ∧ m_Fm w0 w') T T9 4 400 := by
  intro n
  induction n with
  | zero => intro x0 x1 x2 T w y9 T9 hx0 hx1 h hF h0; cases h0
  | succ n ih =>
    intro x0 x1 x2 T w y9 T9 hx0 hx1 h hF h0
    rw [D_c_Reader_expectText_2] at h0
    refine m_Rb.n0 b_23 (x_iload_n d_23_2 rfl) ?_
    refine m_Rb.n0 b_23 (x_aload_n d_23_3 rfl) ?_
    obtain ⟨v1, e2, h0⟩ := bS h0
    refine m_Rb.lift (fun c s k9 => m_Rs.cxlen b_23 d_23_4 rfl (by simp only [m_okf, List.all_cons, List.all_nil, Bool.and_true, Bool.and_self, m_okv_i, m_okv_l, m_okv_0, m_okv_n0, m_okv_t, RT.okn h hx0, m_okv_out (a := x1) hx1]) e2 k9 (catL (Nat.le_of_ble_eq_true rfl)) (by decide) (by decide)) ?_
    cases hc3 : m_c2 .ge x2 v1 with
    | true =>
      have h0 := cT hc3 h0
      refine m_Rb.n0 b_23 (x_ict d_23_7 rfl hc3) ?_
      refine m_Rb.n0 b_23 (x_iconst (z := 1) d_23_30 (by decide)) ?_
      cases h0
      exact m_Rb.ret b_23 (m_rt_ir d_23_31 rfl m_nb1) ⟨rfl, h, hF⟩
    | false =>
      have h0 := cF hc3 h0
      refine m_Rb.n0 b_23 (x_icf d_23_7 rfl hc3) ?_
      refine m_Rb.n0 b_23 (x_aload_n d_23_10 rfl) ?_
      refine m_Rb.n0 b_23 (x_aload_n d_23_11 rfl) ?_
      refine m_Rb.n0 b_23 (x_iload_n d_23_12 rfl) ?_
      obtain ⟨v4, e5, h0⟩ := bS h0
      refine m_Rb.lift (fun c s k9 => m_Rs.cxchr b_23 d_23_13 rfl (by simp only [m_okf, List.all_cons, List.all_nil, Bool.and_true, Bool.and_self, m_okv_i, m_okv_l, m_okv_0, m_okv_n0, m_okv_t, RT.okn h hx0, m_okv_out (a := x1) hx1]) e5 k9 (catL (Nat.le_of_ble_eq_true rfl)) (by decide) (by decide)) ?_
      obtain ⟨_, e6, h0⟩ := bS h0
      obtain ⟨_, g7⟩ := RT.cls h e6
      obtain ⟨v8, T9, e10, h0⟩ := bS2 h0
      refine m_Rb.callI b_23 (y_cv d_23_16 rfl q_35 (m_isRecv_of rfl g7) (show m_takeI _ _ = some (_, [_, _], []) from m_takeI_of rfl rfl rfl (Nat.le_of_ble_eq_true rfl)) (by simp only [m_okf, List.all_cons, List.all_nil, Bool.and_true, Bool.and_self, m_okv_i, m_okv_l, m_okv_0, m_okv_n0, m_okv_t, RT.okn h hx0, m_okv_out (a := x1) hx1]) rfl) (T_c_Reader_expect hx0 h e10) hF rfl (fun w11 h11 f11 k11 => ?_) (by decide) (by decide)
      cases hc12 : m_c1 .ne v8 with
      | true =>
        have h0 := cT hc12 h0
        refine m_Rb.n0 b_23 (x_ift d_23_19 rfl hc12) ?_
        refine m_Rb.n0 b_23 (x_iinc d_23_24 rfl rfl rfl (show m_put1 _ _ _ = [(2, _), (0, _), (1, _)] from rfl)) ?_
        refine m_Rb.n0 b_23 (x_goto d_23_27 rfl) ?_
        exact m_Rb.pick [1, 2, 0] rfl (ih (okm hx0 k11) hx1 h11 f11 h0)
      | false =>
        have h0 := cF hc12 h0
        refine m_Rb.n0 b_23 (x_iff d_23_19 rfl hc12) ?_
        refine m_Rb.n0 b_23 (x_iconst (z := 0) d_23_22 (by decide)) ?_
        cases h0
        exact m_Rb.ret b_23 (m_rt_ir d_23_23 rfl m_nb0) ⟨rfl, h11, f11⟩
def D_c_Reader_expectText (F : Nat) (a0 : Nat) (p0 : Nat) (T : tT) : Option (Int32 × tT) := D_c_Reader_expectText_2 F F a0 p0 (0 : Int32) T
theorem T_c_Reader_expectText {l : Launch} {w : List mM} {F : Nat} {a0 : Nat} {p0 : Nat} {T : tT} {y9 : Int32} {T9 : tT} (ha0 : okr T.2.1 (some a0)) (hp0 : p0 < 512) (h : RT T w) (h0 : D_c_Reader_expectText F a0 p0 T = some (y9, T9)) : m_Rb l M_23 (m_ent M_23 [.ref a0, .ref p0] w) (fun v w' => v = some (.int y9) ∧ RT T9 w' ∧ m_Fm w w') T T9 4 400 := by
  rw [show m_ent M_23 [.ref a0, .ref p0] w = (0, [(0, .ref a0), (1, .ref p0)], [], w) from by first | rfl | (simp only [m_ent, lv_args_r, lv_args_a, lv_args_i, lv_args_l, lv_args_0]; done) | (simp only [m_ent, lv_args_r, lv_args_a, lv_args_i, lv_args_l, lv_args_0]; rfl)]
  generalize hw0 : w = w0 at h ⊢
  have hF : m_Fm w0 w0 := m_Fm.refl
  rw [D_c_Reader_expectText] at h0
  refine m_Rb.n0 b_23 (x_iconst (z := 0) d_23_0 (by decide)) ?_
  refine m_Rb.n0 b_23 (x_istore_n d_23_1 rfl (show m_put1 _ _ _ = [(2, _), (0, _), (1, _)] from rfl)) ?_
  exact m_Rb.pick [1, 2, 0] rfl (T_c_Reader_expectText_2 F ha0 hp0 h hF h0)
def D_c_Reader_isDigit (F : Nat) (p0 : Int32) (T0 : tT) : Option (Int32) := (cond (m_c2 .lt p0 (48 : Int32)) (some (0 : Int32)) (cond (m_c2 .gt p0 (57 : Int32)) (some (0 : Int32)) (some (1 : Int32)))).bind fun v5 => (bret v5).bind fun v7 => some v7
theorem T_c_Reader_isDigit {l : Launch} {w : List mM} {F : Nat} {p0 : Int32} {T0 : tT} {y9 : Int32} (h : RT T0 w) (h0 : D_c_Reader_isDigit F p0 T0 = some y9) : m_Rb l M_39 (m_ent M_39 [.int p0] w) (fun v w' => v = some (.int y9) ∧ RT T0 w' ∧ m_Fm w w') T0 T0 0 0 := by
  rw [show m_ent M_39 [.int p0] w = (0, [(0, .int p0)], [], w) from by first | rfl | (simp only [m_ent, lv_args_r, lv_args_a, lv_args_i, lv_args_l, lv_args_0]; done) | (simp only [m_ent, lv_args_r, lv_args_a, lv_args_i, lv_args_l, lv_args_0]; rfl)]
  generalize hw0 : w = w0 at h ⊢
  have hF : m_Fm w0 w0 := m_Fm.refl
  rw [D_c_Reader_isDigit] at h0
  refine m_Rb.n0 b_39 (x_iload_n d_39_0 rfl) ?_
  refine m_Rb.n0 b_39 (x_bipush (z := 48) d_39_1 (by decide)) ?_
  obtain ⟨v5, e2, h0⟩ := bS h0
  have kk1 : ∀ (xz : Int32) (w1 : List mM), xz = v5 → RT T0 w1 → m_Fm w0 w1 → m_Rb l M_39 (17, [(0, .int p0)], [.int xz], w1) (fun v w' => v = some (.int y9) ∧ RT T0 w' ∧ m_Fm w0 w') T0 T0 0 0 := by
    intro xz w6 ez h6 f6
    rw [ez]
    obtain ⟨v7, e8, h0⟩ := bS h0
    cases h0
    exact m_Rb.retb b_39 d_39_17 rfl e8 ⟨rfl, h6, f6⟩
  cases hc3 : m_c2 .lt p0 (48 : Int32) with
  | true =>
    have e2 := cT hc3 e2
    refine m_Rb.n0 b_39 (x_ict d_39_3 rfl hc3) ?_
    refine m_Rb.n0 b_39 (x_iconst (z := 0) d_39_16 (by decide)) ?_
    exact kk1 _ _ (Option.some.inj e2) h hF
  | false =>
    have e2 := cF hc3 e2
    refine m_Rb.n0 b_39 (x_icf d_39_3 rfl hc3) ?_
    refine m_Rb.n0 b_39 (x_iload_n d_39_6 rfl) ?_
    refine m_Rb.n0 b_39 (x_bipush (z := 57) d_39_7 (by decide)) ?_
    cases hc4 : m_c2 .gt p0 (57 : Int32) with
    | true =>
      have e2 := cT hc4 e2
      refine m_Rb.n0 b_39 (x_ict d_39_9 rfl hc4) ?_
      refine m_Rb.n0 b_39 (x_iconst (z := 0) d_39_16 (by decide)) ?_
      exact kk1 _ _ (Option.some.inj e2) h hF
    | false =>
      have e2 := cF hc4 e2
      refine m_Rb.n0 b_39 (x_icf d_39_9 rfl hc4) ?_
      refine m_Rb.n0 b_39 (x_iconst (z := 1) d_39_12 (by decide)) ?_
      refine m_Rb.n0 b_39 (x_goto d_39_13 rfl) ?_
      exact kk1 _ _ (Option.some.inj e2) h hF
def D_c_Reader_readNumber_114 (F : Nat) (x0 : Nat) (T : tT) : Option (Int32 × tT) := some ((1 : Int32), T)
theorem T_c_Reader_readNumber_114 {l : Launch} {w0 : List mM} {F : Nat} {x0 : Nat} {T : tT} {w : List mM} {y9 : Int32} {T9 : tT} (hx0 : okr T.2.1 (some x0)) (h : RT T w) (hF : m_Fm w0 w) (h0 : D_c_Reader_readNumber_114 F x0 T = some (y9, T9)) : m_Rb l M_38 (114, [(0, .ref x0)], [], w) (fun v w' => v = some (.int y9) ∧ RT T9 w' ∧ m_Fm w0 w') T T9 1 100 := by
  rw [D_c_Reader_readNumber_114] at h0
  refine m_Rb.n0 b_38 (x_iconst (z := 1) d_38_114 (by decide)) ?_
  refine m_Rb.n0 b_38 (x_goto d_38_115 rfl) ?_
  cases h0
  exact m_Rb.ret b_38 (m_rt_ir d_38_119 rfl m_nb1) ⟨rfl, h, hF⟩
def D_c_Reader_readNumber_62 (F : Nat) (x0 : Nat) (x1 : Int32) (x2 : Int32) (T : tT) : Option (Int32 × tT) := (tgi T x0 1 2).bind fun v31 => cond (m_c2 .ne v31 x2) ((tgi T x0 1 9).bind fun v34 => cond (m_c2 .le v34 x1) ((tcl T x0 1).bind fun _ => (D_c_Reader_here F x0 T).bind fun v39 => (D_c_Reader_isDigit F v39 T).bind fun v42 => cond (m_c1 .eq v42) (D_c_Reader_readNumber_114 F x0 T) ((tgi T x0 1 2).bind fun v58 => (tcl T x0 1).bind fun _ => bd2 (D_c_Reader_no F x0 v58 T) fun v62 T63 => (cond (m_c1 .eq v62) (some (0 : Int32)) (some (1 : Int32))).bind fun v69 => (bret v69).bind fun v71 => some (v71, T63))) ((tcl T x0 1).bind fun _ => bd2 (D_c_Reader_no F x0 x2 T) fun v75 T76 => (bret v75).bind fun v79 => some (v79, T76))) ((tgi T x0 1 2).bind fun v81 => (tcl T x0 1).bind fun _ => bd2 (D_c_Reader_no F x0 v81 T) fun v85 T86 => (bret v85).bind fun v89 => some (v89, T86))
theorem T_c_Reader_readNumber_62 {l : Launch} {w0 : List mM} {F : Nat} {x0 : Nat} {x1 : Int32} {x2 : Int32} {T : tT} {w : List mM} {y9 : Int32} {T9 : tT} (hx0 : okr T.2.1 (some x0)) (h : RT T w) (hF : m_Fm w0 w) (h0 : D_c_Reader_readNumber_62 F x0 x1 x2 T = some (y9, T9)) : m_Rb l M_38 (62, [(0, .ref x0), (1, .int x1), (2, .int x2)], [], w) (fun v w' => v = some (.int y9) ∧ RT T9 w' ∧ m_Fm w0 w') T T9 1 100 := by
  rw [D_c_Reader_readNumber_62] at h0
  refine m_Rb.n0 b_38 (x_aload_n d_38_62 rfl) ?_
  obtain ⟨v31, e32, h0⟩ := bS h0
  refine m_Rb.tgetI b_38 d_38_63 rfl h e32 ?_
  refine m_Rb.n0 b_38 (x_iload_n d_38_66 rfl) ?_
  cases hc33 : m_c2 .ne v31 x2 with
  | true =>
    have h0 := cT hc33 h0
    refine m_Rb.n0 b_38 (x_ict d_38_67 rfl hc33) ?_
    refine m_Rb.n0 b_38 (x_aload_n d_38_79 rfl) ?_
    obtain ⟨v34, e35, h0⟩ := bS h0
    refine m_Rb.tgetI b_38 d_38_80 rfl h e35 ?_
    refine m_Rb.n0 b_38 (x_iload_n d_38_83 rfl) ?_
    cases hc36 : m_c2 .le v34 x1 with
    | true =>
      have h0 := cT hc36 h0
      refine m_Rb.n0 b_38 (x_ict d_38_84 rfl hc36) ?_
      refine m_Rb.n0 b_38 (x_aload_n d_38_93 rfl) ?_
      obtain ⟨_, e37, h0⟩ := bS h0
      obtain ⟨_, g38⟩ := RT.cls h e37
      obtain ⟨v39, e40, h0⟩ := bS h0
      refine m_Rb.callI b_38 (y_cv d_38_94 rfl q_22 (m_isRecv_of rfl g38) (show m_takeI _ _ = some (_, [_], []) from m_takeI_of rfl rfl rfl (Nat.le_of_ble_eq_true rfl)) (by simp only [m_okf, List.all_cons, List.all_nil, Bool.and_true, Bool.and_self, m_okv_i, m_okv_l, m_okv_0, m_okv_n0, m_okv_t, RT.okn h hx0]) rfl) (T_c_Reader_here hx0 h e40) hF rfl (fun w41 h41 f41 k41 => ?_) (by decide) (by decide)
      obtain ⟨v42, e43, h0⟩ := bS h0
      refine m_Rb.callI b_38 (y_cs d_38_97 rfl q_39 (show m_takeS _ _ = some (_, [_], []) from m_takeS_of (Nat.le_of_ble_eq_true rfl) rfl rfl (Nat.le_of_ble_eq_true rfl)) (by simp only [m_okf, List.all_cons, List.all_nil, Bool.and_true, Bool.and_self, m_okv_i, m_okv_l, m_okv_0, m_okv_n0, m_okv_t, RT.okn h41 hx0]) rfl) (T_c_Reader_isDigit h41 e43) f41 rfl (fun w44 h44 f44 k44 => ?_) (by decide) (by decide)
      cases hc57 : m_c1 .eq v42 with
      | true =>
        have h0 := cT hc57 h0
        refine m_Rb.n0 b_38 (x_ift d_38_100 rfl hc57) ?_
        exact m_Rb.pick [0] rfl (T_c_Reader_readNumber_114 hx0 h44 f44 h0)
      | false =>
        have h0 := cF hc57 h0
        refine m_Rb.n0 b_38 (x_iff d_38_100 rfl hc57) ?_
        refine m_Rb.n0 b_38 (x_aload_n d_38_103 rfl) ?_
        refine m_Rb.n0 b_38 (x_aload_n d_38_104 rfl) ?_
        obtain ⟨v58, e59, h0⟩ := bS h0
        refine m_Rb.tgetI b_38 d_38_105 rfl h44 e59 ?_
        obtain ⟨_, e60, h0⟩ := bS h0
        obtain ⟨_, g61⟩ := RT.cls h44 e60
        obtain ⟨v62, T63, e64, h0⟩ := bS2 h0
        refine m_Rb.callI b_38 (y_cv d_38_108 rfl q_36 (m_isRecv_of rfl g61) (show m_takeI _ _ = some (_, [_, _], []) from m_takeI_of rfl rfl rfl (Nat.le_of_ble_eq_true rfl)) (by simp only [m_okf, List.all_cons, List.all_nil, Bool.and_true, Bool.and_self, m_okv_i, m_okv_l, m_okv_0, m_okv_n0, m_okv_t, RT.okn h44 hx0]) rfl) (T_c_Reader_no hx0 h44 e64) f44 rfl (fun w65 h65 f65 k65 => ?_) (by decide) (by decide)
        obtain ⟨v69, e67, h0⟩ := bS h0
        have kk66 : ∀ (xz : Int32) (w1 : List mM), xz = v69 → RT T63 w1 → m_Fm w0 w1 → m_Rb l M_38 (119, [(0, .ref x0), (1, .int x1), (2, .int x2)], [.int xz], w1) (fun v w' => v = some (.int y9) ∧ RT T9 w' ∧ m_Fm w0 w') T63 T9 1 100 := by
          intro xz w70 ez h70 f70
          rw [ez]
          obtain ⟨v71, e72, h0⟩ := bS h0
          cases h0
          exact m_Rb.retb b_38 d_38_119 rfl e72 ⟨rfl, h70, f70⟩
        cases hc68 : m_c1 .eq v62 with
        | true =>
          have e67 := cT hc68 e67
          refine m_Rb.n0 b_38 (x_ift d_38_111 rfl hc68) ?_
          refine m_Rb.n0 b_38 (x_iconst (z := 0) d_38_118 (by decide)) ?_
          exact kk66 _ _ (Option.some.inj e67) h65 f65
        | false =>
          have e67 := cF hc68 e67
          refine m_Rb.n0 b_38 (x_iff d_38_111 rfl hc68) ?_
          refine m_Rb.n0 b_38 (x_iconst (z := 1) d_38_114 (by decide)) ?_
          refine m_Rb.n0 b_38 (x_goto d_38_115 rfl) ?_
          exact kk66 _ _ (Option.some.inj e67) h65 f65
    | false =>
      have h0 := cF hc36 h0
      refine m_Rb.n0 b_38 (x_icf d_38_84 rfl hc36) ?_
      refine m_Rb.n0 b_38 (x_aload_n d_38_87 rfl) ?_
      refine m_Rb.n0 b_38 (x_iload_n d_38_88 rfl) ?_
      obtain ⟨_, e73, h0⟩ := bS h0
      obtain ⟨_, g74⟩ := RT.cls h e73
      obtain ⟨v75, T76, e77, h0⟩ := bS2 h0
      refine m_Rb.callI b_38 (y_cv d_38_89 rfl q_36 (m_isRecv_of rfl g74) (show m_takeI _ _ = some (_, [_, _], []) from m_takeI_of rfl rfl rfl (Nat.le_of_ble_eq_true rfl)) (by simp only [m_okf, List.all_cons, List.all_nil, Bool.and_true, Bool.and_self, m_okv_i, m_okv_l, m_okv_0, m_okv_n0, m_okv_t, RT.okn h hx0]) rfl) (T_c_Reader_no hx0 h e77) hF rfl (fun w78 h78 f78 k78 => ?_) (by decide) (by decide)
      obtain ⟨v79, e80, h0⟩ := bS h0
      cases h0
      exact m_Rb.retb b_38 d_38_92 rfl e80 ⟨rfl, h78, f78⟩
  | false =>
    have h0 := cF hc33 h0
    refine m_Rb.n0 b_38 (x_icf d_38_67 rfl hc33) ?_
    refine m_Rb.n0 b_38 (x_aload_n d_38_70 rfl) ?_
    refine m_Rb.n0 b_38 (x_aload_n d_38_71 rfl) ?_
    obtain ⟨v81, e82, h0⟩ := bS h0
    refine m_Rb.tgetI b_38 d_38_72 rfl h e82 ?_
    obtain ⟨_, e83, h0⟩ := bS h0
    obtain ⟨_, g84⟩ := RT.cls h e83
    obtain ⟨v85, T86, e87, h0⟩ := bS2 h0
    refine m_Rb.callI b_38 (y_cv d_38_75 rfl q_36 (m_isRecv_of rfl g84) (show m_takeI _ _ = some (_, [_, _], []) from m_takeI_of rfl rfl rfl (Nat.le_of_ble_eq_true rfl)) (by simp only [m_okf, List.all_cons, List.all_nil, Bool.and_true, Bool.and_self, m_okv_i, m_okv_l, m_okv_0, m_okv_n0, m_okv_t, RT.okn h hx0]) rfl) (T_c_Reader_no hx0 h e87) hF rfl (fun w88 h88 f88 k88 => ?_) (by decide) (by decide)
    obtain ⟨v89, e90, h0⟩ := bS h0
    cases h0
    exact m_Rb.retb b_38 d_38_78 rfl e90 ⟨rfl, h88, f88⟩
def D_c_Reader_readNumber_12 (F : Nat) : Nat → Nat → Int32 → Int32 → Int32 → tT → Option (Int32 × tT)
  | 0, _, _, _, _, _ => none
  | n + 1, x0, x1, x2, x3, T => cond (m_c2 .ge x3 (5 : Int32)) (D_c_Reader_readNumber_62 F x0 x1 x2 T) ((tcl T x0 1).bind fun _ => (D_c_Reader_here F x0 T).bind fun v9 => (D_c_Reader_isDigit F v9 T).bind fun v12 => cond (m_c1 .eq v12) (D_c_Reader_readNumber_62 F x0 x1 x2 T) ((tgi T x0 1 9).bind fun v16 => (tcl T x0 1).bind fun _ => (D_c_Reader_here F x0 T).bind fun v20 => (tpi T x0 1 9 (((10 : Int32) * v16) + (v20 - (48 : Int32)))).bind fun T23 => (tgi T23 x0 1 2).bind fun v26 => (tpi T23 x0 1 2 (v26 + (1 : Int32))).bind fun T28 => D_c_Reader_readNumber_12 F n x0 x1 x2 (x3 + Int32.ofInt 1) T28))
theorem T_c_Reader_readNumber_12 {l : Launch} {w0 : List mM} {F : Nat} : ∀ (n : Nat) {x0 : Nat} {x1 : Int32} {x2 : Int32} {x3 : Int32} {T : tT} {w : List mM} {y9 : Int32} {T9 : tT}, okr T.2.1 (some x0) → RT T w → m_Fm w0 w → D_c_Reader_readNumber_12 F n x0 x1 x2 x3 T = some (y9, T9) → m_Rb l M_38 (12, [(0, .ref x0), (1, .int x1), (2, .int x2), (3, .int x3)], [], w) (fun v w' => v = some (.int y9) ∧ RT T9 w' ∧ m_Fm w0 w') T T9 1 100 := by
  intro n
  induction n with
  | zero => intro x0 x1 x2 x3 T w y9 T9 hx0 h hF h0; cases h0
  | succ n ih =>
    intro x0 x1 x2 x3 T w y9 T9 hx0 h hF h0
    rw [D_c_Reader_readNumber_12] at h0
    refine m_Rb.n0 b_38 (x_iload_n d_38_12 rfl) ?_
    refine m_Rb.n0 b_38 (x_iconst (z := 5) d_38_13 (by decide)) ?_
    cases hc6 : m_c2 .ge x3 (5 : Int32) with
    | true =>
      have h0 := cT hc6 h0
      refine m_Rb.n0 b_38 (x_ict d_38_14 rfl hc6) ?_
      exact m_Rb.pick [0, 1, 2] rfl (T_c_Reader_readNumber_62 hx0 h hF h0)
    | false =>
      have h0 := cF hc6 h0
      refine m_Rb.n0 b_38 (x_icf d_38_14 rfl hc6) ?_
      refine m_Rb.n0 b_38 (x_aload_n d_38_17 rfl) ?_
      obtain ⟨_, e7, h0⟩ := bS h0
      obtain ⟨_, g8⟩ := RT.cls h e7
      obtain ⟨v9, e10, h0⟩ := bS h0
      refine m_Rb.callI b_38 (y_cv d_38_18 rfl q_22 (m_isRecv_of rfl g8) (show m_takeI _ _ = some (_, [_], []) from m_takeI_of rfl rfl rfl (Nat.le_of_ble_eq_true rfl)) (by simp only [m_okf, List.all_cons, List.all_nil, Bool.and_true, Bool.and_self, m_okv_i, m_okv_l, m_okv_0, m_okv_n0, m_okv_t, RT.okn h hx0]) rfl) (T_c_Reader_here hx0 h e10) hF rfl (fun w11 h11 f11 k11 => ?_) (by decide) (by decide)
      obtain ⟨v12, e13, h0⟩ := bS h0
      refine m_Rb.callI b_38 (y_cs d_38_21 rfl q_39 (show m_takeS _ _ = some (_, [_], []) from m_takeS_of (Nat.le_of_ble_eq_true rfl) rfl rfl (Nat.le_of_ble_eq_true rfl)) (by simp only [m_okf, List.all_cons, List.all_nil, Bool.and_true, Bool.and_self, m_okv_i, m_okv_l, m_okv_0, m_okv_n0, m_okv_t, RT.okn h11 hx0]) rfl) (T_c_Reader_isDigit h11 e13) f11 rfl (fun w14 h14 f14 k14 => ?_) (by decide) (by decide)
      cases hc15 : m_c1 .eq v12 with
      | true =>
        have h0 := cT hc15 h0
        refine m_Rb.n0 b_38 (x_ift d_38_24 rfl hc15) ?_
        exact m_Rb.pick [0, 1, 2] rfl (T_c_Reader_readNumber_62 hx0 h14 f14 h0)
      | false =>
        have h0 := cF hc15 h0
        refine m_Rb.n0 b_38 (x_iff d_38_24 rfl hc15) ?_
        refine m_Rb.n0 b_38 (x_aload_n d_38_27 rfl) ?_
        refine m_Rb.n0 b_38 (x_bipush (z := 10) d_38_28 (by decide)) ?_
        refine m_Rb.n0 b_38 (x_aload_n d_38_30 rfl) ?_
        obtain ⟨v16, e17, h0⟩ := bS h0
        refine m_Rb.tgetI b_38 d_38_31 rfl h14 e17 ?_
        refine m_Rb.n0 b_38 (x_imul d_38_34 rfl) ?_
        refine m_Rb.n0 b_38 (x_aload_n d_38_35 rfl) ?_
        obtain ⟨_, e18, h0⟩ := bS h0
        obtain ⟨_, g19⟩ := RT.cls h14 e18
        obtain ⟨v20, e21, h0⟩ := bS h0
        refine m_Rb.callI b_38 (y_cv d_38_36 rfl q_22 (m_isRecv_of rfl g19) (show m_takeI _ _ = some (_, [_], [_, _]) from m_takeI_of rfl rfl rfl (Nat.le_of_ble_eq_true rfl)) (by simp only [m_okf, List.all_cons, List.all_nil, Bool.and_true, Bool.and_self, m_okv_i, m_okv_l, m_okv_0, m_okv_n0, m_okv_t, RT.okn h14 hx0]) rfl) (T_c_Reader_here hx0 h14 e21) f14 rfl (fun w22 h22 f22 k22 => ?_) (by decide) (by decide)
        refine m_Rb.n0 b_38 (x_bipush (z := 48) d_38_39 (by decide)) ?_
        refine m_Rb.n0 b_38 (x_isub d_38_41 rfl) ?_
        refine m_Rb.n0 b_38 (x_iadd d_38_42 rfl) ?_
        obtain ⟨T23, e24, h0⟩ := bS h0
        refine m_Rb.tputI b_38 d_38_43 rfl rfl (by decide) h22 f22 e24 (fun w25 h25 f25 k25 => ?_)
        refine m_Rb.n0 b_38 (x_aload_n d_38_46 rfl) ?_
        refine m_Rb.n0 b_38 (x_dup d_38_47 rfl) ?_
        obtain ⟨v26, e27, h0⟩ := bS h0
        refine m_Rb.tgetI b_38 d_38_48 rfl h25 e27 ?_
        refine m_Rb.n0 b_38 (x_iconst (z := 1) d_38_51 (by decide)) ?_
        refine m_Rb.n0 b_38 (x_iadd d_38_52 rfl) ?_
        obtain ⟨T28, e29, h0⟩ := bS h0
        refine m_Rb.tputI b_38 d_38_53 rfl rfl (by decide) h25 f25 e29 (fun w30 h30 f30 k30 => ?_)
        refine m_Rb.n0 b_38 (x_iinc d_38_56 rfl rfl rfl (show m_put1 _ _ _ = [(3, _), (0, _), (1, _), (2, _)] from rfl)) ?_
        refine m_Rb.n0 b_38 (x_goto d_38_59 rfl) ?_
        exact m_Rb.pick [1, 2, 3, 0] rfl (ih (okm (okm hx0 k25) k30) h30 f30 h0)
def D_c_Reader_readNumber (F : Nat) (a0 : Nat) (p0 : Int32) (T : tT) : Option (Int32 × tT) := (tgi T a0 1 2).bind fun v1 => (tpi T a0 1 9 (0 : Int32)).bind fun T3 => D_c_Reader_readNumber_12 F F a0 p0 v1 (0 : Int32) T3
theorem T_c_Reader_readNumber {l : Launch} {w : List mM} {F : Nat} {a0 : Nat} {p0 : Int32} {T : tT} {y9 : Int32} {T9 : tT} (ha0 : okr T.2.1 (some a0)) (h : RT T w) (h0 : D_c_Reader_readNumber F a0 p0 T = some (y9, T9)) : m_Rb l M_38 (m_ent M_38 [.ref a0, .int p0] w) (fun v w' => v = some (.int y9) ∧ RT T9 w' ∧ m_Fm w w') T T9 1 100 := by
  rw [show m_ent M_38 [.ref a0, .int p0] w = (0, [(0, .ref a0), (1, .int p0)], [], w) from by first | rfl | (simp only [m_ent, lv_args_r, lv_args_a, lv_args_i, lv_args_l, lv_args_0]; done) | (simp only [m_ent, lv_args_r, lv_args_a, lv_args_i, lv_args_l, lv_args_0]; rfl)]
  generalize hw0 : w = w0 at h ⊢
  have hF : m_Fm w0 w0 := m_Fm.refl
  rw [D_c_Reader_readNumber] at h0
  refine m_Rb.n0 b_38 (x_aload_n d_38_0 rfl) ?_
  obtain ⟨v1, e2, h0⟩ := bS h0
  refine m_Rb.tgetI b_38 d_38_1 rfl h e2 ?_
  refine m_Rb.n0 b_38 (x_istore_n d_38_4 rfl (show m_put1 _ _ _ = [(2, _), (0, _), (1, _)] from rfl)) ?_
  refine m_Rb.n0 b_38 (x_aload_n d_38_5 rfl) ?_
  refine m_Rb.n0 b_38 (x_iconst (z := 0) d_38_6 (by decide)) ?_
  obtain ⟨T3, e4, h0⟩ := bS h0
  refine m_Rb.tputI b_38 d_38_7 rfl rfl (by decide) h hF e4 (fun w5 h5 f5 k5 => ?_)
  refine m_Rb.n0 b_38 (x_iconst (z := 0) d_38_10 (by decide)) ?_
  refine m_Rb.n0 b_38 (x_istore_n d_38_11 rfl (show m_put1 _ _ _ = [(3, _), (2, _), (0, _), (1, _)] from rfl)) ?_
  exact m_Rb.pick [2, 3, 1, 0] rfl (T_c_Reader_readNumber_12 F (okm ha0 k5) h5 f5 h0)
def D_c_Reader_readTarget_74 (F : Nat) (x0 : Nat) (T : tT) : Option (Int32 × tT) := (tcl T x0 1).bind fun _ => bd2 (D_c_Reader_expect F x0 (10 : Int32) T) fun v49 T50 => (bret v49).bind fun v53 => some (v53, T50)
theorem T_c_Reader_readTarget_74 {l : Launch} {w0 : List mM} {F : Nat} {x0 : Nat} {T : tT} {w : List mM} {y9 : Int32} {T9 : tT} (hx0 : okr T.2.1 (some x0)) (h : RT T w) (hF : m_Fm w0 w) (h0 : D_c_Reader_readTarget_74 F x0 T = some (y9, T9)) : m_Rb l M_37 (74, [(0, .ref x0)], [], w) (fun v w' => v = some (.int y9) ∧ RT T9 w' ∧ m_Fm w0 w') T T9 2 200 := by
  rw [D_c_Reader_readTarget_74] at h0
  refine m_Rb.n0 b_37 (x_aload_n d_37_74 rfl) ?_
  refine m_Rb.n0 b_37 (x_bipush (z := 10) d_37_75 (by decide)) ?_
  obtain ⟨_, e47, h0⟩ := bS h0
  obtain ⟨_, g48⟩ := RT.cls h e47
  obtain ⟨v49, T50, e51, h0⟩ := bS2 h0
  refine m_Rb.callI b_37 (y_cv d_37_77 rfl q_35 (m_isRecv_of rfl g48) (show m_takeI _ _ = some (_, [_, _], []) from m_takeI_of rfl rfl rfl (Nat.le_of_ble_eq_true rfl)) (by simp only [m_okf, List.all_cons, List.all_nil, Bool.and_true, Bool.and_self, m_okv_i, m_okv_l, m_okv_0, m_okv_n0, m_okv_t, RT.okn h hx0]) rfl) (T_c_Reader_expect hx0 h e51) hF rfl (fun w52 h52 f52 k52 => ?_) (by decide) (by decide)
  obtain ⟨v53, e54, h0⟩ := bS h0
  cases h0
  exact m_Rb.retb b_37 d_37_80 rfl e54 ⟨rfl, h52, f52⟩
def D_c_Reader_readTarget (F : Nat) (a0 : Nat) (p0 : Int32) (T : tT) : Option (Int32 × tT) := (tcl T a0 1).bind fun _ => bd2 (D_c_Reader_expect F a0 (47 : Int32) T) fun v3 T4 => cond (m_c1 .eq v3) (some ((0 : Int32), T4)) ((tcl T4 a0 1).bind fun _ => bd2 (D_c_Reader_readNumber F a0 (31 : Int32) T4) fun v10 T11 => cond (m_c1 .ne v10) ((tgi T11 a0 1 9).bind fun v15 => (tpi T11 a0 1 10 v15).bind fun T17 => (tpi T17 a0 1 11 (0 : Int32)).bind fun T20 => cond (m_c1 .eq p0) (D_c_Reader_readTarget_74 F a0 T20) ((tcl T20 a0 1).bind fun _ => (D_c_Reader_here F a0 T20).bind fun v26 => cond (m_c2 .ne v26 (47 : Int32)) (D_c_Reader_readTarget_74 F a0 T20) ((tgi T20 a0 1 2).bind fun v30 => (tpi T20 a0 1 2 (v30 + (1 : Int32))).bind fun T32 => (tcl T32 a0 1).bind fun _ => bd2 (D_c_Reader_readNumber F a0 (3 : Int32) T32) fun v37 T38 => cond (m_c1 .ne v37) ((tgi T38 a0 1 9).bind fun v42 => (tpi T38 a0 1 11 v42).bind fun T44 => D_c_Reader_readTarget_74 F a0 T44) (some ((0 : Int32), T38))))) (some ((0 : Int32), T11)))
theorem T_c_Reader_readTarget {l : Launch} {w : List mM} {F : Nat} {a0 : Nat} {p0 : Int32} {T : tT} {y9 : Int32} {T9 : tT} (ha0 : okr T.2.1 (some a0)) (h : RT T w) (h0 : D_c_Reader_readTarget F a0 p0 T = some (y9, T9)) : m_Rb l M_37 (m_ent M_37 [.ref a0, .int p0] w) (fun v w' => v = some (.int y9) ∧ RT T9 w' ∧ m_Fm w w') T T9 2 200 := by
  rw [show m_ent M_37 [.ref a0, .int p0] w = (0, [(0, .ref a0), (1, .int p0)], [], w) from by first | rfl | (simp only [m_ent, lv_args_r, lv_args_a, lv_args_i, lv_args_l, lv_args_0]; done) | (simp only [m_ent, lv_args_r, lv_args_a, lv_args_i, lv_args_l, lv_args_0]; rfl)]
  generalize hw0 : w = w0 at h ⊢
  have hF : m_Fm w0 w0 := m_Fm.refl
  rw [D_c_Reader_readTarget] at h0
  refine m_Rb.n0 b_37 (x_aload_n d_37_0 rfl) ?_
  refine m_Rb.n0 b_37 (x_bipush (z := 47) d_37_1 (by decide)) ?_
  obtain ⟨_, e1, h0⟩ := bS h0
  obtain ⟨_, g2⟩ := RT.cls h e1
  obtain ⟨v3, T4, e5, h0⟩ := bS2 h0
  refine m_Rb.callI b_37 (y_cv d_37_3 rfl q_35 (m_isRecv_of rfl g2) (show m_takeI _ _ = some (_, [_, _], []) from m_takeI_of rfl rfl rfl (Nat.le_of_ble_eq_true rfl)) (by simp only [m_okf, List.all_cons, List.all_nil, Bool.and_true, Bool.and_self, m_okv_i, m_okv_l, m_okv_0, m_okv_n0, m_okv_t, RT.okn h ha0]) rfl) (T_c_Reader_expect ha0 h e5) hF rfl (fun w6 h6 f6 k6 => ?_) (by decide) (by decide)
  cases hc7 : m_c1 .eq v3 with
  | true =>
    have h0 := cT hc7 h0
    refine m_Rb.n0 b_37 (x_ift d_37_6 rfl hc7) ?_
    refine m_Rb.n0 b_37 (x_iconst (z := 0) d_37_18 (by decide)) ?_
    cases h0
    exact m_Rb.ret b_37 (m_rt_ir d_37_19 rfl m_nb0) ⟨rfl, h6, f6⟩
  | false =>
    have h0 := cF hc7 h0
    refine m_Rb.n0 b_37 (x_iff d_37_6 rfl hc7) ?_
    refine m_Rb.n0 b_37 (x_aload_n d_37_9 rfl) ?_
    refine m_Rb.n0 b_37 (x_bipush (z := 31) d_37_10 (by decide)) ?_
    obtain ⟨_, e8, h0⟩ := bS h0
    obtain ⟨_, g9⟩ := RT.cls h6 e8
    obtain ⟨v10, T11, e12, h0⟩ := bS2 h0
    refine m_Rb.callI b_37 (y_cv d_37_12 rfl q_38 (m_isRecv_of rfl g9) (show m_takeI _ _ = some (_, [_, _], []) from m_takeI_of rfl rfl rfl (Nat.le_of_ble_eq_true rfl)) (by simp only [m_okf, List.all_cons, List.all_nil, Bool.and_true, Bool.and_self, m_okv_i, m_okv_l, m_okv_0, m_okv_n0, m_okv_t, RT.okn h6 (okm ha0 k6)]) rfl) (T_c_Reader_readNumber (okm ha0 k6) h6 e12) f6 rfl (fun w13 h13 f13 k13 => ?_) (by decide) (by decide)
    cases hc14 : m_c1 .ne v10 with
    | true =>
      have h0 := cT hc14 h0
      refine m_Rb.n0 b_37 (x_ift d_37_15 rfl hc14) ?_
      refine m_Rb.n0 b_37 (x_aload_n d_37_20 rfl) ?_
      refine m_Rb.n0 b_37 (x_aload_n d_37_21 rfl) ?_
      obtain ⟨v15, e16, h0⟩ := bS h0
      refine m_Rb.tgetI b_37 d_37_22 rfl h13 e16 ?_
      obtain ⟨T17, e18, h0⟩ := bS h0
      refine m_Rb.tputI b_37 d_37_25 rfl rfl (by decide) h13 f13 e18 (fun w19 h19 f19 k19 => ?_)
      refine m_Rb.n0 b_37 (x_aload_n d_37_28 rfl) ?_
      refine m_Rb.n0 b_37 (x_iconst (z := 0) d_37_29 (by decide)) ?_
      obtain ⟨T20, e21, h0⟩ := bS h0
      refine m_Rb.tputI b_37 d_37_30 rfl rfl (by decide) h19 f19 e21 (fun w22 h22 f22 k22 => ?_)
      refine m_Rb.n0 b_37 (x_iload_n d_37_33 rfl) ?_
      cases hc23 : m_c1 .eq p0 with
      | true =>
        have h0 := cT hc23 h0
        refine m_Rb.n0 b_37 (x_ift d_37_34 rfl hc23) ?_
        exact m_Rb.pick [0] rfl (T_c_Reader_readTarget_74 (okm (okm (okm (okm ha0 k6) k13) k19) k22) h22 f22 h0)
      | false =>
        have h0 := cF hc23 h0
        refine m_Rb.n0 b_37 (x_iff d_37_34 rfl hc23) ?_
        refine m_Rb.n0 b_37 (x_aload_n d_37_37 rfl) ?_
        obtain ⟨_, e24, h0⟩ := bS h0
        obtain ⟨_, g25⟩ := RT.cls h22 e24
        obtain ⟨v26, e27, h0⟩ := bS h0
        refine m_Rb.callI b_37 (y_cv d_37_38 rfl q_22 (m_isRecv_of rfl g25) (show m_takeI _ _ = some (_, [_], []) from m_takeI_of rfl rfl rfl (Nat.le_of_ble_eq_true rfl)) (by simp only [m_okf, List.all_cons, List.all_nil, Bool.and_true, Bool.and_self, m_okv_i, m_okv_l, m_okv_0, m_okv_n0, m_okv_t, RT.okn h22 (okm (okm (okm (okm ha0 k6) k13) k19) k22)]) rfl) (T_c_Reader_here (okm (okm (okm (okm ha0 k6) k13) k19) k22) h22 e27) f22 rfl (fun w28 h28 f28 k28 => ?_) (by decide) (by decide)
        refine m_Rb.n0 b_37 (x_bipush (z := 47) d_37_41 (by decide)) ?_
        cases hc29 : m_c2 .ne v26 (47 : Int32) with
        | true =>
          have h0 := cT hc29 h0
          refine m_Rb.n0 b_37 (x_ict d_37_43 rfl hc29) ?_
          exact m_Rb.pick [0] rfl (T_c_Reader_readTarget_74 (okm (okm (okm (okm ha0 k6) k13) k19) k22) h28 f28 h0)
        | false =>
          have h0 := cF hc29 h0
          refine m_Rb.n0 b_37 (x_icf d_37_43 rfl hc29) ?_
          refine m_Rb.n0 b_37 (x_aload_n d_37_46 rfl) ?_
          refine m_Rb.n0 b_37 (x_dup d_37_47 rfl) ?_
          obtain ⟨v30, e31, h0⟩ := bS h0
          refine m_Rb.tgetI b_37 d_37_48 rfl h28 e31 ?_
          refine m_Rb.n0 b_37 (x_iconst (z := 1) d_37_51 (by decide)) ?_
          refine m_Rb.n0 b_37 (x_iadd d_37_52 rfl) ?_
          obtain ⟨T32, e33, h0⟩ := bS h0
          refine m_Rb.tputI b_37 d_37_53 rfl rfl (by decide) h28 f28 e33 (fun w34 h34 f34 k34 => ?_)
          refine m_Rb.n0 b_37 (x_aload_n d_37_56 rfl) ?_
          refine m_Rb.n0 b_37 (x_iconst (z := 3) d_37_57 (by decide)) ?_
          obtain ⟨_, e35, h0⟩ := bS h0
          obtain ⟨_, g36⟩ := RT.cls h34 e35
          obtain ⟨v37, T38, e39, h0⟩ := bS2 h0
          refine m_Rb.callI b_37 (y_cv d_37_58 rfl q_38 (m_isRecv_of rfl g36) (show m_takeI _ _ = some (_, [_, _], []) from m_takeI_of rfl rfl rfl (Nat.le_of_ble_eq_true rfl)) (by simp only [m_okf, List.all_cons, List.all_nil, Bool.and_true, Bool.and_self, m_okv_i, m_okv_l, m_okv_0, m_okv_n0, m_okv_t, RT.okn h34 (okm (okm (okm (okm (okm ha0 k6) k13) k19) k22) k34)]) rfl) (T_c_Reader_readNumber (okm (okm (okm (okm (okm ha0 k6) k13) k19) k22) k34) h34 e39) f34 rfl (fun w40 h40 f40 k40 => ?_) (by decide) (by decide)
          cases hc41 : m_c1 .ne v37 with
          | true =>
            have h0 := cT hc41 h0
            refine m_Rb.n0 b_37 (x_ift d_37_61 rfl hc41) ?_
            refine m_Rb.n0 b_37 (x_aload_n d_37_66 rfl) ?_
            refine m_Rb.n0 b_37 (x_aload_n d_37_67 rfl) ?_
            obtain ⟨v42, e43, h0⟩ := bS h0
            refine m_Rb.tgetI b_37 d_37_68 rfl h40 e43 ?_
            obtain ⟨T44, e45, h0⟩ := bS h0
            refine m_Rb.tputI b_37 d_37_71 rfl rfl (by decide) h40 f40 e45 (fun w46 h46 f46 k46 => ?_)
            exact m_Rb.pick [0] rfl (T_c_Reader_readTarget_74 (okm (okm (okm (okm (okm (okm (okm ha0 k6) k13) k19) k22) k34) k40) k46) h46 f46 h0)
          | false =>
            have h0 := cF hc41 h0
            refine m_Rb.n0 b_37 (x_iff d_37_61 rfl hc41) ?_
            refine m_Rb.n0 b_37 (x_iconst (z := 0) d_37_64 (by decide)) ?_
            cases h0
            exact m_Rb.ret b_37 (m_rt_ir d_37_65 rfl m_nb0) ⟨rfl, h40, f40⟩
    | false =>
      have h0 := cF hc14 h0
      refine m_Rb.n0 b_37 (x_iff d_37_15 rfl hc14) ?_
      refine m_Rb.n0 b_37 (x_iconst (z := 0) d_37_18 (by decide)) ?_
      cases h0
      exact m_Rb.ret b_37 (m_rt_ir d_37_19 rfl m_nb0) ⟨rfl, h13, f13⟩
def D_c_Reader_skipLetters_38 (F : Nat) (rec0 : Nat → tT → Option (tT)) (x0 : Nat) (T : tT) : Option (tT) := (tgi T x0 1 2).bind fun v24 => (tpi T x0 1 2 (v24 + (1 : Int32))).bind fun T26 => rec0 x0 T26
theorem T_c_Reader_skipLetters_38 {l : Launch} {w0 : List mM} {F : Nat} {rec0 : Nat → tT → Option (tT)} (hr0 : ∀ {x0 : Nat} {T : tT} {w : List mM} {T9 : tT}, okr T.2.1 (some x0) → RT T w → m_Fm w0 w → rec0 x0 T = some T9 → m_Rb l M_41 (0, [(0, .ref x0)], [], w) (fun v w' => v = none ∧ RT T9 w' ∧ m_Fm w0 w') T T9 1 100) {x0 : Nat} {T : tT} {w : List mM} {T9 : tT} (hx0 : okr T.2.1 (some x0)) (h : RT T w) (hF : m_Fm w0 w) (h0 : D_c_Reader_skipLetters_38 F rec0 x0 T = some T9) : m_Rb l M_41 (38, [(0, .ref x0)], [], w) (fun v w' => v = none ∧ RT T9 w' ∧ m_Fm w0 w') T T9 1 100 := by
  rw [D_c_Reader_skipLetters_38] at h0
  refine m_Rb.n0 b_41 (x_aload_n d_41_38 rfl) ?_
  refine m_Rb.n0 b_41 (x_dup d_41_39 rfl) ?_
  obtain ⟨v24, e25, h0⟩ := bS h0
  refine m_Rb.tgetI b_41 d_41_40 rfl h e25 ?_
  refine m_Rb.n0 b_41 (x_iconst (z := 1) d_41_43 (by decide)) ?_
  refine m_Rb.n0 b_41 (x_iadd d_41_44 rfl) ?_
  obtain ⟨T26, e27, h0⟩ := bS h0
  refine m_Rb.tputI b_41 d_41_45 rfl rfl (by decide) h hF e27 (fun w28 h28 f28 k28 => ?_)
  refine m_Rb.n0 b_41 (x_goto d_41_48 rfl) ?_
  exact m_Rb.pick [0] rfl (hr0 (okm hx0 k28) h28 f28 h0)
def D_c_Reader_skipLetters_0 (F : Nat) : Nat → Nat → tT → Option (tT)
  | 0, _, _ => none
  | n + 1, x0, T => (tgi T x0 1 2).bind fun v1 => (tgi T x0 1 1).bind fun v3 => cond (m_c2 .ge v1 v3) (some T) ((tcl T x0 1).bind fun _ => (D_c_Reader_here F x0 T).bind fun v8 => cond (m_c2 .eq v8 (45 : Int32)) (D_c_Reader_skipLetters_38 F (D_c_Reader_skipLetters_0 F n) x0 T) ((tcl T x0 1).bind fun _ => (D_c_Reader_here F x0 T).bind fun v14 => cond (m_c2 .lt v14 (97 : Int32)) (some T) ((tcl T x0 1).bind fun _ => (D_c_Reader_here F x0 T).bind fun v20 => cond (m_c2 .gt v20 (122 : Int32)) (some T) (D_c_Reader_skipLetters_38 F (D_c_Reader_skipLetters_0 F n) x0 T))))
theorem T_c_Reader_skipLetters_0 {l : Launch} {w0 : List mM} {F : Nat} : ∀ (n : Nat) {x0 : Nat} {T : tT} {w : List mM} {T9 : tT}, okr T.2.1 (some x0) → RT T w → m_Fm w0 w → D_c_Reader_skipLetters_0 F n x0 T = some T9 → m_Rb l M_41 (0, [(0, .ref x0)], [], w) (fun v w' => v = none ∧ RT T9 w' ∧ m_Fm w0 w') T T9 1 100 := by
  intro n
  induction n with
  | zero => intro x0 T w T9 hx0 h hF h0; cases h0
  | succ n ih =>
    intro x0 T w T9 hx0 h hF h0
    rw [D_c_Reader_skipLetters_0] at h0
    refine m_Rb.n0 b_41 (x_aload_n d_41_0 rfl) ?_
    obtain ⟨v1, e2, h0⟩ := bS h0
    refine m_Rb.tgetI b_41 d_41_1 rfl h e2 ?_
    refine m_Rb.n0 b_41 (x_aload_n d_41_4 rfl) ?_
    obtain ⟨v3, e4, h0⟩ := bS h0
    refine m_Rb.tgetI b_41 d_41_5 rfl h e4 ?_
    cases hc5 : m_c2 .ge v1 v3 with
    | true =>
      have h0 := cT hc5 h0
      refine m_Rb.n0 b_41 (x_ict d_41_8 rfl hc5) ?_
      cases h0
      exact m_Rb.ret b_41 (m_rt_vr d_41_51 rfl) ⟨rfl, h, hF⟩
    | false =>
      have h0 := cF hc5 h0
      refine m_Rb.n0 b_41 (x_icf d_41_8 rfl hc5) ?_
      refine m_Rb.n0 b_41 (x_aload_n d_41_11 rfl) ?_
      obtain ⟨_, e6, h0⟩ := bS h0
      obtain ⟨_, g7⟩ := RT.cls h e6
      obtain ⟨v8, e9, h0⟩ := bS h0
      refine m_Rb.callI b_41 (y_cv d_41_12 rfl q_22 (m_isRecv_of rfl g7) (show m_takeI _ _ = some (_, [_], []) from m_takeI_of rfl rfl rfl (Nat.le_of_ble_eq_true rfl)) (by simp only [m_okf, List.all_cons, List.all_nil, Bool.and_true, Bool.and_self, m_okv_i, m_okv_l, m_okv_0, m_okv_n0, m_okv_t, RT.okn h hx0]) rfl) (T_c_Reader_here hx0 h e9) hF rfl (fun w10 h10 f10 k10 => ?_) (by decide) (by decide)
      refine m_Rb.n0 b_41 (x_bipush (z := 45) d_41_15 (by decide)) ?_
      cases hc11 : m_c2 .eq v8 (45 : Int32) with
      | true =>
        have h0 := cT hc11 h0
        refine m_Rb.n0 b_41 (x_ict d_41_17 rfl hc11) ?_
        exact m_Rb.pick [0] rfl (T_c_Reader_skipLetters_38 ih hx0 h10 f10 h0)
      | false =>
        have h0 := cF hc11 h0
        refine m_Rb.n0 b_41 (x_icf d_41_17 rfl hc11) ?_
        refine m_Rb.n0 b_41 (x_aload_n d_41_20 rfl) ?_
        obtain ⟨_, e12, h0⟩ := bS h0
        obtain ⟨_, g13⟩ := RT.cls h10 e12
        obtain ⟨v14, e15, h0⟩ := bS h0
        refine m_Rb.callI b_41 (y_cv d_41_21 rfl q_22 (m_isRecv_of rfl g13) (show m_takeI _ _ = some (_, [_], []) from m_takeI_of rfl rfl rfl (Nat.le_of_ble_eq_true rfl)) (by simp only [m_okf, List.all_cons, List.all_nil, Bool.and_true, Bool.and_self, m_okv_i, m_okv_l, m_okv_0, m_okv_n0, m_okv_t, RT.okn h10 hx0]) rfl) (T_c_Reader_here hx0 h10 e15) f10 rfl (fun w16 h16 f16 k16 => ?_) (by decide) (by decide)
        refine m_Rb.n0 b_41 (x_bipush (z := 97) d_41_24 (by decide)) ?_
        cases hc17 : m_c2 .lt v14 (97 : Int32) with
        | true =>
          have h0 := cT hc17 h0
          refine m_Rb.n0 b_41 (x_ict d_41_26 rfl hc17) ?_
          cases h0
          exact m_Rb.ret b_41 (m_rt_vr d_41_51 rfl) ⟨rfl, h16, f16⟩
        | false =>
          have h0 := cF hc17 h0
          refine m_Rb.n0 b_41 (x_icf d_41_26 rfl hc17) ?_
          refine m_Rb.n0 b_41 (x_aload_n d_41_29 rfl) ?_
          obtain ⟨_, e18, h0⟩ := bS h0
          obtain ⟨_, g19⟩ := RT.cls h16 e18
          obtain ⟨v20, e21, h0⟩ := bS h0
          refine m_Rb.callI b_41 (y_cv d_41_30 rfl q_22 (m_isRecv_of rfl g19) (show m_takeI _ _ = some (_, [_], []) from m_takeI_of rfl rfl rfl (Nat.le_of_ble_eq_true rfl)) (by simp only [m_okf, List.all_cons, List.all_nil, Bool.and_true, Bool.and_self, m_okv_i, m_okv_l, m_okv_0, m_okv_n0, m_okv_t, RT.okn h16 hx0]) rfl) (T_c_Reader_here hx0 h16 e21) f16 rfl (fun w22 h22 f22 k22 => ?_) (by decide) (by decide)
          refine m_Rb.n0 b_41 (x_bipush (z := 122) d_41_33 (by decide)) ?_
          cases hc23 : m_c2 .gt v20 (122 : Int32) with
          | true =>
            have h0 := cT hc23 h0
            refine m_Rb.n0 b_41 (x_ict d_41_35 rfl hc23) ?_
            cases h0
            exact m_Rb.ret b_41 (m_rt_vr d_41_51 rfl) ⟨rfl, h22, f22⟩
          | false =>
            have h0 := cF hc23 h0
            refine m_Rb.n0 b_41 (x_icf d_41_35 rfl hc23) ?_
            exact m_Rb.pick [0] rfl (T_c_Reader_skipLetters_38 ih hx0 h22 f22 h0)
def D_c_Reader_skipLetters (F : Nat) (a0 : Nat) (T : tT) : Option (tT) := D_c_Reader_skipLetters_0 F F a0 T
theorem T_c_Reader_skipLetters {l : Launch} {w : List mM} {F : Nat} {a0 : Nat} {T : tT} {T9 : tT} (ha0 : okr T.2.1 (some a0)) (h : RT T w) (h0 : D_c_Reader_skipLetters F a0 T = some T9) : m_Rb l M_41 (m_ent M_41 [.ref a0] w) (fun v w' => v = none ∧ RT T9 w' ∧ m_Fm w w') T T9 1 100 := by
  rw [show m_ent M_41 [.ref a0] w = (0, [(0, .ref a0)], [], w) from by first | rfl | (simp only [m_ent, lv_args_r, lv_args_a, lv_args_i, lv_args_l, lv_args_0]; done) | (simp only [m_ent, lv_args_r, lv_args_a, lv_args_i, lv_args_l, lv_args_0]; rfl)]
  generalize hw0 : w = w0 at h ⊢
  have hF : m_Fm w0 w0 := m_Fm.refl
  rw [D_c_Reader_skipLetters] at h0
  exact m_Rb.pick [0] rfl (T_c_Reader_skipLetters_0 F ha0 h hF h0)
def D_c_Reader_isSame_3 (F : Nat) : Nat → Nat → Int32 → Int32 → Int32 → Int32 → tT → Option (Int32)
  | 0, _, _, _, _, _, _ => none
  | n + 1, x0, x1, x2, x3, x4, T0 => cond (m_c2 .gt x4 x3) (some (1 : Int32)) ((tgi T0 x0 1 1).bind fun v2 => cond (m_c2 .ge (x1 + x4) v2) (some (0 : Int32)) ((tgi T0 x0 1 1).bind fun v5 => cond (m_c2 .ge (x2 + x4) v5) (some (0 : Int32)) ((tgr T0 x0 1 0).bind fun v8 => (v8).bind fun a11 => (tai T0 a11 2 (x1 + x4)).bind fun v13 => (tgr T0 x0 1 0).bind fun v15 => (v15).bind fun a18 => (tai T0 a18 2 (x2 + x4)).bind fun v20 => cond (m_c2 .eq v13 v20) (D_c_Reader_isSame_3 F n x0 x1 x2 x3 (x4 + Int32.ofInt 1) T0) (some (0 : Int32)))))
theorem T_c_Reader_isSame_3 {l : Launch} {w0 : List mM} {F : Nat} {T0 : tT} : ∀ (n : Nat) {x0 : Nat} {x1 : Int32} {x2 : Int32} {x3 : Int32} {x4 : Int32} {w : List mM} {y9 : Int32}, okr T0.2.1 (some x0) → RT T0 w → m_Fm w0 w → D_c_Reader_isSame_3 F n x0 x1 x2 x3 x4 T0 = some y9 → m_Rb l M_43 (3, [(0, .ref x0), (1, .int x1), (2, .int x2), (3, .int x3), (4, .int x4)], [], w) (fun v w' => v = some (.int y9) ∧ RT T0 w' ∧ m_Fm w0 w') T0 T0 0 0 := by
  intro n
  induction n with
  | zero => intro x0 x1 x2 x3 x4 w y9 hx0 h hF h0; cases h0
  | succ n ih =>
    intro x0 x1 x2 x3 x4 w y9 hx0 h hF h0
    rw [D_c_Reader_isSame_3] at h0
    refine m_Rb.n0 b_43 (x_iload d_43_3 rfl) ?_
    refine m_Rb.n0 b_43 (x_iload_n d_43_5 rfl) ?_
    cases hc1 : m_c2 .gt x4 x3 with
    | true =>
      have h0 := cT hc1 h0
      refine m_Rb.n0 b_43 (x_ict d_43_6 rfl hc1) ?_
      refine m_Rb.n0 b_43 (x_iconst (z := 1) d_43_60 (by decide)) ?_
      cases h0
      exact m_Rb.ret b_43 (m_rt_ir d_43_61 rfl m_nb1) ⟨rfl, h, hF⟩
    | false =>
      have h0 := cF hc1 h0
      refine m_Rb.n0 b_43 (x_icf d_43_6 rfl hc1) ?_
      refine m_Rb.n0 b_43 (x_iload_n d_43_9 rfl) ?_
      refine m_Rb.n0 b_43 (x_iload d_43_10 rfl) ?_
      refine m_Rb.n0 b_43 (x_iadd d_43_12 rfl) ?_
      refine m_Rb.n0 b_43 (x_aload_n d_43_13 rfl) ?_
      obtain ⟨v2, e3, h0⟩ := bS h0
      refine m_Rb.tgetI b_43 d_43_14 rfl h e3 ?_
      cases hc4 : m_c2 .ge (x1 + x4) v2 with
      | true =>
        have h0 := cT hc4 h0
        refine m_Rb.n0 b_43 (x_ict d_43_17 rfl hc4) ?_
        refine m_Rb.n0 b_43 (x_iconst (z := 0) d_43_52 (by decide)) ?_
        cases h0
        exact m_Rb.ret b_43 (m_rt_ir d_43_53 rfl m_nb0) ⟨rfl, h, hF⟩
      | false =>
        have h0 := cF hc4 h0
        refine m_Rb.n0 b_43 (x_icf d_43_17 rfl hc4) ?_
        refine m_Rb.n0 b_43 (x_iload_n d_43_20 rfl) ?_
        refine m_Rb.n0 b_43 (x_iload d_43_21 rfl) ?_
        refine m_Rb.n0 b_43 (x_iadd d_43_23 rfl) ?_
        refine m_Rb.n0 b_43 (x_aload_n d_43_24 rfl) ?_
        obtain ⟨v5, e6, h0⟩ := bS h0
        refine m_Rb.tgetI b_43 d_43_25 rfl h e6 ?_
        cases hc7 : m_c2 .ge (x2 + x4) v5 with
        | true =>
          have h0 := cT hc7 h0
          refine m_Rb.n0 b_43 (x_ict d_43_28 rfl hc7) ?_
          refine m_Rb.n0 b_43 (x_iconst (z := 0) d_43_52 (by decide)) ?_
          cases h0
          exact m_Rb.ret b_43 (m_rt_ir d_43_53 rfl m_nb0) ⟨rfl, h, hF⟩
        | false =>
          have h0 := cF hc7 h0
          refine m_Rb.n0 b_43 (x_icf d_43_28 rfl hc7) ?_
          refine m_Rb.n0 b_43 (x_aload_n d_43_31 rfl) ?_
          obtain ⟨v8, e9, h0⟩ := bS h0
          refine m_Rb.tgetR b_43 d_43_32 rfl h e9 (fun o10 => ?_)
          refine m_Rb.n0 b_43 (x_iload_n d_43_35 rfl) ?_
          refine m_Rb.n0 b_43 (x_iload d_43_36 rfl) ?_
          refine m_Rb.n0 b_43 (x_iadd d_43_38 rfl) ?_
          obtain ⟨a11, e12, h0⟩ := bS h0
          subst e12
          obtain ⟨v13, e14, h0⟩ := bS h0
          refine m_Rb.tgetC b_43 d_43_39 h e14 ?_
          refine m_Rb.n0 b_43 (x_aload_n d_43_40 rfl) ?_
          obtain ⟨v15, e16, h0⟩ := bS h0
          refine m_Rb.tgetR b_43 d_43_41 rfl h e16 (fun o17 => ?_)
          refine m_Rb.n0 b_43 (x_iload_n d_43_44 rfl) ?_
          refine m_Rb.n0 b_43 (x_iload d_43_45 rfl) ?_
          refine m_Rb.n0 b_43 (x_iadd d_43_47 rfl) ?_
          obtain ⟨a18, e19, h0⟩ := bS h0
          subst e19
          obtain ⟨v20, e21, h0⟩ := bS h0
          refine m_Rb.tgetC b_43 d_43_48 h e21 ?_
          cases hc22 : m_c2 .eq v13 v20 with
          | true =>
            have h0 := cT hc22 h0
            refine m_Rb.n0 b_43 (x_ict d_43_49 rfl hc22) ?_
            refine m_Rb.n0 b_43 (x_iinc d_43_54 rfl rfl rfl (show m_put1 _ _ _ = [(4, _), (0, _), (1, _), (2, _), (3, _)] from rfl)) ?_
            refine m_Rb.n0 b_43 (x_goto d_43_57 rfl) ?_
            exact m_Rb.pick [1, 2, 3, 4, 0] rfl (ih hx0 h hF h0)
          | false =>
            have h0 := cF hc22 h0
            refine m_Rb.n0 b_43 (x_icf d_43_49 rfl hc22) ?_
            refine m_Rb.n0 b_43 (x_iconst (z := 0) d_43_52 (by decide)) ?_
            cases h0
            exact m_Rb.ret b_43 (m_rt_ir d_43_53 rfl m_nb0) ⟨rfl, h, hF⟩
def D_c_Reader_isSame (F : Nat) (a0 : Nat) (p0 : Int32) (p1 : Int32) (p2 : Int32) (T0 : tT) : Option (Int32) := D_c_Reader_isSame_3 F F a0 p0 p1 p2 (0 : Int32) T0
theorem T_c_Reader_isSame {l : Launch} {w : List mM} {F : Nat} {a0 : Nat} {p0 : Int32} {p1 : Int32} {p2 : Int32} {T0 : tT} {y9 : Int32} (ha0 : okr T0.2.1 (some a0)) (h : RT T0 w) (h0 : D_c_Reader_isSame F a0 p0 p1 p2 T0 = some y9) : m_Rb l M_43 (m_ent M_43 [.ref a0, .int p0, .int p1, .int p2] w) (fun v w' => v = some (.int y9) ∧ RT T0 w' ∧ m_Fm w w') T0 T0 0 0 := by
  rw [show m_ent M_43 [.ref a0, .int p0, .int p1, .int p2] w = (0, [(0, .ref a0), (1, .int p0), (2, .int p1), (3, .int p2)], [], w) from by first | rfl | (simp only [m_ent, lv_args_r, lv_args_a, lv_args_i, lv_args_l, lv_args_0]; done) | (simp only [m_ent, lv_args_r, lv_args_a, lv_args_i, lv_args_l, lv_args_0]; rfl)]
  generalize hw0 : w = w0 at h ⊢
  have hF : m_Fm w0 w0 := m_Fm.refl
  rw [D_c_Reader_isSame] at h0
  refine m_Rb.n0 b_43 (x_iconst (z := 0) d_43_0 (by decide)) ?_
  refine m_Rb.n0 b_43 (x_istore d_43_1 rfl (show m_put1 _ _ _ = [(4, _), (0, _), (1, _), (2, _), (3, _)] from rfl)) ?_
  exact m_Rb.pick [1, 2, 3, 4, 0] rfl (T_c_Reader_isSame_3 F ha0 h hF h0)
def D_c_Reader_wasThere_2 (F : Nat) : Nat → Nat → Int32 → tT → Option (Int32)
  | 0, _, _, _ => none
  | n + 1, x0, x1, T0 => (tgi T0 x0 1 5).bind fun v1 => cond (m_c2 .ge x1 v1) (some (0 : Int32)) ((tgr T0 x0 1 4).bind fun v4 => (v4).bind fun a7 => (tai T0 a7 0 x1).bind fun v9 => (tgi T0 x0 1 6).bind fun v11 => (tgi T0 x0 1 7).bind fun v13 => (tgi T0 x0 1 6).bind fun v15 => (tcl T0 x0 1).bind fun _ => (D_c_Reader_isSame F x0 v9 v11 (v13 - v15) T0).bind fun v19 => cond (m_c1 .eq v19) (D_c_Reader_wasThere_2 F n x0 (x1 + Int32.ofInt 1) T0) (some (1 : Int32)))
theorem T_c_Reader_wasThere_2 {l : Launch} {w0 : List mM} {F : Nat} {T0 : tT} : ∀ (n : Nat) {x0 : Nat} {x1 : Int32} {w : List mM} {y9 : Int32}, okr T0.2.1 (some x0) → RT T0 w → m_Fm w0 w → D_c_Reader_wasThere_2 F n x0 x1 T0 = some y9 → m_Rb l M_42 (2, [(0, .ref x0), (1, .int x1)], [], w) (fun v w' => v = some (.int y9) ∧ RT T0 w' ∧ m_Fm w0 w') T0 T0 1 100 := by
  intro n
  induction n with
  | zero => intro x0 x1 w y9 hx0 h hF h0; cases h0
  | succ n ih =>
    intro x0 x1 w y9 hx0 h hF h0
    rw [D_c_Reader_wasThere_2] at h0
    refine m_Rb.n0 b_42 (x_iload_n d_42_2 rfl) ?_
    refine m_Rb.n0 b_42 (x_aload_n d_42_3 rfl) ?_
    obtain ⟨v1, e2, h0⟩ := bS h0
    refine m_Rb.tgetI b_42 d_42_4 rfl h e2 ?_
    cases hc3 : m_c2 .ge x1 v1 with
    | true =>
      have h0 := cT hc3 h0
      refine m_Rb.n0 b_42 (x_ict d_42_7 rfl hc3) ?_
      refine m_Rb.n0 b_42 (x_iconst (z := 0) d_42_44 (by decide)) ?_
      cases h0
      exact m_Rb.ret b_42 (m_rt_ir d_42_45 rfl m_nb0) ⟨rfl, h, hF⟩
    | false =>
      have h0 := cF hc3 h0
      refine m_Rb.n0 b_42 (x_icf d_42_7 rfl hc3) ?_
      refine m_Rb.n0 b_42 (x_aload_n d_42_10 rfl) ?_
      refine m_Rb.n0 b_42 (x_aload_n d_42_11 rfl) ?_
      obtain ⟨v4, e5, h0⟩ := bS h0
      refine m_Rb.tgetR b_42 d_42_12 rfl h e5 (fun o6 => ?_)
      refine m_Rb.n0 b_42 (x_iload_n d_42_15 rfl) ?_
      obtain ⟨a7, e8, h0⟩ := bS h0
      subst e8
      obtain ⟨v9, e10, h0⟩ := bS h0
      refine m_Rb.tgetA b_42 d_42_16 h e10 ?_
      refine m_Rb.n0 b_42 (x_aload_n d_42_17 rfl) ?_
      obtain ⟨v11, e12, h0⟩ := bS h0
      refine m_Rb.tgetI b_42 d_42_18 rfl h e12 ?_
      refine m_Rb.n0 b_42 (x_aload_n d_42_21 rfl) ?_
      obtain ⟨v13, e14, h0⟩ := bS h0
      refine m_Rb.tgetI b_42 d_42_22 rfl h e14 ?_
      refine m_Rb.n0 b_42 (x_aload_n d_42_25 rfl) ?_
      obtain ⟨v15, e16, h0⟩ := bS h0
      refine m_Rb.tgetI b_42 d_42_26 rfl h e16 ?_
      refine m_Rb.n0 b_42 (x_isub d_42_29 rfl) ?_
      obtain ⟨_, e17, h0⟩ := bS h0
      obtain ⟨_, g18⟩ := RT.cls h e17
      obtain ⟨v19, e20, h0⟩ := bS h0
      refine m_Rb.callI b_42 (y_cv d_42_30 rfl q_43 (m_isRecv_of rfl g18) (show m_takeI _ _ = some (_, [_, _, _, _], []) from m_takeI_of rfl rfl rfl (Nat.le_of_ble_eq_true rfl)) (by simp only [m_okf, List.all_cons, List.all_nil, Bool.and_true, Bool.and_self, m_okv_i, m_okv_l, m_okv_0, m_okv_n0, m_okv_t, RT.okn h hx0]) rfl) (T_c_Reader_isSame hx0 h e20) hF rfl (fun w21 h21 f21 k21 => ?_) (by decide) (by decide)
      cases hc22 : m_c1 .eq v19 with
      | true =>
        have h0 := cT hc22 h0
        refine m_Rb.n0 b_42 (x_ift d_42_33 rfl hc22) ?_
        refine m_Rb.n0 b_42 (x_iinc d_42_38 rfl rfl rfl (show m_put1 _ _ _ = [(1, _), (0, _)] from rfl)) ?_
        refine m_Rb.n0 b_42 (x_goto d_42_41 rfl) ?_
        exact m_Rb.pick [1, 0] rfl (ih hx0 h21 f21 h0)
      | false =>
        have h0 := cF hc22 h0
        refine m_Rb.n0 b_42 (x_iff d_42_33 rfl hc22) ?_
        refine m_Rb.n0 b_42 (x_iconst (z := 1) d_42_36 (by decide)) ?_
        cases h0
        exact m_Rb.ret b_42 (m_rt_ir d_42_37 rfl m_nb1) ⟨rfl, h21, f21⟩
def D_c_Reader_wasThere (F : Nat) (a0 : Nat) (T0 : tT) : Option (Int32) := D_c_Reader_wasThere_2 F F a0 (0 : Int32) T0
theorem T_c_Reader_wasThere {l : Launch} {w : List mM} {F : Nat} {a0 : Nat} {T0 : tT} {y9 : Int32} (ha0 : okr T0.2.1 (some a0)) (h : RT T0 w) (h0 : D_c_Reader_wasThere F a0 T0 = some y9) : m_Rb l M_42 (m_ent M_42 [.ref a0] w) (fun v w' => v = some (.int y9) ∧ RT T0 w' ∧ m_Fm w w') T0 T0 1 100 := by
  rw [show m_ent M_42 [.ref a0] w = (0, [(0, .ref a0)], [], w) from by first | rfl | (simp only [m_ent, lv_args_r, lv_args_a, lv_args_i, lv_args_l, lv_args_0]; done) | (simp only [m_ent, lv_args_r, lv_args_a, lv_args_i, lv_args_l, lv_args_0]; rfl)]
  generalize hw0 : w = w0 at h ⊢
  have hF : m_Fm w0 w0 := m_Fm.refl
  rw [D_c_Reader_wasThere] at h0
  refine m_Rb.n0 b_42 (x_iconst (z := 0) d_42_0 (by decide)) ?_
  refine m_Rb.n0 b_42 (x_istore_n d_42_1 rfl (show m_put1 _ _ _ = [(1, _), (0, _)] from rfl)) ?_
  exact m_Rb.pick [1, 0] rfl (T_c_Reader_wasThere_2 F ha0 h hF h0)
def D_c_Reader_readName_100 (F : Nat) (x0 : Nat) (T : tT) : Option (Int32 × tT) := (tgi T x0 1 6).bind fun v114 => (tcl T x0 1).bind fun _ => bd2 (D_c_Reader_no F x0 v114 T) fun v118 T119 => (bret v118).bind fun v122 => some (v122, T119)
theorem T_c_Reader_readName_100 {l : Launch} {w0 : List mM} {F : Nat} {x0 : Nat} {T : tT} {w : List mM} {y9 : Int32} {T9 : tT} (hx0 : okr T.2.1 (some x0)) (h : RT T w) (hF : m_Fm w0 w) (h0 : D_c_Reader_readName_100 F x0 T = some (y9, T9)) : m_Rb l M_40 (100, [(0, .ref x0)], [], w) (fun v w' => v = some (.int y9) ∧ RT T9 w' ∧ m_Fm w0 w') T T9 2 200 := by
  rw [D_c_Reader_readName_100] at h0
  refine m_Rb.n0 b_40 (x_aload_n d_40_100 rfl) ?_
  refine m_Rb.n0 b_40 (x_aload_n d_40_101 rfl) ?_
  obtain ⟨v114, e115, h0⟩ := bS h0
  refine m_Rb.tgetI b_40 d_40_102 rfl h e115 ?_
  obtain ⟨_, e116, h0⟩ := bS h0
  obtain ⟨_, g117⟩ := RT.cls h e116
  obtain ⟨v118, T119, e120, h0⟩ := bS2 h0
  refine m_Rb.callI b_40 (y_cv d_40_105 rfl q_36 (m_isRecv_of rfl g117) (show m_takeI _ _ = some (_, [_, _], []) from m_takeI_of rfl rfl rfl (Nat.le_of_ble_eq_true rfl)) (by simp only [m_okf, List.all_cons, List.all_nil, Bool.and_true, Bool.and_self, m_okv_i, m_okv_l, m_okv_0, m_okv_n0, m_okv_t, RT.okn h hx0]) rfl) (T_c_Reader_no hx0 h e120) hF rfl (fun w121 h121 f121 k121 => ?_) (by decide) (by decide)
  obtain ⟨v122, e123, h0⟩ := bS h0
  cases h0
  exact m_Rb.retb b_40 d_40_108 rfl e123 ⟨rfl, h121, f121⟩
def D_c_Reader_readName (F : Nat) (a0 : Nat) (T : tT) : Option (Int32 × tT) := (tgi T a0 1 2).bind fun v1 => (tpi T a0 1 6 v1).bind fun T3 => (tcl T3 a0 1).bind fun _ => (D_c_Reader_skipLetters F a0 T3).bind fun T8 => (tgi T8 a0 1 2).bind fun v11 => (tpi T8 a0 1 7 v11).bind fun T13 => (tgi T13 a0 1 2).bind fun v16 => (tgi T13 a0 1 6).bind fun v18 => cond (m_c2 .ne v16 v18) ((tgi T13 a0 1 2).bind fun v21 => (tgi T13 a0 1 6).bind fun v23 => cond (m_c2 .le (v21 - v23) (20 : Int32)) ((tcl T13 a0 1).bind fun _ => (D_c_Reader_here F a0 T13).bind fun v28 => cond (m_c2 .eq v28 (58 : Int32)) ((tcl T13 a0 1).bind fun _ => (D_c_Reader_wasThere F a0 T13).bind fun v34 => cond (m_c1 .ne v34) (D_c_Reader_readName_100 F a0 T13) ((tgi T13 a0 1 5).bind fun v38 => (tgr T13 a0 1 4).bind fun v40 => (v40).bind fun a43 => (tal T13 a43).bind fun v45 => cond (m_c2 .lt v38 v45) ((tgr T13 a0 1 4).bind fun v48 => (tgi T13 a0 1 5).bind fun v51 => (tgi T13 a0 1 6).bind fun v53 => (v48).bind fun a55 => (tasi T13 a55 v51 v53).bind fun T57 => (tgi T57 a0 1 5).bind fun v60 => (tpi T57 a0 1 5 (v60 + (1 : Int32))).bind fun T62 => (tgi T62 a0 1 2).bind fun v65 => (tpi T62 a0 1 2 (v65 + (1 : Int32))).bind fun T67 => (tcl T67 a0 1).bind fun _ => (D_c_Reader_here F a0 T67).bind fun v72 => cond (m_c2 .ne v72 (32 : Int32)) (some ((1 : Int32), T67)) ((tgi T67 a0 1 2).bind fun v79 => (tpi T67 a0 1 2 (v79 + (1 : Int32))).bind fun T81 => some ((1 : Int32), T81))) (D_c_Reader_readName_100 F a0 T13))) ((tgi T13 a0 1 2).bind fun v84 => (tcl T13 a0 1).bind fun _ => bd2 (D_c_Reader_no F a0 v84 T13) fun v88 T89 => (bret v88).bind fun v92 => some (v92, T89))) ((tgi T13 a0 1 6).bind fun v94 => (tcl T13 a0 1).bind fun _ => bd2 (D_c_Reader_no F a0 v94 T13) fun v98 T99 => (bret v98).bind fun v102 => some (v102, T99))) ((tgi T13 a0 1 2).bind fun v104 => (tcl T13 a0 1).bind fun _ => bd2 (D_c_Reader_no F a0 v104 T13) fun v108 T109 => (bret v108).bind fun v112 => some (v112, T109))
theorem T_c_Reader_readName {l : Launch} {w : List mM} {F : Nat} {a0 : Nat} {T : tT} {y9 : Int32} {T9 : tT} (ha0 : okr T.2.1 (some a0)) (h : RT T w) (h0 : D_c_Reader_readName F a0 T = some (y9, T9)) : m_Rb l M_40 (m_ent M_40 [.ref a0] w) (fun v w' => v = some (.int y9) ∧ RT T9 w' ∧ m_Fm w w') T T9 2 200 := by
  rw [show m_ent M_40 [.ref a0] w = (0, [(0, .ref a0)], [], w) from by first | rfl | (simp only [m_ent, lv_args_r, lv_args_a, lv_args_i, lv_args_l, lv_args_0]; done) | (simp only [m_ent, lv_args_r, lv_args_a, lv_args_i, lv_args_l, lv_args_0]; rfl)]
  generalize hw0 : w = w0 at h ⊢
  have hF : m_Fm w0 w0 := m_Fm.refl
  rw [D_c_Reader_readName] at h0
  refine m_Rb.n0 b_40 (x_aload_n d_40_0 rfl) ?_
  refine m_Rb.n0 b_40 (x_aload_n d_40_1 rfl) ?_
  obtain ⟨v1, e2, h0⟩ := bS h0
  refine m_Rb.tgetI b_40 d_40_2 rfl h e2 ?_
  obtain ⟨T3, e4, h0⟩ := bS h0
  refine m_Rb.tputI b_40 d_40_5 rfl rfl (by decide) h hF e4 (fun w5 h5 f5 k5 => ?_)
  refine m_Rb.n0 b_40 (x_aload_n d_40_8 rfl) ?_
  obtain ⟨_, e6, h0⟩ := bS h0
  obtain ⟨_, g7⟩ := RT.cls h5 e6
  obtain ⟨T8, e9, h0⟩ := bS h0
  refine m_Rb.callV b_40 (y_cv d_40_9 rfl q_41 (m_isRecv_of rfl g7) (show m_takeI _ _ = some (_, [_], []) from m_takeI_of rfl rfl rfl (Nat.le_of_ble_eq_true rfl)) (by simp only [m_okf, List.all_cons, List.all_nil, Bool.and_true, Bool.and_self, m_okv_i, m_okv_l, m_okv_0, m_okv_n0, m_okv_t, RT.okn h5 (okm ha0 k5)]) rfl) (T_c_Reader_skipLetters (okm ha0 k5) h5 e9) f5 rfl (fun w10 h10 f10 k10 => ?_) (by decide) (by decide)
  refine m_Rb.n0 b_40 (x_aload_n d_40_12 rfl) ?_
  refine m_Rb.n0 b_40 (x_aload_n d_40_13 rfl) ?_
  obtain ⟨v11, e12, h0⟩ := bS h0
  refine m_Rb.tgetI b_40 d_40_14 rfl h10 e12 ?_
  obtain ⟨T13, e14, h0⟩ := bS h0
  refine m_Rb.tputI b_40 d_40_17 rfl rfl (by decide) h10 f10 e14 (fun w15 h15 f15 k15 => ?_)
  refine m_Rb.n0 b_40 (x_aload_n d_40_20 rfl) ?_
  obtain ⟨v16, e17, h0⟩ := bS h0
  refine m_Rb.tgetI b_40 d_40_21 rfl h15 e17 ?_
  refine m_Rb.n0 b_40 (x_aload_n d_40_24 rfl) ?_
  obtain ⟨v18, e19, h0⟩ := bS h0
  refine m_Rb.tgetI b_40 d_40_25 rfl h15 e19 ?_
  cases hc20 : m_c2 .ne v16 v18 with
  | true =>
    have h0 := cT hc20 h0
    refine m_Rb.n0 b_40 (x_ict d_40_28 rfl hc20) ?_
    refine m_Rb.n0 b_40 (x_aload_n d_40_40 rfl) ?_
    obtain ⟨v21, e22, h0⟩ := bS h0
    refine m_Rb.tgetI b_40 d_40_41 rfl h15 e22 ?_
    refine m_Rb.n0 b_40 (x_aload_n d_40_44 rfl) ?_
    obtain ⟨v23, e24, h0⟩ := bS h0
    refine m_Rb.tgetI b_40 d_40_45 rfl h15 e24 ?_
    refine m_Rb.n0 b_40 (x_isub d_40_48 rfl) ?_
    refine m_Rb.n0 b_40 (x_bipush (z := 20) d_40_49 (by decide)) ?_
    cases hc25 : m_c2 .le (v21 - v23) (20 : Int32) with
    | true =>
      have h0 := cT hc25 h0
      refine m_Rb.n0 b_40 (x_ict d_40_51 rfl hc25) ?_
      refine m_Rb.n0 b_40 (x_aload_n d_40_63 rfl) ?_
      obtain ⟨_, e26, h0⟩ := bS h0
      obtain ⟨_, g27⟩ := RT.cls h15 e26
      obtain ⟨v28, e29, h0⟩ := bS h0
      refine m_Rb.callI b_40 (y_cv d_40_64 rfl q_22 (m_isRecv_of rfl g27) (show m_takeI _ _ = some (_, [_], []) from m_takeI_of rfl rfl rfl (Nat.le_of_ble_eq_true rfl)) (by simp only [m_okf, List.all_cons, List.all_nil, Bool.and_true, Bool.and_self, m_okv_i, m_okv_l, m_okv_0, m_okv_n0, m_okv_t, RT.okn h15 (okm (okm (okm ha0 k5) k10) k15)]) rfl) (T_c_Reader_here (okm (okm (okm ha0 k5) k10) k15) h15 e29) f15 rfl (fun w30 h30 f30 k30 => ?_) (by decide) (by decide)
      refine m_Rb.n0 b_40 (x_bipush (z := 58) d_40_67 (by decide)) ?_
      cases hc31 : m_c2 .eq v28 (58 : Int32) with
      | true =>
        have h0 := cT hc31 h0
        refine m_Rb.n0 b_40 (x_ict d_40_69 rfl hc31) ?_
        refine m_Rb.n0 b_40 (x_aload_n d_40_81 rfl) ?_
        obtain ⟨_, e32, h0⟩ := bS h0
        obtain ⟨_, g33⟩ := RT.cls h30 e32
        obtain ⟨v34, e35, h0⟩ := bS h0
        refine m_Rb.callI b_40 (y_cv d_40_82 rfl q_42 (m_isRecv_of rfl g33) (show m_takeI _ _ = some (_, [_], []) from m_takeI_of rfl rfl rfl (Nat.le_of_ble_eq_true rfl)) (by simp only [m_okf, List.all_cons, List.all_nil, Bool.and_true, Bool.and_self, m_okv_i, m_okv_l, m_okv_0, m_okv_n0, m_okv_t, RT.okn h30 (okm (okm (okm ha0 k5) k10) k15)]) rfl) (T_c_Reader_wasThere (okm (okm (okm ha0 k5) k10) k15) h30 e35) f30 rfl (fun w36 h36 f36 k36 => ?_) (by decide) (by decide)
        cases hc37 : m_c1 .ne v34 with
        | true =>
          have h0 := cT hc37 h0
          refine m_Rb.n0 b_40 (x_ift d_40_85 rfl hc37) ?_
          exact m_Rb.pick [0] rfl (T_c_Reader_readName_100 (okm (okm (okm ha0 k5) k10) k15) h36 f36 h0)
        | false =>
          have h0 := cF hc37 h0
          refine m_Rb.n0 b_40 (x_iff d_40_85 rfl hc37) ?_
          refine m_Rb.n0 b_40 (x_aload_n d_40_88 rfl) ?_
          obtain ⟨v38, e39, h0⟩ := bS h0
          refine m_Rb.tgetI b_40 d_40_89 rfl h36 e39 ?_
          refine m_Rb.n0 b_40 (x_aload_n d_40_92 rfl) ?_
          obtain ⟨v40, e41, h0⟩ := bS h0
          refine m_Rb.tgetR b_40 d_40_93 rfl h36 e41 (fun o42 => ?_)
          obtain ⟨a43, e44, h0⟩ := bS h0
          subst e44
          obtain ⟨v45, e46, h0⟩ := bS h0
          refine m_Rb.talen b_40 d_40_96 h36 e46 ?_
          cases hc47 : m_c2 .lt v38 v45 with
          | true =>
            have h0 := cT hc47 h0
            refine m_Rb.n0 b_40 (x_ict d_40_97 rfl hc47) ?_
            refine m_Rb.n0 b_40 (x_aload_n d_40_109 rfl) ?_
            obtain ⟨v48, e49, h0⟩ := bS h0
            refine m_Rb.tgetR b_40 d_40_110 rfl h36 e49 (fun o50 => ?_)
            refine m_Rb.n0 b_40 (x_aload_n d_40_113 rfl) ?_
            obtain ⟨v51, e52, h0⟩ := bS h0
            refine m_Rb.tgetI b_40 d_40_114 rfl h36 e52 ?_
            refine m_Rb.n0 b_40 (x_aload_n d_40_117 rfl) ?_
            obtain ⟨v53, e54, h0⟩ := bS h0
            refine m_Rb.tgetI b_40 d_40_118 rfl h36 e54 ?_
            obtain ⟨a55, e56, h0⟩ := bS h0
            subst e56
            obtain ⟨T57, e58, h0⟩ := bS h0
            refine m_Rb.tputAI b_40 d_40_121 h36 f36 e58 (fun w59 h59 f59 k59 => ?_)
            refine m_Rb.n0 b_40 (x_aload_n d_40_122 rfl) ?_
            refine m_Rb.n0 b_40 (x_dup d_40_123 rfl) ?_
            obtain ⟨v60, e61, h0⟩ := bS h0
            refine m_Rb.tgetI b_40 d_40_124 rfl h59 e61 ?_
            refine m_Rb.n0 b_40 (x_iconst (z := 1) d_40_127 (by decide)) ?_
            refine m_Rb.n0 b_40 (x_iadd d_40_128 rfl) ?_
            obtain ⟨T62, e63, h0⟩ := bS h0
            refine m_Rb.tputI b_40 d_40_129 rfl rfl (by decide) h59 f59 e63 (fun w64 h64 f64 k64 => ?_)
            refine m_Rb.n0 b_40 (x_aload_n d_40_132 rfl) ?_
            refine m_Rb.n0 b_40 (x_dup d_40_133 rfl) ?_
            obtain ⟨v65, e66, h0⟩ := bS h0
            refine m_Rb.tgetI b_40 d_40_134 rfl h64 e66 ?_
            refine m_Rb.n0 b_40 (x_iconst (z := 1) d_40_137 (by decide)) ?_
            refine m_Rb.n0 b_40 (x_iadd d_40_138 rfl) ?_
            obtain ⟨T67, e68, h0⟩ := bS h0
            refine m_Rb.tputI b_40 d_40_139 rfl rfl (by decide) h64 f64 e68 (fun w69 h69 f69 k69 => ?_)
            refine m_Rb.n0 b_40 (x_aload_n d_40_142 rfl) ?_
            obtain ⟨_, e70, h0⟩ := bS h0
            obtain ⟨_, g71⟩ := RT.cls h69 e70
            obtain ⟨v72, e73, h0⟩ := bS h0
            refine m_Rb.callI b_40 (y_cv d_40_143 rfl q_22 (m_isRecv_of rfl g71) (show m_takeI _ _ = some (_, [_], []) from m_takeI_of rfl rfl rfl (Nat.le_of_ble_eq_true rfl)) (by simp only [m_okf, List.all_cons, List.all_nil, Bool.and_true, Bool.and_self, m_okv_i, m_okv_l, m_okv_0, m_okv_n0, m_okv_t, RT.okn h69 (okm (okm (okm (okm (okm (okm ha0 k5) k10) k15) k59) k64) k69)]) rfl) (T_c_Reader_here (okm (okm (okm (okm (okm (okm ha0 k5) k10) k15) k59) k64) k69) h69 e73) f69 rfl (fun w74 h74 f74 k74 => ?_) (by decide) (by decide)
            refine m_Rb.n0 b_40 (x_bipush (z := 32) d_40_146 (by decide)) ?_
            cases hc78 : m_c2 .ne v72 (32 : Int32) with
            | true =>
              have h0 := cT hc78 h0
              refine m_Rb.n0 b_40 (x_ict d_40_148 rfl hc78) ?_
              refine m_Rb.n0 b_40 (x_iconst (z := 1) d_40_161 (by decide)) ?_
              cases h0
              exact m_Rb.ret b_40 (m_rt_ir d_40_162 rfl m_nb1) ⟨rfl, h74, f74⟩
            | false =>
              have h0 := cF hc78 h0
              refine m_Rb.n0 b_40 (x_icf d_40_148 rfl hc78) ?_
              refine m_Rb.n0 b_40 (x_aload_n d_40_151 rfl) ?_
              refine m_Rb.n0 b_40 (x_dup d_40_152 rfl) ?_
              obtain ⟨v79, e80, h0⟩ := bS h0
              refine m_Rb.tgetI b_40 d_40_153 rfl h74 e80 ?_
              refine m_Rb.n0 b_40 (x_iconst (z := 1) d_40_156 (by decide)) ?_
              refine m_Rb.n0 b_40 (x_iadd d_40_157 rfl) ?_
              obtain ⟨T81, e82, h0⟩ := bS h0
              refine m_Rb.tputI b_40 d_40_158 rfl rfl (by decide) h74 f74 e82 (fun w83 h83 f83 k83 => ?_)
              refine m_Rb.n0 b_40 (x_iconst (z := 1) d_40_161 (by decide)) ?_
              cases h0
              exact m_Rb.ret b_40 (m_rt_ir d_40_162 rfl m_nb1) ⟨rfl, h83, f83⟩
          | false =>
            have h0 := cF hc47 h0
            refine m_Rb.n0 b_40 (x_icf d_40_97 rfl hc47) ?_
            exact m_Rb.pick [0] rfl (T_c_Reader_readName_100 (okm (okm (okm ha0 k5) k10) k15) h36 f36 h0)
      | false =>
        have h0 := cF hc31 h0
        refine m_Rb.n0 b_40 (x_icf d_40_69 rfl hc31) ?_
        refine m_Rb.n0 b_40 (x_aload_n d_40_72 rfl) ?_
        refine m_Rb.n0 b_40 (x_aload_n d_40_73 rfl) ?_
        obtain ⟨v84, e85, h0⟩ := bS h0
        refine m_Rb.tgetI b_40 d_40_74 rfl h30 e85 ?_
        obtain ⟨_, e86, h0⟩ := bS h0
        obtain ⟨_, g87⟩ := RT.cls h30 e86
        obtain ⟨v88, T89, e90, h0⟩ := bS2 h0
        refine m_Rb.callI b_40 (y_cv d_40_77 rfl q_36 (m_isRecv_of rfl g87) (show m_takeI _ _ = some (_, [_, _], []) from m_takeI_of rfl rfl rfl (Nat.le_of_ble_eq_true rfl)) (by simp only [m_okf, List.all_cons, List.all_nil, Bool.and_true, Bool.and_self, m_okv_i, m_okv_l, m_okv_0, m_okv_n0, m_okv_t, RT.okn h30 (okm (okm (okm ha0 k5) k10) k15)]) rfl) (T_c_Reader_no (okm (okm (okm ha0 k5) k10) k15) h30 e90) f30 rfl (fun w91 h91 f91 k91 => ?_) (by decide) (by decide)
        obtain ⟨v92, e93, h0⟩ := bS h0
        cases h0
        exact m_Rb.retb b_40 d_40_80 rfl e93 ⟨rfl, h91, f91⟩
    | false =>
      have h0 := cF hc25 h0
      refine m_Rb.n0 b_40 (x_icf d_40_51 rfl hc25) ?_
      refine m_Rb.n0 b_40 (x_aload_n d_40_54 rfl) ?_
      refine m_Rb.n0 b_40 (x_aload_n d_40_55 rfl) ?_
      obtain ⟨v94, e95, h0⟩ := bS h0
      refine m_Rb.tgetI b_40 d_40_56 rfl h15 e95 ?_
      obtain ⟨_, e96, h0⟩ := bS h0
      obtain ⟨_, g97⟩ := RT.cls h15 e96
      obtain ⟨v98, T99, e100, h0⟩ := bS2 h0
      refine m_Rb.callI b_40 (y_cv d_40_59 rfl q_36 (m_isRecv_of rfl g97) (show m_takeI _ _ = some (_, [_, _], []) from m_takeI_of rfl rfl rfl (Nat.le_of_ble_eq_true rfl)) (by simp only [m_okf, List.all_cons, List.all_nil, Bool.and_true, Bool.and_self, m_okv_i, m_okv_l, m_okv_0, m_okv_n0, m_okv_t, RT.okn h15 (okm (okm (okm ha0 k5) k10) k15)]) rfl) (T_c_Reader_no (okm (okm (okm ha0 k5) k10) k15) h15 e100) f15 rfl (fun w101 h101 f101 k101 => ?_) (by decide) (by decide)
      obtain ⟨v102, e103, h0⟩ := bS h0
      cases h0
      exact m_Rb.retb b_40 d_40_62 rfl e103 ⟨rfl, h101, f101⟩
  | false =>
    have h0 := cF hc20 h0
    refine m_Rb.n0 b_40 (x_icf d_40_28 rfl hc20) ?_
    refine m_Rb.n0 b_40 (x_aload_n d_40_31 rfl) ?_
    refine m_Rb.n0 b_40 (x_aload_n d_40_32 rfl) ?_
    obtain ⟨v104, e105, h0⟩ := bS h0
    refine m_Rb.tgetI b_40 d_40_33 rfl h15 e105 ?_
    obtain ⟨_, e106, h0⟩ := bS h0
    obtain ⟨_, g107⟩ := RT.cls h15 e106
    obtain ⟨v108, T109, e110, h0⟩ := bS2 h0
    refine m_Rb.callI b_40 (y_cv d_40_36 rfl q_36 (m_isRecv_of rfl g107) (show m_takeI _ _ = some (_, [_, _], []) from m_takeI_of rfl rfl rfl (Nat.le_of_ble_eq_true rfl)) (by simp only [m_okf, List.all_cons, List.all_nil, Bool.and_true, Bool.and_self, m_okv_i, m_okv_l, m_okv_0, m_okv_n0, m_okv_t, RT.okn h15 (okm (okm (okm ha0 k5) k10) k15)]) rfl) (T_c_Reader_no (okm (okm (okm ha0 k5) k10) k15) h15 e110) f15 rfl (fun w111 h111 f111 k111 => ?_) (by decide) (by decide)
    obtain ⟨v112, e113, h0⟩ := bS h0
    cases h0
    exact m_Rb.retb b_40 d_40_39 rfl e113 ⟨rfl, h111, f111⟩
def D_c_Reader_isWord_39 (F : Nat) : Nat → Nat → Nat → Int32 → tT → Option (Int32)
  | 0, _, _, _, _ => none
  | n + 1, x0, x1, x2, T0 => (xlen x1).bind fun v21 => cond (m_c2 .ge x2 v21) (some (1 : Int32)) ((tgr T0 x0 1 0).bind fun v24 => (tgi T0 x0 1 6).bind fun v27 => (v24).bind fun a29 => (tai T0 a29 2 (v27 + x2)).bind fun v31 => (xchr x1 x2).bind fun v33 => cond (m_c2 .eq v31 v33) (D_c_Reader_isWord_39 F n x0 x1 (x2 + Int32.ofInt 1) T0) (some (0 : Int32)))
theorem T_c_Reader_isWord_39 {l : Launch} {w0 : List mM} {F : Nat} {T0 : tT} : ∀ (n : Nat) {x0 : Nat} {x1 : Nat} {x2 : Int32} {w : List mM} {y9 : Int32}, okr T0.2.1 (some x0) → x1 < 512 → RT T0 w → m_Fm w0 w → D_c_Reader_isWord_39 F n x0 x1 x2 T0 = some y9 → m_Rb l M_45 (39, [(0, .ref x0), (1, .ref x1), (2, .int x2)], [], w) (fun v w' => v = some (.int y9) ∧ RT T0 w' ∧ m_Fm w0 w') T0 T0 4 400 := by
  intro n
  induction n with
  | zero => intro x0 x1 x2 w y9 hx0 hx1 h hF h0; cases h0
  | succ n ih =>
    intro x0 x1 x2 w y9 hx0 hx1 h hF h0
    rw [D_c_Reader_isWord_39] at h0
    refine m_Rb.n0 b_45 (x_iload_n d_45_39 rfl) ?_
    refine m_Rb.n0 b_45 (x_aload_n d_45_40 rfl) ?_
    obtain ⟨v21, e22, h0⟩ := bS h0
    refine m_Rb.lift (fun c s k9 => m_Rs.cxlen b_45 d_45_41 rfl (by simp only [m_okf, List.all_cons, List.all_nil, Bool.and_true, Bool.and_self, m_okv_i, m_okv_l, m_okv_0, m_okv_n0, m_okv_t, RT.okn h hx0, m_okv_out (a := x1) hx1]) e22 k9 (catL (Nat.le_of_ble_eq_true rfl)) (by decide) (by decide)) ?_
    cases hc23 : m_c2 .ge x2 v21 with
    | true =>
      have h0 := cT hc23 h0
      refine m_Rb.n0 b_45 (x_ict d_45_44 rfl hc23) ?_
      refine m_Rb.n0 b_45 (x_iconst (z := 1) d_45_74 (by decide)) ?_
      cases h0
      exact m_Rb.ret b_45 (m_rt_ir d_45_75 rfl m_nb1) ⟨rfl, h, hF⟩
    | false =>
      have h0 := cF hc23 h0
      refine m_Rb.n0 b_45 (x_icf d_45_44 rfl hc23) ?_
      refine m_Rb.n0 b_45 (x_aload_n d_45_47 rfl) ?_
      obtain ⟨v24, e25, h0⟩ := bS h0
      refine m_Rb.tgetR b_45 d_45_48 rfl h e25 (fun o26 => ?_)
      refine m_Rb.n0 b_45 (x_aload_n d_45_51 rfl) ?_
      obtain ⟨v27, e28, h0⟩ := bS h0
      refine m_Rb.tgetI b_45 d_45_52 rfl h e28 ?_
      refine m_Rb.n0 b_45 (x_iload_n d_45_55 rfl) ?_
      refine m_Rb.n0 b_45 (x_iadd d_45_56 rfl) ?_
      obtain ⟨a29, e30, h0⟩ := bS h0
      subst e30
      obtain ⟨v31, e32, h0⟩ := bS h0
      refine m_Rb.tgetC b_45 d_45_57 h e32 ?_
      refine m_Rb.n0 b_45 (x_aload_n d_45_58 rfl) ?_
      refine m_Rb.n0 b_45 (x_iload_n d_45_59 rfl) ?_
      obtain ⟨v33, e34, h0⟩ := bS h0
      refine m_Rb.lift (fun c s k9 => m_Rs.cxchr b_45 d_45_60 rfl (by simp only [m_okf, List.all_cons, List.all_nil, Bool.and_true, Bool.and_self, m_okv_i, m_okv_l, m_okv_0, m_okv_n0, m_okv_t, RT.okn h hx0, m_okv_out (a := x1) hx1]) e34 k9 (catL (Nat.le_of_ble_eq_true rfl)) (by decide) (by decide)) ?_
      cases hc35 : m_c2 .eq v31 v33 with
      | true =>
        have h0 := cT hc35 h0
        refine m_Rb.n0 b_45 (x_ict d_45_63 rfl hc35) ?_
        refine m_Rb.n0 b_45 (x_iinc d_45_68 rfl rfl rfl (show m_put1 _ _ _ = [(2, _), (0, _), (1, _)] from rfl)) ?_
        refine m_Rb.n0 b_45 (x_goto d_45_71 rfl) ?_
        exact m_Rb.pick [1, 2, 0] rfl (ih hx0 hx1 h hF h0)
      | false =>
        have h0 := cF hc35 h0
        refine m_Rb.n0 b_45 (x_icf d_45_63 rfl hc35) ?_
        refine m_Rb.n0 b_45 (x_iconst (z := 0) d_45_66 (by decide)) ?_
        cases h0
        exact m_Rb.ret b_45 (m_rt_ir d_45_67 rfl m_nb0) ⟨rfl, h, hF⟩
def D_c_Reader_isWord (F : Nat) (a0 : Nat) (p0 : Nat) (T0 : tT) : Option (Int32) := (tgi T0 a0 1 7).bind fun v1 => (tgi T0 a0 1 6).bind fun v3 => (xlen p0).bind fun v5 => cond (m_c2 .ne (v1 - v3) v5) (some (0 : Int32)) ((tgi T0 a0 1 6).bind fun v8 => cond (m_c1 .lt v8) (some (0 : Int32)) ((tgi T0 a0 1 7).bind fun v11 => (tgr T0 a0 1 0).bind fun v13 => (v13).bind fun a16 => (tal T0 a16).bind fun v18 => cond (m_c2 .le v11 v18) (D_c_Reader_isWord_39 F F a0 p0 (0 : Int32) T0) (some (0 : Int32))))
theorem T_c_Reader_isWord {l : Launch} {w : List mM} {F : Nat} {a0 : Nat} {p0 : Nat} {T0 : tT} {y9 : Int32} (ha0 : okr T0.2.1 (some a0)) (hp0 : p0 < 512) (h : RT T0 w) (h0 : D_c_Reader_isWord F a0 p0 T0 = some y9) : m_Rb l M_45 (m_ent M_45 [.ref a0, .ref p0] w) (fun v w' => v = some (.int y9) ∧ RT T0 w' ∧ m_Fm w w') T0 T0 4 400 := by
  rw [show m_ent M_45 [.ref a0, .ref p0] w = (0, [(0, .ref a0), (1, .ref p0)], [], w) from by first | rfl | (simp only [m_ent, lv_args_r, lv_args_a, lv_args_i, lv_args_l, lv_args_0]; done) | (simp only [m_ent, lv_args_r, lv_args_a, lv_args_i, lv_args_l, lv_args_0]; rfl)]
  generalize hw0 : w = w0 at h ⊢
  have hF : m_Fm w0 w0 := m_Fm.refl
  rw [D_c_Reader_isWord] at h0
  refine m_Rb.n0 b_45 (x_aload_n d_45_0 rfl) ?_
  obtain ⟨v1, e2, h0⟩ := bS h0
  refine m_Rb.tgetI b_45 d_45_1 rfl h e2 ?_
  refine m_Rb.n0 b_45 (x_aload_n d_45_4 rfl) ?_
  obtain ⟨v3, e4, h0⟩ := bS h0
  refine m_Rb.tgetI b_45 d_45_5 rfl h e4 ?_
  refine m_Rb.n0 b_45 (x_isub d_45_8 rfl) ?_
  refine m_Rb.n0 b_45 (x_aload_n d_45_9 rfl) ?_
  obtain ⟨v5, e6, h0⟩ := bS h0
  refine m_Rb.lift (fun c s k9 => m_Rs.cxlen b_45 d_45_10 rfl (by simp only [m_okf, List.all_cons, List.all_nil, Bool.and_true, Bool.and_self, m_okv_i, m_okv_l, m_okv_0, m_okv_n0, m_okv_t, RT.okn h ha0, m_okv_out (a := p0) hp0]) e6 k9 (catL (Nat.le_of_ble_eq_true rfl)) (by decide) (by decide)) ?_
  cases hc7 : m_c2 .ne (v1 - v3) v5 with
  | true =>
    have h0 := cT hc7 h0
    refine m_Rb.n0 b_45 (x_ict d_45_13 rfl hc7) ?_
    refine m_Rb.n0 b_45 (x_iconst (z := 0) d_45_35 (by decide)) ?_
    cases h0
    exact m_Rb.ret b_45 (m_rt_ir d_45_36 rfl m_nb0) ⟨rfl, h, hF⟩
  | false =>
    have h0 := cF hc7 h0
    refine m_Rb.n0 b_45 (x_icf d_45_13 rfl hc7) ?_
    refine m_Rb.n0 b_45 (x_aload_n d_45_16 rfl) ?_
    obtain ⟨v8, e9, h0⟩ := bS h0
    refine m_Rb.tgetI b_45 d_45_17 rfl h e9 ?_
    cases hc10 : m_c1 .lt v8 with
    | true =>
      have h0 := cT hc10 h0
      refine m_Rb.n0 b_45 (x_ift d_45_20 rfl hc10) ?_
      refine m_Rb.n0 b_45 (x_iconst (z := 0) d_45_35 (by decide)) ?_
      cases h0
      exact m_Rb.ret b_45 (m_rt_ir d_45_36 rfl m_nb0) ⟨rfl, h, hF⟩
    | false =>
      have h0 := cF hc10 h0
      refine m_Rb.n0 b_45 (x_iff d_45_20 rfl hc10) ?_
      refine m_Rb.n0 b_45 (x_aload_n d_45_23 rfl) ?_
      obtain ⟨v11, e12, h0⟩ := bS h0
      refine m_Rb.tgetI b_45 d_45_24 rfl h e12 ?_
      refine m_Rb.n0 b_45 (x_aload_n d_45_27 rfl) ?_
      obtain ⟨v13, e14, h0⟩ := bS h0
      refine m_Rb.tgetR b_45 d_45_28 rfl h e14 (fun o15 => ?_)
      obtain ⟨a16, e17, h0⟩ := bS h0
      subst e17
      obtain ⟨v18, e19, h0⟩ := bS h0
      refine m_Rb.talen b_45 d_45_31 h e19 ?_
      cases hc20 : m_c2 .le v11 v18 with
      | true =>
        have h0 := cT hc20 h0
        refine m_Rb.n0 b_45 (x_ict d_45_32 rfl hc20) ?_
        refine m_Rb.n0 b_45 (x_iconst (z := 0) d_45_37 (by decide)) ?_
        refine m_Rb.n0 b_45 (x_istore_n d_45_38 rfl (show m_put1 _ _ _ = [(2, _), (0, _), (1, _)] from rfl)) ?_
        exact m_Rb.pick [1, 2, 0] rfl (T_c_Reader_isWord_39 F ha0 hp0 h hF h0)
      | false =>
        have h0 := cF hc20 h0
        refine m_Rb.n0 b_45 (x_icf d_45_32 rfl hc20) ?_
        refine m_Rb.n0 b_45 (x_iconst (z := 0) d_45_35 (by decide)) ?_
        cases h0
        exact m_Rb.ret b_45 (m_rt_ir d_45_36 rfl m_nb0) ⟨rfl, h, hF⟩
def D_c_Reader_readRange_114 (F : Nat) (x0 : Nat) (x1 : Int32) (x2 : Int32) (T : tT) : Option (Int32 × tT) := cond (m_c2 .gt x1 x2) (some ((1 : Int32), T)) ((tgr T x0 1 14).bind fun v83 => (v83).bind fun a86 => (tpi T a86 7 1 (1 : Int32)).bind fun T88 => (tgr T88 x0 1 14).bind fun v91 => (v91).bind fun a94 => (tpi T88 a94 7 2 x1).bind fun T96 => (tgr T96 x0 1 14).bind fun v99 => (v99).bind fun a102 => (tpi T96 a102 7 3 x2).bind fun T104 => some ((1 : Int32), T104))
theorem T_c_Reader_readRange_114 {l : Launch} {w0 : List mM} {F : Nat} {x0 : Nat} {x1 : Int32} {x2 : Int32} {T : tT} {w : List mM} {y9 : Int32} {T9 : tT} (hx0 : okr T.2.1 (some x0)) (h : RT T w) (hF : m_Fm w0 w) (h0 : D_c_Reader_readRange_114 F x0 x1 x2 T = some (y9, T9)) : m_Rb l M_46 (114, [(0, .ref x0), (1, .int x1), (2, .int x2)], [], w) (fun v w' => v = some (.int y9) ∧ RT T9 w' ∧ m_Fm w0 w') T T9 5 500 := by
  rw [D_c_Reader_readRange_114] at h0
  refine m_Rb.n0 b_46 (x_iload_n d_46_114 rfl) ?_
  refine m_Rb.n0 b_46 (x_iload_n d_46_115 rfl) ?_
  cases hc82 : m_c2 .gt x1 x2 with
  | true =>
    have h0 := cT hc82 h0
    refine m_Rb.n0 b_46 (x_ict d_46_116 rfl hc82) ?_
    refine m_Rb.n0 b_46 (x_iconst (z := 1) d_46_143 (by decide)) ?_
    cases h0
    exact m_Rb.ret b_46 (m_rt_ir d_46_144 rfl m_nb1) ⟨rfl, h, hF⟩
  | false =>
    have h0 := cF hc82 h0
    refine m_Rb.n0 b_46 (x_icf d_46_116 rfl hc82) ?_
    refine m_Rb.n0 b_46 (x_aload_n d_46_119 rfl) ?_
    obtain ⟨v83, e84, h0⟩ := bS h0
    refine m_Rb.tgetR b_46 d_46_120 rfl h e84 (fun o85 => ?_)
    refine m_Rb.n0 b_46 (x_iconst (z := 1) d_46_123 (by decide)) ?_
    obtain ⟨a86, e87, h0⟩ := bS h0
    subst e87
    obtain ⟨T88, e89, h0⟩ := bS h0
    refine m_Rb.tputI b_46 d_46_124 rfl rfl (by decide) h hF e89 (fun w90 h90 f90 k90 => ?_)
    refine m_Rb.n0 b_46 (x_aload_n d_46_127 rfl) ?_
    obtain ⟨v91, e92, h0⟩ := bS h0
    refine m_Rb.tgetR b_46 d_46_128 rfl h90 e92 (fun o93 => ?_)
    refine m_Rb.n0 b_46 (x_iload_n d_46_131 rfl) ?_
    obtain ⟨a94, e95, h0⟩ := bS h0
    subst e95
    obtain ⟨T96, e97, h0⟩ := bS h0
    refine m_Rb.tputI b_46 d_46_132 rfl rfl (by decide) h90 f90 e97 (fun w98 h98 f98 k98 => ?_)
    refine m_Rb.n0 b_46 (x_aload_n d_46_135 rfl) ?_
    obtain ⟨v99, e100, h0⟩ := bS h0
    refine m_Rb.tgetR b_46 d_46_136 rfl h98 e100 (fun o101 => ?_)
    refine m_Rb.n0 b_46 (x_iload_n d_46_139 rfl) ?_
    obtain ⟨a102, e103, h0⟩ := bS h0
    subst e103
    obtain ⟨T104, e105, h0⟩ := bS h0
    refine m_Rb.tputI b_46 d_46_140 rfl rfl (by decide) h98 f98 e105 (fun w106 h106 f106 k106 => ?_)
    refine m_Rb.n0 b_46 (x_iconst (z := 1) d_46_143 (by decide)) ?_
    cases h0
    exact m_Rb.ret b_46 (m_rt_ir d_46_144 rfl m_nb1) ⟨rfl, h106, f106⟩
def D_c_Reader_readRange (F : Nat) (a0 : Nat) (T : tT) : Option (Int32 × tT) := (tcl T a0 1).bind fun _ => bd2 (D_c_Reader_expectText F a0 17 T) fun v3 T4 => cond (m_c1 .ne v3) ((tcl T4 a0 1).bind fun _ => (D_c_Reader_here F a0 T4).bind fun v10 => cond (m_c2 .ne v10 (45 : Int32)) ((tcl T4 a0 1).bind fun _ => bd2 (D_c_Reader_readNumber F a0 (99999 : Int32) T4) fun v16 T17 => cond (m_c1 .ne v16) ((tgi T17 a0 1 9).bind fun v21 => (tcl T17 a0 1).bind fun _ => bd2 (D_c_Reader_expect F a0 (45 : Int32) T17) fun v25 T26 => cond (m_c1 .ne v25) ((tcl T26 a0 1).bind fun _ => (D_c_Reader_here F a0 T26).bind fun v32 => (D_c_Reader_isDigit F v32 T26).bind fun v35 => cond (m_c1 .eq v35) (D_c_Reader_readRange_114 F a0 v21 (99999 : Int32) T26) ((tcl T26 a0 1).bind fun _ => bd2 (D_c_Reader_readNumber F a0 (99999 : Int32) T26) fun v41 T42 => cond (m_c1 .ne v41) ((tgi T42 a0 1 9).bind fun v46 => D_c_Reader_readRange_114 F a0 v21 v46 T42) (some ((0 : Int32), T42)))) (some ((0 : Int32), T26))) (some ((0 : Int32), T17))) ((tgi T4 a0 1 2).bind fun v48 => (tpi T4 a0 1 2 (v48 + (1 : Int32))).bind fun T50 => (tgr T50 a0 1 14).bind fun v53 => (v53).bind fun a56 => (tpi T50 a56 7 1 (2 : Int32)).bind fun T58 => (tcl T58 a0 1).bind fun _ => bd2 (D_c_Reader_readNumber F a0 (99999 : Int32) T58) fun v63 T64 => (tgr T64 a0 1 14).bind fun v67 => (tgi T64 a0 1 9).bind fun v70 => (v67).bind fun a72 => (tpi T64 a72 7 2 v70).bind fun T74 => (bret v63).bind fun v77 => some (v77, T74))) (some ((0 : Int32), T4))
theorem T_c_Reader_readRange {l : Launch} {w : List mM} {F : Nat} {a0 : Nat} {T : tT} {y9 : Int32} {T9 : tT} (ha0 : okr T.2.1 (some a0)) (h : RT T w) (h0 : D_c_Reader_readRange F a0 T = some (y9, T9)) : m_Rb l M_46 (m_ent M_46 [.ref a0] w) (fun v w' => v = some (.int y9) ∧ RT T9 w' ∧ m_Fm w w') T T9 5 500 := by
  rw [show m_ent M_46 [.ref a0] w = (0, [(0, .ref a0)], [], w) from by first | rfl | (simp only [m_ent, lv_args_r, lv_args_a, lv_args_i, lv_args_l, lv_args_0]; done) | (simp only [m_ent, lv_args_r, lv_args_a, lv_args_i, lv_args_l, lv_args_0]; rfl)]
  generalize hw0 : w = w0 at h ⊢
  have hF : m_Fm w0 w0 := m_Fm.refl
  rw [D_c_Reader_readRange] at h0
  refine m_Rb.n0 b_46 (x_aload_n d_46_0 rfl) ?_
  refine m_Rb.n0 b_46 (x_text d_46_1 rfl rfl) ?_
  obtain ⟨_, e1, h0⟩ := bS h0
  obtain ⟨_, g2⟩ := RT.cls h e1
  obtain ⟨v3, T4, e5, h0⟩ := bS2 h0
  refine m_Rb.callI b_46 (y_cv d_46_3 rfl q_23 (m_isRecv_of rfl g2) (show m_takeI _ _ = some (_, [_, _], []) from m_takeI_of rfl rfl rfl (Nat.le_of_ble_eq_true rfl)) (by simp only [m_okf, List.all_cons, List.all_nil, Bool.and_true, Bool.and_self, m_okv_i, m_okv_l, m_okv_0, m_okv_n0, m_okv_t, RT.okn h ha0, m_okv_out (a := 17) (by decide)]) rfl) (T_c_Reader_expectText ha0 (by decide) h e5) hF rfl (fun w6 h6 f6 k6 => ?_) (by decide) (by decide)
  cases hc7 : m_c1 .ne v3 with
  | true =>
    have h0 := cT hc7 h0
    refine m_Rb.n0 b_46 (x_ift d_46_6 rfl hc7) ?_
    refine m_Rb.n0 b_46 (x_aload_n d_46_11 rfl) ?_
    obtain ⟨_, e8, h0⟩ := bS h0
    obtain ⟨_, g9⟩ := RT.cls h6 e8
    obtain ⟨v10, e11, h0⟩ := bS h0
    refine m_Rb.callI b_46 (y_cv d_46_12 rfl q_22 (m_isRecv_of rfl g9) (show m_takeI _ _ = some (_, [_], []) from m_takeI_of rfl rfl rfl (Nat.le_of_ble_eq_true rfl)) (by simp only [m_okf, List.all_cons, List.all_nil, Bool.and_true, Bool.and_self, m_okv_i, m_okv_l, m_okv_0, m_okv_n0, m_okv_t, RT.okn h6 (okm ha0 k6)]) rfl) (T_c_Reader_here (okm ha0 k6) h6 e11) f6 rfl (fun w12 h12 f12 k12 => ?_) (by decide) (by decide)
    refine m_Rb.n0 b_46 (x_bipush (z := 45) d_46_15 (by decide)) ?_
    cases hc13 : m_c2 .ne v10 (45 : Int32) with
    | true =>
      have h0 := cT hc13 h0
      refine m_Rb.n0 b_46 (x_ict d_46_17 rfl hc13) ?_
      refine m_Rb.n0 b_46 (x_aload_n d_46_58 rfl) ?_
      refine m_Rb.n0 b_46 (x_ldc (v := .int 99999) d_46_59 rfl) ?_
      obtain ⟨_, e14, h0⟩ := bS h0
      obtain ⟨_, g15⟩ := RT.cls h12 e14
      obtain ⟨v16, T17, e18, h0⟩ := bS2 h0
      refine m_Rb.callI b_46 (y_cv d_46_61 rfl q_38 (m_isRecv_of rfl g15) (show m_takeI _ _ = some (_, [_, _], []) from m_takeI_of rfl rfl rfl (Nat.le_of_ble_eq_true rfl)) (by simp only [m_okf, List.all_cons, List.all_nil, Bool.and_true, Bool.and_self, m_okv_i, m_okv_l, m_okv_0, m_okv_n0, m_okv_t, RT.okn h12 (okm ha0 k6)]) rfl) (T_c_Reader_readNumber (okm ha0 k6) h12 e18) f12 rfl (fun w19 h19 f19 k19 => ?_) (by decide) (by decide)
      cases hc20 : m_c1 .ne v16 with
      | true =>
        have h0 := cT hc20 h0
        refine m_Rb.n0 b_46 (x_ift d_46_64 rfl hc20) ?_
        refine m_Rb.n0 b_46 (x_aload_n d_46_69 rfl) ?_
        obtain ⟨v21, e22, h0⟩ := bS h0
        refine m_Rb.tgetI b_46 d_46_70 rfl h19 e22 ?_
        refine m_Rb.n0 b_46 (x_istore_n d_46_73 rfl (show m_put1 _ _ _ = [(1, _), (0, _)] from rfl)) ?_
        refine m_Rb.n0 b_46 (x_ldc (v := .int 99999) d_46_74 rfl) ?_
        refine m_Rb.n0 b_46 (x_istore_n d_46_76 rfl (show m_put1 _ _ _ = [(2, _), (1, _), (0, _)] from rfl)) ?_
        refine m_Rb.n0 b_46 (x_aload_n d_46_77 rfl) ?_
        refine m_Rb.n0 b_46 (x_bipush (z := 45) d_46_78 (by decide)) ?_
        obtain ⟨_, e23, h0⟩ := bS h0
        obtain ⟨_, g24⟩ := RT.cls h19 e23
        obtain ⟨v25, T26, e27, h0⟩ := bS2 h0
        refine m_Rb.callI b_46 (y_cv d_46_80 rfl q_35 (m_isRecv_of rfl g24) (show m_takeI _ _ = some (_, [_, _], []) from m_takeI_of rfl rfl rfl (Nat.le_of_ble_eq_true rfl)) (by simp only [m_okf, List.all_cons, List.all_nil, Bool.and_true, Bool.and_self, m_okv_i, m_okv_l, m_okv_0, m_okv_n0, m_okv_t, RT.okn h19 (okm (okm ha0 k6) k19)]) rfl) (T_c_Reader_expect (okm (okm ha0 k6) k19) h19 e27) f19 rfl (fun w28 h28 f28 k28 => ?_) (by decide) (by decide)
        cases hc29 : m_c1 .ne v25 with
        | true =>
          have h0 := cT hc29 h0
          refine m_Rb.n0 b_46 (x_ift d_46_83 rfl hc29) ?_
          refine m_Rb.n0 b_46 (x_aload_n d_46_88 rfl) ?_
          obtain ⟨_, e30, h0⟩ := bS h0
          obtain ⟨_, g31⟩ := RT.cls h28 e30
          obtain ⟨v32, e33, h0⟩ := bS h0
          refine m_Rb.callI b_46 (y_cv d_46_89 rfl q_22 (m_isRecv_of rfl g31) (show m_takeI _ _ = some (_, [_], []) from m_takeI_of rfl rfl rfl (Nat.le_of_ble_eq_true rfl)) (by simp only [m_okf, List.all_cons, List.all_nil, Bool.and_true, Bool.and_self, m_okv_i, m_okv_l, m_okv_0, m_okv_n0, m_okv_t, RT.okn h28 (okm (okm (okm ha0 k6) k19) k28)]) rfl) (T_c_Reader_here (okm (okm (okm ha0 k6) k19) k28) h28 e33) f28 rfl (fun w34 h34 f34 k34 => ?_) (by decide) (by decide)
          obtain ⟨v35, e36, h0⟩ := bS h0
          refine m_Rb.callI b_46 (y_cs d_46_92 rfl q_39 (show m_takeS _ _ = some (_, [_], []) from m_takeS_of (Nat.le_of_ble_eq_true rfl) rfl rfl (Nat.le_of_ble_eq_true rfl)) (by simp only [m_okf, List.all_cons, List.all_nil, Bool.and_true, Bool.and_self, m_okv_i, m_okv_l, m_okv_0, m_okv_n0, m_okv_t, RT.okn h34 (okm (okm (okm ha0 k6) k19) k28)]) rfl) (T_c_Reader_isDigit h34 e36) f34 rfl (fun w37 h37 f37 k37 => ?_) (by decide) (by decide)
          cases hc38 : m_c1 .eq v35 with
          | true =>
            have h0 := cT hc38 h0
            refine m_Rb.n0 b_46 (x_ift d_46_95 rfl hc38) ?_
            exact m_Rb.pick [2, 1, 0] rfl (T_c_Reader_readRange_114 (okm (okm (okm ha0 k6) k19) k28) h37 f37 h0)
          | false =>
            have h0 := cF hc38 h0
            refine m_Rb.n0 b_46 (x_iff d_46_95 rfl hc38) ?_
            refine m_Rb.n0 b_46 (x_aload_n d_46_98 rfl) ?_
            refine m_Rb.n0 b_46 (x_ldc (v := .int 99999) d_46_99 rfl) ?_
            obtain ⟨_, e39, h0⟩ := bS h0
            obtain ⟨_, g40⟩ := RT.cls h37 e39
            obtain ⟨v41, T42, e43, h0⟩ := bS2 h0
            refine m_Rb.callI b_46 (y_cv d_46_101 rfl q_38 (m_isRecv_of rfl g40) (show m_takeI _ _ = some (_, [_, _], []) from m_takeI_of rfl rfl rfl (Nat.le_of_ble_eq_true rfl)) (by simp only [m_okf, List.all_cons, List.all_nil, Bool.and_true, Bool.and_self, m_okv_i, m_okv_l, m_okv_0, m_okv_n0, m_okv_t, RT.okn h37 (okm (okm (okm ha0 k6) k19) k28)]) rfl) (T_c_Reader_readNumber (okm (okm (okm ha0 k6) k19) k28) h37 e43) f37 rfl (fun w44 h44 f44 k44 => ?_) (by decide) (by decide)
            cases hc45 : m_c1 .ne v41 with
            | true =>
              have h0 := cT hc45 h0
              refine m_Rb.n0 b_46 (x_ift d_46_104 rfl hc45) ?_
              refine m_Rb.n0 b_46 (x_aload_n d_46_109 rfl) ?_
              obtain ⟨v46, e47, h0⟩ := bS h0
              refine m_Rb.tgetI b_46 d_46_110 rfl h44 e47 ?_
              refine m_Rb.n0 b_46 (x_istore_n d_46_113 rfl (show m_put1 _ _ _ = [(2, _), (1, _), (0, _)] from rfl)) ?_
              exact m_Rb.pick [2, 1, 0] rfl (T_c_Reader_readRange_114 (okm (okm (okm (okm ha0 k6) k19) k28) k44) h44 f44 h0)
            | false =>
              have h0 := cF hc45 h0
              refine m_Rb.n0 b_46 (x_iff d_46_104 rfl hc45) ?_
              refine m_Rb.n0 b_46 (x_iconst (z := 0) d_46_107 (by decide)) ?_
              cases h0
              exact m_Rb.ret b_46 (m_rt_ir d_46_108 rfl m_nb0) ⟨rfl, h44, f44⟩
        | false =>
          have h0 := cF hc29 h0
          refine m_Rb.n0 b_46 (x_iff d_46_83 rfl hc29) ?_
          refine m_Rb.n0 b_46 (x_iconst (z := 0) d_46_86 (by decide)) ?_
          cases h0
          exact m_Rb.ret b_46 (m_rt_ir d_46_87 rfl m_nb0) ⟨rfl, h28, f28⟩
      | false =>
        have h0 := cF hc20 h0
        refine m_Rb.n0 b_46 (x_iff d_46_64 rfl hc20) ?_
        refine m_Rb.n0 b_46 (x_iconst (z := 0) d_46_67 (by decide)) ?_
        cases h0
        exact m_Rb.ret b_46 (m_rt_ir d_46_68 rfl m_nb0) ⟨rfl, h19, f19⟩
    | false =>
      have h0 := cF hc13 h0
      refine m_Rb.n0 b_46 (x_icf d_46_17 rfl hc13) ?_
      refine m_Rb.n0 b_46 (x_aload_n d_46_20 rfl) ?_
      refine m_Rb.n0 b_46 (x_dup d_46_21 rfl) ?_
      obtain ⟨v48, e49, h0⟩ := bS h0
      refine m_Rb.tgetI b_46 d_46_22 rfl h12 e49 ?_
      refine m_Rb.n0 b_46 (x_iconst (z := 1) d_46_25 (by decide)) ?_
      refine m_Rb.n0 b_46 (x_iadd d_46_26 rfl) ?_
      obtain ⟨T50, e51, h0⟩ := bS h0
      refine m_Rb.tputI b_46 d_46_27 rfl rfl (by decide) h12 f12 e51 (fun w52 h52 f52 k52 => ?_)
      refine m_Rb.n0 b_46 (x_aload_n d_46_30 rfl) ?_
      obtain ⟨v53, e54, h0⟩ := bS h0
      refine m_Rb.tgetR b_46 d_46_31 rfl h52 e54 (fun o55 => ?_)
      refine m_Rb.n0 b_46 (x_iconst (z := 2) d_46_34 (by decide)) ?_
      obtain ⟨a56, e57, h0⟩ := bS h0
      subst e57
      obtain ⟨T58, e59, h0⟩ := bS h0
      refine m_Rb.tputI b_46 d_46_35 rfl rfl (by decide) h52 f52 e59 (fun w60 h60 f60 k60 => ?_)
      refine m_Rb.n0 b_46 (x_aload_n d_46_38 rfl) ?_
      refine m_Rb.n0 b_46 (x_ldc (v := .int 99999) d_46_39 rfl) ?_
      obtain ⟨_, e61, h0⟩ := bS h0
      obtain ⟨_, g62⟩ := RT.cls h60 e61
      obtain ⟨v63, T64, e65, h0⟩ := bS2 h0
      refine m_Rb.callI b_46 (y_cv d_46_41 rfl q_38 (m_isRecv_of rfl g62) (show m_takeI _ _ = some (_, [_, _], []) from m_takeI_of rfl rfl rfl (Nat.le_of_ble_eq_true rfl)) (by simp only [m_okf, List.all_cons, List.all_nil, Bool.and_true, Bool.and_self, m_okv_i, m_okv_l, m_okv_0, m_okv_n0, m_okv_t, RT.okn h60 (okm (okm (okm ha0 k6) k52) k60)]) rfl) (T_c_Reader_readNumber (okm (okm (okm ha0 k6) k52) k60) h60 e65) f60 rfl (fun w66 h66 f66 k66 => ?_) (by decide) (by decide)
      refine m_Rb.n0 b_46 (x_istore_n d_46_44 rfl (show m_put1 _ _ _ = [(1, _), (0, _)] from rfl)) ?_
      refine m_Rb.n0 b_46 (x_aload_n d_46_45 rfl) ?_
      obtain ⟨v67, e68, h0⟩ := bS h0
      refine m_Rb.tgetR b_46 d_46_46 rfl h66 e68 (fun o69 => ?_)
      refine m_Rb.n0 b_46 (x_aload_n d_46_49 rfl) ?_
      obtain ⟨v70, e71, h0⟩ := bS h0
      refine m_Rb.tgetI b_46 d_46_50 rfl h66 e71 ?_
      obtain ⟨a72, e73, h0⟩ := bS h0
      subst e73
      obtain ⟨T74, e75, h0⟩ := bS h0
      refine m_Rb.tputI b_46 d_46_53 rfl rfl (by decide) h66 f66 e75 (fun w76 h76 f76 k76 => ?_)
      refine m_Rb.n0 b_46 (x_iload_n d_46_56 rfl) ?_
      obtain ⟨v77, e78, h0⟩ := bS h0
      cases h0
      exact m_Rb.retb b_46 d_46_57 rfl e78 ⟨rfl, h76, f76⟩
  | false =>
    have h0 := cF hc7 h0
    refine m_Rb.n0 b_46 (x_iff d_46_6 rfl hc7) ?_
    refine m_Rb.n0 b_46 (x_iconst (z := 0) d_46_9 (by decide)) ?_
    cases h0
    exact m_Rb.ret b_46 (m_rt_ir d_46_10 rfl m_nb0) ⟨rfl, h6, f6⟩
def D_c_Conditions_addTag (F : Nat) (a0 : Nat) (p0 : Int32) (T : tT) : Option (tT) := (tgi T a0 7 6).bind fun v1 => (tgr T a0 7 5).bind fun v3 => (v3).bind fun a6 => (tal T a6).bind fun v8 => cond (m_c2 .ge v1 v8) (some T) ((tgr T a0 7 5).bind fun v14 => (tgi T a0 7 6).bind fun v17 => (v14).bind fun a19 => (tasi T a19 v17 p0).bind fun T21 => (tgi T21 a0 7 6).bind fun v24 => (tpi T21 a0 7 6 (v24 + (1 : Int32))).bind fun T26 => some T26)
theorem T_c_Conditions_addTag {l : Launch} {w : List mM} {F : Nat} {a0 : Nat} {p0 : Int32} {T : tT} {T9 : tT} (ha0 : okr T.2.1 (some a0)) (h : RT T w) (h0 : D_c_Conditions_addTag F a0 p0 T = some T9) : m_Rb l M_48 (m_ent M_48 [.ref a0, .int p0] w) (fun v w' => v = none ∧ RT T9 w' ∧ m_Fm w w') T T9 0 0 := by
  rw [show m_ent M_48 [.ref a0, .int p0] w = (0, [(0, .ref a0), (1, .int p0)], [], w) from by first | rfl | (simp only [m_ent, lv_args_r, lv_args_a, lv_args_i, lv_args_l, lv_args_0]; done) | (simp only [m_ent, lv_args_r, lv_args_a, lv_args_i, lv_args_l, lv_args_0]; rfl)]
  generalize hw0 : w = w0 at h ⊢
  have hF : m_Fm w0 w0 := m_Fm.refl
  rw [D_c_Conditions_addTag] at h0
  refine m_Rb.n0 b_48 (x_aload_n d_48_0 rfl) ?_
  obtain ⟨v1, e2, h0⟩ := bS h0
  refine m_Rb.tgetI b_48 d_48_1 rfl h e2 ?_
  refine m_Rb.n0 b_48 (x_aload_n d_48_4 rfl) ?_
  obtain ⟨v3, e4, h0⟩ := bS h0
  refine m_Rb.tgetR b_48 d_48_5 rfl h e4 (fun o5 => ?_)
  obtain ⟨a6, e7, h0⟩ := bS h0
  subst e7
  obtain ⟨v8, e9, h0⟩ := bS h0
  refine m_Rb.talen b_48 d_48_8 h e9 ?_
  cases hc13 : m_c2 .ge v1 v8 with
  | true =>
    have h0 := cT hc13 h0
    refine m_Rb.n0 b_48 (x_ict d_48_9 rfl hc13) ?_
    cases h0
    exact m_Rb.ret b_48 (m_rt_vr d_48_32 rfl) ⟨rfl, h, hF⟩
  | false =>
    have h0 := cF hc13 h0
    refine m_Rb.n0 b_48 (x_icf d_48_9 rfl hc13) ?_
    refine m_Rb.n0 b_48 (x_aload_n d_48_12 rfl) ?_
    obtain ⟨v14, e15, h0⟩ := bS h0
    refine m_Rb.tgetR b_48 d_48_13 rfl h e15 (fun o16 => ?_)
    refine m_Rb.n0 b_48 (x_aload_n d_48_16 rfl) ?_
    obtain ⟨v17, e18, h0⟩ := bS h0
    refine m_Rb.tgetI b_48 d_48_17 rfl h e18 ?_
    refine m_Rb.n0 b_48 (x_iload_n d_48_20 rfl) ?_
    obtain ⟨a19, e20, h0⟩ := bS h0
    subst e20
    obtain ⟨T21, e22, h0⟩ := bS h0
    refine m_Rb.tputAI b_48 d_48_21 h hF e22 (fun w23 h23 f23 k23 => ?_)
    refine m_Rb.n0 b_48 (x_aload_n d_48_22 rfl) ?_
    refine m_Rb.n0 b_48 (x_dup d_48_23 rfl) ?_
    obtain ⟨v24, e25, h0⟩ := bS h0
    refine m_Rb.tgetI b_48 d_48_24 rfl h23 e25 ?_
    refine m_Rb.n0 b_48 (x_iconst (z := 1) d_48_27 (by decide)) ?_
    refine m_Rb.n0 b_48 (x_iadd d_48_28 rfl) ?_
    obtain ⟨T26, e27, h0⟩ := bS h0
    refine m_Rb.tputI b_48 d_48_29 rfl rfl (by decide) h23 f23 e27 (fun w28 h28 f28 k28 => ?_)
    cases h0
    exact m_Rb.ret b_48 (m_rt_vr d_48_32 rfl) ⟨rfl, h28, f28⟩
def D_c_Reader_readMatch_31 (F : Nat) : Nat → Nat → Int32 → tT → Option (Int32 × tT)
  | 0, _, _, _ => none
  | n + 1, x0, x1, T => (tgr T x0 1 14).bind fun v20 => (v20).bind fun a23 => (tgr T a23 7 5).bind fun v25 => (v25).bind fun a28 => (tal T a28).bind fun v30 => cond (m_c2 .ge x1 v30) (some ((1 : Int32), T)) ((tcl T x0 1).bind fun _ => bd2 (D_c_Reader_expect F x0 (34 : Int32) T) fun v35 T36 => cond (m_c1 .eq v35) (some ((0 : Int32), T36)) ((tcl T36 x0 1).bind fun _ => bd2 (D_c_Reader_readNumber F x0 (99999 : Int32) T36) fun v42 T43 => cond (m_c1 .eq v42) (some ((0 : Int32), T43)) ((tcl T43 x0 1).bind fun _ => bd2 (D_c_Reader_expect F x0 (34 : Int32) T43) fun v49 T50 => cond (m_c1 .ne v49) ((tgr T50 x0 1 14).bind fun v54 => (tgi T50 x0 1 9).bind fun v57 => (v54).bind fun a59 => (tcl T50 a59 7).bind fun _ => (D_c_Conditions_addTag F a59 v57 T50).bind fun T63 => (tgr T63 x0 1 14).bind fun v66 => (v66).bind fun a69 => (tgr T63 a69 7 5).bind fun v71 => (v71).bind fun a74 => (tal T63 a74).bind fun v76 => cond (m_c2 .eq x1 (v76 - (1 : Int32))) (some ((1 : Int32), T63)) ((tcl T63 x0 1).bind fun _ => (D_c_Reader_here F x0 T63).bind fun v81 => cond (m_c2 .eq v81 (44 : Int32)) ((tgi T63 x0 1 2).bind fun v85 => (tpi T63 x0 1 2 (v85 + (1 : Int32))).bind fun T87 => (tcl T87 x0 1).bind fun _ => bd2 (D_c_Reader_expect F x0 (32 : Int32) T87) fun v92 T93 => cond (m_c1 .ne v92) (D_c_Reader_readMatch_31 F n x0 (x1 + Int32.ofInt 1) T93) (some ((0 : Int32), T93))) (some ((1 : Int32), T63)))) (some ((0 : Int32), T50)))))
theorem T_c_Reader_readMatch_31 {l : Launch} {w0 : List mM} {F : Nat} : ∀ (n : Nat) {x0 : Nat} {x1 : Int32} {T : tT} {w : List mM} {y9 : Int32} {T9 : tT}, okr T.2.1 (some x0) → RT T w → m_Fm w0 w → D_c_Reader_readMatch_31 F n x0 x1 T = some (y9, T9) → m_Rb l M_47 (31, [(0, .ref x0), (1, .int x1)], [], w) (fun v w' => v = some (.int y9) ∧ RT T9 w' ∧ m_Fm w0 w') T T9 2 200 := by
  intro n
  induction n with
  | zero => intro x0 x1 T w y9 T9 hx0 h hF h0; cases h0
  | succ n ih =>
    intro x0 x1 T w y9 T9 hx0 h hF h0
    rw [D_c_Reader_readMatch_31] at h0
    refine m_Rb.n0 b_47 (x_iload_n d_47_31 rfl) ?_
    refine m_Rb.n0 b_47 (x_aload_n d_47_32 rfl) ?_
    obtain ⟨v20, e21, h0⟩ := bS h0
    refine m_Rb.tgetR b_47 d_47_33 rfl h e21 (fun o22 => ?_)
    obtain ⟨a23, e24, h0⟩ := bS h0
    subst e24
    obtain ⟨v25, e26, h0⟩ := bS h0
    refine m_Rb.tgetR b_47 d_47_36 rfl h e26 (fun o27 => ?_)
    obtain ⟨a28, e29, h0⟩ := bS h0
    subst e29
    obtain ⟨v30, e31, h0⟩ := bS h0
    refine m_Rb.talen b_47 d_47_39 h e31 ?_
    cases hc32 : m_c2 .ge x1 v30 with
    | true =>
      have h0 := cT hc32 h0
      refine m_Rb.n0 b_47 (x_ict d_47_40 rfl hc32) ?_
      refine m_Rb.n0 b_47 (x_iconst (z := 1) d_47_136 (by decide)) ?_
      cases h0
      exact m_Rb.ret b_47 (m_rt_ir d_47_137 rfl m_nb1) ⟨rfl, h, hF⟩
    | false =>
      have h0 := cF hc32 h0
      refine m_Rb.n0 b_47 (x_icf d_47_40 rfl hc32) ?_
      refine m_Rb.n0 b_47 (x_aload_n d_47_43 rfl) ?_
      refine m_Rb.n0 b_47 (x_bipush (z := 34) d_47_44 (by decide)) ?_
      obtain ⟨_, e33, h0⟩ := bS h0
      obtain ⟨_, g34⟩ := RT.cls h e33
      obtain ⟨v35, T36, e37, h0⟩ := bS2 h0
      refine m_Rb.callI b_47 (y_cv d_47_46 rfl q_35 (m_isRecv_of rfl g34) (show m_takeI _ _ = some (_, [_, _], []) from m_takeI_of rfl rfl rfl (Nat.le_of_ble_eq_true rfl)) (by simp only [m_okf, List.all_cons, List.all_nil, Bool.and_true, Bool.and_self, m_okv_i, m_okv_l, m_okv_0, m_okv_n0, m_okv_t, RT.okn h hx0]) rfl) (T_c_Reader_expect hx0 h e37) hF rfl (fun w38 h38 f38 k38 => ?_) (by decide) (by decide)
      cases hc39 : m_c1 .eq v35 with
      | true =>
        have h0 := cT hc39 h0
        refine m_Rb.n0 b_47 (x_ift d_47_49 rfl hc39) ?_
        refine m_Rb.n0 b_47 (x_iconst (z := 0) d_47_70 (by decide)) ?_
        cases h0
        exact m_Rb.ret b_47 (m_rt_ir d_47_71 rfl m_nb0) ⟨rfl, h38, f38⟩
      | false =>
        have h0 := cF hc39 h0
        refine m_Rb.n0 b_47 (x_iff d_47_49 rfl hc39) ?_
        refine m_Rb.n0 b_47 (x_aload_n d_47_52 rfl) ?_
        refine m_Rb.n0 b_47 (x_ldc (v := .int 99999) d_47_53 rfl) ?_
        obtain ⟨_, e40, h0⟩ := bS h0
        obtain ⟨_, g41⟩ := RT.cls h38 e40
        obtain ⟨v42, T43, e44, h0⟩ := bS2 h0
        refine m_Rb.callI b_47 (y_cv d_47_55 rfl q_38 (m_isRecv_of rfl g41) (show m_takeI _ _ = some (_, [_, _], []) from m_takeI_of rfl rfl rfl (Nat.le_of_ble_eq_true rfl)) (by simp only [m_okf, List.all_cons, List.all_nil, Bool.and_true, Bool.and_self, m_okv_i, m_okv_l, m_okv_0, m_okv_n0, m_okv_t, RT.okn h38 (okm hx0 k38)]) rfl) (T_c_Reader_readNumber (okm hx0 k38) h38 e44) f38 rfl (fun w45 h45 f45 k45 => ?_) (by decide) (by decide)
        cases hc46 : m_c1 .eq v42 with
        | true =>
          have h0 := cT hc46 h0
          refine m_Rb.n0 b_47 (x_ift d_47_58 rfl hc46) ?_
          refine m_Rb.n0 b_47 (x_iconst (z := 0) d_47_70 (by decide)) ?_
          cases h0
          exact m_Rb.ret b_47 (m_rt_ir d_47_71 rfl m_nb0) ⟨rfl, h45, f45⟩
        | false =>
          have h0 := cF hc46 h0
          refine m_Rb.n0 b_47 (x_iff d_47_58 rfl hc46) ?_
          refine m_Rb.n0 b_47 (x_aload_n d_47_61 rfl) ?_
          refine m_Rb.n0 b_47 (x_bipush (z := 34) d_47_62 (by decide)) ?_
          obtain ⟨_, e47, h0⟩ := bS h0
          obtain ⟨_, g48⟩ := RT.cls h45 e47
          obtain ⟨v49, T50, e51, h0⟩ := bS2 h0
          refine m_Rb.callI b_47 (y_cv d_47_64 rfl q_35 (m_isRecv_of rfl g48) (show m_takeI _ _ = some (_, [_, _], []) from m_takeI_of rfl rfl rfl (Nat.le_of_ble_eq_true rfl)) (by simp only [m_okf, List.all_cons, List.all_nil, Bool.and_true, Bool.and_self, m_okv_i, m_okv_l, m_okv_0, m_okv_n0, m_okv_t, RT.okn h45 (okm (okm hx0 k38) k45)]) rfl) (T_c_Reader_expect (okm (okm hx0 k38) k45) h45 e51) f45 rfl (fun w52 h52 f52 k52 => ?_) (by decide) (by decide)
          cases hc53 : m_c1 .ne v49 with
          | true =>
            have h0 := cT hc53 h0
            refine m_Rb.n0 b_47 (x_ift d_47_67 rfl hc53) ?_
            refine m_Rb.n0 b_47 (x_aload_n d_47_72 rfl) ?_
            obtain ⟨v54, e55, h0⟩ := bS h0
            refine m_Rb.tgetR b_47 d_47_73 rfl h52 e55 (fun o56 => ?_)
            refine m_Rb.n0 b_47 (x_aload_n d_47_76 rfl) ?_
            obtain ⟨v57, e58, h0⟩ := bS h0
            refine m_Rb.tgetI b_47 d_47_77 rfl h52 e58 ?_
            obtain ⟨a59, e60, h0⟩ := bS h0
            subst e60
            obtain ⟨_, e61, h0⟩ := bS h0
            obtain ⟨_, g62⟩ := RT.cls h52 e61
            obtain ⟨T63, e64, h0⟩ := bS h0
            refine m_Rb.callV b_47 (y_cv d_47_80 rfl q_48 (m_isRecv_of rfl g62) (show m_takeI _ _ = some (_, [_, _], []) from m_takeI_of rfl rfl rfl (Nat.le_of_ble_eq_true rfl)) (by simp only [m_okf, List.all_cons, List.all_nil, Bool.and_true, Bool.and_self, m_okv_i, m_okv_l, m_okv_0, m_okv_n0, m_okv_t, RT.okn h52 (okm (okm (okm hx0 k38) k45) k52), RT.okn h52 o56]) rfl) (T_c_Conditions_addTag o56 h52 e64) f52 rfl (fun w65 h65 f65 k65 => ?_) (by decide) (by decide)
            refine m_Rb.n0 b_47 (x_iload_n d_47_83 rfl) ?_
            refine m_Rb.n0 b_47 (x_aload_n d_47_84 rfl) ?_
            obtain ⟨v66, e67, h0⟩ := bS h0
            refine m_Rb.tgetR b_47 d_47_85 rfl h65 e67 (fun o68 => ?_)
            obtain ⟨a69, e70, h0⟩ := bS h0
            subst e70
            obtain ⟨v71, e72, h0⟩ := bS h0
            refine m_Rb.tgetR b_47 d_47_88 rfl h65 e72 (fun o73 => ?_)
            obtain ⟨a74, e75, h0⟩ := bS h0
            subst e75
            obtain ⟨v76, e77, h0⟩ := bS h0
            refine m_Rb.talen b_47 d_47_91 h65 e77 ?_
            refine m_Rb.n0 b_47 (x_iconst (z := 1) d_47_92 (by decide)) ?_
            refine m_Rb.n0 b_47 (x_isub d_47_93 rfl) ?_
            cases hc78 : m_c2 .eq x1 (v76 - (1 : Int32)) with
            | true =>
              have h0 := cT hc78 h0
              refine m_Rb.n0 b_47 (x_ict d_47_94 rfl hc78) ?_
              refine m_Rb.n0 b_47 (x_iconst (z := 1) d_47_136 (by decide)) ?_
              cases h0
              exact m_Rb.ret b_47 (m_rt_ir d_47_137 rfl m_nb1) ⟨rfl, h65, f65⟩
            | false =>
              have h0 := cF hc78 h0
              refine m_Rb.n0 b_47 (x_icf d_47_94 rfl hc78) ?_
              refine m_Rb.n0 b_47 (x_aload_n d_47_97 rfl) ?_
              obtain ⟨_, e79, h0⟩ := bS h0
              obtain ⟨_, g80⟩ := RT.cls h65 e79
              obtain ⟨v81, e82, h0⟩ := bS h0
              refine m_Rb.callI b_47 (y_cv d_47_98 rfl q_22 (m_isRecv_of rfl g80) (show m_takeI _ _ = some (_, [_], []) from m_takeI_of rfl rfl rfl (Nat.le_of_ble_eq_true rfl)) (by simp only [m_okf, List.all_cons, List.all_nil, Bool.and_true, Bool.and_self, m_okv_i, m_okv_l, m_okv_0, m_okv_n0, m_okv_t, RT.okn h65 (okm (okm (okm (okm hx0 k38) k45) k52) k65)]) rfl) (T_c_Reader_here (okm (okm (okm (okm hx0 k38) k45) k52) k65) h65 e82) f65 rfl (fun w83 h83 f83 k83 => ?_) (by decide) (by decide)
              refine m_Rb.n0 b_47 (x_bipush (z := 44) d_47_101 (by decide)) ?_
              cases hc84 : m_c2 .eq v81 (44 : Int32) with
              | true =>
                have h0 := cT hc84 h0
                refine m_Rb.n0 b_47 (x_ict d_47_103 rfl hc84) ?_
                refine m_Rb.n0 b_47 (x_aload_n d_47_109 rfl) ?_
                refine m_Rb.n0 b_47 (x_dup d_47_110 rfl) ?_
                obtain ⟨v85, e86, h0⟩ := bS h0
                refine m_Rb.tgetI b_47 d_47_111 rfl h83 e86 ?_
                refine m_Rb.n0 b_47 (x_iconst (z := 1) d_47_114 (by decide)) ?_
                refine m_Rb.n0 b_47 (x_iadd d_47_115 rfl) ?_
                obtain ⟨T87, e88, h0⟩ := bS h0
                refine m_Rb.tputI b_47 d_47_116 rfl rfl (by decide) h83 f83 e88 (fun w89 h89 f89 k89 => ?_)
                refine m_Rb.n0 b_47 (x_aload_n d_47_119 rfl) ?_
                refine m_Rb.n0 b_47 (x_bipush (z := 32) d_47_120 (by decide)) ?_
                obtain ⟨_, e90, h0⟩ := bS h0
                obtain ⟨_, g91⟩ := RT.cls h89 e90
                obtain ⟨v92, T93, e94, h0⟩ := bS2 h0
                refine m_Rb.callI b_47 (y_cv d_47_122 rfl q_35 (m_isRecv_of rfl g91) (show m_takeI _ _ = some (_, [_, _], []) from m_takeI_of rfl rfl rfl (Nat.le_of_ble_eq_true rfl)) (by simp only [m_okf, List.all_cons, List.all_nil, Bool.and_true, Bool.and_self, m_okv_i, m_okv_l, m_okv_0, m_okv_n0, m_okv_t, RT.okn h89 (okm (okm (okm (okm (okm hx0 k38) k45) k52) k65) k89)]) rfl) (T_c_Reader_expect (okm (okm (okm (okm (okm hx0 k38) k45) k52) k65) k89) h89 e94) f89 rfl (fun w95 h95 f95 k95 => ?_) (by decide) (by decide)
                cases hc96 : m_c1 .ne v92 with
                | true =>
                  have h0 := cT hc96 h0
                  refine m_Rb.n0 b_47 (x_ift d_47_125 rfl hc96) ?_
                  refine m_Rb.n0 b_47 (x_iinc d_47_130 rfl rfl rfl (show m_put1 _ _ _ = [(1, _), (0, _)] from rfl)) ?_
                  refine m_Rb.n0 b_47 (x_goto d_47_133 rfl) ?_
                  exact m_Rb.pick [1, 0] rfl (ih (okm (okm (okm (okm (okm (okm hx0 k38) k45) k52) k65) k89) k95) h95 f95 h0)
                | false =>
                  have h0 := cF hc96 h0
                  refine m_Rb.n0 b_47 (x_iff d_47_125 rfl hc96) ?_
                  refine m_Rb.n0 b_47 (x_iconst (z := 0) d_47_128 (by decide)) ?_
                  cases h0
                  exact m_Rb.ret b_47 (m_rt_ir d_47_129 rfl m_nb0) ⟨rfl, h95, f95⟩
              | false =>
                have h0 := cF hc84 h0
                refine m_Rb.n0 b_47 (x_icf d_47_103 rfl hc84) ?_
                refine m_Rb.n0 b_47 (x_goto d_47_106 rfl) ?_
                refine m_Rb.n0 b_47 (x_iconst (z := 1) d_47_136 (by decide)) ?_
                cases h0
                exact m_Rb.ret b_47 (m_rt_ir d_47_137 rfl m_nb1) ⟨rfl, h83, f83⟩
          | false =>
            have h0 := cF hc53 h0
            refine m_Rb.n0 b_47 (x_iff d_47_67 rfl hc53) ?_
            refine m_Rb.n0 b_47 (x_iconst (z := 0) d_47_70 (by decide)) ?_
            cases h0
            exact m_Rb.ret b_47 (m_rt_ir d_47_71 rfl m_nb0) ⟨rfl, h52, f52⟩
def D_c_Reader_readMatch (F : Nat) (a0 : Nat) (T : tT) : Option (Int32 × tT) := (tcl T a0 1).bind fun _ => (D_c_Reader_here F a0 T).bind fun v3 => cond (m_c2 .ne v3 (42 : Int32)) (D_c_Reader_readMatch_31 F F a0 (0 : Int32) T) ((tgi T a0 1 2).bind fun v7 => (tpi T a0 1 2 (v7 + (1 : Int32))).bind fun T9 => (tgr T9 a0 1 14).bind fun v12 => (v12).bind fun a15 => (tpz T9 a15 7 4 (1 : Int32)).bind fun T17 => some ((1 : Int32), T17))
theorem T_c_Reader_readMatch {l : Launch} {w : List mM} {F : Nat} {a0 : Nat} {T : tT} {y9 : Int32} {T9 : tT} (ha0 : okr T.2.1 (some a0)) (h : RT T w) (h0 : D_c_Reader_readMatch F a0 T = some (y9, T9)) : m_Rb l M_47 (m_ent M_47 [.ref a0] w) (fun v w' => v = some (.int y9) ∧ RT T9 w' ∧ m_Fm w w') T T9 2 200 := by
  rw [show m_ent M_47 [.ref a0] w = (0, [(0, .ref a0)], [], w) from by first | rfl | (simp only [m_ent, lv_args_r, lv_args_a, lv_args_i, lv_args_l, lv_args_0]; done) | (simp only [m_ent, lv_args_r, lv_args_a, lv_args_i, lv_args_l, lv_args_0]; rfl)]
  generalize hw0 : w = w0 at h ⊢
  have hF : m_Fm w0 w0 := m_Fm.refl
  rw [D_c_Reader_readMatch] at h0
  refine m_Rb.n0 b_47 (x_aload_n d_47_0 rfl) ?_
  obtain ⟨_, e1, h0⟩ := bS h0
  obtain ⟨_, g2⟩ := RT.cls h e1
  obtain ⟨v3, e4, h0⟩ := bS h0
  refine m_Rb.callI b_47 (y_cv d_47_1 rfl q_22 (m_isRecv_of rfl g2) (show m_takeI _ _ = some (_, [_], []) from m_takeI_of rfl rfl rfl (Nat.le_of_ble_eq_true rfl)) (by simp only [m_okf, List.all_cons, List.all_nil, Bool.and_true, Bool.and_self, m_okv_i, m_okv_l, m_okv_0, m_okv_n0, m_okv_t, RT.okn h ha0]) rfl) (T_c_Reader_here ha0 h e4) hF rfl (fun w5 h5 f5 k5 => ?_) (by decide) (by decide)
  refine m_Rb.n0 b_47 (x_bipush (z := 42) d_47_4 (by decide)) ?_
  cases hc6 : m_c2 .ne v3 (42 : Int32) with
  | true =>
    have h0 := cT hc6 h0
    refine m_Rb.n0 b_47 (x_ict d_47_6 rfl hc6) ?_
    refine m_Rb.n0 b_47 (x_iconst (z := 0) d_47_29 (by decide)) ?_
    refine m_Rb.n0 b_47 (x_istore_n d_47_30 rfl (show m_put1 _ _ _ = [(1, _), (0, _)] from rfl)) ?_
    exact m_Rb.pick [1, 0] rfl (T_c_Reader_readMatch_31 F ha0 h5 f5 h0)
  | false =>
    have h0 := cF hc6 h0
    refine m_Rb.n0 b_47 (x_icf d_47_6 rfl hc6) ?_
    refine m_Rb.n0 b_47 (x_aload_n d_47_9 rfl) ?_
    refine m_Rb.n0 b_47 (x_dup d_47_10 rfl) ?_
    obtain ⟨v7, e8, h0⟩ := bS h0
    refine m_Rb.tgetI b_47 d_47_11 rfl h5 e8 ?_
    refine m_Rb.n0 b_47 (x_iconst (z := 1) d_47_14 (by decide)) ?_
    refine m_Rb.n0 b_47 (x_iadd d_47_15 rfl) ?_
    obtain ⟨T9, e10, h0⟩ := bS h0
    refine m_Rb.tputI b_47 d_47_16 rfl rfl (by decide) h5 f5 e10 (fun w11 h11 f11 k11 => ?_)
    refine m_Rb.n0 b_47 (x_aload_n d_47_19 rfl) ?_
    obtain ⟨v12, e13, h0⟩ := bS h0
    refine m_Rb.tgetR b_47 d_47_20 rfl h11 e13 (fun o14 => ?_)
    refine m_Rb.n0 b_47 (x_iconst (z := 1) d_47_23 (by decide)) ?_
    obtain ⟨a15, e16, h0⟩ := bS h0
    subst e16
    obtain ⟨T17, e18, h0⟩ := bS h0
    refine m_Rb.tputZ b_47 d_47_24 rfl rfl (by decide) h11 f11 e18 (fun w19 h19 f19 k19 => ?_)
    refine m_Rb.n0 b_47 (x_iconst (z := 1) d_47_27 (by decide)) ?_
    cases h0
    exact m_Rb.ret b_47 (m_rt_ir d_47_28 rfl m_nb1) ⟨rfl, h19, f19⟩
def D_c_Reader_readWord (F : Nat) (a0 : Nat) (T : tT) : Option (Int32 × tT) := (tgi T a0 1 2).bind fun v1 => (tpi T a0 1 6 v1).bind fun T3 => (tcl T3 a0 1).bind fun _ => (D_c_Reader_skipLetters F a0 T3).bind fun T8 => (tgi T8 a0 1 2).bind fun v11 => (tpi T8 a0 1 7 v11).bind fun T13 => (tgi T13 a0 1 2).bind fun v16 => (tgi T13 a0 1 6).bind fun v18 => cond (m_c2 .ne v16 v18) ((tgi T13 a0 1 2).bind fun v21 => (tgi T13 a0 1 6).bind fun v23 => cond (m_c2 .le (v21 - v23) (30 : Int32)) ((tcl T13 a0 1).bind fun _ => (D_c_Reader_here F a0 T13).bind fun v28 => (cond (m_c2 .eq v28 (61 : Int32)) (some (0 : Int32)) (some (1 : Int32))).bind fun v34 => (tpz T13 a0 1 8 v34).bind fun T36 => (tgi T36 a0 1 8).bind fun v39 => cond (m_c1 .eq v39) ((tgi T36 a0 1 2).bind fun v42 => (tpi T36 a0 1 2 (v42 + (1 : Int32))).bind fun T44 => (tcl T44 a0 1).bind fun _ => bd2 (D_c_Reader_readNumber F a0 (99999 : Int32) T44) fun v49 T50 => (bret v49).bind fun v53 => some (v53, T50)) (some ((1 : Int32), T36))) ((tgi T13 a0 1 6).bind fun v55 => (tcl T13 a0 1).bind fun _ => bd2 (D_c_Reader_no F a0 v55 T13) fun v59 T60 => (bret v59).bind fun v63 => some (v63, T60))) ((tgi T13 a0 1 2).bind fun v65 => (tcl T13 a0 1).bind fun _ => bd2 (D_c_Reader_no F a0 v65 T13) fun v69 T70 => (bret v69).bind fun v73 => some (v73, T70))
theorem T_c_Reader_readWord {l : Launch} {w : List mM} {F : Nat} {a0 : Nat} {T : tT} {y9 : Int32} {T9 : tT} (ha0 : okr T.2.1 (some a0)) (h : RT T w) (h0 : D_c_Reader_readWord F a0 T = some (y9, T9)) : m_Rb l M_50 (m_ent M_50 [.ref a0] w) (fun v w' => v = some (.int y9) ∧ RT T9 w' ∧ m_Fm w w') T T9 2 200 := by
  rw [show m_ent M_50 [.ref a0] w = (0, [(0, .ref a0)], [], w) from by first | rfl | (simp only [m_ent, lv_args_r, lv_args_a, lv_args_i, lv_args_l, lv_args_0]; done) | (simp only [m_ent, lv_args_r, lv_args_a, lv_args_i, lv_args_l, lv_args_0]; rfl)]
  generalize hw0 : w = w0 at h ⊢
  have hF : m_Fm w0 w0 := m_Fm.refl
  rw [D_c_Reader_readWord] at h0
  refine m_Rb.n0 b_50 (x_aload_n d_50_0 rfl) ?_
  refine m_Rb.n0 b_50 (x_aload_n d_50_1 rfl) ?_
  obtain ⟨v1, e2, h0⟩ := bS h0
  refine m_Rb.tgetI b_50 d_50_2 rfl h e2 ?_
  obtain ⟨T3, e4, h0⟩ := bS h0
  refine m_Rb.tputI b_50 d_50_5 rfl rfl (by decide) h hF e4 (fun w5 h5 f5 k5 => ?_)
  refine m_Rb.n0 b_50 (x_aload_n d_50_8 rfl) ?_
  obtain ⟨_, e6, h0⟩ := bS h0
  obtain ⟨_, g7⟩ := RT.cls h5 e6
  obtain ⟨T8, e9, h0⟩ := bS h0
  refine m_Rb.callV b_50 (y_cv d_50_9 rfl q_41 (m_isRecv_of rfl g7) (show m_takeI _ _ = some (_, [_], []) from m_takeI_of rfl rfl rfl (Nat.le_of_ble_eq_true rfl)) (by simp only [m_okf, List.all_cons, List.all_nil, Bool.and_true, Bool.and_self, m_okv_i, m_okv_l, m_okv_0, m_okv_n0, m_okv_t, RT.okn h5 (okm ha0 k5)]) rfl) (T_c_Reader_skipLetters (okm ha0 k5) h5 e9) f5 rfl (fun w10 h10 f10 k10 => ?_) (by decide) (by decide)
  refine m_Rb.n0 b_50 (x_aload_n d_50_12 rfl) ?_
  refine m_Rb.n0 b_50 (x_aload_n d_50_13 rfl) ?_
  obtain ⟨v11, e12, h0⟩ := bS h0
  refine m_Rb.tgetI b_50 d_50_14 rfl h10 e12 ?_
  obtain ⟨T13, e14, h0⟩ := bS h0
  refine m_Rb.tputI b_50 d_50_17 rfl rfl (by decide) h10 f10 e14 (fun w15 h15 f15 k15 => ?_)
  refine m_Rb.n0 b_50 (x_aload_n d_50_20 rfl) ?_
  obtain ⟨v16, e17, h0⟩ := bS h0
  refine m_Rb.tgetI b_50 d_50_21 rfl h15 e17 ?_
  refine m_Rb.n0 b_50 (x_aload_n d_50_24 rfl) ?_
  obtain ⟨v18, e19, h0⟩ := bS h0
  refine m_Rb.tgetI b_50 d_50_25 rfl h15 e19 ?_
  cases hc20 : m_c2 .ne v16 v18 with
  | true =>
    have h0 := cT hc20 h0
    refine m_Rb.n0 b_50 (x_ict d_50_28 rfl hc20) ?_
    refine m_Rb.n0 b_50 (x_aload_n d_50_40 rfl) ?_
    obtain ⟨v21, e22, h0⟩ := bS h0
    refine m_Rb.tgetI b_50 d_50_41 rfl h15 e22 ?_
    refine m_Rb.n0 b_50 (x_aload_n d_50_44 rfl) ?_
    obtain ⟨v23, e24, h0⟩ := bS h0
    refine m_Rb.tgetI b_50 d_50_45 rfl h15 e24 ?_
    refine m_Rb.n0 b_50 (x_isub d_50_48 rfl) ?_
    refine m_Rb.n0 b_50 (x_bipush (z := 30) d_50_49 (by decide)) ?_
    cases hc25 : m_c2 .le (v21 - v23) (30 : Int32) with
    | true =>
      have h0 := cT hc25 h0
      refine m_Rb.n0 b_50 (x_ict d_50_51 rfl hc25) ?_
      refine m_Rb.n0 b_50 (x_aload_n d_50_63 rfl) ?_
      refine m_Rb.n0 b_50 (x_aload_n d_50_64 rfl) ?_
      obtain ⟨_, e26, h0⟩ := bS h0
      obtain ⟨_, g27⟩ := RT.cls h15 e26
      obtain ⟨v28, e29, h0⟩ := bS h0
      refine m_Rb.callI b_50 (y_cv d_50_65 rfl q_22 (m_isRecv_of rfl g27) (show m_takeI _ _ = some (_, [_], [_]) from m_takeI_of rfl rfl rfl (Nat.le_of_ble_eq_true rfl)) (by simp only [m_okf, List.all_cons, List.all_nil, Bool.and_true, Bool.and_self, m_okv_i, m_okv_l, m_okv_0, m_okv_n0, m_okv_t, RT.okn h15 (okm (okm (okm ha0 k5) k10) k15)]) rfl) (T_c_Reader_here (okm (okm (okm ha0 k5) k10) k15) h15 e29) f15 rfl (fun w30 h30 f30 k30 => ?_) (by decide) (by decide)
      refine m_Rb.n0 b_50 (x_bipush (z := 61) d_50_68 (by decide)) ?_
      obtain ⟨v34, e32, h0⟩ := bS h0
      have kk31 : ∀ (xz : Int32) (w1 : List mM), xz = v34 → RT T13 w1 → m_Fm w0 w1 → m_Rb l M_50 (78, [(0, .ref a0)], [.int xz, .ref a0], w1) (fun v w' => v = some (.int y9) ∧ RT T9 w' ∧ m_Fm w0 w') T13 T9 2 200 := by
        intro xz w35 ez h35 f35
        rw [ez]
        obtain ⟨T36, e37, h0⟩ := bS h0
        refine m_Rb.tputZ b_50 d_50_78 rfl rfl (by decide) h35 f35 e37 (fun w38 h38 f38 k38 => ?_)
        refine m_Rb.n0 b_50 (x_aload_n d_50_81 rfl) ?_
        obtain ⟨v39, e40, h0⟩ := bS h0
        refine m_Rb.tgetI b_50 d_50_82 rfl h38 e40 ?_
        cases hc41 : m_c1 .eq v39 with
        | true =>
          have h0 := cT hc41 h0
          refine m_Rb.n0 b_50 (x_ift d_50_85 rfl hc41) ?_
          refine m_Rb.n0 b_50 (x_aload_n d_50_90 rfl) ?_
          refine m_Rb.n0 b_50 (x_dup d_50_91 rfl) ?_
          obtain ⟨v42, e43, h0⟩ := bS h0
          refine m_Rb.tgetI b_50 d_50_92 rfl h38 e43 ?_
          refine m_Rb.n0 b_50 (x_iconst (z := 1) d_50_95 (by decide)) ?_
          refine m_Rb.n0 b_50 (x_iadd d_50_96 rfl) ?_
          obtain ⟨T44, e45, h0⟩ := bS h0
          refine m_Rb.tputI b_50 d_50_97 rfl rfl (by decide) h38 f38 e45 (fun w46 h46 f46 k46 => ?_)
          refine m_Rb.n0 b_50 (x_aload_n d_50_100 rfl) ?_
          refine m_Rb.n0 b_50 (x_ldc (v := .int 99999) d_50_101 rfl) ?_
          obtain ⟨_, e47, h0⟩ := bS h0
          obtain ⟨_, g48⟩ := RT.cls h46 e47
          obtain ⟨v49, T50, e51, h0⟩ := bS2 h0
          refine m_Rb.callI b_50 (y_cv d_50_103 rfl q_38 (m_isRecv_of rfl g48) (show m_takeI _ _ = some (_, [_, _], []) from m_takeI_of rfl rfl rfl (Nat.le_of_ble_eq_true rfl)) (by simp only [m_okf, List.all_cons, List.all_nil, Bool.and_true, Bool.and_self, m_okv_i, m_okv_l, m_okv_0, m_okv_n0, m_okv_t, RT.okn h46 (okm (okm (okm (okm (okm ha0 k5) k10) k15) k38) k46)]) rfl) (T_c_Reader_readNumber (okm (okm (okm (okm (okm ha0 k5) k10) k15) k38) k46) h46 e51) f46 rfl (fun w52 h52 f52 k52 => ?_) (by decide) (by decide)
          obtain ⟨v53, e54, h0⟩ := bS h0
          cases h0
          exact m_Rb.retb b_50 d_50_106 rfl e54 ⟨rfl, h52, f52⟩
        | false =>
          have h0 := cF hc41 h0
          refine m_Rb.n0 b_50 (x_iff d_50_85 rfl hc41) ?_
          refine m_Rb.n0 b_50 (x_iconst (z := 1) d_50_88 (by decide)) ?_
          cases h0
          exact m_Rb.ret b_50 (m_rt_ir d_50_89 rfl m_nb1) ⟨rfl, h38, f38⟩
      cases hc33 : m_c2 .eq v28 (61 : Int32) with
      | true =>
        have e32 := cT hc33 e32
        refine m_Rb.n0 b_50 (x_ict d_50_70 rfl hc33) ?_
        refine m_Rb.n0 b_50 (x_iconst (z := 0) d_50_77 (by decide)) ?_
        exact kk31 _ _ (Option.some.inj e32) h30 f30
      | false =>
        have e32 := cF hc33 e32
        refine m_Rb.n0 b_50 (x_icf d_50_70 rfl hc33) ?_
        refine m_Rb.n0 b_50 (x_iconst (z := 1) d_50_73 (by decide)) ?_
        refine m_Rb.n0 b_50 (x_goto d_50_74 rfl) ?_
        exact kk31 _ _ (Option.some.inj e32) h30 f30
    | false =>
      have h0 := cF hc25 h0
      refine m_Rb.n0 b_50 (x_icf d_50_51 rfl hc25) ?_
      refine m_Rb.n0 b_50 (x_aload_n d_50_54 rfl) ?_
      refine m_Rb.n0 b_50 (x_aload_n d_50_55 rfl) ?_
      obtain ⟨v55, e56, h0⟩ := bS h0
      refine m_Rb.tgetI b_50 d_50_56 rfl h15 e56 ?_
      obtain ⟨_, e57, h0⟩ := bS h0
      obtain ⟨_, g58⟩ := RT.cls h15 e57
      obtain ⟨v59, T60, e61, h0⟩ := bS2 h0
      refine m_Rb.callI b_50 (y_cv d_50_59 rfl q_36 (m_isRecv_of rfl g58) (show m_takeI _ _ = some (_, [_, _], []) from m_takeI_of rfl rfl rfl (Nat.le_of_ble_eq_true rfl)) (by simp only [m_okf, List.all_cons, List.all_nil, Bool.and_true, Bool.and_self, m_okv_i, m_okv_l, m_okv_0, m_okv_n0, m_okv_t, RT.okn h15 (okm (okm (okm ha0 k5) k10) k15)]) rfl) (T_c_Reader_no (okm (okm (okm ha0 k5) k10) k15) h15 e61) f15 rfl (fun w62 h62 f62 k62 => ?_) (by decide) (by decide)
      obtain ⟨v63, e64, h0⟩ := bS h0
      cases h0
      exact m_Rb.retb b_50 d_50_62 rfl e64 ⟨rfl, h62, f62⟩
  | false =>
    have h0 := cF hc20 h0
    refine m_Rb.n0 b_50 (x_icf d_50_28 rfl hc20) ?_
    refine m_Rb.n0 b_50 (x_aload_n d_50_31 rfl) ?_
    refine m_Rb.n0 b_50 (x_aload_n d_50_32 rfl) ?_
    obtain ⟨v65, e66, h0⟩ := bS h0
    refine m_Rb.tgetI b_50 d_50_33 rfl h15 e66 ?_
    obtain ⟨_, e67, h0⟩ := bS h0
    obtain ⟨_, g68⟩ := RT.cls h15 e67
    obtain ⟨v69, T70, e71, h0⟩ := bS2 h0
    refine m_Rb.callI b_50 (y_cv d_50_36 rfl q_36 (m_isRecv_of rfl g68) (show m_takeI _ _ = some (_, [_, _], []) from m_takeI_of rfl rfl rfl (Nat.le_of_ble_eq_true rfl)) (by simp only [m_okf, List.all_cons, List.all_nil, Bool.and_true, Bool.and_self, m_okv_i, m_okv_l, m_okv_0, m_okv_n0, m_okv_t, RT.okn h15 (okm (okm (okm ha0 k5) k10) k15)]) rfl) (T_c_Reader_no (okm (okm (okm ha0 k5) k10) k15) h15 e71) f15 rfl (fun w72 h72 f72 k72 => ?_) (by decide) (by decide)
    obtain ⟨v73, e74, h0⟩ := bS h0
    cases h0
    exact m_Rb.retb b_50 d_50_39 rfl e74 ⟨rfl, h72, f72⟩
def D_c_Reader_weighLanguage (F : Nat) (a0 : Nat) (T : tT) : Option (tT) := (tgi T a0 1 8).bind fun v1 => (cond (m_c1 .eq v1) ((tgi T a0 1 9).bind fun v6 => some v6) (some (9 : Int32))).bind fun v8 => (tcl T a0 1).bind fun _ => (D_c_Reader_isWord F a0 18 T).bind fun v12 => cond (m_c1 .eq v12) ((tcl T a0 1).bind fun _ => (D_c_Reader_isWord F a0 19 T).bind fun v39 => cond (m_c1 .eq v39) ((tcl T a0 1).bind fun _ => (D_c_Reader_isWord F a0 20 T).bind fun v60 => cond (m_c1 .eq v60) ((tcl T a0 1).bind fun _ => (D_c_Reader_isWord F a0 21 T).bind fun v75 => cond (m_c1 .eq v75) (some T) ((tgr T a0 1 12).bind fun v82 => (v82).bind fun a85 => (tasi T a85 (3 : Int32) v8).bind fun T87 => some T87)) ((tgr T a0 1 12).bind fun v90 => (v90).bind fun a93 => (tasi T a93 (2 : Int32) v8).bind fun T95 => some T95)) ((tgr T a0 1 12).bind fun v98 => (v98).bind fun a101 => (tasi T a101 (1 : Int32) v8).bind fun T103 => some T103)) ((tgr T a0 1 12).bind fun v106 => (v106).bind fun a109 => (tasi T a109 (0 : Int32) v8).bind fun T111 => some T111)
theorem T_c_Reader_weighLanguage {l : Launch} {w : List mM} {F : Nat} {a0 : Nat} {T : tT} {T9 : tT} (ha0 : okr T.2.1 (some a0)) (h : RT T w) (h0 : D_c_Reader_weighLanguage F a0 T = some T9) : m_Rb l M_51 (m_ent M_51 [.ref a0] w) (fun v w' => v = none ∧ RT T9 w' ∧ m_Fm w w') T T9 5 500 := by
  rw [show m_ent M_51 [.ref a0] w = (0, [(0, .ref a0)], [], w) from by first | rfl | (simp only [m_ent, lv_args_r, lv_args_a, lv_args_i, lv_args_l, lv_args_0]; done) | (simp only [m_ent, lv_args_r, lv_args_a, lv_args_i, lv_args_l, lv_args_0]; rfl)]
  generalize hw0 : w = w0 at h ⊢
  have hF : m_Fm w0 w0 := m_Fm.refl
  rw [D_c_Reader_weighLanguage] at h0
  refine m_Rb.n0 b_51 (x_aload_n d_51_0 rfl) ?_
  obtain ⟨v1, e2, h0⟩ := bS h0
  refine m_Rb.tgetI b_51 d_51_1 rfl h e2 ?_
  obtain ⟨v8, e4, h0⟩ := bS h0
  have kk3 : ∀ (xz : Int32) (w1 : List mM), xz = v8 → RT T w1 → m_Fm w0 w1 → m_Rb l M_51 (16, [(0, .ref a0)], [.int xz], w1) (fun v w' => v = none ∧ RT T9 w' ∧ m_Fm w0 w') T T9 5 500 := by
    intro xz w9 ez h9 f9
    rw [ez]
    refine m_Rb.n0 b_51 (x_istore_n d_51_16 rfl (show m_put1 _ _ _ = [(1, _), (0, _)] from rfl)) ?_
    refine m_Rb.n0 b_51 (x_aload_n d_51_17 rfl) ?_
    refine m_Rb.n0 b_51 (x_text d_51_18 rfl rfl) ?_
    obtain ⟨_, e10, h0⟩ := bS h0
    obtain ⟨_, g11⟩ := RT.cls h9 e10
    obtain ⟨v12, e13, h0⟩ := bS h0
    refine m_Rb.callI b_51 (y_cv d_51_20 rfl q_45 (m_isRecv_of rfl g11) (show m_takeI _ _ = some (_, [_, _], []) from m_takeI_of rfl rfl rfl (Nat.le_of_ble_eq_true rfl)) (by simp only [m_okf, List.all_cons, List.all_nil, Bool.and_true, Bool.and_self, m_okv_i, m_okv_l, m_okv_0, m_okv_n0, m_okv_t, RT.okn h9 ha0, m_okv_out (a := 18) (by decide)]) rfl) (T_c_Reader_isWord ha0 (by decide) h9 e13) f9 rfl (fun w14 h14 f14 k14 => ?_) (by decide) (by decide)
    cases hc36 : m_c1 .eq v12 with
    | true =>
      have h0 := cT hc36 h0
      refine m_Rb.n0 b_51 (x_ift d_51_23 rfl hc36) ?_
      refine m_Rb.n0 b_51 (x_aload_n d_51_36 rfl) ?_
      refine m_Rb.n0 b_51 (x_text d_51_37 rfl rfl) ?_
      obtain ⟨_, e37, h0⟩ := bS h0
      obtain ⟨_, g38⟩ := RT.cls h14 e37
      obtain ⟨v39, e40, h0⟩ := bS h0
      refine m_Rb.callI b_51 (y_cv d_51_39 rfl q_45 (m_isRecv_of rfl g38) (show m_takeI _ _ = some (_, [_, _], []) from m_takeI_of rfl rfl rfl (Nat.le_of_ble_eq_true rfl)) (by simp only [m_okf, List.all_cons, List.all_nil, Bool.and_true, Bool.and_self, m_okv_i, m_okv_l, m_okv_0, m_okv_n0, m_okv_t, RT.okn h14 ha0, m_okv_out (a := 19) (by decide)]) rfl) (T_c_Reader_isWord ha0 (by decide) h14 e40) f14 rfl (fun w41 h41 f41 k41 => ?_) (by decide) (by decide)
      cases hc57 : m_c1 .eq v39 with
      | true =>
        have h0 := cT hc57 h0
        refine m_Rb.n0 b_51 (x_ift d_51_42 rfl hc57) ?_
        refine m_Rb.n0 b_51 (x_aload_n d_51_55 rfl) ?_
        refine m_Rb.n0 b_51 (x_text d_51_56 rfl rfl) ?_
        obtain ⟨_, e58, h0⟩ := bS h0
        obtain ⟨_, g59⟩ := RT.cls h41 e58
        obtain ⟨v60, e61, h0⟩ := bS h0
        refine m_Rb.callI b_51 (y_cv d_51_58 rfl q_45 (m_isRecv_of rfl g59) (show m_takeI _ _ = some (_, [_, _], []) from m_takeI_of rfl rfl rfl (Nat.le_of_ble_eq_true rfl)) (by simp only [m_okf, List.all_cons, List.all_nil, Bool.and_true, Bool.and_self, m_okv_i, m_okv_l, m_okv_0, m_okv_n0, m_okv_t, RT.okn h41 ha0, m_okv_out (a := 20) (by decide)]) rfl) (T_c_Reader_isWord ha0 (by decide) h41 e61) f41 rfl (fun w62 h62 f62 k62 => ?_) (by decide) (by decide)
        cases hc72 : m_c1 .eq v60 with
        | true =>
          have h0 := cT hc72 h0
          refine m_Rb.n0 b_51 (x_ift d_51_61 rfl hc72) ?_
          refine m_Rb.n0 b_51 (x_aload_n d_51_74 rfl) ?_
          refine m_Rb.n0 b_51 (x_text d_51_75 rfl rfl) ?_
          obtain ⟨_, e73, h0⟩ := bS h0
          obtain ⟨_, g74⟩ := RT.cls h62 e73
          obtain ⟨v75, e76, h0⟩ := bS h0
          refine m_Rb.callI b_51 (y_cv d_51_77 rfl q_45 (m_isRecv_of rfl g74) (show m_takeI _ _ = some (_, [_, _], []) from m_takeI_of rfl rfl rfl (Nat.le_of_ble_eq_true rfl)) (by simp only [m_okf, List.all_cons, List.all_nil, Bool.and_true, Bool.and_self, m_okv_i, m_okv_l, m_okv_0, m_okv_n0, m_okv_t, RT.okn h62 ha0, m_okv_out (a := 21) (by decide)]) rfl) (T_c_Reader_isWord ha0 (by decide) h62 e76) f62 rfl (fun w77 h77 f77 k77 => ?_) (by decide) (by decide)
          cases hc81 : m_c1 .eq v75 with
          | true =>
            have h0 := cT hc81 h0
            refine m_Rb.n0 b_51 (x_ift d_51_80 rfl hc81) ?_
            cases h0
            exact m_Rb.ret b_51 (m_rt_vr d_51_90 rfl) ⟨rfl, h77, f77⟩
          | false =>
            have h0 := cF hc81 h0
            refine m_Rb.n0 b_51 (x_iff d_51_80 rfl hc81) ?_
            refine m_Rb.n0 b_51 (x_aload_n d_51_83 rfl) ?_
            obtain ⟨v82, e83, h0⟩ := bS h0
            refine m_Rb.tgetR b_51 d_51_84 rfl h77 e83 (fun o84 => ?_)
            refine m_Rb.n0 b_51 (x_iconst (z := 3) d_51_87 (by decide)) ?_
            refine m_Rb.n0 b_51 (x_iload_n d_51_88 rfl) ?_
            obtain ⟨a85, e86, h0⟩ := bS h0
            subst e86
            obtain ⟨T87, e88, h0⟩ := bS h0
            refine m_Rb.tputAI b_51 d_51_89 h77 f77 e88 (fun w89 h89 f89 k89 => ?_)
            cases h0
            exact m_Rb.ret b_51 (m_rt_vr d_51_90 rfl) ⟨rfl, h89, f89⟩
        | false =>
          have h0 := cF hc72 h0
          refine m_Rb.n0 b_51 (x_iff d_51_61 rfl hc72) ?_
          refine m_Rb.n0 b_51 (x_aload_n d_51_64 rfl) ?_
          obtain ⟨v90, e91, h0⟩ := bS h0
          refine m_Rb.tgetR b_51 d_51_65 rfl h62 e91 (fun o92 => ?_)
          refine m_Rb.n0 b_51 (x_iconst (z := 2) d_51_68 (by decide)) ?_
          refine m_Rb.n0 b_51 (x_iload_n d_51_69 rfl) ?_
          obtain ⟨a93, e94, h0⟩ := bS h0
          subst e94
          obtain ⟨T95, e96, h0⟩ := bS h0
          refine m_Rb.tputAI b_51 d_51_70 h62 f62 e96 (fun w97 h97 f97 k97 => ?_)
          refine m_Rb.n0 b_51 (x_goto d_51_71 rfl) ?_
          cases h0
          exact m_Rb.ret b_51 (m_rt_vr d_51_90 rfl) ⟨rfl, h97, f97⟩
      | false =>
        have h0 := cF hc57 h0
        refine m_Rb.n0 b_51 (x_iff d_51_42 rfl hc57) ?_
        refine m_Rb.n0 b_51 (x_aload_n d_51_45 rfl) ?_
        obtain ⟨v98, e99, h0⟩ := bS h0
        refine m_Rb.tgetR b_51 d_51_46 rfl h41 e99 (fun o100 => ?_)
        refine m_Rb.n0 b_51 (x_iconst (z := 1) d_51_49 (by decide)) ?_
        refine m_Rb.n0 b_51 (x_iload_n d_51_50 rfl) ?_
        obtain ⟨a101, e102, h0⟩ := bS h0
        subst e102
        obtain ⟨T103, e104, h0⟩ := bS h0
        refine m_Rb.tputAI b_51 d_51_51 h41 f41 e104 (fun w105 h105 f105 k105 => ?_)
        refine m_Rb.n0 b_51 (x_goto d_51_52 rfl) ?_
        cases h0
        exact m_Rb.ret b_51 (m_rt_vr d_51_90 rfl) ⟨rfl, h105, f105⟩
    | false =>
      have h0 := cF hc36 h0
      refine m_Rb.n0 b_51 (x_iff d_51_23 rfl hc36) ?_
      refine m_Rb.n0 b_51 (x_aload_n d_51_26 rfl) ?_
      obtain ⟨v106, e107, h0⟩ := bS h0
      refine m_Rb.tgetR b_51 d_51_27 rfl h14 e107 (fun o108 => ?_)
      refine m_Rb.n0 b_51 (x_iconst (z := 0) d_51_30 (by decide)) ?_
      refine m_Rb.n0 b_51 (x_iload_n d_51_31 rfl) ?_
      obtain ⟨a109, e110, h0⟩ := bS h0
      subst e110
      obtain ⟨T111, e112, h0⟩ := bS h0
      refine m_Rb.tputAI b_51 d_51_32 h14 f14 e112 (fun w113 h113 f113 k113 => ?_)
      refine m_Rb.n0 b_51 (x_goto d_51_33 rfl) ?_
      cases h0
      exact m_Rb.ret b_51 (m_rt_vr d_51_90 rfl) ⟨rfl, h113, f113⟩
  cases hc5 : m_c1 .eq v1 with
  | true =>
    have e4 := cT hc5 e4
    refine m_Rb.n0 b_51 (x_ift d_51_4 rfl hc5) ?_
    refine m_Rb.n0 b_51 (x_aload_n d_51_12 rfl) ?_
    obtain ⟨v6, e7, e4⟩ := bS e4
    refine m_Rb.tgetI b_51 d_51_13 rfl h e7 ?_
    exact kk3 _ _ (Option.some.inj e4) h hF
  | false =>
    have e4 := cF hc5 e4
    refine m_Rb.n0 b_51 (x_iff d_51_4 rfl hc5) ?_
    refine m_Rb.n0 b_51 (x_bipush (z := 9) d_51_7 (by decide)) ?_
    refine m_Rb.n0 b_51 (x_goto d_51_9 rfl) ?_
    exact kk3 _ _ (Option.some.inj e4) h hF
def D_c_Reader_weighForm (F : Nat) (a0 : Nat) (T : tT) : Option (tT) := (tcl T a0 1).bind fun _ => (D_c_Reader_isWord F a0 22 T).bind fun v3 => cond (m_c1 .eq v3) (some T) ((tgr T a0 1 13).bind fun v10 => (tgi T a0 1 8).bind fun v13 => (cond (m_c1 .ne v13) (some (1 : Int32)) ((tgi T a0 1 9).bind fun v18 => cond (m_c1 .le v18) (some (0 : Int32)) (some (1 : Int32)))).bind fun v21 => (v10).bind fun a23 => (tpi T a23 6 3 v21).bind fun T25 => some T25)
theorem T_c_Reader_weighForm {l : Launch} {w : List mM} {F : Nat} {a0 : Nat} {T : tT} {T9 : tT} (ha0 : okr T.2.1 (some a0)) (h : RT T w) (h0 : D_c_Reader_weighForm F a0 T = some T9) : m_Rb l M_52 (m_ent M_52 [.ref a0] w) (fun v w' => v = none ∧ RT T9 w' ∧ m_Fm w w') T T9 5 500 := by
  rw [show m_ent M_52 [.ref a0] w = (0, [(0, .ref a0)], [], w) from by first | rfl | (simp only [m_ent, lv_args_r, lv_args_a, lv_args_i, lv_args_l, lv_args_0]; done) | (simp only [m_ent, lv_args_r, lv_args_a, lv_args_i, lv_args_l, lv_args_0]; rfl)]
  generalize hw0 : w = w0 at h ⊢
  have hF : m_Fm w0 w0 := m_Fm.refl
  rw [D_c_Reader_weighForm] at h0
  refine m_Rb.n0 b_52 (x_aload_n d_52_0 rfl) ?_
  refine m_Rb.n0 b_52 (x_text d_52_1 rfl rfl) ?_
  obtain ⟨_, e1, h0⟩ := bS h0
  obtain ⟨_, g2⟩ := RT.cls h e1
  obtain ⟨v3, e4, h0⟩ := bS h0
  refine m_Rb.callI b_52 (y_cv d_52_3 rfl q_45 (m_isRecv_of rfl g2) (show m_takeI _ _ = some (_, [_, _], []) from m_takeI_of rfl rfl rfl (Nat.le_of_ble_eq_true rfl)) (by simp only [m_okf, List.all_cons, List.all_nil, Bool.and_true, Bool.and_self, m_okv_i, m_okv_l, m_okv_0, m_okv_n0, m_okv_t, RT.okn h ha0, m_okv_out (a := 22) (by decide)]) rfl) (T_c_Reader_isWord ha0 (by decide) h e4) hF rfl (fun w5 h5 f5 k5 => ?_) (by decide) (by decide)
  cases hc9 : m_c1 .eq v3 with
  | true =>
    have h0 := cT hc9 h0
    refine m_Rb.n0 b_52 (x_ift d_52_6 rfl hc9) ?_
    cases h0
    exact m_Rb.ret b_52 (m_rt_vr d_52_35 rfl) ⟨rfl, h5, f5⟩
  | false =>
    have h0 := cF hc9 h0
    refine m_Rb.n0 b_52 (x_iff d_52_6 rfl hc9) ?_
    refine m_Rb.n0 b_52 (x_aload_n d_52_9 rfl) ?_
    obtain ⟨v10, e11, h0⟩ := bS h0
    refine m_Rb.tgetR b_52 d_52_10 rfl h5 e11 (fun o12 => ?_)
    refine m_Rb.n0 b_52 (x_aload_n d_52_13 rfl) ?_
    obtain ⟨v13, e14, h0⟩ := bS h0
    refine m_Rb.tgetI b_52 d_52_14 rfl h5 e14 ?_
    obtain ⟨v21, e16, h0⟩ := bS h0
    have kk15 : ∀ (xz : Int32) (w1 : List mM), xz = v21 → RT T w1 → m_Fm w0 w1 → m_Rb l M_52 (32, [(0, .ref a0)], [.int xz, rv v10], w1) (fun v w' => v = none ∧ RT T9 w' ∧ m_Fm w0 w') T T9 5 500 := by
      intro xz w22 ez h22 f22
      rw [ez]
      obtain ⟨a23, e24, h0⟩ := bS h0
      subst e24
      obtain ⟨T25, e26, h0⟩ := bS h0
      refine m_Rb.tputI b_52 d_52_32 rfl rfl (by decide) h22 f22 e26 (fun w27 h27 f27 k27 => ?_)
      cases h0
      exact m_Rb.ret b_52 (m_rt_vr d_52_35 rfl) ⟨rfl, h27, f27⟩
    cases hc17 : m_c1 .ne v13 with
    | true =>
      have e16 := cT hc17 e16
      refine m_Rb.n0 b_52 (x_ift d_52_17 rfl hc17) ?_
      refine m_Rb.n0 b_52 (x_iconst (z := 1) d_52_27 (by decide)) ?_
      refine m_Rb.n0 b_52 (x_goto d_52_28 rfl) ?_
      exact kk15 _ _ (Option.some.inj e16) h5 f5
    | false =>
      have e16 := cF hc17 e16
      refine m_Rb.n0 b_52 (x_iff d_52_17 rfl hc17) ?_
      refine m_Rb.n0 b_52 (x_aload_n d_52_20 rfl) ?_
      obtain ⟨v18, e19, e16⟩ := bS e16
      refine m_Rb.tgetI b_52 d_52_21 rfl h5 e19 ?_
      cases hc20 : m_c1 .le v18 with
      | true =>
        have e16 := cT hc20 e16
        refine m_Rb.n0 b_52 (x_ift d_52_24 rfl hc20) ?_
        refine m_Rb.n0 b_52 (x_iconst (z := 0) d_52_31 (by decide)) ?_
        exact kk15 _ _ (Option.some.inj e16) h5 f5
      | false =>
        have e16 := cF hc20 e16
        refine m_Rb.n0 b_52 (x_iff d_52_24 rfl hc20) ?_
        refine m_Rb.n0 b_52 (x_iconst (z := 1) d_52_27 (by decide)) ?_
        refine m_Rb.n0 b_52 (x_goto d_52_28 rfl) ?_
        exact kk15 _ _ (Option.some.inj e16) h5 f5
def D_c_Reader_countAsked_122 (F : Nat) (x0 : Nat) (T : tT) : Option (tT) := (tgi T x0 1 8).bind fun v146 => cond (m_c1 .ne v146) (some T) ((tcl T x0 1).bind fun _ => (D_c_Reader_isWord F x0 27 T).bind fun v154 => cond (m_c1 .eq v154) (some T) ((tgr T x0 1 13).bind fun v161 => (tgi T x0 1 9).bind fun v164 => (v161).bind fun a166 => (tpi T a166 6 9 v164).bind fun T168 => some T168))
theorem T_c_Reader_countAsked_122 {l : Launch} {w0 : List mM} {F : Nat} {x0 : Nat} {T : tT} {w : List mM} {T9 : tT} (hx0 : okr T.2.1 (some x0)) (h : RT T w) (hF : m_Fm w0 w) (h0 : D_c_Reader_countAsked_122 F x0 T = some T9) : m_Rb l M_53 (122, [(0, .ref x0)], [], w) (fun v w' => v = none ∧ RT T9 w' ∧ m_Fm w0 w') T T9 5 500 := by
  rw [D_c_Reader_countAsked_122] at h0
  refine m_Rb.n0 b_53 (x_aload_n d_53_122 rfl) ?_
  obtain ⟨v146, e147, h0⟩ := bS h0
  refine m_Rb.tgetI b_53 d_53_123 rfl h e147 ?_
  cases hc151 : m_c1 .ne v146 with
  | true =>
    have h0 := cT hc151 h0
    refine m_Rb.n0 b_53 (x_ift d_53_126 rfl hc151) ?_
    cases h0
    exact m_Rb.ret b_53 (m_rt_vr d_53_150 rfl) ⟨rfl, h, hF⟩
  | false =>
    have h0 := cF hc151 h0
    refine m_Rb.n0 b_53 (x_iff d_53_126 rfl hc151) ?_
    refine m_Rb.n0 b_53 (x_aload_n d_53_129 rfl) ?_
    refine m_Rb.n0 b_53 (x_textw d_53_130 rfl rfl) ?_
    obtain ⟨_, e152, h0⟩ := bS h0
    obtain ⟨_, g153⟩ := RT.cls h e152
    obtain ⟨v154, e155, h0⟩ := bS h0
    refine m_Rb.callI b_53 (y_cv d_53_133 rfl q_45 (m_isRecv_of rfl g153) (show m_takeI _ _ = some (_, [_, _], []) from m_takeI_of rfl rfl rfl (Nat.le_of_ble_eq_true rfl)) (by simp only [m_okf, List.all_cons, List.all_nil, Bool.and_true, Bool.and_self, m_okv_i, m_okv_l, m_okv_0, m_okv_n0, m_okv_t, RT.okn h hx0, m_okv_out (a := 27) (by decide)]) rfl) (T_c_Reader_isWord hx0 (by decide) h e155) hF rfl (fun w156 h156 f156 k156 => ?_) (by decide) (by decide)
    cases hc160 : m_c1 .eq v154 with
    | true =>
      have h0 := cT hc160 h0
      refine m_Rb.n0 b_53 (x_ift d_53_136 rfl hc160) ?_
      cases h0
      exact m_Rb.ret b_53 (m_rt_vr d_53_150 rfl) ⟨rfl, h156, f156⟩
    | false =>
      have h0 := cF hc160 h0
      refine m_Rb.n0 b_53 (x_iff d_53_136 rfl hc160) ?_
      refine m_Rb.n0 b_53 (x_aload_n d_53_139 rfl) ?_
      obtain ⟨v161, e162, h0⟩ := bS h0
      refine m_Rb.tgetR b_53 d_53_140 rfl h156 e162 (fun o163 => ?_)
      refine m_Rb.n0 b_53 (x_aload_n d_53_143 rfl) ?_
      obtain ⟨v164, e165, h0⟩ := bS h0
      refine m_Rb.tgetI b_53 d_53_144 rfl h156 e165 ?_
      obtain ⟨a166, e167, h0⟩ := bS h0
      subst e167
      obtain ⟨T168, e169, h0⟩ := bS h0
      refine m_Rb.tputI b_53 d_53_147 rfl rfl (by decide) h156 f156 e169 (fun w170 h170 f170 k170 => ?_)
      cases h0
      exact m_Rb.ret b_53 (m_rt_vr d_53_150 rfl) ⟨rfl, h170, f170⟩
def D_c_Reader_countAsked_91 (F : Nat) (x0 : Nat) (T : tT) : Option (tT) := (tgi T x0 1 8).bind fun v115 => cond (m_c1 .ne v115) (D_c_Reader_countAsked_122 F x0 T) ((tcl T x0 1).bind fun _ => (D_c_Reader_isWord F x0 26 T).bind fun v126 => cond (m_c1 .eq v126) (D_c_Reader_countAsked_122 F x0 T) ((tgr T x0 1 13).bind fun v136 => (tgi T x0 1 9).bind fun v139 => (v136).bind fun a141 => (tpi T a141 6 8 v139).bind fun T143 => some T143))
theorem T_c_Reader_countAsked_91 {l : Launch} {w0 : List mM} {F : Nat} {x0 : Nat} {T : tT} {w : List mM} {T9 : tT} (hx0 : okr T.2.1 (some x0)) (h : RT T w) (hF : m_Fm w0 w) (h0 : D_c_Reader_countAsked_91 F x0 T = some T9) : m_Rb l M_53 (91, [(0, .ref x0)], [], w) (fun v w' => v = none ∧ RT T9 w' ∧ m_Fm w0 w') T T9 5 500 := by
  rw [D_c_Reader_countAsked_91] at h0
  refine m_Rb.n0 b_53 (x_aload_n d_53_91 rfl) ?_
  obtain ⟨v115, e116, h0⟩ := bS h0
  refine m_Rb.tgetI b_53 d_53_92 rfl h e116 ?_
  cases hc123 : m_c1 .ne v115 with
  | true =>
    have h0 := cT hc123 h0
    refine m_Rb.n0 b_53 (x_ift d_53_95 rfl hc123) ?_
    exact m_Rb.pick [0] rfl (T_c_Reader_countAsked_122 hx0 h hF h0)
  | false =>
    have h0 := cF hc123 h0
    refine m_Rb.n0 b_53 (x_iff d_53_95 rfl hc123) ?_
    refine m_Rb.n0 b_53 (x_aload_n d_53_98 rfl) ?_
    refine m_Rb.n0 b_53 (x_textw d_53_99 rfl rfl) ?_
    obtain ⟨_, e124, h0⟩ := bS h0
    obtain ⟨_, g125⟩ := RT.cls h e124
    obtain ⟨v126, e127, h0⟩ := bS h0
    refine m_Rb.callI b_53 (y_cv d_53_102 rfl q_45 (m_isRecv_of rfl g125) (show m_takeI _ _ = some (_, [_, _], []) from m_takeI_of rfl rfl rfl (Nat.le_of_ble_eq_true rfl)) (by simp only [m_okf, List.all_cons, List.all_nil, Bool.and_true, Bool.and_self, m_okv_i, m_okv_l, m_okv_0, m_okv_n0, m_okv_t, RT.okn h hx0, m_okv_out (a := 26) (by decide)]) rfl) (T_c_Reader_isWord hx0 (by decide) h e127) hF rfl (fun w128 h128 f128 k128 => ?_) (by decide) (by decide)
    cases hc135 : m_c1 .eq v126 with
    | true =>
      have h0 := cT hc135 h0
      refine m_Rb.n0 b_53 (x_ift d_53_105 rfl hc135) ?_
      exact m_Rb.pick [0] rfl (T_c_Reader_countAsked_122 hx0 h128 f128 h0)
    | false =>
      have h0 := cF hc135 h0
      refine m_Rb.n0 b_53 (x_iff d_53_105 rfl hc135) ?_
      refine m_Rb.n0 b_53 (x_aload_n d_53_108 rfl) ?_
      obtain ⟨v136, e137, h0⟩ := bS h0
      refine m_Rb.tgetR b_53 d_53_109 rfl h128 e137 (fun o138 => ?_)
      refine m_Rb.n0 b_53 (x_aload_n d_53_112 rfl) ?_
      obtain ⟨v139, e140, h0⟩ := bS h0
      refine m_Rb.tgetI b_53 d_53_113 rfl h128 e140 ?_
      obtain ⟨a141, e142, h0⟩ := bS h0
      subst e142
      obtain ⟨T143, e144, h0⟩ := bS h0
      refine m_Rb.tputI b_53 d_53_116 rfl rfl (by decide) h128 f128 e144 (fun w145 h145 f145 k145 => ?_)
      refine m_Rb.n0 b_53 (x_goto d_53_119 rfl) ?_
      cases h0
      exact m_Rb.ret b_53 (m_rt_vr d_53_150 rfl) ⟨rfl, h145, f145⟩
def D_c_Reader_countAsked_63 (F : Nat) (x0 : Nat) (T : tT) : Option (tT) := (tgi T x0 1 8).bind fun v80 => cond (m_c1 .eq v80) (D_c_Reader_countAsked_91 F x0 T) ((tcl T x0 1).bind fun _ => (D_c_Reader_isWord F x0 25 T).bind fun v94 => cond (m_c1 .eq v94) (D_c_Reader_countAsked_91 F x0 T) ((tgr T x0 1 13).bind fun v107 => (v107).bind fun a110 => (tpz T a110 6 7 (1 : Int32)).bind fun T112 => some T112))
theorem T_c_Reader_countAsked_63 {l : Launch} {w0 : List mM} {F : Nat} {x0 : Nat} {T : tT} {w : List mM} {T9 : tT} (hx0 : okr T.2.1 (some x0)) (h : RT T w) (hF : m_Fm w0 w) (h0 : D_c_Reader_countAsked_63 F x0 T = some T9) : m_Rb l M_53 (63, [(0, .ref x0)], [], w) (fun v w' => v = none ∧ RT T9 w' ∧ m_Fm w0 w') T T9 5 500 := by
  rw [D_c_Reader_countAsked_63] at h0
  refine m_Rb.n0 b_53 (x_aload_n d_53_63 rfl) ?_
  obtain ⟨v80, e81, h0⟩ := bS h0
  refine m_Rb.tgetI b_53 d_53_64 rfl h e81 ?_
  cases hc91 : m_c1 .eq v80 with
  | true =>
    have h0 := cT hc91 h0
    refine m_Rb.n0 b_53 (x_ift d_53_67 rfl hc91) ?_
    exact m_Rb.pick [0] rfl (T_c_Reader_countAsked_91 hx0 h hF h0)
  | false =>
    have h0 := cF hc91 h0
    refine m_Rb.n0 b_53 (x_iff d_53_67 rfl hc91) ?_
    refine m_Rb.n0 b_53 (x_aload_n d_53_70 rfl) ?_
    refine m_Rb.n0 b_53 (x_textw d_53_71 rfl rfl) ?_
    obtain ⟨_, e92, h0⟩ := bS h0
    obtain ⟨_, g93⟩ := RT.cls h e92
    obtain ⟨v94, e95, h0⟩ := bS h0
    refine m_Rb.callI b_53 (y_cv d_53_74 rfl q_45 (m_isRecv_of rfl g93) (show m_takeI _ _ = some (_, [_, _], []) from m_takeI_of rfl rfl rfl (Nat.le_of_ble_eq_true rfl)) (by simp only [m_okf, List.all_cons, List.all_nil, Bool.and_true, Bool.and_self, m_okv_i, m_okv_l, m_okv_0, m_okv_n0, m_okv_t, RT.okn h hx0, m_okv_out (a := 25) (by decide)]) rfl) (T_c_Reader_isWord hx0 (by decide) h e95) hF rfl (fun w96 h96 f96 k96 => ?_) (by decide) (by decide)
    cases hc106 : m_c1 .eq v94 with
    | true =>
      have h0 := cT hc106 h0
      refine m_Rb.n0 b_53 (x_ift d_53_77 rfl hc106) ?_
      exact m_Rb.pick [0] rfl (T_c_Reader_countAsked_91 hx0 h96 f96 h0)
    | false =>
      have h0 := cF hc106 h0
      refine m_Rb.n0 b_53 (x_iff d_53_77 rfl hc106) ?_
      refine m_Rb.n0 b_53 (x_aload_n d_53_80 rfl) ?_
      obtain ⟨v107, e108, h0⟩ := bS h0
      refine m_Rb.tgetR b_53 d_53_81 rfl h96 e108 (fun o109 => ?_)
      refine m_Rb.n0 b_53 (x_iconst (z := 1) d_53_84 (by decide)) ?_
      obtain ⟨a110, e111, h0⟩ := bS h0
      subst e111
      obtain ⟨T112, e113, h0⟩ := bS h0
      refine m_Rb.tputZ b_53 d_53_85 rfl rfl (by decide) h96 f96 e113 (fun w114 h114 f114 k114 => ?_)
      refine m_Rb.n0 b_53 (x_goto d_53_88 rfl) ?_
      cases h0
      exact m_Rb.ret b_53 (m_rt_vr d_53_150 rfl) ⟨rfl, h114, f114⟩
def D_c_Reader_countAsked (F : Nat) (a0 : Nat) (T : tT) : Option (tT) := (tcl T a0 1).bind fun _ => (D_c_Reader_isWord F a0 23 T).bind fun v3 => cond (m_c1 .eq v3) ((tgi T a0 1 8).bind fun v22 => cond (m_c1 .eq v22) (D_c_Reader_countAsked_63 F a0 T) ((tcl T a0 1).bind fun _ => (D_c_Reader_isWord F a0 24 T).bind fun v39 => cond (m_c1 .eq v39) (D_c_Reader_countAsked_63 F a0 T) ((tgr T a0 1 13).bind fun v55 => (v55).bind fun a58 => (tpz T a58 6 6 (1 : Int32)).bind fun T60 => some T60))) ((tgr T a0 1 13).bind fun v63 => (tgi T a0 1 8).bind fun v66 => (cond (m_c1 .eq v66) ((tgi T a0 1 9).bind fun v71 => some v71) (some (1000000 : Int32))).bind fun v73 => (v63).bind fun a75 => (tpi T a75 6 10 v73).bind fun T77 => some T77)
theorem T_c_Reader_countAsked {l : Launch} {w : List mM} {F : Nat} {a0 : Nat} {T : tT} {T9 : tT} (ha0 : okr T.2.1 (some a0)) (h : RT T w) (h0 : D_c_Reader_countAsked F a0 T = some T9) : m_Rb l M_53 (m_ent M_53 [.ref a0] w) (fun v w' => v = none ∧ RT T9 w' ∧ m_Fm w w') T T9 5 500 := by
  rw [show m_ent M_53 [.ref a0] w = (0, [(0, .ref a0)], [], w) from by first | rfl | (simp only [m_ent, lv_args_r, lv_args_a, lv_args_i, lv_args_l, lv_args_0]; done) | (simp only [m_ent, lv_args_r, lv_args_a, lv_args_i, lv_args_l, lv_args_0]; rfl)]
  generalize hw0 : w = w0 at h ⊢
  have hF : m_Fm w0 w0 := m_Fm.refl
  rw [D_c_Reader_countAsked] at h0
  refine m_Rb.n0 b_53 (x_aload_n d_53_0 rfl) ?_
  refine m_Rb.n0 b_53 (x_text d_53_1 rfl rfl) ?_
  obtain ⟨_, e1, h0⟩ := bS h0
  obtain ⟨_, g2⟩ := RT.cls h e1
  obtain ⟨v3, e4, h0⟩ := bS h0
  refine m_Rb.callI b_53 (y_cv d_53_3 rfl q_45 (m_isRecv_of rfl g2) (show m_takeI _ _ = some (_, [_, _], []) from m_takeI_of rfl rfl rfl (Nat.le_of_ble_eq_true rfl)) (by simp only [m_okf, List.all_cons, List.all_nil, Bool.and_true, Bool.and_self, m_okv_i, m_okv_l, m_okv_0, m_okv_n0, m_okv_t, RT.okn h ha0, m_okv_out (a := 23) (by decide)]) rfl) (T_c_Reader_isWord ha0 (by decide) h e4) hF rfl (fun w5 h5 f5 k5 => ?_) (by decide) (by decide)
  cases hc21 : m_c1 .eq v3 with
  | true =>
    have h0 := cT hc21 h0
    refine m_Rb.n0 b_53 (x_ift d_53_6 rfl hc21) ?_
    refine m_Rb.n0 b_53 (x_aload_n d_53_35 rfl) ?_
    obtain ⟨v22, e23, h0⟩ := bS h0
    refine m_Rb.tgetI b_53 d_53_36 rfl h5 e23 ?_
    cases hc36 : m_c1 .eq v22 with
    | true =>
      have h0 := cT hc36 h0
      refine m_Rb.n0 b_53 (x_ift d_53_39 rfl hc36) ?_
      exact m_Rb.pick [0] rfl (T_c_Reader_countAsked_63 ha0 h5 f5 h0)
    | false =>
      have h0 := cF hc36 h0
      refine m_Rb.n0 b_53 (x_iff d_53_39 rfl hc36) ?_
      refine m_Rb.n0 b_53 (x_aload_n d_53_42 rfl) ?_
      refine m_Rb.n0 b_53 (x_textw d_53_43 rfl rfl) ?_
      obtain ⟨_, e37, h0⟩ := bS h0
      obtain ⟨_, g38⟩ := RT.cls h5 e37
      obtain ⟨v39, e40, h0⟩ := bS h0
      refine m_Rb.callI b_53 (y_cv d_53_46 rfl q_45 (m_isRecv_of rfl g38) (show m_takeI _ _ = some (_, [_, _], []) from m_takeI_of rfl rfl rfl (Nat.le_of_ble_eq_true rfl)) (by simp only [m_okf, List.all_cons, List.all_nil, Bool.and_true, Bool.and_self, m_okv_i, m_okv_l, m_okv_0, m_okv_n0, m_okv_t, RT.okn h5 ha0, m_okv_out (a := 24) (by decide)]) rfl) (T_c_Reader_isWord ha0 (by decide) h5 e40) f5 rfl (fun w41 h41 f41 k41 => ?_) (by decide) (by decide)
      cases hc54 : m_c1 .eq v39 with
      | true =>
        have h0 := cT hc54 h0
        refine m_Rb.n0 b_53 (x_ift d_53_49 rfl hc54) ?_
        exact m_Rb.pick [0] rfl (T_c_Reader_countAsked_63 ha0 h41 f41 h0)
      | false =>
        have h0 := cF hc54 h0
        refine m_Rb.n0 b_53 (x_iff d_53_49 rfl hc54) ?_
        refine m_Rb.n0 b_53 (x_aload_n d_53_52 rfl) ?_
        obtain ⟨v55, e56, h0⟩ := bS h0
        refine m_Rb.tgetR b_53 d_53_53 rfl h41 e56 (fun o57 => ?_)
        refine m_Rb.n0 b_53 (x_iconst (z := 1) d_53_56 (by decide)) ?_
        obtain ⟨a58, e59, h0⟩ := bS h0
        subst e59
        obtain ⟨T60, e61, h0⟩ := bS h0
        refine m_Rb.tputZ b_53 d_53_57 rfl rfl (by decide) h41 f41 e61 (fun w62 h62 f62 k62 => ?_)
        refine m_Rb.n0 b_53 (x_goto d_53_60 rfl) ?_
        cases h0
        exact m_Rb.ret b_53 (m_rt_vr d_53_150 rfl) ⟨rfl, h62, f62⟩
  | false =>
    have h0 := cF hc21 h0
    refine m_Rb.n0 b_53 (x_iff d_53_6 rfl hc21) ?_
    refine m_Rb.n0 b_53 (x_aload_n d_53_9 rfl) ?_
    obtain ⟨v63, e64, h0⟩ := bS h0
    refine m_Rb.tgetR b_53 d_53_10 rfl h5 e64 (fun o65 => ?_)
    refine m_Rb.n0 b_53 (x_aload_n d_53_13 rfl) ?_
    obtain ⟨v66, e67, h0⟩ := bS h0
    refine m_Rb.tgetI b_53 d_53_14 rfl h5 e67 ?_
    obtain ⟨v73, e69, h0⟩ := bS h0
    have kk68 : ∀ (xz : Int32) (w1 : List mM), xz = v73 → RT T w1 → m_Fm w0 w1 → m_Rb l M_53 (29, [(0, .ref a0)], [.int xz, rv v63], w1) (fun v w' => v = none ∧ RT T9 w' ∧ m_Fm w0 w') T T9 5 500 := by
      intro xz w74 ez h74 f74
      rw [ez]
      obtain ⟨a75, e76, h0⟩ := bS h0
      subst e76
      obtain ⟨T77, e78, h0⟩ := bS h0
      refine m_Rb.tputI b_53 d_53_29 rfl rfl (by decide) h74 f74 e78 (fun w79 h79 f79 k79 => ?_)
      refine m_Rb.n0 b_53 (x_goto d_53_32 rfl) ?_
      cases h0
      exact m_Rb.ret b_53 (m_rt_vr d_53_150 rfl) ⟨rfl, h79, f79⟩
    cases hc70 : m_c1 .eq v66 with
    | true =>
      have e69 := cT hc70 e69
      refine m_Rb.n0 b_53 (x_ift d_53_17 rfl hc70) ?_
      refine m_Rb.n0 b_53 (x_aload_n d_53_25 rfl) ?_
      obtain ⟨v71, e72, e69⟩ := bS e69
      refine m_Rb.tgetI b_53 d_53_26 rfl h5 e72 ?_
      exact kk68 _ _ (Option.some.inj e69) h5 f5
    | false =>
      have e69 := cF hc70 e69
      refine m_Rb.n0 b_53 (x_iff d_53_17 rfl hc70) ?_
      refine m_Rb.n0 b_53 (x_ldc (v := .int 1000000) d_53_20 rfl) ?_
      refine m_Rb.n0 b_53 (x_goto d_53_22 rfl) ?_
      exact kk68 _ _ (Option.some.inj e69) h5 f5
def D_c_Reader_countKeeping_118 (F : Nat) (x0 : Nat) (T : tT) : Option (tT) := (tgi T x0 1 8).bind fun v157 => cond (m_c1 .ne v157) (some T) ((tcl T x0 1).bind fun _ => (D_c_Reader_isWord F x0 30 T).bind fun v165 => cond (m_c1 .eq v165) (some T) ((tgr T x0 1 15).bind fun v172 => (tgi T x0 1 9).bind fun v175 => (v172).bind fun a177 => (tpi T a177 13 5 v175).bind fun T179 => some T179))
theorem T_c_Reader_countKeeping_118 {l : Launch} {w0 : List mM} {F : Nat} {x0 : Nat} {T : tT} {w : List mM} {T9 : tT} (hx0 : okr T.2.1 (some x0)) (h : RT T w) (hF : m_Fm w0 w) (h0 : D_c_Reader_countKeeping_118 F x0 T = some T9) : m_Rb l M_54 (118, [(0, .ref x0)], [], w) (fun v w' => v = none ∧ RT T9 w' ∧ m_Fm w0 w') T T9 5 500 := by
  rw [D_c_Reader_countKeeping_118] at h0
  refine m_Rb.n0 b_54 (x_aload_n d_54_118 rfl) ?_
  obtain ⟨v157, e158, h0⟩ := bS h0
  refine m_Rb.tgetI b_54 d_54_119 rfl h e158 ?_
  cases hc162 : m_c1 .ne v157 with
  | true =>
    have h0 := cT hc162 h0
    refine m_Rb.n0 b_54 (x_ift d_54_122 rfl hc162) ?_
    cases h0
    exact m_Rb.ret b_54 (m_rt_vr d_54_146 rfl) ⟨rfl, h, hF⟩
  | false =>
    have h0 := cF hc162 h0
    refine m_Rb.n0 b_54 (x_iff d_54_122 rfl hc162) ?_
    refine m_Rb.n0 b_54 (x_aload_n d_54_125 rfl) ?_
    refine m_Rb.n0 b_54 (x_textw d_54_126 rfl rfl) ?_
    obtain ⟨_, e163, h0⟩ := bS h0
    obtain ⟨_, g164⟩ := RT.cls h e163
    obtain ⟨v165, e166, h0⟩ := bS h0
    refine m_Rb.callI b_54 (y_cv d_54_129 rfl q_45 (m_isRecv_of rfl g164) (show m_takeI _ _ = some (_, [_, _], []) from m_takeI_of rfl rfl rfl (Nat.le_of_ble_eq_true rfl)) (by simp only [m_okf, List.all_cons, List.all_nil, Bool.and_true, Bool.and_self, m_okv_i, m_okv_l, m_okv_0, m_okv_n0, m_okv_t, RT.okn h hx0, m_okv_out (a := 30) (by decide)]) rfl) (T_c_Reader_isWord hx0 (by decide) h e166) hF rfl (fun w167 h167 f167 k167 => ?_) (by decide) (by decide)
    cases hc171 : m_c1 .eq v165 with
    | true =>
      have h0 := cT hc171 h0
      refine m_Rb.n0 b_54 (x_ift d_54_132 rfl hc171) ?_
      cases h0
      exact m_Rb.ret b_54 (m_rt_vr d_54_146 rfl) ⟨rfl, h167, f167⟩
    | false =>
      have h0 := cF hc171 h0
      refine m_Rb.n0 b_54 (x_iff d_54_132 rfl hc171) ?_
      refine m_Rb.n0 b_54 (x_aload_n d_54_135 rfl) ?_
      obtain ⟨v172, e173, h0⟩ := bS h0
      refine m_Rb.tgetR b_54 d_54_136 rfl h167 e173 (fun o174 => ?_)
      refine m_Rb.n0 b_54 (x_aload_n d_54_139 rfl) ?_
      obtain ⟨v175, e176, h0⟩ := bS h0
      refine m_Rb.tgetI b_54 d_54_140 rfl h167 e176 ?_
      obtain ⟨a177, e178, h0⟩ := bS h0
      subst e178
      obtain ⟨T179, e180, h0⟩ := bS h0
      refine m_Rb.tputI b_54 d_54_143 rfl rfl (by decide) h167 f167 e180 (fun w181 h181 f181 k181 => ?_)
      cases h0
      exact m_Rb.ret b_54 (m_rt_vr d_54_146 rfl) ⟨rfl, h181, f181⟩
def D_c_Reader_countKeeping_87 (F : Nat) (x0 : Nat) (T : tT) : Option (tT) := (tgi T x0 1 8).bind fun v126 => cond (m_c1 .ne v126) (D_c_Reader_countKeeping_118 F x0 T) ((tcl T x0 1).bind fun _ => (D_c_Reader_isWord F x0 29 T).bind fun v137 => cond (m_c1 .eq v137) (D_c_Reader_countKeeping_118 F x0 T) ((tgr T x0 1 15).bind fun v147 => (tgi T x0 1 9).bind fun v150 => (v147).bind fun a152 => (tpi T a152 13 4 v150).bind fun T154 => some T154))
theorem T_c_Reader_countKeeping_87 {l : Launch} {w0 : List mM} {F : Nat} {x0 : Nat} {T : tT} {w : List mM} {T9 : tT} (hx0 : okr T.2.1 (some x0)) (h : RT T w) (hF : m_Fm w0 w) (h0 : D_c_Reader_countKeeping_87 F x0 T = some T9) : m_Rb l M_54 (87, [(0, .ref x0)], [], w) (fun v w' => v = none ∧ RT T9 w' ∧ m_Fm w0 w') T T9 5 500 := by
  rw [D_c_Reader_countKeeping_87] at h0
  refine m_Rb.n0 b_54 (x_aload_n d_54_87 rfl) ?_
  obtain ⟨v126, e127, h0⟩ := bS h0
  refine m_Rb.tgetI b_54 d_54_88 rfl h e127 ?_
  cases hc134 : m_c1 .ne v126 with
  | true =>
    have h0 := cT hc134 h0
    refine m_Rb.n0 b_54 (x_ift d_54_91 rfl hc134) ?_
    exact m_Rb.pick [0] rfl (T_c_Reader_countKeeping_118 hx0 h hF h0)
  | false =>
    have h0 := cF hc134 h0
    refine m_Rb.n0 b_54 (x_iff d_54_91 rfl hc134) ?_
    refine m_Rb.n0 b_54 (x_aload_n d_54_94 rfl) ?_
    refine m_Rb.n0 b_54 (x_textw d_54_95 rfl rfl) ?_
    obtain ⟨_, e135, h0⟩ := bS h0
    obtain ⟨_, g136⟩ := RT.cls h e135
    obtain ⟨v137, e138, h0⟩ := bS h0
    refine m_Rb.callI b_54 (y_cv d_54_98 rfl q_45 (m_isRecv_of rfl g136) (show m_takeI _ _ = some (_, [_, _], []) from m_takeI_of rfl rfl rfl (Nat.le_of_ble_eq_true rfl)) (by simp only [m_okf, List.all_cons, List.all_nil, Bool.and_true, Bool.and_self, m_okv_i, m_okv_l, m_okv_0, m_okv_n0, m_okv_t, RT.okn h hx0, m_okv_out (a := 29) (by decide)]) rfl) (T_c_Reader_isWord hx0 (by decide) h e138) hF rfl (fun w139 h139 f139 k139 => ?_) (by decide) (by decide)
    cases hc146 : m_c1 .eq v137 with
    | true =>
      have h0 := cT hc146 h0
      refine m_Rb.n0 b_54 (x_ift d_54_101 rfl hc146) ?_
      exact m_Rb.pick [0] rfl (T_c_Reader_countKeeping_118 hx0 h139 f139 h0)
    | false =>
      have h0 := cF hc146 h0
      refine m_Rb.n0 b_54 (x_iff d_54_101 rfl hc146) ?_
      refine m_Rb.n0 b_54 (x_aload_n d_54_104 rfl) ?_
      obtain ⟨v147, e148, h0⟩ := bS h0
      refine m_Rb.tgetR b_54 d_54_105 rfl h139 e148 (fun o149 => ?_)
      refine m_Rb.n0 b_54 (x_aload_n d_54_108 rfl) ?_
      obtain ⟨v150, e151, h0⟩ := bS h0
      refine m_Rb.tgetI b_54 d_54_109 rfl h139 e151 ?_
      obtain ⟨a152, e153, h0⟩ := bS h0
      subst e153
      obtain ⟨T154, e155, h0⟩ := bS h0
      refine m_Rb.tputI b_54 d_54_112 rfl rfl (by decide) h139 f139 e155 (fun w156 h156 f156 k156 => ?_)
      refine m_Rb.n0 b_54 (x_goto d_54_115 rfl) ?_
      cases h0
      exact m_Rb.ret b_54 (m_rt_vr d_54_146 rfl) ⟨rfl, h156, f156⟩
def D_c_Reader_countKeeping_56 (F : Nat) (x0 : Nat) (T : tT) : Option (tT) := (tgi T x0 1 8).bind fun v89 => cond (m_c1 .ne v89) (D_c_Reader_countKeeping_87 F x0 T) ((tcl T x0 1).bind fun _ => (D_c_Reader_isWord F x0 26 T).bind fun v103 => cond (m_c1 .eq v103) (D_c_Reader_countKeeping_87 F x0 T) ((tgr T x0 1 15).bind fun v116 => (tgi T x0 1 9).bind fun v119 => (v116).bind fun a121 => (tpi T a121 13 3 v119).bind fun T123 => some T123))
theorem T_c_Reader_countKeeping_56 {l : Launch} {w0 : List mM} {F : Nat} {x0 : Nat} {T : tT} {w : List mM} {T9 : tT} (hx0 : okr T.2.1 (some x0)) (h : RT T w) (hF : m_Fm w0 w) (h0 : D_c_Reader_countKeeping_56 F x0 T = some T9) : m_Rb l M_54 (56, [(0, .ref x0)], [], w) (fun v w' => v = none ∧ RT T9 w' ∧ m_Fm w0 w') T T9 5 500 := by
  rw [D_c_Reader_countKeeping_56] at h0
  refine m_Rb.n0 b_54 (x_aload_n d_54_56 rfl) ?_
  obtain ⟨v89, e90, h0⟩ := bS h0
  refine m_Rb.tgetI b_54 d_54_57 rfl h e90 ?_
  cases hc100 : m_c1 .ne v89 with
  | true =>
    have h0 := cT hc100 h0
    refine m_Rb.n0 b_54 (x_ift d_54_60 rfl hc100) ?_
    exact m_Rb.pick [0] rfl (T_c_Reader_countKeeping_87 hx0 h hF h0)
  | false =>
    have h0 := cF hc100 h0
    refine m_Rb.n0 b_54 (x_iff d_54_60 rfl hc100) ?_
    refine m_Rb.n0 b_54 (x_aload_n d_54_63 rfl) ?_
    refine m_Rb.n0 b_54 (x_textw d_54_64 rfl rfl) ?_
    obtain ⟨_, e101, h0⟩ := bS h0
    obtain ⟨_, g102⟩ := RT.cls h e101
    obtain ⟨v103, e104, h0⟩ := bS h0
    refine m_Rb.callI b_54 (y_cv d_54_67 rfl q_45 (m_isRecv_of rfl g102) (show m_takeI _ _ = some (_, [_, _], []) from m_takeI_of rfl rfl rfl (Nat.le_of_ble_eq_true rfl)) (by simp only [m_okf, List.all_cons, List.all_nil, Bool.and_true, Bool.and_self, m_okv_i, m_okv_l, m_okv_0, m_okv_n0, m_okv_t, RT.okn h hx0, m_okv_out (a := 26) (by decide)]) rfl) (T_c_Reader_isWord hx0 (by decide) h e104) hF rfl (fun w105 h105 f105 k105 => ?_) (by decide) (by decide)
    cases hc115 : m_c1 .eq v103 with
    | true =>
      have h0 := cT hc115 h0
      refine m_Rb.n0 b_54 (x_ift d_54_70 rfl hc115) ?_
      exact m_Rb.pick [0] rfl (T_c_Reader_countKeeping_87 hx0 h105 f105 h0)
    | false =>
      have h0 := cF hc115 h0
      refine m_Rb.n0 b_54 (x_iff d_54_70 rfl hc115) ?_
      refine m_Rb.n0 b_54 (x_aload_n d_54_73 rfl) ?_
      obtain ⟨v116, e117, h0⟩ := bS h0
      refine m_Rb.tgetR b_54 d_54_74 rfl h105 e117 (fun o118 => ?_)
      refine m_Rb.n0 b_54 (x_aload_n d_54_77 rfl) ?_
      obtain ⟨v119, e120, h0⟩ := bS h0
      refine m_Rb.tgetI b_54 d_54_78 rfl h105 e120 ?_
      obtain ⟨a121, e122, h0⟩ := bS h0
      subst e122
      obtain ⟨T123, e124, h0⟩ := bS h0
      refine m_Rb.tputI b_54 d_54_81 rfl rfl (by decide) h105 f105 e124 (fun w125 h125 f125 k125 => ?_)
      refine m_Rb.n0 b_54 (x_goto d_54_84 rfl) ?_
      cases h0
      exact m_Rb.ret b_54 (m_rt_vr d_54_146 rfl) ⟨rfl, h125, f125⟩
def D_c_Reader_countKeeping_28 (F : Nat) (x0 : Nat) (T : tT) : Option (tT) := (tgi T x0 1 8).bind fun v48 => cond (m_c1 .eq v48) (D_c_Reader_countKeeping_56 F x0 T) ((tcl T x0 1).bind fun _ => (D_c_Reader_isWord F x0 24 T).bind fun v65 => cond (m_c1 .eq v65) (D_c_Reader_countKeeping_56 F x0 T) ((tgr T x0 1 15).bind fun v81 => (v81).bind fun a84 => (tpz T a84 13 7 (1 : Int32)).bind fun T86 => some T86))
theorem T_c_Reader_countKeeping_28 {l : Launch} {w0 : List mM} {F : Nat} {x0 : Nat} {T : tT} {w : List mM} {T9 : tT} (hx0 : okr T.2.1 (some x0)) (h : RT T w) (hF : m_Fm w0 w) (h0 : D_c_Reader_countKeeping_28 F x0 T = some T9) : m_Rb l M_54 (28, [(0, .ref x0)], [], w) (fun v w' => v = none ∧ RT T9 w' ∧ m_Fm w0 w') T T9 5 500 := by
  rw [D_c_Reader_countKeeping_28] at h0
  refine m_Rb.n0 b_54 (x_aload_n d_54_28 rfl) ?_
  obtain ⟨v48, e49, h0⟩ := bS h0
  refine m_Rb.tgetI b_54 d_54_29 rfl h e49 ?_
  cases hc62 : m_c1 .eq v48 with
  | true =>
    have h0 := cT hc62 h0
    refine m_Rb.n0 b_54 (x_ift d_54_32 rfl hc62) ?_
    exact m_Rb.pick [0] rfl (T_c_Reader_countKeeping_56 hx0 h hF h0)
  | false =>
    have h0 := cF hc62 h0
    refine m_Rb.n0 b_54 (x_iff d_54_32 rfl hc62) ?_
    refine m_Rb.n0 b_54 (x_aload_n d_54_35 rfl) ?_
    refine m_Rb.n0 b_54 (x_textw d_54_36 rfl rfl) ?_
    obtain ⟨_, e63, h0⟩ := bS h0
    obtain ⟨_, g64⟩ := RT.cls h e63
    obtain ⟨v65, e66, h0⟩ := bS h0
    refine m_Rb.callI b_54 (y_cv d_54_39 rfl q_45 (m_isRecv_of rfl g64) (show m_takeI _ _ = some (_, [_, _], []) from m_takeI_of rfl rfl rfl (Nat.le_of_ble_eq_true rfl)) (by simp only [m_okf, List.all_cons, List.all_nil, Bool.and_true, Bool.and_self, m_okv_i, m_okv_l, m_okv_0, m_okv_n0, m_okv_t, RT.okn h hx0, m_okv_out (a := 24) (by decide)]) rfl) (T_c_Reader_isWord hx0 (by decide) h e66) hF rfl (fun w67 h67 f67 k67 => ?_) (by decide) (by decide)
    cases hc80 : m_c1 .eq v65 with
    | true =>
      have h0 := cT hc80 h0
      refine m_Rb.n0 b_54 (x_ift d_54_42 rfl hc80) ?_
      exact m_Rb.pick [0] rfl (T_c_Reader_countKeeping_56 hx0 h67 f67 h0)
    | false =>
      have h0 := cF hc80 h0
      refine m_Rb.n0 b_54 (x_iff d_54_42 rfl hc80) ?_
      refine m_Rb.n0 b_54 (x_aload_n d_54_45 rfl) ?_
      obtain ⟨v81, e82, h0⟩ := bS h0
      refine m_Rb.tgetR b_54 d_54_46 rfl h67 e82 (fun o83 => ?_)
      refine m_Rb.n0 b_54 (x_iconst (z := 1) d_54_49 (by decide)) ?_
      obtain ⟨a84, e85, h0⟩ := bS h0
      subst e85
      obtain ⟨T86, e87, h0⟩ := bS h0
      refine m_Rb.tputZ b_54 d_54_50 rfl rfl (by decide) h67 f67 e87 (fun w88 h88 f88 k88 => ?_)
      refine m_Rb.n0 b_54 (x_goto d_54_53 rfl) ?_
      cases h0
      exact m_Rb.ret b_54 (m_rt_vr d_54_146 rfl) ⟨rfl, h88, f88⟩
def D_c_Reader_countKeeping (F : Nat) (a0 : Nat) (T : tT) : Option (tT) := (tgi T a0 1 8).bind fun v1 => cond (m_c1 .eq v1) (D_c_Reader_countKeeping_28 F a0 T) ((tcl T a0 1).bind fun _ => (D_c_Reader_isWord F a0 28 T).bind fun v21 => cond (m_c1 .eq v21) (D_c_Reader_countKeeping_28 F a0 T) ((tgr T a0 1 15).bind fun v40 => (v40).bind fun a43 => (tpz T a43 13 6 (1 : Int32)).bind fun T45 => some T45))
theorem T_c_Reader_countKeeping {l : Launch} {w : List mM} {F : Nat} {a0 : Nat} {T : tT} {T9 : tT} (ha0 : okr T.2.1 (some a0)) (h : RT T w) (h0 : D_c_Reader_countKeeping F a0 T = some T9) : m_Rb l M_54 (m_ent M_54 [.ref a0] w) (fun v w' => v = none ∧ RT T9 w' ∧ m_Fm w w') T T9 5 500 := by
  rw [show m_ent M_54 [.ref a0] w = (0, [(0, .ref a0)], [], w) from by first | rfl | (simp only [m_ent, lv_args_r, lv_args_a, lv_args_i, lv_args_l, lv_args_0]; done) | (simp only [m_ent, lv_args_r, lv_args_a, lv_args_i, lv_args_l, lv_args_0]; rfl)]
  generalize hw0 : w = w0 at h ⊢
  have hF : m_Fm w0 w0 := m_Fm.refl
  rw [D_c_Reader_countKeeping] at h0
  refine m_Rb.n0 b_54 (x_aload_n d_54_0 rfl) ?_
  obtain ⟨v1, e2, h0⟩ := bS h0
  refine m_Rb.tgetI b_54 d_54_1 rfl h e2 ?_
  cases hc18 : m_c1 .eq v1 with
  | true =>
    have h0 := cT hc18 h0
    refine m_Rb.n0 b_54 (x_ift d_54_4 rfl hc18) ?_
    exact m_Rb.pick [0] rfl (T_c_Reader_countKeeping_28 ha0 h hF h0)
  | false =>
    have h0 := cF hc18 h0
    refine m_Rb.n0 b_54 (x_iff d_54_4 rfl hc18) ?_
    refine m_Rb.n0 b_54 (x_aload_n d_54_7 rfl) ?_
    refine m_Rb.n0 b_54 (x_textw d_54_8 rfl rfl) ?_
    obtain ⟨_, e19, h0⟩ := bS h0
    obtain ⟨_, g20⟩ := RT.cls h e19
    obtain ⟨v21, e22, h0⟩ := bS h0
    refine m_Rb.callI b_54 (y_cv d_54_11 rfl q_45 (m_isRecv_of rfl g20) (show m_takeI _ _ = some (_, [_, _], []) from m_takeI_of rfl rfl rfl (Nat.le_of_ble_eq_true rfl)) (by simp only [m_okf, List.all_cons, List.all_nil, Bool.and_true, Bool.and_self, m_okv_i, m_okv_l, m_okv_0, m_okv_n0, m_okv_t, RT.okn h ha0, m_okv_out (a := 28) (by decide)]) rfl) (T_c_Reader_isWord ha0 (by decide) h e22) hF rfl (fun w23 h23 f23 k23 => ?_) (by decide) (by decide)
    cases hc39 : m_c1 .eq v21 with
    | true =>
      have h0 := cT hc39 h0
      refine m_Rb.n0 b_54 (x_ift d_54_14 rfl hc39) ?_
      exact m_Rb.pick [0] rfl (T_c_Reader_countKeeping_28 ha0 h23 f23 h0)
    | false =>
      have h0 := cF hc39 h0
      refine m_Rb.n0 b_54 (x_iff d_54_14 rfl hc39) ?_
      refine m_Rb.n0 b_54 (x_aload_n d_54_17 rfl) ?_
      obtain ⟨v40, e41, h0⟩ := bS h0
      refine m_Rb.tgetR b_54 d_54_18 rfl h23 e41 (fun o42 => ?_)
      refine m_Rb.n0 b_54 (x_iconst (z := 1) d_54_21 (by decide)) ?_
      obtain ⟨a43, e44, h0⟩ := bS h0
      subst e44
      obtain ⟨T45, e46, h0⟩ := bS h0
      refine m_Rb.tputZ b_54 d_54_22 rfl rfl (by decide) h23 f23 e46 (fun w47 h47 f47 k47 => ?_)
      refine m_Rb.n0 b_54 (x_goto d_54_25 rfl) ?_
      cases h0
      exact m_Rb.ret b_54 (m_rt_vr d_54_146 rfl) ⟨rfl, h47, f47⟩
def D_c_Reader_countVarying_32 (F : Nat) (x0 : Nat) (T : tT) : Option (tT) := (tgi T x0 1 8).bind fun v32 => cond (m_c1 .eq v32) (some T) ((tcl T x0 1).bind fun _ => (D_c_Reader_isWord F x0 16 T).bind fun v40 => cond (m_c1 .eq v40) (some T) ((tgr T x0 1 15).bind fun v47 => (v47).bind fun a50 => (tgi T a50 13 9).bind fun v52 => (tpi T a50 13 9 (v52 ||| (2 : Int32))).bind fun T54 => some T54))
theorem T_c_Reader_countVarying_32 {l : Launch} {w0 : List mM} {F : Nat} {x0 : Nat} {T : tT} {w : List mM} {T9 : tT} (hx0 : okr T.2.1 (some x0)) (h : RT T w) (hF : m_Fm w0 w) (h0 : D_c_Reader_countVarying_32 F x0 T = some T9) : m_Rb l M_55 (32, [(0, .ref x0)], [], w) (fun v w' => v = none ∧ RT T9 w' ∧ m_Fm w0 w') T T9 5 500 := by
  rw [D_c_Reader_countVarying_32] at h0
  refine m_Rb.n0 b_55 (x_aload_n d_55_32 rfl) ?_
  obtain ⟨v32, e33, h0⟩ := bS h0
  refine m_Rb.tgetI b_55 d_55_33 rfl h e33 ?_
  cases hc37 : m_c1 .eq v32 with
  | true =>
    have h0 := cT hc37 h0
    refine m_Rb.n0 b_55 (x_ift d_55_36 rfl hc37) ?_
    cases h0
    exact m_Rb.ret b_55 (m_rt_vr d_55_61 rfl) ⟨rfl, h, hF⟩
  | false =>
    have h0 := cF hc37 h0
    refine m_Rb.n0 b_55 (x_iff d_55_36 rfl hc37) ?_
    refine m_Rb.n0 b_55 (x_aload_n d_55_39 rfl) ?_
    refine m_Rb.n0 b_55 (x_text d_55_40 rfl rfl) ?_
    obtain ⟨_, e38, h0⟩ := bS h0
    obtain ⟨_, g39⟩ := RT.cls h e38
    obtain ⟨v40, e41, h0⟩ := bS h0
    refine m_Rb.callI b_55 (y_cv d_55_42 rfl q_45 (m_isRecv_of rfl g39) (show m_takeI _ _ = some (_, [_, _], []) from m_takeI_of rfl rfl rfl (Nat.le_of_ble_eq_true rfl)) (by simp only [m_okf, List.all_cons, List.all_nil, Bool.and_true, Bool.and_self, m_okv_i, m_okv_l, m_okv_0, m_okv_n0, m_okv_t, RT.okn h hx0, m_okv_out (a := 16) (by decide)]) rfl) (T_c_Reader_isWord hx0 (by decide) h e41) hF rfl (fun w42 h42 f42 k42 => ?_) (by decide) (by decide)
    cases hc46 : m_c1 .eq v40 with
    | true =>
      have h0 := cT hc46 h0
      refine m_Rb.n0 b_55 (x_ift d_55_45 rfl hc46) ?_
      cases h0
      exact m_Rb.ret b_55 (m_rt_vr d_55_61 rfl) ⟨rfl, h42, f42⟩
    | false =>
      have h0 := cF hc46 h0
      refine m_Rb.n0 b_55 (x_iff d_55_45 rfl hc46) ?_
      refine m_Rb.n0 b_55 (x_aload_n d_55_48 rfl) ?_
      obtain ⟨v47, e48, h0⟩ := bS h0
      refine m_Rb.tgetR b_55 d_55_49 rfl h42 e48 (fun o49 => ?_)
      refine m_Rb.n0 b_55 (x_dup d_55_52 (cat_rv v47)) ?_
      obtain ⟨a50, e51, h0⟩ := bS h0
      subst e51
      obtain ⟨v52, e53, h0⟩ := bS h0
      refine m_Rb.tgetI b_55 d_55_53 rfl h42 e53 ?_
      refine m_Rb.n0 b_55 (x_iconst (z := 2) d_55_56 (by decide)) ?_
      refine m_Rb.n0 b_55 (x_ior d_55_57 rfl) ?_
      obtain ⟨T54, e55, h0⟩ := bS h0
      refine m_Rb.tputI b_55 d_55_58 rfl rfl (by decide) h42 f42 e55 (fun w56 h56 f56 k56 => ?_)
      cases h0
      exact m_Rb.ret b_55 (m_rt_vr d_55_61 rfl) ⟨rfl, h56, f56⟩
def D_c_Reader_countVarying (F : Nat) (a0 : Nat) (T : tT) : Option (tT) := (tgi T a0 1 8).bind fun v1 => cond (m_c1 .eq v1) (D_c_Reader_countVarying_32 F a0 T) ((tcl T a0 1).bind fun _ => (D_c_Reader_isWord F a0 15 T).bind fun v12 => cond (m_c1 .eq v12) (D_c_Reader_countVarying_32 F a0 T) ((tgr T a0 1 15).bind fun v22 => (v22).bind fun a25 => (tgi T a25 13 9).bind fun v27 => (tpi T a25 13 9 (v27 ||| (1 : Int32))).bind fun T29 => some T29))
theorem T_c_Reader_countVarying {l : Launch} {w : List mM} {F : Nat} {a0 : Nat} {T : tT} {T9 : tT} (ha0 : okr T.2.1 (some a0)) (h : RT T w) (h0 : D_c_Reader_countVarying F a0 T = some T9) : m_Rb l M_55 (m_ent M_55 [.ref a0] w) (fun v w' => v = none ∧ RT T9 w' ∧ m_Fm w w') T T9 5 500 := by
  rw [show m_ent M_55 [.ref a0] w = (0, [(0, .ref a0)], [], w) from by first | rfl | (simp only [m_ent, lv_args_r, lv_args_a, lv_args_i, lv_args_l, lv_args_0]; done) | (simp only [m_ent, lv_args_r, lv_args_a, lv_args_i, lv_args_l, lv_args_0]; rfl)]
  generalize hw0 : w = w0 at h ⊢
  have hF : m_Fm w0 w0 := m_Fm.refl
  rw [D_c_Reader_countVarying] at h0
  refine m_Rb.n0 b_55 (x_aload_n d_55_0 rfl) ?_
  obtain ⟨v1, e2, h0⟩ := bS h0
  refine m_Rb.tgetI b_55 d_55_1 rfl h e2 ?_
  cases hc9 : m_c1 .eq v1 with
  | true =>
    have h0 := cT hc9 h0
    refine m_Rb.n0 b_55 (x_ift d_55_4 rfl hc9) ?_
    exact m_Rb.pick [0] rfl (T_c_Reader_countVarying_32 ha0 h hF h0)
  | false =>
    have h0 := cF hc9 h0
    refine m_Rb.n0 b_55 (x_iff d_55_4 rfl hc9) ?_
    refine m_Rb.n0 b_55 (x_aload_n d_55_7 rfl) ?_
    refine m_Rb.n0 b_55 (x_text d_55_8 rfl rfl) ?_
    obtain ⟨_, e10, h0⟩ := bS h0
    obtain ⟨_, g11⟩ := RT.cls h e10
    obtain ⟨v12, e13, h0⟩ := bS h0
    refine m_Rb.callI b_55 (y_cv d_55_10 rfl q_45 (m_isRecv_of rfl g11) (show m_takeI _ _ = some (_, [_, _], []) from m_takeI_of rfl rfl rfl (Nat.le_of_ble_eq_true rfl)) (by simp only [m_okf, List.all_cons, List.all_nil, Bool.and_true, Bool.and_self, m_okv_i, m_okv_l, m_okv_0, m_okv_n0, m_okv_t, RT.okn h ha0, m_okv_out (a := 15) (by decide)]) rfl) (T_c_Reader_isWord ha0 (by decide) h e13) hF rfl (fun w14 h14 f14 k14 => ?_) (by decide) (by decide)
    cases hc21 : m_c1 .eq v12 with
    | true =>
      have h0 := cT hc21 h0
      refine m_Rb.n0 b_55 (x_ift d_55_13 rfl hc21) ?_
      exact m_Rb.pick [0] rfl (T_c_Reader_countVarying_32 ha0 h14 f14 h0)
    | false =>
      have h0 := cF hc21 h0
      refine m_Rb.n0 b_55 (x_iff d_55_13 rfl hc21) ?_
      refine m_Rb.n0 b_55 (x_aload_n d_55_16 rfl) ?_
      obtain ⟨v22, e23, h0⟩ := bS h0
      refine m_Rb.tgetR b_55 d_55_17 rfl h14 e23 (fun o24 => ?_)
      refine m_Rb.n0 b_55 (x_dup d_55_20 (cat_rv v22)) ?_
      obtain ⟨a25, e26, h0⟩ := bS h0
      subst e26
      obtain ⟨v27, e28, h0⟩ := bS h0
      refine m_Rb.tgetI b_55 d_55_21 rfl h14 e28 ?_
      refine m_Rb.n0 b_55 (x_iconst (z := 1) d_55_24 (by decide)) ?_
      refine m_Rb.n0 b_55 (x_ior d_55_25 rfl) ?_
      obtain ⟨T29, e30, h0⟩ := bS h0
      refine m_Rb.tputI b_55 d_55_26 rfl rfl (by decide) h14 f14 e30 (fun w31 h31 f31 k31 => ?_)
      refine m_Rb.n0 b_55 (x_goto d_55_29 rfl) ?_
      cases h0
      exact m_Rb.ret b_55 (m_rt_vr d_55_61 rfl) ⟨rfl, h31, f31⟩
def D_c_Reader_readList_69 (F : Nat) (rec2 : Nat → Int32 → Int32 → tT → Option (Int32 × tT)) (x0 : Nat) (x1 : Int32) (x2 : Int32) (T : tT) : Option (Int32 × tT) := (tcl T x0 1).bind fun _ => (D_c_Reader_here F x0 T).bind fun v88 => cond (m_c2 .eq v88 (44 : Int32)) ((tgi T x0 1 2).bind fun v92 => (tpi T x0 1 2 (v92 + (1 : Int32))).bind fun T94 => (tcl T94 x0 1).bind fun _ => bd2 (D_c_Reader_expect F x0 (32 : Int32) T94) fun v99 T100 => cond (m_c1 .ne v99) (rec2 x0 x1 (x2 + Int32.ofInt 1) T100) (some ((0 : Int32), T100))) (some ((1 : Int32), T))
theorem T_c_Reader_readList_69 {l : Launch} {w0 : List mM} {F : Nat} {rec2 : Nat → Int32 → Int32 → tT → Option (Int32 × tT)} (hr2 : ∀ {x0 : Nat} {x1 : Int32} {x2 : Int32} {T : tT} {w : List mM} {y9 : Int32} {T9 : tT}, okr T.2.1 (some x0) → RT T w → m_Fm w0 w → rec2 x0 x1 x2 T = some (y9, T9) → m_Rb l M_49 (2, [(0, .ref x0), (1, .int x1), (2, .int x2)], [], w) (fun v w' => v = some (.int y9) ∧ RT T9 w' ∧ m_Fm w0 w') T T9 6 600) {x0 : Nat} {x1 : Int32} {x2 : Int32} {T : tT} {w : List mM} {y9 : Int32} {T9 : tT} (hx0 : okr T.2.1 (some x0)) (h : RT T w) (hF : m_Fm w0 w) (h0 : D_c_Reader_readList_69 F rec2 x0 x1 x2 T = some (y9, T9)) : m_Rb l M_49 (69, [(0, .ref x0), (1, .int x1), (2, .int x2)], [], w) (fun v w' => v = some (.int y9) ∧ RT T9 w' ∧ m_Fm w0 w') T T9 6 600 := by
  rw [D_c_Reader_readList_69] at h0
  refine m_Rb.n0 b_49 (x_aload_n d_49_69 rfl) ?_
  obtain ⟨_, e86, h0⟩ := bS h0
  obtain ⟨_, g87⟩ := RT.cls h e86
  obtain ⟨v88, e89, h0⟩ := bS h0
  refine m_Rb.callI b_49 (y_cv d_49_70 rfl q_22 (m_isRecv_of rfl g87) (show m_takeI _ _ = some (_, [_], []) from m_takeI_of rfl rfl rfl (Nat.le_of_ble_eq_true rfl)) (by simp only [m_okf, List.all_cons, List.all_nil, Bool.and_true, Bool.and_self, m_okv_i, m_okv_l, m_okv_0, m_okv_n0, m_okv_t, RT.okn h hx0]) rfl) (T_c_Reader_here hx0 h e89) hF rfl (fun w90 h90 f90 k90 => ?_) (by decide) (by decide)
  refine m_Rb.n0 b_49 (x_bipush (z := 44) d_49_73 (by decide)) ?_
  cases hc91 : m_c2 .eq v88 (44 : Int32) with
  | true =>
    have h0 := cT hc91 h0
    refine m_Rb.n0 b_49 (x_ict d_49_75 rfl hc91) ?_
    refine m_Rb.n0 b_49 (x_aload_n d_49_80 rfl) ?_
    refine m_Rb.n0 b_49 (x_dup d_49_81 rfl) ?_
    obtain ⟨v92, e93, h0⟩ := bS h0
    refine m_Rb.tgetI b_49 d_49_82 rfl h90 e93 ?_
    refine m_Rb.n0 b_49 (x_iconst (z := 1) d_49_85 (by decide)) ?_
    refine m_Rb.n0 b_49 (x_iadd d_49_86 rfl) ?_
    obtain ⟨T94, e95, h0⟩ := bS h0
    refine m_Rb.tputI b_49 d_49_87 rfl rfl (by decide) h90 f90 e95 (fun w96 h96 f96 k96 => ?_)
    refine m_Rb.n0 b_49 (x_aload_n d_49_90 rfl) ?_
    refine m_Rb.n0 b_49 (x_bipush (z := 32) d_49_91 (by decide)) ?_
    obtain ⟨_, e97, h0⟩ := bS h0
    obtain ⟨_, g98⟩ := RT.cls h96 e97
    obtain ⟨v99, T100, e101, h0⟩ := bS2 h0
    refine m_Rb.callI b_49 (y_cv d_49_93 rfl q_35 (m_isRecv_of rfl g98) (show m_takeI _ _ = some (_, [_, _], []) from m_takeI_of rfl rfl rfl (Nat.le_of_ble_eq_true rfl)) (by simp only [m_okf, List.all_cons, List.all_nil, Bool.and_true, Bool.and_self, m_okv_i, m_okv_l, m_okv_0, m_okv_n0, m_okv_t, RT.okn h96 (okm hx0 k96)]) rfl) (T_c_Reader_expect (okm hx0 k96) h96 e101) f96 rfl (fun w102 h102 f102 k102 => ?_) (by decide) (by decide)
    cases hc103 : m_c1 .ne v99 with
    | true =>
      have h0 := cT hc103 h0
      refine m_Rb.n0 b_49 (x_ift d_49_96 rfl hc103) ?_
      refine m_Rb.n0 b_49 (x_iinc d_49_101 rfl rfl rfl (show m_put1 _ _ _ = [(2, _), (0, _), (1, _)] from rfl)) ?_
      refine m_Rb.n0 b_49 (x_goto d_49_104 rfl) ?_
      exact m_Rb.pick [1, 2, 0] rfl (hr2 (okm (okm hx0 k96) k102) h102 f102 h0)
    | false =>
      have h0 := cF hc103 h0
      refine m_Rb.n0 b_49 (x_iff d_49_96 rfl hc103) ?_
      refine m_Rb.n0 b_49 (x_iconst (z := 0) d_49_99 (by decide)) ?_
      cases h0
      exact m_Rb.ret b_49 (m_rt_ir d_49_100 rfl m_nb0) ⟨rfl, h102, f102⟩
  | false =>
    have h0 := cF hc91 h0
    refine m_Rb.n0 b_49 (x_icf d_49_75 rfl hc91) ?_
    refine m_Rb.n0 b_49 (x_iconst (z := 1) d_49_78 (by decide)) ?_
    cases h0
    exact m_Rb.ret b_49 (m_rt_ir d_49_79 rfl m_nb1) ⟨rfl, h90, f90⟩
def D_c_Reader_readList_2 (F : Nat) : Nat → Nat → Int32 → Int32 → tT → Option (Int32 × tT)
  | 0, _, _, _, _ => none
  | n + 1, x0, x1, x2, T => cond (m_c2 .ge x2 (300 : Int32)) ((tgi T x0 1 2).bind fun v2 => (tcl T x0 1).bind fun _ => bd2 (D_c_Reader_no F x0 v2 T) fun v6 T7 => (bret v6).bind fun v10 => some (v10, T7)) ((tcl T x0 1).bind fun _ => bd2 (D_c_Reader_readWord F x0 T) fun v14 T15 => cond (m_c1 .ne v14) (cond (m_c1 .ne x1) (cond (m_c2 .ne x1 (1 : Int32)) (cond (m_c2 .ne x1 (2 : Int32)) (cond (m_c2 .ne x1 (3 : Int32)) ((tcl T15 x0 1).bind fun _ => (D_c_Reader_countVarying F x0 T15).bind fun T63 => D_c_Reader_readList_69 F (D_c_Reader_readList_2 F n) x0 x1 x2 T63) ((tcl T15 x0 1).bind fun _ => (D_c_Reader_countKeeping F x0 T15).bind fun T68 => D_c_Reader_readList_69 F (D_c_Reader_readList_2 F n) x0 x1 x2 T68)) ((tcl T15 x0 1).bind fun _ => (D_c_Reader_countAsked F x0 T15).bind fun T73 => D_c_Reader_readList_69 F (D_c_Reader_readList_2 F n) x0 x1 x2 T73)) ((tcl T15 x0 1).bind fun _ => (D_c_Reader_weighForm F x0 T15).bind fun T78 => D_c_Reader_readList_69 F (D_c_Reader_readList_2 F n) x0 x1 x2 T78)) ((tcl T15 x0 1).bind fun _ => (D_c_Reader_weighLanguage F x0 T15).bind fun T83 => D_c_Reader_readList_69 F (D_c_Reader_readList_2 F n) x0 x1 x2 T83)) (some ((0 : Int32), T15)))
theorem T_c_Reader_readList_2 {l : Launch} {w0 : List mM} {F : Nat} : ∀ (n : Nat) {x0 : Nat} {x1 : Int32} {x2 : Int32} {T : tT} {w : List mM} {y9 : Int32} {T9 : tT}, okr T.2.1 (some x0) → RT T w → m_Fm w0 w → D_c_Reader_readList_2 F n x0 x1 x2 T = some (y9, T9) → m_Rb l M_49 (2, [(0, .ref x0), (1, .int x1), (2, .int x2)], [], w) (fun v w' => v = some (.int y9) ∧ RT T9 w' ∧ m_Fm w0 w') T T9 6 600 := by
  intro n
  induction n with
  | zero => intro x0 x1 x2 T w y9 T9 hx0 h hF h0; cases h0
  | succ n ih =>
    intro x0 x1 x2 T w y9 T9 hx0 h hF h0
    rw [D_c_Reader_readList_2] at h0
    refine m_Rb.n0 b_49 (x_iload_n d_49_2 rfl) ?_
    refine m_Rb.n0 b_49 (x_sipush (z := 300) d_49_3 (by decide)) ?_
    cases hc1 : m_c2 .ge x2 (300 : Int32) with
    | true =>
      have h0 := cT hc1 h0
      refine m_Rb.n0 b_49 (x_ict d_49_6 rfl hc1) ?_
      refine m_Rb.n0 b_49 (x_aload_n d_49_107 rfl) ?_
      refine m_Rb.n0 b_49 (x_aload_n d_49_108 rfl) ?_
      obtain ⟨v2, e3, h0⟩ := bS h0
      refine m_Rb.tgetI b_49 d_49_109 rfl h e3 ?_
      obtain ⟨_, e4, h0⟩ := bS h0
      obtain ⟨_, g5⟩ := RT.cls h e4
      obtain ⟨v6, T7, e8, h0⟩ := bS2 h0
      refine m_Rb.callI b_49 (y_cv d_49_112 rfl q_36 (m_isRecv_of rfl g5) (show m_takeI _ _ = some (_, [_, _], []) from m_takeI_of rfl rfl rfl (Nat.le_of_ble_eq_true rfl)) (by simp only [m_okf, List.all_cons, List.all_nil, Bool.and_true, Bool.and_self, m_okv_i, m_okv_l, m_okv_0, m_okv_n0, m_okv_t, RT.okn h hx0]) rfl) (T_c_Reader_no hx0 h e8) hF rfl (fun w9 h9 f9 k9 => ?_) (by decide) (by decide)
      obtain ⟨v10, e11, h0⟩ := bS h0
      cases h0
      exact m_Rb.retb b_49 d_49_115 rfl e11 ⟨rfl, h9, f9⟩
    | false =>
      have h0 := cF hc1 h0
      refine m_Rb.n0 b_49 (x_icf d_49_6 rfl hc1) ?_
      refine m_Rb.n0 b_49 (x_aload_n d_49_9 rfl) ?_
      obtain ⟨_, e12, h0⟩ := bS h0
      obtain ⟨_, g13⟩ := RT.cls h e12
      obtain ⟨v14, T15, e16, h0⟩ := bS2 h0
      refine m_Rb.callI b_49 (y_cv d_49_10 rfl q_50 (m_isRecv_of rfl g13) (show m_takeI _ _ = some (_, [_], []) from m_takeI_of rfl rfl rfl (Nat.le_of_ble_eq_true rfl)) (by simp only [m_okf, List.all_cons, List.all_nil, Bool.and_true, Bool.and_self, m_okv_i, m_okv_l, m_okv_0, m_okv_n0, m_okv_t, RT.okn h hx0]) rfl) (T_c_Reader_readWord hx0 h e16) hF rfl (fun w17 h17 f17 k17 => ?_) (by decide) (by decide)
      cases hc18 : m_c1 .ne v14 with
      | true =>
        have h0 := cT hc18 h0
        refine m_Rb.n0 b_49 (x_ift d_49_13 rfl hc18) ?_
        refine m_Rb.n0 b_49 (x_iload_n d_49_18 rfl) ?_
        cases hc30 : m_c1 .ne x1 with
        | true =>
          have h0 := cT hc30 h0
          refine m_Rb.n0 b_49 (x_ift d_49_19 rfl hc30) ?_
          refine m_Rb.n0 b_49 (x_iload_n d_49_29 rfl) ?_
          refine m_Rb.n0 b_49 (x_iconst (z := 1) d_49_30 (by decide)) ?_
          cases hc41 : m_c2 .ne x1 (1 : Int32) with
          | true =>
            have h0 := cT hc41 h0
            refine m_Rb.n0 b_49 (x_ict d_49_31 rfl hc41) ?_
            refine m_Rb.n0 b_49 (x_iload_n d_49_41 rfl) ?_
            refine m_Rb.n0 b_49 (x_iconst (z := 2) d_49_42 (by decide)) ?_
            cases hc51 : m_c2 .ne x1 (2 : Int32) with
            | true =>
              have h0 := cT hc51 h0
              refine m_Rb.n0 b_49 (x_ict d_49_43 rfl hc51) ?_
              refine m_Rb.n0 b_49 (x_iload_n d_49_53 rfl) ?_
              refine m_Rb.n0 b_49 (x_iconst (z := 3) d_49_54 (by decide)) ?_
              cases hc60 : m_c2 .ne x1 (3 : Int32) with
              | true =>
                have h0 := cT hc60 h0
                refine m_Rb.n0 b_49 (x_ict d_49_55 rfl hc60) ?_
                refine m_Rb.n0 b_49 (x_aload_n d_49_65 rfl) ?_
                obtain ⟨_, e61, h0⟩ := bS h0
                obtain ⟨_, g62⟩ := RT.cls h17 e61
                obtain ⟨T63, e64, h0⟩ := bS h0
                refine m_Rb.callV b_49 (y_cv d_49_66 rfl q_55 (m_isRecv_of rfl g62) (show m_takeI _ _ = some (_, [_], []) from m_takeI_of rfl rfl rfl (Nat.le_of_ble_eq_true rfl)) (by simp only [m_okf, List.all_cons, List.all_nil, Bool.and_true, Bool.and_self, m_okv_i, m_okv_l, m_okv_0, m_okv_n0, m_okv_t, RT.okn h17 (okm hx0 k17)]) rfl) (T_c_Reader_countVarying (okm hx0 k17) h17 e64) f17 rfl (fun w65 h65 f65 k65 => ?_) (by decide) (by decide)
                exact m_Rb.pick [0, 1, 2] rfl (T_c_Reader_readList_69 ih (okm (okm hx0 k17) k65) h65 f65 h0)
              | false =>
                have h0 := cF hc60 h0
                refine m_Rb.n0 b_49 (x_icf d_49_55 rfl hc60) ?_
                refine m_Rb.n0 b_49 (x_aload_n d_49_58 rfl) ?_
                obtain ⟨_, e66, h0⟩ := bS h0
                obtain ⟨_, g67⟩ := RT.cls h17 e66
                obtain ⟨T68, e69, h0⟩ := bS h0
                refine m_Rb.callV b_49 (y_cv d_49_59 rfl q_54 (m_isRecv_of rfl g67) (show m_takeI _ _ = some (_, [_], []) from m_takeI_of rfl rfl rfl (Nat.le_of_ble_eq_true rfl)) (by simp only [m_okf, List.all_cons, List.all_nil, Bool.and_true, Bool.and_self, m_okv_i, m_okv_l, m_okv_0, m_okv_n0, m_okv_t, RT.okn h17 (okm hx0 k17)]) rfl) (T_c_Reader_countKeeping (okm hx0 k17) h17 e69) f17 rfl (fun w70 h70 f70 k70 => ?_) (by decide) (by decide)
                refine m_Rb.n0 b_49 (x_goto d_49_62 rfl) ?_
                exact m_Rb.pick [0, 1, 2] rfl (T_c_Reader_readList_69 ih (okm (okm hx0 k17) k70) h70 f70 h0)
            | false =>
              have h0 := cF hc51 h0
              refine m_Rb.n0 b_49 (x_icf d_49_43 rfl hc51) ?_
              refine m_Rb.n0 b_49 (x_aload_n d_49_46 rfl) ?_
              obtain ⟨_, e71, h0⟩ := bS h0
              obtain ⟨_, g72⟩ := RT.cls h17 e71
              obtain ⟨T73, e74, h0⟩ := bS h0
              refine m_Rb.callV b_49 (y_cv d_49_47 rfl q_53 (m_isRecv_of rfl g72) (show m_takeI _ _ = some (_, [_], []) from m_takeI_of rfl rfl rfl (Nat.le_of_ble_eq_true rfl)) (by simp only [m_okf, List.all_cons, List.all_nil, Bool.and_true, Bool.and_self, m_okv_i, m_okv_l, m_okv_0, m_okv_n0, m_okv_t, RT.okn h17 (okm hx0 k17)]) rfl) (T_c_Reader_countAsked (okm hx0 k17) h17 e74) f17 rfl (fun w75 h75 f75 k75 => ?_) (by decide) (by decide)
              refine m_Rb.n0 b_49 (x_goto d_49_50 rfl) ?_
              exact m_Rb.pick [0, 1, 2] rfl (T_c_Reader_readList_69 ih (okm (okm hx0 k17) k75) h75 f75 h0)
          | false =>
            have h0 := cF hc41 h0
            refine m_Rb.n0 b_49 (x_icf d_49_31 rfl hc41) ?_
            refine m_Rb.n0 b_49 (x_aload_n d_49_34 rfl) ?_
            obtain ⟨_, e76, h0⟩ := bS h0
            obtain ⟨_, g77⟩ := RT.cls h17 e76
            obtain ⟨T78, e79, h0⟩ := bS h0
            refine m_Rb.callV b_49 (y_cv d_49_35 rfl q_52 (m_isRecv_of rfl g77) (show m_takeI _ _ = some (_, [_], []) from m_takeI_of rfl rfl rfl (Nat.le_of_ble_eq_true rfl)) (by simp only [m_okf, List.all_cons, List.all_nil, Bool.and_true, Bool.and_self, m_okv_i, m_okv_l, m_okv_0, m_okv_n0, m_okv_t, RT.okn h17 (okm hx0 k17)]) rfl) (T_c_Reader_weighForm (okm hx0 k17) h17 e79) f17 rfl (fun w80 h80 f80 k80 => ?_) (by decide) (by decide)
            refine m_Rb.n0 b_49 (x_goto d_49_38 rfl) ?_
            exact m_Rb.pick [0, 1, 2] rfl (T_c_Reader_readList_69 ih (okm (okm hx0 k17) k80) h80 f80 h0)
        | false =>
          have h0 := cF hc30 h0
          refine m_Rb.n0 b_49 (x_iff d_49_19 rfl hc30) ?_
          refine m_Rb.n0 b_49 (x_aload_n d_49_22 rfl) ?_
          obtain ⟨_, e81, h0⟩ := bS h0
          obtain ⟨_, g82⟩ := RT.cls h17 e81
          obtain ⟨T83, e84, h0⟩ := bS h0
          refine m_Rb.callV b_49 (y_cv d_49_23 rfl q_51 (m_isRecv_of rfl g82) (show m_takeI _ _ = some (_, [_], []) from m_takeI_of rfl rfl rfl (Nat.le_of_ble_eq_true rfl)) (by simp only [m_okf, List.all_cons, List.all_nil, Bool.and_true, Bool.and_self, m_okv_i, m_okv_l, m_okv_0, m_okv_n0, m_okv_t, RT.okn h17 (okm hx0 k17)]) rfl) (T_c_Reader_weighLanguage (okm hx0 k17) h17 e84) f17 rfl (fun w85 h85 f85 k85 => ?_) (by decide) (by decide)
          refine m_Rb.n0 b_49 (x_goto d_49_26 rfl) ?_
          exact m_Rb.pick [0, 1, 2] rfl (T_c_Reader_readList_69 ih (okm (okm hx0 k17) k85) h85 f85 h0)
      | false =>
        have h0 := cF hc18 h0
        refine m_Rb.n0 b_49 (x_iff d_49_13 rfl hc18) ?_
        refine m_Rb.n0 b_49 (x_iconst (z := 0) d_49_16 (by decide)) ?_
        cases h0
        exact m_Rb.ret b_49 (m_rt_ir d_49_17 rfl m_nb0) ⟨rfl, h17, f17⟩
def D_c_Reader_readList (F : Nat) (a0 : Nat) (p0 : Int32) (T : tT) : Option (Int32 × tT) := D_c_Reader_readList_2 F F a0 p0 (0 : Int32) T
theorem T_c_Reader_readList {l : Launch} {w : List mM} {F : Nat} {a0 : Nat} {p0 : Int32} {T : tT} {y9 : Int32} {T9 : tT} (ha0 : okr T.2.1 (some a0)) (h : RT T w) (h0 : D_c_Reader_readList F a0 p0 T = some (y9, T9)) : m_Rb l M_49 (m_ent M_49 [.ref a0, .int p0] w) (fun v w' => v = some (.int y9) ∧ RT T9 w' ∧ m_Fm w w') T T9 6 600 := by
  rw [show m_ent M_49 [.ref a0, .int p0] w = (0, [(0, .ref a0), (1, .int p0)], [], w) from by first | rfl | (simp only [m_ent, lv_args_r, lv_args_a, lv_args_i, lv_args_l, lv_args_0]; done) | (simp only [m_ent, lv_args_r, lv_args_a, lv_args_i, lv_args_l, lv_args_0]; rfl)]
  generalize hw0 : w = w0 at h ⊢
  have hF : m_Fm w0 w0 := m_Fm.refl
  rw [D_c_Reader_readList] at h0
  refine m_Rb.n0 b_49 (x_iconst (z := 0) d_49_0 (by decide)) ?_
  refine m_Rb.n0 b_49 (x_istore_n d_49_1 rfl (show m_put1 _ _ _ = [(2, _), (0, _), (1, _)] from rfl)) ?_
  exact m_Rb.pick [1, 2, 0] rfl (T_c_Reader_readList_2 F ha0 h hF h0)
def D_c_Reader_skipValue_0 (F : Nat) : Nat → Nat → tT → Option (Int32 × tT)
  | 0, _, _ => none
  | n + 1, x0, T => (tgi T x0 1 2).bind fun v1 => (tgi T x0 1 1).bind fun v3 => cond (m_c2 .ge v1 v3) (some ((1 : Int32), T)) ((tcl T x0 1).bind fun _ => (D_c_Reader_here F x0 T).bind fun v8 => cond (m_c2 .eq v8 (10 : Int32)) (some ((1 : Int32), T)) ((tgi T x0 1 2).bind fun v12 => (tpi T x0 1 2 (v12 + (1 : Int32))).bind fun T14 => D_c_Reader_skipValue_0 F n x0 T14))
theorem T_c_Reader_skipValue_0 {l : Launch} {w0 : List mM} {F : Nat} : ∀ (n : Nat) {x0 : Nat} {T : tT} {w : List mM} {y9 : Int32} {T9 : tT}, okr T.2.1 (some x0) → RT T w → m_Fm w0 w → D_c_Reader_skipValue_0 F n x0 T = some (y9, T9) → m_Rb l M_56 (0, [(0, .ref x0)], [], w) (fun v w' => v = some (.int y9) ∧ RT T9 w' ∧ m_Fm w0 w') T T9 1 100 := by
  intro n
  induction n with
  | zero => intro x0 T w y9 T9 hx0 h hF h0; cases h0
  | succ n ih =>
    intro x0 T w y9 T9 hx0 h hF h0
    rw [D_c_Reader_skipValue_0] at h0
    refine m_Rb.n0 b_56 (x_aload_n d_56_0 rfl) ?_
    obtain ⟨v1, e2, h0⟩ := bS h0
    refine m_Rb.tgetI b_56 d_56_1 rfl h e2 ?_
    refine m_Rb.n0 b_56 (x_aload_n d_56_4 rfl) ?_
    obtain ⟨v3, e4, h0⟩ := bS h0
    refine m_Rb.tgetI b_56 d_56_5 rfl h e4 ?_
    cases hc5 : m_c2 .ge v1 v3 with
    | true =>
      have h0 := cT hc5 h0
      refine m_Rb.n0 b_56 (x_ict d_56_8 rfl hc5) ?_
      refine m_Rb.n0 b_56 (x_iconst (z := 1) d_56_33 (by decide)) ?_
      cases h0
      exact m_Rb.ret b_56 (m_rt_ir d_56_34 rfl m_nb1) ⟨rfl, h, hF⟩
    | false =>
      have h0 := cF hc5 h0
      refine m_Rb.n0 b_56 (x_icf d_56_8 rfl hc5) ?_
      refine m_Rb.n0 b_56 (x_aload_n d_56_11 rfl) ?_
      obtain ⟨_, e6, h0⟩ := bS h0
      obtain ⟨_, g7⟩ := RT.cls h e6
      obtain ⟨v8, e9, h0⟩ := bS h0
      refine m_Rb.callI b_56 (y_cv d_56_12 rfl q_22 (m_isRecv_of rfl g7) (show m_takeI _ _ = some (_, [_], []) from m_takeI_of rfl rfl rfl (Nat.le_of_ble_eq_true rfl)) (by simp only [m_okf, List.all_cons, List.all_nil, Bool.and_true, Bool.and_self, m_okv_i, m_okv_l, m_okv_0, m_okv_n0, m_okv_t, RT.okn h hx0]) rfl) (T_c_Reader_here hx0 h e9) hF rfl (fun w10 h10 f10 k10 => ?_) (by decide) (by decide)
      refine m_Rb.n0 b_56 (x_bipush (z := 10) d_56_15 (by decide)) ?_
      cases hc11 : m_c2 .eq v8 (10 : Int32) with
      | true =>
        have h0 := cT hc11 h0
        refine m_Rb.n0 b_56 (x_ict d_56_17 rfl hc11) ?_
        refine m_Rb.n0 b_56 (x_iconst (z := 1) d_56_33 (by decide)) ?_
        cases h0
        exact m_Rb.ret b_56 (m_rt_ir d_56_34 rfl m_nb1) ⟨rfl, h10, f10⟩
      | false =>
        have h0 := cF hc11 h0
        refine m_Rb.n0 b_56 (x_icf d_56_17 rfl hc11) ?_
        refine m_Rb.n0 b_56 (x_aload_n d_56_20 rfl) ?_
        refine m_Rb.n0 b_56 (x_dup d_56_21 rfl) ?_
        obtain ⟨v12, e13, h0⟩ := bS h0
        refine m_Rb.tgetI b_56 d_56_22 rfl h10 e13 ?_
        refine m_Rb.n0 b_56 (x_iconst (z := 1) d_56_25 (by decide)) ?_
        refine m_Rb.n0 b_56 (x_iadd d_56_26 rfl) ?_
        obtain ⟨T14, e15, h0⟩ := bS h0
        refine m_Rb.tputI b_56 d_56_27 rfl rfl (by decide) h10 f10 e15 (fun w16 h16 f16 k16 => ?_)
        refine m_Rb.n0 b_56 (x_goto d_56_30 rfl) ?_
        exact m_Rb.pick [0] rfl (ih (okm hx0 k16) h16 f16 h0)
def D_c_Reader_skipValue (F : Nat) (a0 : Nat) (T : tT) : Option (Int32 × tT) := D_c_Reader_skipValue_0 F F a0 T
theorem T_c_Reader_skipValue {l : Launch} {w : List mM} {F : Nat} {a0 : Nat} {T : tT} {y9 : Int32} {T9 : tT} (ha0 : okr T.2.1 (some a0)) (h : RT T w) (h0 : D_c_Reader_skipValue F a0 T = some (y9, T9)) : m_Rb l M_56 (m_ent M_56 [.ref a0] w) (fun v w' => v = some (.int y9) ∧ RT T9 w' ∧ m_Fm w w') T T9 1 100 := by
  rw [show m_ent M_56 [.ref a0] w = (0, [(0, .ref a0)], [], w) from by first | rfl | (simp only [m_ent, lv_args_r, lv_args_a, lv_args_i, lv_args_l, lv_args_0]; done) | (simp only [m_ent, lv_args_r, lv_args_a, lv_args_i, lv_args_l, lv_args_0]; rfl)]
  generalize hw0 : w = w0 at h ⊢
  have hF : m_Fm w0 w0 := m_Fm.refl
  rw [D_c_Reader_skipValue] at h0
  exact m_Rb.pick [0] rfl (T_c_Reader_skipValue_0 F ha0 h hF h0)
def D_c_Reader_readAskedValue_69 (F : Nat) (x0 : Nat) (y0 : Int32) (T : tT) : Option (Int32 × tT) := (tgr T x0 1 14).bind fun v142 => (tgi T x0 1 9).bind fun v145 => (v142).bind fun a147 => (tpi T a147 7 7 v145).bind fun T149 => (bret y0).bind fun v152 => some (v152, T149)
theorem T_c_Reader_readAskedValue_69 {l : Launch} {w0 : List mM} {F : Nat} {x0 : Nat} {y0 : Int32} {T : tT} {w : List mM} {y9 : Int32} {T9 : tT} (hx0 : okr T.2.1 (some x0)) (h : RT T w) (hF : m_Fm w0 w) (h0 : D_c_Reader_readAskedValue_69 F x0 y0 T = some (y9, T9)) : m_Rb l M_44 (69, [(0, .ref x0)], [.int y0], w) (fun v w' => v = some (.int y9) ∧ RT T9 w' ∧ m_Fm w0 w') T T9 7 700 := by
  rw [D_c_Reader_readAskedValue_69] at h0
  refine m_Rb.n0 b_44 (x_istore_n d_44_69 rfl (show m_put1 _ _ _ = [(1, _), (0, _)] from rfl)) ?_
  refine m_Rb.n0 b_44 (x_aload_n d_44_70 rfl) ?_
  obtain ⟨v142, e143, h0⟩ := bS h0
  refine m_Rb.tgetR b_44 d_44_71 rfl h e143 (fun o144 => ?_)
  refine m_Rb.n0 b_44 (x_aload_n d_44_74 rfl) ?_
  obtain ⟨v145, e146, h0⟩ := bS h0
  refine m_Rb.tgetI b_44 d_44_75 rfl h e146 ?_
  obtain ⟨a147, e148, h0⟩ := bS h0
  subst e148
  obtain ⟨T149, e150, h0⟩ := bS h0
  refine m_Rb.tputI b_44 d_44_78 rfl rfl (by decide) h hF e150 (fun w151 h151 f151 k151 => ?_)
  refine m_Rb.n0 b_44 (x_iload_n d_44_81 rfl) ?_
  obtain ⟨v152, e153, h0⟩ := bS h0
  cases h0
  exact m_Rb.retb b_44 d_44_82 rfl e153 ⟨rfl, h151, f151⟩
def D_c_Reader_readAskedValue_68 (F : Nat) (x0 : Nat) (T : tT) : Option (Int32 × tT) := D_c_Reader_readAskedValue_69 F x0 (0 : Int32) T
theorem T_c_Reader_readAskedValue_68 {l : Launch} {w0 : List mM} {F : Nat} {x0 : Nat} {T : tT} {w : List mM} {y9 : Int32} {T9 : tT} (hx0 : okr T.2.1 (some x0)) (h : RT T w) (hF : m_Fm w0 w) (h0 : D_c_Reader_readAskedValue_68 F x0 T = some (y9, T9)) : m_Rb l M_44 (68, [(0, .ref x0)], [], w) (fun v w' => v = some (.int y9) ∧ RT T9 w' ∧ m_Fm w0 w') T T9 7 700 := by
  rw [D_c_Reader_readAskedValue_68] at h0
  refine m_Rb.n0 b_44 (x_iconst (z := 0) d_44_68 (by decide)) ?_
  exact m_Rb.pick [0] rfl (T_c_Reader_readAskedValue_69 hx0 h hF h0)
def D_c_Reader_readAskedValue (F : Nat) (a0 : Nat) (T : tT) : Option (Int32 × tT) := (tcl T a0 1).bind fun _ => (D_c_Reader_isWord F a0 12 T).bind fun v3 => cond (m_c1 .eq v3) ((tcl T a0 1).bind fun _ => (D_c_Reader_isWord F a0 13 T).bind fun v9 => cond (m_c1 .eq v9) ((tcl T a0 1).bind fun _ => (D_c_Reader_isWord F a0 14 T).bind fun v15 => cond (m_c1 .eq v15) ((tcl T a0 1).bind fun _ => (D_c_Reader_isWord F a0 15 T).bind fun v21 => cond (m_c1 .eq v21) ((tcl T a0 1).bind fun _ => (D_c_Reader_isWord F a0 16 T).bind fun v27 => cond (m_c1 .eq v27) ((tcl T a0 1).bind fun _ => (D_c_Reader_isWord F a0 9 T).bind fun v33 => cond (m_c1 .eq v33) ((tcl T a0 1).bind fun _ => bd2 (D_c_Reader_skipValue F a0 T) fun v39 T40 => (bret v39).bind fun v43 => some (v43, T40)) ((tcl T a0 1).bind fun _ => bd2 (D_c_Reader_readList F a0 (2 : Int32) T) fun v47 T48 => (bret v47).bind fun v51 => some (v51, T48))) ((tcl T a0 1).bind fun _ => bd2 (D_c_Reader_readList F a0 (1 : Int32) T) fun v55 T56 => (bret v55).bind fun v59 => some (v59, T56))) ((tcl T a0 1).bind fun _ => bd2 (D_c_Reader_readList F a0 (0 : Int32) T) fun v63 T64 => (bret v63).bind fun v67 => some (v67, T64))) ((tcl T a0 1).bind fun _ => bd2 (D_c_Reader_expect F a0 (34 : Int32) T) fun v71 T72 => cond (m_c1 .eq v71) (D_c_Reader_readAskedValue_68 F a0 T72) ((tcl T72 a0 1).bind fun _ => bd2 (D_c_Reader_readNumber F a0 (99999 : Int32) T72) fun v88 T89 => cond (m_c1 .eq v88) (D_c_Reader_readAskedValue_68 F a0 T89) ((tcl T89 a0 1).bind fun _ => bd2 (D_c_Reader_expect F a0 (34 : Int32) T89) fun v105 T106 => (cond (m_c1 .eq v105) (some (0 : Int32)) (some (1 : Int32))).bind fun v112 => (tgr T106 a0 1 14).bind fun v114 => (tgi T106 a0 1 9).bind fun v117 => (v114).bind fun a119 => (tpi T106 a119 7 7 v117).bind fun T121 => (bret v112).bind fun v124 => some (v124, T121))))) ((tcl T a0 1).bind fun _ => bd2 (D_c_Reader_readMatch F a0 T) fun v128 T129 => (bret v128).bind fun v132 => some (v132, T129))) ((tcl T a0 1).bind fun _ => bd2 (D_c_Reader_readRange F a0 T) fun v136 T137 => (bret v136).bind fun v140 => some (v140, T137))
theorem T_c_Reader_readAskedValue {l : Launch} {w : List mM} {F : Nat} {a0 : Nat} {T : tT} {y9 : Int32} {T9 : tT} (ha0 : okr T.2.1 (some a0)) (h : RT T w) (h0 : D_c_Reader_readAskedValue F a0 T = some (y9, T9)) : m_Rb l M_44 (m_ent M_44 [.ref a0] w) (fun v w' => v = some (.int y9) ∧ RT T9 w' ∧ m_Fm w w') T T9 7 700 := by
  rw [show m_ent M_44 [.ref a0] w = (0, [(0, .ref a0)], [], w) from by first | rfl | (simp only [m_ent, lv_args_r, lv_args_a, lv_args_i, lv_args_l, lv_args_0]; done) | (simp only [m_ent, lv_args_r, lv_args_a, lv_args_i, lv_args_l, lv_args_0]; rfl)]
  generalize hw0 : w = w0 at h ⊢
  have hF : m_Fm w0 w0 := m_Fm.refl
  rw [D_c_Reader_readAskedValue] at h0
  refine m_Rb.n0 b_44 (x_aload_n d_44_0 rfl) ?_
  refine m_Rb.n0 b_44 (x_text d_44_1 rfl rfl) ?_
  obtain ⟨_, e1, h0⟩ := bS h0
  obtain ⟨_, g2⟩ := RT.cls h e1
  obtain ⟨v3, e4, h0⟩ := bS h0
  refine m_Rb.callI b_44 (y_cv d_44_3 rfl q_45 (m_isRecv_of rfl g2) (show m_takeI _ _ = some (_, [_, _], []) from m_takeI_of rfl rfl rfl (Nat.le_of_ble_eq_true rfl)) (by simp only [m_okf, List.all_cons, List.all_nil, Bool.and_true, Bool.and_self, m_okv_i, m_okv_l, m_okv_0, m_okv_n0, m_okv_t, RT.okn h ha0, m_okv_out (a := 12) (by decide)]) rfl) (T_c_Reader_isWord ha0 (by decide) h e4) hF rfl (fun w5 h5 f5 k5 => ?_) (by decide) (by decide)
  cases hc6 : m_c1 .eq v3 with
  | true =>
    have h0 := cT hc6 h0
    refine m_Rb.n0 b_44 (x_ift d_44_6 rfl hc6) ?_
    refine m_Rb.n0 b_44 (x_aload_n d_44_14 rfl) ?_
    refine m_Rb.n0 b_44 (x_text d_44_15 rfl rfl) ?_
    obtain ⟨_, e7, h0⟩ := bS h0
    obtain ⟨_, g8⟩ := RT.cls h5 e7
    obtain ⟨v9, e10, h0⟩ := bS h0
    refine m_Rb.callI b_44 (y_cv d_44_17 rfl q_45 (m_isRecv_of rfl g8) (show m_takeI _ _ = some (_, [_, _], []) from m_takeI_of rfl rfl rfl (Nat.le_of_ble_eq_true rfl)) (by simp only [m_okf, List.all_cons, List.all_nil, Bool.and_true, Bool.and_self, m_okv_i, m_okv_l, m_okv_0, m_okv_n0, m_okv_t, RT.okn h5 ha0, m_okv_out (a := 13) (by decide)]) rfl) (T_c_Reader_isWord ha0 (by decide) h5 e10) f5 rfl (fun w11 h11 f11 k11 => ?_) (by decide) (by decide)
    cases hc12 : m_c1 .eq v9 with
    | true =>
      have h0 := cT hc12 h0
      refine m_Rb.n0 b_44 (x_ift d_44_20 rfl hc12) ?_
      refine m_Rb.n0 b_44 (x_aload_n d_44_28 rfl) ?_
      refine m_Rb.n0 b_44 (x_text d_44_29 rfl rfl) ?_
      obtain ⟨_, e13, h0⟩ := bS h0
      obtain ⟨_, g14⟩ := RT.cls h11 e13
      obtain ⟨v15, e16, h0⟩ := bS h0
      refine m_Rb.callI b_44 (y_cv d_44_31 rfl q_45 (m_isRecv_of rfl g14) (show m_takeI _ _ = some (_, [_, _], []) from m_takeI_of rfl rfl rfl (Nat.le_of_ble_eq_true rfl)) (by simp only [m_okf, List.all_cons, List.all_nil, Bool.and_true, Bool.and_self, m_okv_i, m_okv_l, m_okv_0, m_okv_n0, m_okv_t, RT.okn h11 ha0, m_okv_out (a := 14) (by decide)]) rfl) (T_c_Reader_isWord ha0 (by decide) h11 e16) f11 rfl (fun w17 h17 f17 k17 => ?_) (by decide) (by decide)
      cases hc18 : m_c1 .eq v15 with
      | true =>
        have h0 := cT hc18 h0
        refine m_Rb.n0 b_44 (x_ift d_44_34 rfl hc18) ?_
        refine m_Rb.n0 b_44 (x_aload_n d_44_83 rfl) ?_
        refine m_Rb.n0 b_44 (x_text d_44_84 rfl rfl) ?_
        obtain ⟨_, e19, h0⟩ := bS h0
        obtain ⟨_, g20⟩ := RT.cls h17 e19
        obtain ⟨v21, e22, h0⟩ := bS h0
        refine m_Rb.callI b_44 (y_cv d_44_86 rfl q_45 (m_isRecv_of rfl g20) (show m_takeI _ _ = some (_, [_, _], []) from m_takeI_of rfl rfl rfl (Nat.le_of_ble_eq_true rfl)) (by simp only [m_okf, List.all_cons, List.all_nil, Bool.and_true, Bool.and_self, m_okv_i, m_okv_l, m_okv_0, m_okv_n0, m_okv_t, RT.okn h17 ha0, m_okv_out (a := 15) (by decide)]) rfl) (T_c_Reader_isWord ha0 (by decide) h17 e22) f17 rfl (fun w23 h23 f23 k23 => ?_) (by decide) (by decide)
        cases hc24 : m_c1 .eq v21 with
        | true =>
          have h0 := cT hc24 h0
          refine m_Rb.n0 b_44 (x_ift d_44_89 rfl hc24) ?_
          refine m_Rb.n0 b_44 (x_aload_n d_44_98 rfl) ?_
          refine m_Rb.n0 b_44 (x_text d_44_99 rfl rfl) ?_
          obtain ⟨_, e25, h0⟩ := bS h0
          obtain ⟨_, g26⟩ := RT.cls h23 e25
          obtain ⟨v27, e28, h0⟩ := bS h0
          refine m_Rb.callI b_44 (y_cv d_44_101 rfl q_45 (m_isRecv_of rfl g26) (show m_takeI _ _ = some (_, [_, _], []) from m_takeI_of rfl rfl rfl (Nat.le_of_ble_eq_true rfl)) (by simp only [m_okf, List.all_cons, List.all_nil, Bool.and_true, Bool.and_self, m_okv_i, m_okv_l, m_okv_0, m_okv_n0, m_okv_t, RT.okn h23 ha0, m_okv_out (a := 16) (by decide)]) rfl) (T_c_Reader_isWord ha0 (by decide) h23 e28) f23 rfl (fun w29 h29 f29 k29 => ?_) (by decide) (by decide)
          cases hc30 : m_c1 .eq v27 with
          | true =>
            have h0 := cT hc30 h0
            refine m_Rb.n0 b_44 (x_ift d_44_104 rfl hc30) ?_
            refine m_Rb.n0 b_44 (x_aload_n d_44_113 rfl) ?_
            refine m_Rb.n0 b_44 (x_text d_44_114 rfl rfl) ?_
            obtain ⟨_, e31, h0⟩ := bS h0
            obtain ⟨_, g32⟩ := RT.cls h29 e31
            obtain ⟨v33, e34, h0⟩ := bS h0
            refine m_Rb.callI b_44 (y_cv d_44_116 rfl q_45 (m_isRecv_of rfl g32) (show m_takeI _ _ = some (_, [_, _], []) from m_takeI_of rfl rfl rfl (Nat.le_of_ble_eq_true rfl)) (by simp only [m_okf, List.all_cons, List.all_nil, Bool.and_true, Bool.and_self, m_okv_i, m_okv_l, m_okv_0, m_okv_n0, m_okv_t, RT.okn h29 ha0, m_okv_out (a := 9) (by decide)]) rfl) (T_c_Reader_isWord ha0 (by decide) h29 e34) f29 rfl (fun w35 h35 f35 k35 => ?_) (by decide) (by decide)
            cases hc36 : m_c1 .eq v33 with
            | true =>
              have h0 := cT hc36 h0
              refine m_Rb.n0 b_44 (x_ift d_44_119 rfl hc36) ?_
              refine m_Rb.n0 b_44 (x_aload_n d_44_128 rfl) ?_
              obtain ⟨_, e37, h0⟩ := bS h0
              obtain ⟨_, g38⟩ := RT.cls h35 e37
              obtain ⟨v39, T40, e41, h0⟩ := bS2 h0
              refine m_Rb.callI b_44 (y_cv d_44_129 rfl q_56 (m_isRecv_of rfl g38) (show m_takeI _ _ = some (_, [_], []) from m_takeI_of rfl rfl rfl (Nat.le_of_ble_eq_true rfl)) (by simp only [m_okf, List.all_cons, List.all_nil, Bool.and_true, Bool.and_self, m_okv_i, m_okv_l, m_okv_0, m_okv_n0, m_okv_t, RT.okn h35 ha0]) rfl) (T_c_Reader_skipValue ha0 h35 e41) f35 rfl (fun w42 h42 f42 k42 => ?_) (by decide) (by decide)
              obtain ⟨v43, e44, h0⟩ := bS h0
              cases h0
              exact m_Rb.retb b_44 d_44_132 rfl e44 ⟨rfl, h42, f42⟩
            | false =>
              have h0 := cF hc36 h0
              refine m_Rb.n0 b_44 (x_iff d_44_119 rfl hc36) ?_
              refine m_Rb.n0 b_44 (x_aload_n d_44_122 rfl) ?_
              refine m_Rb.n0 b_44 (x_iconst (z := 2) d_44_123 (by decide)) ?_
              obtain ⟨_, e45, h0⟩ := bS h0
              obtain ⟨_, g46⟩ := RT.cls h35 e45
              obtain ⟨v47, T48, e49, h0⟩ := bS2 h0
              refine m_Rb.callI b_44 (y_cv d_44_124 rfl q_49 (m_isRecv_of rfl g46) (show m_takeI _ _ = some (_, [_, _], []) from m_takeI_of rfl rfl rfl (Nat.le_of_ble_eq_true rfl)) (by simp only [m_okf, List.all_cons, List.all_nil, Bool.and_true, Bool.and_self, m_okv_i, m_okv_l, m_okv_0, m_okv_n0, m_okv_t, RT.okn h35 ha0]) rfl) (T_c_Reader_readList ha0 h35 e49) f35 rfl (fun w50 h50 f50 k50 => ?_) (by decide) (by decide)
              obtain ⟨v51, e52, h0⟩ := bS h0
              cases h0
              exact m_Rb.retb b_44 d_44_127 rfl e52 ⟨rfl, h50, f50⟩
          | false =>
            have h0 := cF hc30 h0
            refine m_Rb.n0 b_44 (x_iff d_44_104 rfl hc30) ?_
            refine m_Rb.n0 b_44 (x_aload_n d_44_107 rfl) ?_
            refine m_Rb.n0 b_44 (x_iconst (z := 1) d_44_108 (by decide)) ?_
            obtain ⟨_, e53, h0⟩ := bS h0
            obtain ⟨_, g54⟩ := RT.cls h29 e53
            obtain ⟨v55, T56, e57, h0⟩ := bS2 h0
            refine m_Rb.callI b_44 (y_cv d_44_109 rfl q_49 (m_isRecv_of rfl g54) (show m_takeI _ _ = some (_, [_, _], []) from m_takeI_of rfl rfl rfl (Nat.le_of_ble_eq_true rfl)) (by simp only [m_okf, List.all_cons, List.all_nil, Bool.and_true, Bool.and_self, m_okv_i, m_okv_l, m_okv_0, m_okv_n0, m_okv_t, RT.okn h29 ha0]) rfl) (T_c_Reader_readList ha0 h29 e57) f29 rfl (fun w58 h58 f58 k58 => ?_) (by decide) (by decide)
            obtain ⟨v59, e60, h0⟩ := bS h0
            cases h0
            exact m_Rb.retb b_44 d_44_112 rfl e60 ⟨rfl, h58, f58⟩
        | false =>
          have h0 := cF hc24 h0
          refine m_Rb.n0 b_44 (x_iff d_44_89 rfl hc24) ?_
          refine m_Rb.n0 b_44 (x_aload_n d_44_92 rfl) ?_
          refine m_Rb.n0 b_44 (x_iconst (z := 0) d_44_93 (by decide)) ?_
          obtain ⟨_, e61, h0⟩ := bS h0
          obtain ⟨_, g62⟩ := RT.cls h23 e61
          obtain ⟨v63, T64, e65, h0⟩ := bS2 h0
          refine m_Rb.callI b_44 (y_cv d_44_94 rfl q_49 (m_isRecv_of rfl g62) (show m_takeI _ _ = some (_, [_, _], []) from m_takeI_of rfl rfl rfl (Nat.le_of_ble_eq_true rfl)) (by simp only [m_okf, List.all_cons, List.all_nil, Bool.and_true, Bool.and_self, m_okv_i, m_okv_l, m_okv_0, m_okv_n0, m_okv_t, RT.okn h23 ha0]) rfl) (T_c_Reader_readList ha0 h23 e65) f23 rfl (fun w66 h66 f66 k66 => ?_) (by decide) (by decide)
          obtain ⟨v67, e68, h0⟩ := bS h0
          cases h0
          exact m_Rb.retb b_44 d_44_97 rfl e68 ⟨rfl, h66, f66⟩
      | false =>
        have h0 := cF hc18 h0
        refine m_Rb.n0 b_44 (x_iff d_44_34 rfl hc18) ?_
        refine m_Rb.n0 b_44 (x_aload_n d_44_37 rfl) ?_
        refine m_Rb.n0 b_44 (x_bipush (z := 34) d_44_38 (by decide)) ?_
        obtain ⟨_, e69, h0⟩ := bS h0
        obtain ⟨_, g70⟩ := RT.cls h17 e69
        obtain ⟨v71, T72, e73, h0⟩ := bS2 h0
        refine m_Rb.callI b_44 (y_cv d_44_40 rfl q_35 (m_isRecv_of rfl g70) (show m_takeI _ _ = some (_, [_, _], []) from m_takeI_of rfl rfl rfl (Nat.le_of_ble_eq_true rfl)) (by simp only [m_okf, List.all_cons, List.all_nil, Bool.and_true, Bool.and_self, m_okv_i, m_okv_l, m_okv_0, m_okv_n0, m_okv_t, RT.okn h17 ha0]) rfl) (T_c_Reader_expect ha0 h17 e73) f17 rfl (fun w74 h74 f74 k74 => ?_) (by decide) (by decide)
        cases hc85 : m_c1 .eq v71 with
        | true =>
          have h0 := cT hc85 h0
          refine m_Rb.n0 b_44 (x_ift d_44_43 rfl hc85) ?_
          exact m_Rb.pick [0] rfl (T_c_Reader_readAskedValue_68 (okm ha0 k74) h74 f74 h0)
        | false =>
          have h0 := cF hc85 h0
          refine m_Rb.n0 b_44 (x_iff d_44_43 rfl hc85) ?_
          refine m_Rb.n0 b_44 (x_aload_n d_44_46 rfl) ?_
          refine m_Rb.n0 b_44 (x_ldc (v := .int 99999) d_44_47 rfl) ?_
          obtain ⟨_, e86, h0⟩ := bS h0
          obtain ⟨_, g87⟩ := RT.cls h74 e86
          obtain ⟨v88, T89, e90, h0⟩ := bS2 h0
          refine m_Rb.callI b_44 (y_cv d_44_49 rfl q_38 (m_isRecv_of rfl g87) (show m_takeI _ _ = some (_, [_, _], []) from m_takeI_of rfl rfl rfl (Nat.le_of_ble_eq_true rfl)) (by simp only [m_okf, List.all_cons, List.all_nil, Bool.and_true, Bool.and_self, m_okv_i, m_okv_l, m_okv_0, m_okv_n0, m_okv_t, RT.okn h74 (okm ha0 k74)]) rfl) (T_c_Reader_readNumber (okm ha0 k74) h74 e90) f74 rfl (fun w91 h91 f91 k91 => ?_) (by decide) (by decide)
          cases hc102 : m_c1 .eq v88 with
          | true =>
            have h0 := cT hc102 h0
            refine m_Rb.n0 b_44 (x_ift d_44_52 rfl hc102) ?_
            exact m_Rb.pick [0] rfl (T_c_Reader_readAskedValue_68 (okm (okm ha0 k74) k91) h91 f91 h0)
          | false =>
            have h0 := cF hc102 h0
            refine m_Rb.n0 b_44 (x_iff d_44_52 rfl hc102) ?_
            refine m_Rb.n0 b_44 (x_aload_n d_44_55 rfl) ?_
            refine m_Rb.n0 b_44 (x_bipush (z := 34) d_44_56 (by decide)) ?_
            obtain ⟨_, e103, h0⟩ := bS h0
            obtain ⟨_, g104⟩ := RT.cls h91 e103
            obtain ⟨v105, T106, e107, h0⟩ := bS2 h0
            refine m_Rb.callI b_44 (y_cv d_44_58 rfl q_35 (m_isRecv_of rfl g104) (show m_takeI _ _ = some (_, [_, _], []) from m_takeI_of rfl rfl rfl (Nat.le_of_ble_eq_true rfl)) (by simp only [m_okf, List.all_cons, List.all_nil, Bool.and_true, Bool.and_self, m_okv_i, m_okv_l, m_okv_0, m_okv_n0, m_okv_t, RT.okn h91 (okm (okm ha0 k74) k91)]) rfl) (T_c_Reader_expect (okm (okm ha0 k74) k91) h91 e107) f91 rfl (fun w108 h108 f108 k108 => ?_) (by decide) (by decide)
            obtain ⟨v112, e110, h0⟩ := bS h0
            have kk109 : ∀ (xz : Int32) (w1 : List mM), xz = v112 → RT T106 w1 → m_Fm w0 w1 → m_Rb l M_44 (69, [(0, .ref a0)], [.int xz], w1) (fun v w' => v = some (.int y9) ∧ RT T9 w' ∧ m_Fm w0 w') T106 T9 7 700 := by
              intro xz w113 ez h113 f113
              rw [ez]
              refine m_Rb.n0 b_44 (x_istore_n d_44_69 rfl (show m_put1 _ _ _ = [(1, _), (0, _)] from rfl)) ?_
              refine m_Rb.n0 b_44 (x_aload_n d_44_70 rfl) ?_
              obtain ⟨v114, e115, h0⟩ := bS h0
              refine m_Rb.tgetR b_44 d_44_71 rfl h113 e115 (fun o116 => ?_)
              refine m_Rb.n0 b_44 (x_aload_n d_44_74 rfl) ?_
              obtain ⟨v117, e118, h0⟩ := bS h0
              refine m_Rb.tgetI b_44 d_44_75 rfl h113 e118 ?_
              obtain ⟨a119, e120, h0⟩ := bS h0
              subst e120
              obtain ⟨T121, e122, h0⟩ := bS h0
              refine m_Rb.tputI b_44 d_44_78 rfl rfl (by decide) h113 f113 e122 (fun w123 h123 f123 k123 => ?_)
              refine m_Rb.n0 b_44 (x_iload_n d_44_81 rfl) ?_
              obtain ⟨v124, e125, h0⟩ := bS h0
              cases h0
              exact m_Rb.retb b_44 d_44_82 rfl e125 ⟨rfl, h123, f123⟩
            cases hc111 : m_c1 .eq v105 with
            | true =>
              have e110 := cT hc111 e110
              refine m_Rb.n0 b_44 (x_ift d_44_61 rfl hc111) ?_
              refine m_Rb.n0 b_44 (x_iconst (z := 0) d_44_68 (by decide)) ?_
              exact kk109 _ _ (Option.some.inj e110) h108 f108
            | false =>
              have e110 := cF hc111 e110
              refine m_Rb.n0 b_44 (x_iff d_44_61 rfl hc111) ?_
              refine m_Rb.n0 b_44 (x_iconst (z := 1) d_44_64 (by decide)) ?_
              refine m_Rb.n0 b_44 (x_goto d_44_65 rfl) ?_
              exact kk109 _ _ (Option.some.inj e110) h108 f108
    | false =>
      have h0 := cF hc12 h0
      refine m_Rb.n0 b_44 (x_iff d_44_20 rfl hc12) ?_
      refine m_Rb.n0 b_44 (x_aload_n d_44_23 rfl) ?_
      obtain ⟨_, e126, h0⟩ := bS h0
      obtain ⟨_, g127⟩ := RT.cls h11 e126
      obtain ⟨v128, T129, e130, h0⟩ := bS2 h0
      refine m_Rb.callI b_44 (y_cv d_44_24 rfl q_47 (m_isRecv_of rfl g127) (show m_takeI _ _ = some (_, [_], []) from m_takeI_of rfl rfl rfl (Nat.le_of_ble_eq_true rfl)) (by simp only [m_okf, List.all_cons, List.all_nil, Bool.and_true, Bool.and_self, m_okv_i, m_okv_l, m_okv_0, m_okv_n0, m_okv_t, RT.okn h11 ha0]) rfl) (T_c_Reader_readMatch ha0 h11 e130) f11 rfl (fun w131 h131 f131 k131 => ?_) (by decide) (by decide)
      obtain ⟨v132, e133, h0⟩ := bS h0
      cases h0
      exact m_Rb.retb b_44 d_44_27 rfl e133 ⟨rfl, h131, f131⟩
  | false =>
    have h0 := cF hc6 h0
    refine m_Rb.n0 b_44 (x_iff d_44_6 rfl hc6) ?_
    refine m_Rb.n0 b_44 (x_aload_n d_44_9 rfl) ?_
    obtain ⟨_, e134, h0⟩ := bS h0
    obtain ⟨_, g135⟩ := RT.cls h5 e134
    obtain ⟨v136, T137, e138, h0⟩ := bS2 h0
    refine m_Rb.callI b_44 (y_cv d_44_10 rfl q_46 (m_isRecv_of rfl g135) (show m_takeI _ _ = some (_, [_], []) from m_takeI_of rfl rfl rfl (Nat.le_of_ble_eq_true rfl)) (by simp only [m_okf, List.all_cons, List.all_nil, Bool.and_true, Bool.and_self, m_okv_i, m_okv_l, m_okv_0, m_okv_n0, m_okv_t, RT.okn h5 ha0]) rfl) (T_c_Reader_readRange ha0 h5 e138) f5 rfl (fun w139 h139 f139 k139 => ?_) (by decide) (by decide)
    obtain ⟨v140, e141, h0⟩ := bS h0
    cases h0
    exact m_Rb.retb b_44 d_44_13 rfl e141 ⟨rfl, h139, f139⟩
def D_c_Reader_readEnd_31 (F : Nat) (x0 : Nat) (T : tT) : Option (Int32 × tT) := some ((1 : Int32), T)
theorem T_c_Reader_readEnd_31 {l : Launch} {w0 : List mM} {F : Nat} {x0 : Nat} {T : tT} {w : List mM} {y9 : Int32} {T9 : tT} (hx0 : okr T.2.1 (some x0)) (h : RT T w) (hF : m_Fm w0 w) (h0 : D_c_Reader_readEnd_31 F x0 T = some (y9, T9)) : m_Rb l M_57 (31, [(0, .ref x0)], [], w) (fun v w' => v = some (.int y9) ∧ RT T9 w' ∧ m_Fm w0 w') T T9 2 200 := by
  rw [D_c_Reader_readEnd_31] at h0
  refine m_Rb.n0 b_57 (x_iconst (z := 1) d_57_31 (by decide)) ?_
  refine m_Rb.n0 b_57 (x_goto d_57_32 rfl) ?_
  cases h0
  exact m_Rb.ret b_57 (m_rt_ir d_57_36 rfl m_nb1) ⟨rfl, h, hF⟩
def D_c_Reader_readEnd (F : Nat) (a0 : Nat) (T : tT) : Option (Int32 × tT) := (tcl T a0 1).bind fun _ => bd2 (D_c_Reader_expect F a0 (10 : Int32) T) fun v3 T4 => cond (m_c1 .eq v3) (some ((0 : Int32), T4)) ((tgi T4 a0 1 2).bind fun v25 => (tgi T4 a0 1 1).bind fun v27 => cond (m_c2 .eq v25 v27) (D_c_Reader_readEnd_31 F a0 T4) ((tgi T4 a0 1 2).bind fun v42 => (tcl T4 a0 1).bind fun _ => bd2 (D_c_Reader_no F a0 v42 T4) fun v46 T47 => (cond (m_c1 .eq v46) (some (0 : Int32)) (some (1 : Int32))).bind fun v53 => (bret v53).bind fun v55 => some (v55, T47)))
theorem T_c_Reader_readEnd {l : Launch} {w : List mM} {F : Nat} {a0 : Nat} {T : tT} {y9 : Int32} {T9 : tT} (ha0 : okr T.2.1 (some a0)) (h : RT T w) (h0 : D_c_Reader_readEnd F a0 T = some (y9, T9)) : m_Rb l M_57 (m_ent M_57 [.ref a0] w) (fun v w' => v = some (.int y9) ∧ RT T9 w' ∧ m_Fm w w') T T9 2 200 := by
  rw [show m_ent M_57 [.ref a0] w = (0, [(0, .ref a0)], [], w) from by first | rfl | (simp only [m_ent, lv_args_r, lv_args_a, lv_args_i, lv_args_l, lv_args_0]; done) | (simp only [m_ent, lv_args_r, lv_args_a, lv_args_i, lv_args_l, lv_args_0]; rfl)]
  generalize hw0 : w = w0 at h ⊢
  have hF : m_Fm w0 w0 := m_Fm.refl
  rw [D_c_Reader_readEnd] at h0
  refine m_Rb.n0 b_57 (x_aload_n d_57_0 rfl) ?_
  refine m_Rb.n0 b_57 (x_bipush (z := 10) d_57_1 (by decide)) ?_
  obtain ⟨_, e1, h0⟩ := bS h0
  obtain ⟨_, g2⟩ := RT.cls h e1
  obtain ⟨v3, T4, e5, h0⟩ := bS2 h0
  refine m_Rb.callI b_57 (y_cv d_57_3 rfl q_35 (m_isRecv_of rfl g2) (show m_takeI _ _ = some (_, [_, _], []) from m_takeI_of rfl rfl rfl (Nat.le_of_ble_eq_true rfl)) (by simp only [m_okf, List.all_cons, List.all_nil, Bool.and_true, Bool.and_self, m_okv_i, m_okv_l, m_okv_0, m_okv_n0, m_okv_t, RT.okn h ha0]) rfl) (T_c_Reader_expect ha0 h e5) hF rfl (fun w6 h6 f6 k6 => ?_) (by decide) (by decide)
  cases hc24 : m_c1 .eq v3 with
  | true =>
    have h0 := cT hc24 h0
    refine m_Rb.n0 b_57 (x_ift d_57_6 rfl hc24) ?_
    refine m_Rb.n0 b_57 (x_iconst (z := 0) d_57_35 (by decide)) ?_
    cases h0
    exact m_Rb.ret b_57 (m_rt_ir d_57_36 rfl m_nb0) ⟨rfl, h6, f6⟩
  | false =>
    have h0 := cF hc24 h0
    refine m_Rb.n0 b_57 (x_iff d_57_6 rfl hc24) ?_
    refine m_Rb.n0 b_57 (x_aload_n d_57_9 rfl) ?_
    obtain ⟨v25, e26, h0⟩ := bS h0
    refine m_Rb.tgetI b_57 d_57_10 rfl h6 e26 ?_
    refine m_Rb.n0 b_57 (x_aload_n d_57_13 rfl) ?_
    obtain ⟨v27, e28, h0⟩ := bS h0
    refine m_Rb.tgetI b_57 d_57_14 rfl h6 e28 ?_
    cases hc41 : m_c2 .eq v25 v27 with
    | true =>
      have h0 := cT hc41 h0
      refine m_Rb.n0 b_57 (x_ict d_57_17 rfl hc41) ?_
      exact m_Rb.pick [0] rfl (T_c_Reader_readEnd_31 (okm ha0 k6) h6 f6 h0)
    | false =>
      have h0 := cF hc41 h0
      refine m_Rb.n0 b_57 (x_icf d_57_17 rfl hc41) ?_
      refine m_Rb.n0 b_57 (x_aload_n d_57_20 rfl) ?_
      refine m_Rb.n0 b_57 (x_aload_n d_57_21 rfl) ?_
      obtain ⟨v42, e43, h0⟩ := bS h0
      refine m_Rb.tgetI b_57 d_57_22 rfl h6 e43 ?_
      obtain ⟨_, e44, h0⟩ := bS h0
      obtain ⟨_, g45⟩ := RT.cls h6 e44
      obtain ⟨v46, T47, e48, h0⟩ := bS2 h0
      refine m_Rb.callI b_57 (y_cv d_57_25 rfl q_36 (m_isRecv_of rfl g45) (show m_takeI _ _ = some (_, [_, _], []) from m_takeI_of rfl rfl rfl (Nat.le_of_ble_eq_true rfl)) (by simp only [m_okf, List.all_cons, List.all_nil, Bool.and_true, Bool.and_self, m_okv_i, m_okv_l, m_okv_0, m_okv_n0, m_okv_t, RT.okn h6 (okm ha0 k6)]) rfl) (T_c_Reader_no (okm ha0 k6) h6 e48) f6 rfl (fun w49 h49 f49 k49 => ?_) (by decide) (by decide)
      obtain ⟨v53, e51, h0⟩ := bS h0
      have kk50 : ∀ (xz : Int32) (w1 : List mM), xz = v53 → RT T47 w1 → m_Fm w0 w1 → m_Rb l M_57 (36, [(0, .ref a0)], [.int xz], w1) (fun v w' => v = some (.int y9) ∧ RT T9 w' ∧ m_Fm w0 w') T47 T9 2 200 := by
        intro xz w54 ez h54 f54
        rw [ez]
        obtain ⟨v55, e56, h0⟩ := bS h0
        cases h0
        exact m_Rb.retb b_57 d_57_36 rfl e56 ⟨rfl, h54, f54⟩
      cases hc52 : m_c1 .eq v46 with
      | true =>
        have e51 := cT hc52 e51
        refine m_Rb.n0 b_57 (x_ift d_57_28 rfl hc52) ?_
        refine m_Rb.n0 b_57 (x_iconst (z := 0) d_57_35 (by decide)) ?_
        exact kk50 _ _ (Option.some.inj e51) h49 f49
      | false =>
        have e51 := cF hc52 e51
        refine m_Rb.n0 b_57 (x_iff d_57_28 rfl hc52) ?_
        refine m_Rb.n0 b_57 (x_iconst (z := 1) d_57_31 (by decide)) ?_
        refine m_Rb.n0 b_57 (x_goto d_57_32 rfl) ?_
        exact kk50 _ _ (Option.some.inj e51) h49 f49
def D_c_Reader_heaviestLanguage_26 (F : Nat) (rec4 : Nat → Int32 → Int32 → tT → Option (Int32)) (x0 : Nat) (x1 : Int32) (x2 : Int32) (T0 : tT) : Option (Int32) := rec4 x0 x1 (x2 + Int32.ofInt 1) T0
theorem T_c_Reader_heaviestLanguage_26 {l : Launch} {w0 : List mM} {F : Nat} {T0 : tT} {rec4 : Nat → Int32 → Int32 → tT → Option (Int32)} (hr4 : ∀ {x0 : Nat} {x1 : Int32} {x2 : Int32} {w : List mM} {y9 : Int32}, okr T0.2.1 (some x0) → RT T0 w → m_Fm w0 w → rec4 x0 x1 x2 T0 = some y9 → m_Rb l M_58 (4, [(0, .ref x0), (1, .int x1), (2, .int x2)], [], w) (fun v w' => v = some (.int y9) ∧ RT T0 w' ∧ m_Fm w0 w') T0 T0 0 0) {x0 : Nat} {x1 : Int32} {x2 : Int32} {w : List mM} {y9 : Int32} (hx0 : okr T0.2.1 (some x0)) (h : RT T0 w) (hF : m_Fm w0 w) (h0 : D_c_Reader_heaviestLanguage_26 F rec4 x0 x1 x2 T0 = some y9) : m_Rb l M_58 (26, [(0, .ref x0), (1, .int x1), (2, .int x2)], [], w) (fun v w' => v = some (.int y9) ∧ RT T0 w' ∧ m_Fm w0 w') T0 T0 0 0 := by
  rw [D_c_Reader_heaviestLanguage_26] at h0
  refine m_Rb.n0 b_58 (x_iinc d_58_26 rfl rfl rfl (show m_put1 _ _ _ = [(2, _), (0, _), (1, _)] from rfl)) ?_
  refine m_Rb.n0 b_58 (x_goto d_58_29 rfl) ?_
  exact m_Rb.pick [1, 2, 0] rfl (hr4 hx0 h hF h0)
def D_c_Reader_heaviestLanguage_4 (F : Nat) : Nat → Nat → Int32 → Int32 → tT → Option (Int32)
  | 0, _, _, _, _ => none
  | n + 1, x0, x1, x2, T0 => cond (m_c2 .ge x2 (4 : Int32)) (some x1) ((tgr T0 x0 1 12).bind fun v2 => (v2).bind fun a5 => (tai T0 a5 0 x2).bind fun v7 => (tgr T0 x0 1 12).bind fun v9 => (v9).bind fun a12 => (tai T0 a12 0 x1).bind fun v14 => cond (m_c2 .le v7 v14) (D_c_Reader_heaviestLanguage_26 F (D_c_Reader_heaviestLanguage_4 F n) x0 x1 x2 T0) (D_c_Reader_heaviestLanguage_26 F (D_c_Reader_heaviestLanguage_4 F n) x0 x2 x2 T0))
theorem T_c_Reader_heaviestLanguage_4 {l : Launch} {w0 : List mM} {F : Nat} {T0 : tT} : ∀ (n : Nat) {x0 : Nat} {x1 : Int32} {x2 : Int32} {w : List mM} {y9 : Int32}, okr T0.2.1 (some x0) → RT T0 w → m_Fm w0 w → D_c_Reader_heaviestLanguage_4 F n x0 x1 x2 T0 = some y9 → m_Rb l M_58 (4, [(0, .ref x0), (1, .int x1), (2, .int x2)], [], w) (fun v w' => v = some (.int y9) ∧ RT T0 w' ∧ m_Fm w0 w') T0 T0 0 0 := by
  intro n
  induction n with
  | zero => intro x0 x1 x2 w y9 hx0 h hF h0; cases h0
  | succ n ih =>
    intro x0 x1 x2 w y9 hx0 h hF h0
    rw [D_c_Reader_heaviestLanguage_4] at h0
    refine m_Rb.n0 b_58 (x_iload_n d_58_4 rfl) ?_
    refine m_Rb.n0 b_58 (x_iconst (z := 4) d_58_5 (by decide)) ?_
    cases hc1 : m_c2 .ge x2 (4 : Int32) with
    | true =>
      have h0 := cT hc1 h0
      refine m_Rb.n0 b_58 (x_ict d_58_6 rfl hc1) ?_
      refine m_Rb.n0 b_58 (x_iload_n d_58_32 rfl) ?_
      cases h0
      exact m_Rb.ret b_58 (m_rt_ir d_58_33 rfl rfl) ⟨rfl, h, hF⟩
    | false =>
      have h0 := cF hc1 h0
      refine m_Rb.n0 b_58 (x_icf d_58_6 rfl hc1) ?_
      refine m_Rb.n0 b_58 (x_aload_n d_58_9 rfl) ?_
      obtain ⟨v2, e3, h0⟩ := bS h0
      refine m_Rb.tgetR b_58 d_58_10 rfl h e3 (fun o4 => ?_)
      refine m_Rb.n0 b_58 (x_iload_n d_58_13 rfl) ?_
      obtain ⟨a5, e6, h0⟩ := bS h0
      subst e6
      obtain ⟨v7, e8, h0⟩ := bS h0
      refine m_Rb.tgetA b_58 d_58_14 h e8 ?_
      refine m_Rb.n0 b_58 (x_aload_n d_58_15 rfl) ?_
      obtain ⟨v9, e10, h0⟩ := bS h0
      refine m_Rb.tgetR b_58 d_58_16 rfl h e10 (fun o11 => ?_)
      refine m_Rb.n0 b_58 (x_iload_n d_58_19 rfl) ?_
      obtain ⟨a12, e13, h0⟩ := bS h0
      subst e13
      obtain ⟨v14, e15, h0⟩ := bS h0
      refine m_Rb.tgetA b_58 d_58_20 h e15 ?_
      cases hc19 : m_c2 .le v7 v14 with
      | true =>
        have h0 := cT hc19 h0
        refine m_Rb.n0 b_58 (x_ict d_58_21 rfl hc19) ?_
        exact m_Rb.pick [0, 1, 2] rfl (T_c_Reader_heaviestLanguage_26 ih hx0 h hF h0)
      | false =>
        have h0 := cF hc19 h0
        refine m_Rb.n0 b_58 (x_icf d_58_21 rfl hc19) ?_
        refine m_Rb.n0 b_58 (x_iload_n d_58_24 rfl) ?_
        refine m_Rb.n0 b_58 (x_istore_n d_58_25 rfl (show m_put1 _ _ _ = [(1, _), (0, _), (2, _)] from rfl)) ?_
        exact m_Rb.pick [1, 0, 2] rfl (T_c_Reader_heaviestLanguage_26 ih hx0 h hF h0)
def D_c_Reader_heaviestLanguage (F : Nat) (a0 : Nat) (T0 : tT) : Option (Int32) := D_c_Reader_heaviestLanguage_4 F F a0 (0 : Int32) (1 : Int32) T0
theorem T_c_Reader_heaviestLanguage {l : Launch} {w : List mM} {F : Nat} {a0 : Nat} {T0 : tT} {y9 : Int32} (ha0 : okr T0.2.1 (some a0)) (h : RT T0 w) (h0 : D_c_Reader_heaviestLanguage F a0 T0 = some y9) : m_Rb l M_58 (m_ent M_58 [.ref a0] w) (fun v w' => v = some (.int y9) ∧ RT T0 w' ∧ m_Fm w w') T0 T0 0 0 := by
  rw [show m_ent M_58 [.ref a0] w = (0, [(0, .ref a0)], [], w) from by first | rfl | (simp only [m_ent, lv_args_r, lv_args_a, lv_args_i, lv_args_l, lv_args_0]; done) | (simp only [m_ent, lv_args_r, lv_args_a, lv_args_i, lv_args_l, lv_args_0]; rfl)]
  generalize hw0 : w = w0 at h ⊢
  have hF : m_Fm w0 w0 := m_Fm.refl
  rw [D_c_Reader_heaviestLanguage] at h0
  refine m_Rb.n0 b_58 (x_iconst (z := 0) d_58_0 (by decide)) ?_
  refine m_Rb.n0 b_58 (x_istore_n d_58_1 rfl (show m_put1 _ _ _ = [(1, _), (0, _)] from rfl)) ?_
  refine m_Rb.n0 b_58 (x_iconst (z := 1) d_58_2 (by decide)) ?_
  refine m_Rb.n0 b_58 (x_istore_n d_58_3 rfl (show m_put1 _ _ _ = [(2, _), (1, _), (0, _)] from rfl)) ?_
  exact m_Rb.pick [2, 1, 0] rfl (T_c_Reader_heaviestLanguage_4 F ha0 h hF h0)
