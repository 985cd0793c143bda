/-! The class's methods as guarded functions. Written by wip/tool/decc1.py. -/
theorem q_58 : m_mt[58]? = some M_58 := by rfl
theorem q_59 : m_mt[59]? = some M_59 := by rfl
theorem q_18 : m_mt[18]? = some M_18 := by rfl
theorem q_60 : m_mt[60]? = some M_60 := by rfl
theorem q_61 : m_mt[61]? = some M_61 := by rfl
theorem q_70 : m_mt[70]? = some M_70 := by rfl
theorem q_72 : m_mt[72]? = some M_72 := by rfl
theorem q_71 : m_mt[71]? = some M_71 := by rfl
theorem q_75 : m_mt[75]? = some M_75 := by rfl
theorem q_76 : m_mt[76]? = some M_76 := by rfl
theorem q_81 : m_mt[81]? = some M_81 := by rfl
theorem q_82 : m_mt[82]? = some M_82 := by rfl
theorem q_80 : m_mt[80]? = some M_80 := by rfl
theorem q_74 : m_mt[74]? = some M_74 := by rfl
theorem q_83 : m_mt[83]? = some M_83 := by rfl
theorem q_85 : m_mt[85]? = some M_85 := by rfl
theorem q_86 : m_mt[86]? = some M_86 := by rfl
theorem q_87 : m_mt[87]? = some M_87 := by rfl
theorem q_88 : m_mt[88]? = some M_88 := by rfl
theorem q_89 : m_mt[89]? = some M_89 := by rfl
theorem q_84 : m_mt[84]? = some M_84 := by rfl
theorem q_91 : m_mt[91]? = some M_91 := by rfl
theorem q_90 : m_mt[90]? = some M_90 := by rfl
theorem q_94 : m_mt[94]? = some M_94 := by rfl
theorem q_93 : m_mt[93]? = some M_93 := by rfl
theorem q_99 : m_mt[99]? = some M_99 := by rfl
theorem q_98 : m_mt[98]? = some M_98 := by rfl
theorem q_97 : m_mt[97]? = some M_97 := by rfl
theorem q_92 : m_mt[92]? = some M_92 := by rfl
theorem q_104 : m_mt[104]? = some M_104 := by rfl
theorem q_105 : m_mt[105]? = some M_105 := by rfl
theorem q_103 : m_mt[103]? = some M_103 := by rfl
theorem q_107 : m_mt[107]? = some M_107 := by rfl
theorem q_106 : m_mt[106]? = some M_106 := by rfl
theorem q_102 : m_mt[102]? = some M_102 := by rfl
theorem q_108 : m_mt[108]? = some M_108 := by rfl
theorem q_109 : m_mt[109]? = some M_109 := by rfl
theorem q_110 : m_mt[110]? = some M_110 := by rfl
theorem q_112 : m_mt[112]? = some M_112 := by rfl
theorem q_113 : m_mt[113]? = some M_113 := by rfl
theorem q_115 : m_mt[115]? = some M_115 := by rfl
theorem b_58 : m_bOk M_58 := (m_mt_ok M_58 (List.mem_of_getElem? q_58)).body
theorem b_59 : m_bOk M_59 := (m_mt_ok M_59 (List.mem_of_getElem? q_59)).body
theorem b_18 : m_bOk M_18 := (m_mt_ok M_18 (List.mem_of_getElem? q_18)).body
theorem b_60 : m_bOk M_60 := (m_mt_ok M_60 (List.mem_of_getElem? q_60)).body
theorem b_61 : m_bOk M_61 := (m_mt_ok M_61 (List.mem_of_getElem? q_61)).body
theorem b_70 : m_bOk M_70 := (m_mt_ok M_70 (List.mem_of_getElem? q_70)).body
theorem b_72 : m_bOk M_72 := (m_mt_ok M_72 (List.mem_of_getElem? q_72)).body
theorem b_71 : m_bOk M_71 := (m_mt_ok M_71 (List.mem_of_getElem? q_71)).body
theorem b_75 : m_bOk M_75 := (m_mt_ok M_75 (List.mem_of_getElem? q_75)).body
theorem b_76 : m_bOk M_76 := (m_mt_ok M_76 (List.mem_of_getElem? q_76)).body
theorem b_81 : m_bOk M_81 := (m_mt_ok M_81 (List.mem_of_getElem? q_81)).body
theorem b_82 : m_bOk M_82 := (m_mt_ok M_82 (List.mem_of_getElem? q_82)).body
theorem b_80 : m_bOk M_80 := (m_mt_ok M_80 (List.mem_of_getElem? q_80)).body
theorem b_74 : m_bOk M_74 := (m_mt_ok M_74 (List.mem_of_getElem? q_74)).body
theorem b_83 : m_bOk M_83 := (m_mt_ok M_83 (List.mem_of_getElem? q_83)).body
theorem b_85 : m_bOk M_85 := (m_mt_ok M_85 (List.mem_of_getElem? q_85)).body
theorem b_86 : m_bOk M_86 := (m_mt_ok M_86 (List.mem_of_getElem? q_86)).body
theorem b_87 : m_bOk M_87 := (m_mt_ok M_87 (List.mem_of_getElem? q_87)).body
theorem b_88 : m_bOk M_88 := (m_mt_ok M_88 (List.mem_of_getElem? q_88)).body
theorem b_89 : m_bOk M_89 := (m_mt_ok M_89 (List.mem_of_getElem? q_89)).body
theorem b_84 : m_bOk M_84 := (m_mt_ok M_84 (List.mem_of_getElem? q_84)).body
theorem b_91 : m_bOk M_91 := (m_mt_ok M_91 (List.mem_of_getElem? q_91)).body
theorem b_90 : m_bOk M_90 := (m_mt_ok M_90 (List.mem_of_getElem? q_90)).body
theorem b_94 : m_bOk M_94 := (m_mt_ok M_94 (List.mem_of_getElem? q_94)).body
theorem b_93 : m_bOk M_93 := (m_mt_ok M_93 (List.mem_of_getElem? q_93)).body
theorem b_99 : m_bOk M_99 := (m_mt_ok M_99 (List.mem_of_getElem? q_99)).body
theorem b_98 : m_bOk M_98 := (m_mt_ok M_98 (List.mem_of_getElem? q_98)).body
theorem b_97 : m_bOk M_97 := (m_mt_ok M_97 (List.mem_of_getElem? q_97)).body
theorem b_92 : m_bOk M_92 := (m_mt_ok M_92 (List.mem_of_getElem? q_92)).body
theorem b_104 : m_bOk M_104 := (m_mt_ok M_104 (List.mem_of_getElem? q_104)).body
theorem b_105 : m_bOk M_105 := (m_mt_ok M_105 (List.mem_of_getElem? q_105)).body
theorem b_103 : m_bOk M_103 := (m_mt_ok M_103 (List.mem_of_getElem? q_103)).body
theorem b_107 : m_bOk M_107 := (m_mt_ok M_107 (List.mem_of_getElem? q_107)).body
theorem b_106 : m_bOk M_106 := (m_mt_ok M_106 (List.mem_of_getElem? q_106)).body
theorem b_102 : m_bOk M_102 := (m_mt_ok M_102 (List.mem_of_getElem? q_102)).body
theorem b_108 : m_bOk M_108 := (m_mt_ok M_108 (List.mem_of_getElem? q_108)).body
theorem b_109 : m_bOk M_109 := (m_mt_ok M_109 (List.mem_of_getElem? q_109)).body
theorem b_110 : m_bOk M_110 := (m_mt_ok M_110 (List.mem_of_getElem? q_110)).body
theorem b_112 : m_bOk M_112 := (m_mt_ok M_112 (List.mem_of_getElem? q_112)).body
theorem b_113 : m_bOk M_113 := (m_mt_ok M_113 (List.mem_of_getElem? q_113)).body
theorem b_115 : m_bOk M_115 := (m_mt_ok M_115 (List.mem_of_getElem? q_115)).body
theorem d_102_0 : m_dn M_102 0 (.aload_n 2) 1 1 := by decide +kernel
theorem d_102_1 : m_dn M_102 1 (.getfield 113) 3 4 := by decide +kernel
theorem d_102_11 : m_dn M_102 11 (.ifnonnull 14) 3 14 := by decide +kernel
theorem d_102_14 : m_dn M_102 14 (.aload_n 0) 1 15 := by decide +kernel
theorem d_102_15 : m_dn M_102 15 (.aload_n 1) 1 16 := by decide +kernel
theorem d_102_16 : m_dn M_102 16 (.getfield 339) 3 19 := by decide +kernel
theorem d_102_19 : m_dn M_102 19 (.aload_n 2) 1 20 := by decide +kernel
theorem d_102_20 : m_dn M_102 20 (.aload_n 3) 1 21 := by decide +kernel
theorem d_102_21 : m_dn M_102 21 (.invokevirtual 328) 3 24 := by decide +kernel
theorem d_102_24 : m_dn M_102 24 (.return_) 1 25 := by decide +kernel
theorem d_102_25 : m_dn M_102 25 (.aload_n 2) 1 26 := by decide +kernel
theorem d_102_26 : m_dn M_102 26 (.getfield 113) 3 29 := by decide +kernel
theorem d_102_29 : m_dn M_102 29 (.iload 4) 2 31 := by decide +kernel
theorem d_102_31 : m_dn M_102 31 (.putfield 523) 3 34 := by decide +kernel
theorem d_102_34 : m_dn M_102 34 (.aload_n 2) 1 35 := by decide +kernel
theorem d_102_35 : m_dn M_102 35 (.getfield 113) 3 38 := by decide +kernel
theorem d_102_38 : m_dn M_102 38 (.aload_n 3) 1 39 := by decide +kernel
theorem d_102_39 : m_dn M_102 39 (.aload_n 0) 1 40 := by decide +kernel
theorem d_102_4 : m_dn M_102 4 (.ifnull 10) 3 7 := by decide +kernel
theorem d_102_40 : m_dn M_102 40 (.getfield 174) 3 43 := by decide +kernel
theorem d_102_43 : m_dn M_102 43 (.invokevirtual 434) 3 46 := by decide +kernel
theorem d_102_46 : m_dn M_102 46 (.putfield 526) 3 49 := by decide +kernel
theorem d_102_49 : m_dn M_102 49 (.aload_n 2) 1 50 := by decide +kernel
theorem d_102_50 : m_dn M_102 50 (.getfield 113) 3 53 := by decide +kernel
theorem d_102_53 : m_dn M_102 53 (.aload_n 3) 1 54 := by decide +kernel
theorem d_102_54 : m_dn M_102 54 (.aload_n 2) 1 55 := by decide +kernel
theorem d_102_55 : m_dn M_102 55 (.getfield 519) 3 58 := by decide +kernel
theorem d_102_58 : m_dn M_102 58 (.invokevirtual 527) 3 61 := by decide +kernel
theorem d_102_61 : m_dn M_102 61 (.aload_n 0) 1 62 := by decide +kernel
theorem d_102_62 : m_dn M_102 62 (.aload_n 2) 1 63 := by decide +kernel
theorem d_102_63 : m_dn M_102 63 (.getfield 113) 3 66 := by decide +kernel
theorem d_102_66 : m_dn M_102 66 (.aload_n 2) 1 67 := by decide +kernel
theorem d_102_67 : m_dn M_102 67 (.getfield 113) 3 70 := by decide +kernel
theorem d_102_7 : m_dn M_102 7 (.aload_n 2) 1 8 := by decide +kernel
theorem d_102_70 : m_dn M_102 70 (.getfield 531) 3 73 := by decide +kernel
theorem d_102_73 : m_dn M_102 73 (.invokevirtual 109) 3 76 := by decide +kernel
theorem d_102_76 : m_dn M_102 76 (.return_) 1 77 := by decide +kernel
theorem d_102_8 : m_dn M_102 8 (.getfield 519) 3 11 := by decide +kernel
theorem d_103_0 : m_dn M_103 0 (.aload_n 2) 1 1 := by decide +kernel
theorem d_103_1 : m_dn M_103 1 (.getfield 535) 3 4 := by decide +kernel
theorem d_103_101 : m_dn M_103 101 (.putfield 395) 3 104 := by decide +kernel
theorem d_103_104 : m_dn M_103 104 (.aload 5) 2 106 := by decide +kernel
theorem d_103_106 : m_dn M_103 106 (.aload_n 3) 1 107 := by decide +kernel
theorem d_103_107 : m_dn M_103 107 (.aload_n 0) 1 108 := by decide +kernel
theorem d_103_108 : m_dn M_103 108 (.getfield 174) 3 111 := by decide +kernel
theorem d_103_11 : m_dn M_103 11 (.if_icmp .ne 7) 3 14 := by decide +kernel
theorem d_103_111 : m_dn M_103 111 (.invokevirtual 434) 3 114 := by decide +kernel
theorem d_103_114 : m_dn M_103 114 (.putfield 412) 3 117 := by decide +kernel
theorem d_103_117 : m_dn M_103 117 (.aload 5) 2 119 := by decide +kernel
theorem d_103_119 : m_dn M_103 119 (.iload 4) 2 121 := by decide +kernel
theorem d_103_121 : m_dn M_103 121 (.ifCond .eq 7) 3 124 := by decide +kernel
theorem d_103_124 : m_dn M_103 124 (.iconst 0) 1 125 := by decide +kernel
theorem d_103_125 : m_dn M_103 125 (.goto 23) 3 128 := by decide +kernel
theorem d_103_128 : m_dn M_103 128 (.aload_n 3) 1 129 := by decide +kernel
theorem d_103_129 : m_dn M_103 129 (.getfield 326) 3 132 := by decide +kernel
theorem d_103_132 : m_dn M_103 132 (.aload_n 3) 1 133 := by decide +kernel
theorem d_103_133 : m_dn M_103 133 (.getfield 408) 3 136 := by decide +kernel
theorem d_103_136 : m_dn M_103 136 (.aload_n 2) 1 137 := by decide +kernel
theorem d_103_137 : m_dn M_103 137 (.getfield 539) 3 140 := by decide +kernel
theorem d_103_14 : m_dn M_103 14 (.iconst 1) 1 15 := by decide +kernel
theorem d_103_140 : m_dn M_103 140 (.aload_n 2) 1 141 := by decide +kernel
theorem d_103_141 : m_dn M_103 141 (.getfield 540) 3 144 := by decide +kernel
theorem d_103_144 : m_dn M_103 144 (.invokevirtual 323) 3 147 := by decide +kernel
theorem d_103_147 : m_dn M_103 147 (.iand) 1 148 := by decide +kernel
theorem d_103_148 : m_dn M_103 148 (.putfield 416) 3 151 := by decide +kernel
theorem d_103_15 : m_dn M_103 15 (.goto 4) 3 18 := by decide +kernel
theorem d_103_151 : m_dn M_103 151 (.aload_n 0) 1 152 := by decide +kernel
theorem d_103_152 : m_dn M_103 152 (.aload 5) 2 154 := by decide +kernel
theorem d_103_154 : m_dn M_103 154 (.invokevirtual 169) 3 157 := by decide +kernel
theorem d_103_157 : m_dn M_103 157 (.return_) 1 158 := by decide +kernel
theorem d_103_18 : m_dn M_103 18 (.iconst 0) 1 19 := by decide +kernel
theorem d_103_19 : m_dn M_103 19 (.istore 4) 2 21 := by decide +kernel
theorem d_103_21 : m_dn M_103 21 (.new 141) 3 24 := by decide +kernel
theorem d_103_24 : m_dn M_103 24 (.dup) 1 25 := by decide +kernel
theorem d_103_25 : m_dn M_103 25 (.iconst 1) 1 26 := by decide +kernel
theorem d_103_26 : m_dn M_103 26 (.iload_n 1) 1 27 := by decide +kernel
theorem d_103_27 : m_dn M_103 27 (.aload_n 2) 1 28 := by decide +kernel
theorem d_103_28 : m_dn M_103 28 (.getfield 536) 3 31 := by decide +kernel
theorem d_103_31 : m_dn M_103 31 (.aload_n 2) 1 32 := by decide +kernel
theorem d_103_32 : m_dn M_103 32 (.getfield 537) 3 35 := by decide +kernel
theorem d_103_35 : m_dn M_103 35 (.invokespecial 164) 3 38 := by decide +kernel
theorem d_103_38 : m_dn M_103 38 (.astore 5) 2 40 := by decide +kernel
theorem d_103_4 : m_dn M_103 4 (.aload_n 3) 1 5 := by decide +kernel
theorem d_103_40 : m_dn M_103 40 (.aload 5) 2 42 := by decide +kernel
theorem d_103_42 : m_dn M_103 42 (.aload_n 2) 1 43 := by decide +kernel
theorem d_103_43 : m_dn M_103 43 (.getfield 119) 3 46 := by decide +kernel
theorem d_103_46 : m_dn M_103 46 (.putfield 167) 3 49 := by decide +kernel
theorem d_103_49 : m_dn M_103 49 (.aload 5) 2 51 := by decide +kernel
theorem d_103_5 : m_dn M_103 5 (.getfield 408) 3 8 := by decide +kernel
theorem d_103_51 : m_dn M_103 51 (.aload_n 2) 1 52 := by decide +kernel
theorem d_103_52 : m_dn M_103 52 (.getfield 120) 3 55 := by decide +kernel
theorem d_103_55 : m_dn M_103 55 (.putfield 168) 3 58 := by decide +kernel
theorem d_103_58 : m_dn M_103 58 (.aload 5) 2 60 := by decide +kernel
theorem d_103_60 : m_dn M_103 60 (.iload 4) 2 62 := by decide +kernel
theorem d_103_62 : m_dn M_103 62 (.ifCond .eq 9) 3 65 := by decide +kernel
theorem d_103_65 : m_dn M_103 65 (.sipush 304) 3 68 := by decide +kernel
theorem d_103_68 : m_dn M_103 68 (.goto 6) 3 71 := by decide +kernel
theorem d_103_71 : m_dn M_103 71 (.sipush 200) 3 74 := by decide +kernel
theorem d_103_74 : m_dn M_103 74 (.putfield 346) 3 77 := by decide +kernel
theorem d_103_77 : m_dn M_103 77 (.aload 5) 2 79 := by decide +kernel
theorem d_103_79 : m_dn M_103 79 (.aload_n 3) 1 80 := by decide +kernel
theorem d_103_8 : m_dn M_103 8 (.getfield 91) 3 11 := by decide +kernel
theorem d_103_80 : m_dn M_103 80 (.getfield 408) 3 83 := by decide +kernel
theorem d_103_83 : m_dn M_103 83 (.putfield 355) 3 86 := by decide +kernel
theorem d_103_86 : m_dn M_103 86 (.aload 5) 2 88 := by decide +kernel
theorem d_103_88 : m_dn M_103 88 (.aload_n 3) 1 89 := by decide +kernel
theorem d_103_89 : m_dn M_103 89 (.getfield 422) 3 92 := by decide +kernel
theorem d_103_92 : m_dn M_103 92 (.putfield 538) 3 95 := by decide +kernel
theorem d_103_95 : m_dn M_103 95 (.aload 5) 2 97 := by decide +kernel
theorem d_103_97 : m_dn M_103 97 (.aload_n 3) 1 98 := by decide +kernel
theorem d_103_98 : m_dn M_103 98 (.getfield 317) 3 101 := by decide +kernel
theorem d_104_0 : m_dn M_104 0 (.aload_n 0) 1 1 := by decide +kernel
theorem d_104_1 : m_dn M_104 1 (.invokespecial 3) 3 4 := by decide +kernel
theorem d_104_10 : m_dn M_104 10 (.iload_n 2) 1 11 := by decide +kernel
theorem d_104_11 : m_dn M_104 11 (.putfield 15) 3 14 := by decide +kernel
theorem d_104_14 : m_dn M_104 14 (.aload_n 0) 1 15 := by decide +kernel
theorem d_104_15 : m_dn M_104 15 (.iload_n 3) 1 16 := by decide +kernel
theorem d_104_16 : m_dn M_104 16 (.putfield 18) 3 19 := by decide +kernel
theorem d_104_19 : m_dn M_104 19 (.aload_n 0) 1 20 := by decide +kernel
theorem d_104_20 : m_dn M_104 20 (.iload 4) 2 22 := by decide +kernel
theorem d_104_22 : m_dn M_104 22 (.putfield 21) 3 25 := by decide +kernel
theorem d_104_25 : m_dn M_104 25 (.return_) 1 26 := by decide +kernel
theorem d_104_4 : m_dn M_104 4 (.aload_n 0) 1 5 := by decide +kernel
theorem d_104_5 : m_dn M_104 5 (.iload_n 1) 1 6 := by decide +kernel
theorem d_104_6 : m_dn M_104 6 (.putfield 9) 3 9 := by decide +kernel
theorem d_104_9 : m_dn M_104 9 (.aload_n 0) 1 10 := by decide +kernel
theorem d_105_0 : m_dn M_105 0 (.aload_n 0) 1 1 := by decide +kernel
theorem d_105_1 : m_dn M_105 1 (.getfield 44) 3 4 := by decide +kernel
theorem d_105_12 : m_dn M_105 12 (.aload_n 0) 1 13 := by decide +kernel
theorem d_105_13 : m_dn M_105 13 (.dup) 1 14 := by decide +kernel
theorem d_105_14 : m_dn M_105 14 (.getfield 147) 3 17 := by decide +kernel
theorem d_105_17 : m_dn M_105 17 (.iconst 1) 1 18 := by decide +kernel
theorem d_105_18 : m_dn M_105 18 (.iadd) 1 19 := by decide +kernel
theorem d_105_19 : m_dn M_105 19 (.putfield 147) 3 22 := by decide +kernel
theorem d_105_22 : m_dn M_105 22 (.return_) 1 23 := by decide +kernel
theorem d_105_23 : m_dn M_105 23 (.aload_n 1) 1 24 := by decide +kernel
theorem d_105_24 : m_dn M_105 24 (.aload_n 0) 1 25 := by decide +kernel
theorem d_105_25 : m_dn M_105 25 (.getfield 174) 3 28 := by decide +kernel
theorem d_105_28 : m_dn M_105 28 (.putfield 273) 3 31 := by decide +kernel
theorem d_105_31 : m_dn M_105 31 (.aload_n 0) 1 32 := by decide +kernel
theorem d_105_32 : m_dn M_105 32 (.getfield 44) 3 35 := by decide +kernel
theorem d_105_35 : m_dn M_105 35 (.aload_n 1) 1 36 := by decide +kernel
theorem d_105_36 : m_dn M_105 36 (.invokevirtual 105) 3 39 := by decide +kernel
theorem d_105_39 : m_dn M_105 39 (.pop) 1 40 := by decide +kernel
theorem d_105_4 : m_dn M_105 4 (.invokevirtual 94) 3 7 := by decide +kernel
theorem d_105_40 : m_dn M_105 40 (.return_) 1 41 := by decide +kernel
theorem d_105_7 : m_dn M_105 7 (.bipush 100) 2 9 := by decide +kernel
theorem d_105_9 : m_dn M_105 9 (.if_icmp .lt 14) 3 12 := by decide +kernel
theorem d_106_0 : m_dn M_106 0 (.aload_n 1) 1 1 := by decide +kernel
theorem d_106_1 : m_dn M_106 1 (.invokevirtual 17) 3 4 := by decide +kernel
theorem d_106_10 : m_dn M_106 10 (.putfield 29) 3 13 := by decide +kernel
theorem d_106_100 : m_dn M_106 100 (.getfield 52) 3 103 := by decide +kernel
theorem d_106_103 : m_dn M_106 103 (.invokevirtual 66) 3 106 := by decide +kernel
theorem d_106_106 : m_dn M_106 106 (.putfield 70) 3 109 := by decide +kernel
theorem d_106_109 : m_dn M_106 109 (.iconst 0) 1 110 := by decide +kernel
theorem d_106_110 : m_dn M_106 110 (.aload_n 2) 1 111 := by decide +kernel
theorem d_106_111 : m_dn M_106 111 (.iload 4) 2 113 := by decide +kernel
theorem d_106_113 : m_dn M_106 113 (.aload_n 0) 1 114 := by decide +kernel
theorem d_106_114 : m_dn M_106 114 (.getfield 52) 3 117 := by decide +kernel
theorem d_106_117 : m_dn M_106 117 (.invokevirtual 72) 3 120 := by decide +kernel
theorem d_106_120 : m_dn M_106 120 (.aload_n 0) 1 121 := by decide +kernel
theorem d_106_121 : m_dn M_106 121 (.getfield 70) 3 124 := by decide +kernel
theorem d_106_124 : m_dn M_106 124 (.isub) 1 125 := by decide +kernel
theorem d_106_125 : m_dn M_106 125 (.iconst 1) 1 126 := by decide +kernel
theorem d_106_126 : m_dn M_106 126 (.iadd) 1 127 := by decide +kernel
theorem d_106_127 : m_dn M_106 127 (.invokestatic 75) 3 130 := by decide +kernel
theorem d_106_13 : m_dn M_106 13 (.aload_n 0) 1 14 := by decide +kernel
theorem d_106_130 : m_dn M_106 130 (.istore 5) 2 132 := by decide +kernel
theorem d_106_132 : m_dn M_106 132 (.aload_n 2) 1 133 := by decide +kernel
theorem d_106_133 : m_dn M_106 133 (.iload_n 3) 1 134 := by decide +kernel
theorem d_106_134 : m_dn M_106 134 (.invokevirtual 81) 3 137 := by decide +kernel
theorem d_106_137 : m_dn M_106 137 (.ifCond .eq 13) 3 140 := by decide +kernel
theorem d_106_14 : m_dn M_106 14 (.aload_n 1) 1 15 := by decide +kernel
theorem d_106_140 : m_dn M_106 140 (.aload_n 0) 1 141 := by decide +kernel
theorem d_106_141 : m_dn M_106 141 (.sipush 304) 3 144 := by decide +kernel
theorem d_106_144 : m_dn M_106 144 (.putfield 84) 3 147 := by decide +kernel
theorem d_106_147 : m_dn M_106 147 (.goto 47) 3 150 := by decide +kernel
theorem d_106_15 : m_dn M_106 15 (.getfield 30) 3 18 := by decide +kernel
theorem d_106_150 : m_dn M_106 150 (.iload 4) 2 152 := by decide +kernel
theorem d_106_152 : m_dn M_106 152 (.ifCond .eq 18) 3 155 := by decide +kernel
theorem d_106_155 : m_dn M_106 155 (.iload 5) 2 157 := by decide +kernel
theorem d_106_157 : m_dn M_106 157 (.ifCond .ne 13) 3 160 := by decide +kernel
theorem d_106_160 : m_dn M_106 160 (.aload_n 0) 1 161 := by decide +kernel
theorem d_106_161 : m_dn M_106 161 (.sipush 416) 3 164 := by decide +kernel
theorem d_106_164 : m_dn M_106 164 (.putfield 84) 3 167 := by decide +kernel
theorem d_106_167 : m_dn M_106 167 (.goto 27) 3 170 := by decide +kernel
theorem d_106_170 : m_dn M_106 170 (.aload_n 0) 1 171 := by decide +kernel
theorem d_106_171 : m_dn M_106 171 (.iload 4) 2 173 := by decide +kernel
theorem d_106_173 : m_dn M_106 173 (.ifCond .eq 9) 3 176 := by decide +kernel
theorem d_106_176 : m_dn M_106 176 (.sipush 206) 3 179 := by decide +kernel
theorem d_106_179 : m_dn M_106 179 (.goto 6) 3 182 := by decide +kernel
theorem d_106_18 : m_dn M_106 18 (.getfield 34) 3 21 := by decide +kernel
theorem d_106_182 : m_dn M_106 182 (.sipush 200) 3 185 := by decide +kernel
theorem d_106_185 : m_dn M_106 185 (.putfield 84) 3 188 := by decide +kernel
theorem d_106_188 : m_dn M_106 188 (.aload_n 0) 1 189 := by decide +kernel
theorem d_106_189 : m_dn M_106 189 (.iload 5) 2 191 := by decide +kernel
theorem d_106_191 : m_dn M_106 191 (.putfield 87) 3 194 := by decide +kernel
theorem d_106_194 : m_dn M_106 194 (.return_) 1 195 := by decide +kernel
theorem d_106_21 : m_dn M_106 21 (.putfield 40) 3 24 := by decide +kernel
theorem d_106_24 : m_dn M_106 24 (.aload_n 0) 1 25 := by decide +kernel
theorem d_106_25 : m_dn M_106 25 (.aload_n 1) 1 26 := by decide +kernel
theorem d_106_26 : m_dn M_106 26 (.getfield 41) 3 29 := by decide +kernel
theorem d_106_29 : m_dn M_106 29 (.putfield 44) 3 32 := by decide +kernel
theorem d_106_32 : m_dn M_106 32 (.aload_n 0) 1 33 := by decide +kernel
theorem d_106_33 : m_dn M_106 33 (.aload_n 1) 1 34 := by decide +kernel
theorem d_106_34 : m_dn M_106 34 (.getfield 30) 3 37 := by decide +kernel
theorem d_106_37 : m_dn M_106 37 (.getfield 45) 3 40 := by decide +kernel
theorem d_106_4 : m_dn M_106 4 (.istore_n 3) 1 5 := by decide +kernel
theorem d_106_40 : m_dn M_106 40 (.putfield 48) 3 43 := by decide +kernel
theorem d_106_43 : m_dn M_106 43 (.aload_n 0) 1 44 := by decide +kernel
theorem d_106_44 : m_dn M_106 44 (.aload_n 1) 1 45 := by decide +kernel
theorem d_106_45 : m_dn M_106 45 (.getfield 30) 3 48 := by decide +kernel
theorem d_106_48 : m_dn M_106 48 (.getfield 49) 3 51 := by decide +kernel
theorem d_106_5 : m_dn M_106 5 (.aload_n 0) 1 6 := by decide +kernel
theorem d_106_51 : m_dn M_106 51 (.putfield 52) 3 54 := by decide +kernel
theorem d_106_54 : m_dn M_106 54 (.aload_n 0) 1 55 := by decide +kernel
theorem d_106_55 : m_dn M_106 55 (.bipush 31) 2 57 := by decide +kernel
theorem d_106_57 : m_dn M_106 57 (.aload_n 1) 1 58 := by decide +kernel
theorem d_106_58 : m_dn M_106 58 (.getfield 53) 3 61 := by decide +kernel
theorem d_106_6 : m_dn M_106 6 (.aload_n 2) 1 7 := by decide +kernel
theorem d_106_61 : m_dn M_106 61 (.imul) 1 62 := by decide +kernel
theorem d_106_62 : m_dn M_106 62 (.bipush 17) 2 64 := by decide +kernel
theorem d_106_64 : m_dn M_106 64 (.aload_n 1) 1 65 := by decide +kernel
theorem d_106_65 : m_dn M_106 65 (.getfield 56) 3 68 := by decide +kernel
theorem d_106_68 : m_dn M_106 68 (.imul) 1 69 := by decide +kernel
theorem d_106_69 : m_dn M_106 69 (.iadd) 1 70 := by decide +kernel
theorem d_106_7 : m_dn M_106 7 (.getfield 23) 3 10 := by decide +kernel
theorem d_106_70 : m_dn M_106 70 (.iconst 5) 1 71 := by decide +kernel
theorem d_106_71 : m_dn M_106 71 (.aload_n 0) 1 72 := by decide +kernel
theorem d_106_72 : m_dn M_106 72 (.getfield 44) 3 75 := by decide +kernel
theorem d_106_75 : m_dn M_106 75 (.imul) 1 76 := by decide +kernel
theorem d_106_76 : m_dn M_106 76 (.iadd) 1 77 := by decide +kernel
theorem d_106_77 : m_dn M_106 77 (.bipush 13) 2 79 := by decide +kernel
theorem d_106_79 : m_dn M_106 79 (.aload_n 0) 1 80 := by decide +kernel
theorem d_106_80 : m_dn M_106 80 (.getfield 40) 3 83 := by decide +kernel
theorem d_106_83 : m_dn M_106 83 (.imul) 1 84 := by decide +kernel
theorem d_106_84 : m_dn M_106 84 (.iadd) 1 85 := by decide +kernel
theorem d_106_85 : m_dn M_106 85 (.putfield 59) 3 88 := by decide +kernel
theorem d_106_88 : m_dn M_106 88 (.aload_n 2) 1 89 := by decide +kernel
theorem d_106_89 : m_dn M_106 89 (.iload_n 3) 1 90 := by decide +kernel
theorem d_106_90 : m_dn M_106 90 (.invokevirtual 62) 3 93 := by decide +kernel
theorem d_106_93 : m_dn M_106 93 (.istore 4) 2 95 := by decide +kernel
theorem d_106_95 : m_dn M_106 95 (.aload_n 0) 1 96 := by decide +kernel
theorem d_106_96 : m_dn M_106 96 (.aload_n 2) 1 97 := by decide +kernel
theorem d_106_97 : m_dn M_106 97 (.iload 4) 2 99 := by decide +kernel
theorem d_106_99 : m_dn M_106 99 (.aload_n 0) 1 100 := by decide +kernel
theorem d_107_0 : m_dn M_107 0 (.iconst 0) 1 1 := by decide +kernel
theorem d_107_1 : m_dn M_107 1 (.istore_n 2) 1 2 := by decide +kernel
theorem d_107_10 : m_dn M_107 10 (.aload_n 0) 1 11 := by decide +kernel
theorem d_107_11 : m_dn M_107 11 (.getfield 15) 3 14 := by decide +kernel
theorem d_107_14 : m_dn M_107 14 (.iload_n 2) 1 15 := by decide +kernel
theorem d_107_15 : m_dn M_107 15 (.iaload) 1 16 := by decide +kernel
theorem d_107_16 : m_dn M_107 16 (.iload_n 1) 1 17 := by decide +kernel
theorem d_107_17 : m_dn M_107 17 (.if_icmp .ne 5) 3 20 := by decide +kernel
theorem d_107_2 : m_dn M_107 2 (.iload_n 2) 1 3 := by decide +kernel
theorem d_107_20 : m_dn M_107 20 (.iconst 1) 1 21 := by decide +kernel
theorem d_107_21 : m_dn M_107 21 (.ireturn) 1 22 := by decide +kernel
theorem d_107_22 : m_dn M_107 22 (.iinc 2 1) 3 25 := by decide +kernel
theorem d_107_25 : m_dn M_107 25 (.goto (-23)) 3 28 := by decide +kernel
theorem d_107_28 : m_dn M_107 28 (.aload_n 0) 1 29 := by decide +kernel
theorem d_107_29 : m_dn M_107 29 (.getfield 40) 3 32 := by decide +kernel
theorem d_107_3 : m_dn M_107 3 (.aload_n 0) 1 4 := by decide +kernel
theorem d_107_32 : m_dn M_107 32 (.ireturn) 1 33 := by decide +kernel
theorem d_107_4 : m_dn M_107 4 (.getfield 37) 3 7 := by decide +kernel
theorem d_107_7 : m_dn M_107 7 (.if_icmp .ge 21) 3 10 := by decide +kernel
theorem d_108_0 : m_dn M_108 0 (.aload_n 0) 1 1 := by decide +kernel
theorem d_108_1 : m_dn M_108 1 (.getfield 21) 3 4 := by decide +kernel
theorem d_108_10 : m_dn M_108 10 (.invokevirtual 125) 3 13 := by decide +kernel
theorem d_108_13 : m_dn M_108 13 (.aload_n 0) 1 14 := by decide +kernel
theorem d_108_14 : m_dn M_108 14 (.getfield 21) 3 17 := by decide +kernel
theorem d_108_17 : m_dn M_108 17 (.iadd) 1 18 := by decide +kernel
theorem d_108_18 : m_dn M_108 18 (.if_icmp .ge 5) 3 21 := by decide +kernel
theorem d_108_21 : m_dn M_108 21 (.iconst 1) 1 22 := by decide +kernel
theorem d_108_22 : m_dn M_108 22 (.ireturn) 1 23 := by decide +kernel
theorem d_108_23 : m_dn M_108 23 (.aload_n 0) 1 24 := by decide +kernel
theorem d_108_24 : m_dn M_108 24 (.getfield 15) 3 27 := by decide +kernel
theorem d_108_27 : m_dn M_108 27 (.iconst (-1)) 1 28 := by decide +kernel
theorem d_108_28 : m_dn M_108 28 (.if_icmp .ne 28) 3 31 := by decide +kernel
theorem d_108_31 : m_dn M_108 31 (.aload_n 0) 1 32 := by decide +kernel
theorem d_108_32 : m_dn M_108 32 (.getfield 18) 3 35 := by decide +kernel
theorem d_108_35 : m_dn M_108 35 (.iconst (-1)) 1 36 := by decide +kernel
theorem d_108_36 : m_dn M_108 36 (.if_icmp .ne 20) 3 39 := by decide +kernel
theorem d_108_39 : m_dn M_108 39 (.iload_n 2) 1 40 := by decide +kernel
theorem d_108_4 : m_dn M_108 4 (.iconst (-1)) 1 5 := by decide +kernel
theorem d_108_40 : m_dn M_108 40 (.aload_n 1) 1 41 := by decide +kernel
theorem d_108_41 : m_dn M_108 41 (.invokevirtual 125) 3 44 := by decide +kernel
theorem d_108_44 : m_dn M_108 44 (.aload_n 1) 1 45 := by decide +kernel
theorem d_108_45 : m_dn M_108 45 (.getfield 128) 3 48 := by decide +kernel
theorem d_108_48 : m_dn M_108 48 (.iadd) 1 49 := by decide +kernel
theorem d_108_49 : m_dn M_108 49 (.if_icmp .ge 7) 3 52 := by decide +kernel
theorem d_108_5 : m_dn M_108 5 (.if_icmp .eq 18) 3 8 := by decide +kernel
theorem d_108_52 : m_dn M_108 52 (.iconst 1) 1 53 := by decide +kernel
theorem d_108_53 : m_dn M_108 53 (.goto 4) 3 56 := by decide +kernel
theorem d_108_56 : m_dn M_108 56 (.iconst 0) 1 57 := by decide +kernel
theorem d_108_57 : m_dn M_108 57 (.ireturn) 1 58 := by decide +kernel
theorem d_108_8 : m_dn M_108 8 (.iload_n 2) 1 9 := by decide +kernel
theorem d_108_9 : m_dn M_108 9 (.aload_n 1) 1 10 := by decide +kernel
theorem d_109_0 : m_dn M_109 0 (.iconst 0) 1 1 := by decide +kernel
theorem d_109_1 : m_dn M_109 1 (.istore_n 3) 1 2 := by decide +kernel
theorem d_109_10 : m_dn M_109 10 (.if_icmp .ge 43) 3 13 := by decide +kernel
theorem d_109_13 : m_dn M_109 13 (.aload_n 0) 1 14 := by decide +kernel
theorem d_109_14 : m_dn M_109 14 (.getfield 21) 3 17 := by decide +kernel
theorem d_109_17 : m_dn M_109 17 (.iload_n 3) 1 18 := by decide +kernel
theorem d_109_18 : m_dn M_109 18 (.invokevirtual 48) 3 21 := by decide +kernel
theorem d_109_2 : m_dn M_109 2 (.iload_n 3) 1 3 := by decide +kernel
theorem d_109_21 : m_dn M_109 21 (.checkcast 52) 3 24 := by decide +kernel
theorem d_109_24 : m_dn M_109 24 (.astore 4) 2 26 := by decide +kernel
theorem d_109_26 : m_dn M_109 26 (.aload 4) 2 28 := by decide +kernel
theorem d_109_28 : m_dn M_109 28 (.getfield 54) 3 31 := by decide +kernel
theorem d_109_3 : m_dn M_109 3 (.aload_n 0) 1 4 := by decide +kernel
theorem d_109_31 : m_dn M_109 31 (.iload_n 1) 1 32 := by decide +kernel
theorem d_109_32 : m_dn M_109 32 (.if_icmp .ne 15) 3 35 := by decide +kernel
theorem d_109_35 : m_dn M_109 35 (.aload 4) 2 37 := by decide +kernel
theorem d_109_37 : m_dn M_109 37 (.getfield 57) 3 40 := by decide +kernel
theorem d_109_4 : m_dn M_109 4 (.getfield 21) 3 7 := by decide +kernel
theorem d_109_40 : m_dn M_109 40 (.iload_n 2) 1 41 := by decide +kernel
theorem d_109_41 : m_dn M_109 41 (.if_icmp .ne 6) 3 44 := by decide +kernel
theorem d_109_44 : m_dn M_109 44 (.aload 4) 2 46 := by decide +kernel
theorem d_109_46 : m_dn M_109 46 (.areturn) 1 47 := by decide +kernel
theorem d_109_47 : m_dn M_109 47 (.iinc 3 1) 3 50 := by decide +kernel
theorem d_109_50 : m_dn M_109 50 (.goto (-48)) 3 53 := by decide +kernel
theorem d_109_53 : m_dn M_109 53 (.aconst_null) 1 54 := by decide +kernel
theorem d_109_54 : m_dn M_109 54 (.areturn) 1 55 := by decide +kernel
theorem d_109_7 : m_dn M_109 7 (.invokevirtual 44) 3 10 := by decide +kernel
theorem d_110_0 : m_dn M_110 0 (.aload_n 0) 1 1 := by decide +kernel
theorem d_110_1 : m_dn M_110 1 (.invokespecial 1) 3 4 := by decide +kernel
theorem d_110_12 : m_dn M_110 12 (.aload_n 0) 1 13 := by decide +kernel
theorem d_110_13 : m_dn M_110 13 (.aload_n 1) 1 14 := by decide +kernel
theorem d_110_14 : m_dn M_110 14 (.getfield 16) 3 17 := by decide +kernel
theorem d_110_17 : m_dn M_110 17 (.putfield 19) 3 20 := by decide +kernel
theorem d_110_20 : m_dn M_110 20 (.aload_n 0) 1 21 := by decide +kernel
theorem d_110_21 : m_dn M_110 21 (.aload_n 1) 1 22 := by decide +kernel
theorem d_110_22 : m_dn M_110 22 (.getfield 20) 3 25 := by decide +kernel
theorem d_110_25 : m_dn M_110 25 (.putfield 23) 3 28 := by decide +kernel
theorem d_110_28 : m_dn M_110 28 (.aload_n 0) 1 29 := by decide +kernel
theorem d_110_29 : m_dn M_110 29 (.aload_n 1) 1 30 := by decide +kernel
theorem d_110_30 : m_dn M_110 30 (.getfield 24) 3 33 := by decide +kernel
theorem d_110_33 : m_dn M_110 33 (.putfield 27) 3 36 := by decide +kernel
theorem d_110_36 : m_dn M_110 36 (.aload_n 0) 1 37 := by decide +kernel
theorem d_110_37 : m_dn M_110 37 (.aload_n 1) 1 38 := by decide +kernel
theorem d_110_38 : m_dn M_110 38 (.getfield 28) 3 41 := by decide +kernel
theorem d_110_4 : m_dn M_110 4 (.aload_n 0) 1 5 := by decide +kernel
theorem d_110_41 : m_dn M_110 41 (.putfield 32) 3 44 := by decide +kernel
theorem d_110_44 : m_dn M_110 44 (.aload_n 0) 1 45 := by decide +kernel
theorem d_110_45 : m_dn M_110 45 (.aload_n 1) 1 46 := by decide +kernel
theorem d_110_46 : m_dn M_110 46 (.getfield 33) 3 49 := by decide +kernel
theorem d_110_49 : m_dn M_110 49 (.putfield 36) 3 52 := by decide +kernel
theorem d_110_5 : m_dn M_110 5 (.aload_n 1) 1 6 := by decide +kernel
theorem d_110_52 : m_dn M_110 52 (.aload_n 0) 1 53 := by decide +kernel
theorem d_110_53 : m_dn M_110 53 (.aload_n 1) 1 54 := by decide +kernel
theorem d_110_54 : m_dn M_110 54 (.getfield 37) 3 57 := by decide +kernel
theorem d_110_57 : m_dn M_110 57 (.putfield 40) 3 60 := by decide +kernel
theorem d_110_6 : m_dn M_110 6 (.getfield 7) 3 9 := by decide +kernel
theorem d_110_60 : m_dn M_110 60 (.return_) 1 61 := by decide +kernel
theorem d_110_9 : m_dn M_110 9 (.putfield 13) 3 12 := by decide +kernel
theorem d_112_0 : m_dn M_112 0 (.iload_n 0) 1 1 := by decide +kernel
theorem d_112_1 : m_dn M_112 1 (.iconst 3) 1 2 := by decide +kernel
theorem d_112_11 : m_dn M_112 11 (.iconst 1) 1 12 := by decide +kernel
theorem d_112_12 : m_dn M_112 12 (.goto 4) 3 15 := by decide +kernel
theorem d_112_15 : m_dn M_112 15 (.iconst 0) 1 16 := by decide +kernel
theorem d_112_16 : m_dn M_112 16 (.ireturn) 1 17 := by decide +kernel
theorem d_112_2 : m_dn M_112 2 (.if_icmp .lt 13) 3 5 := by decide +kernel
theorem d_112_5 : m_dn M_112 5 (.iload_n 0) 1 6 := by decide +kernel
theorem d_112_6 : m_dn M_112 6 (.bipush 6) 2 8 := by decide +kernel
theorem d_112_8 : m_dn M_112 8 (.if_icmp .gt 7) 3 11 := by decide +kernel
theorem d_113_0 : m_dn M_113 0 (.aload_n 0) 1 1 := by decide +kernel
theorem d_113_1 : m_dn M_113 1 (.aload_n 1) 1 2 := by decide +kernel
theorem d_113_10 : m_dn M_113 10 (.getfield 30) 3 13 := by decide +kernel
theorem d_113_13 : m_dn M_113 13 (.putfield 33) 3 16 := by decide +kernel
theorem d_113_16 : m_dn M_113 16 (.aload_n 0) 1 17 := by decide +kernel
theorem d_113_17 : m_dn M_113 17 (.aload_n 1) 1 18 := by decide +kernel
theorem d_113_18 : m_dn M_113 18 (.getfield 34) 3 21 := by decide +kernel
theorem d_113_2 : m_dn M_113 2 (.getfield 24) 3 5 := by decide +kernel
theorem d_113_21 : m_dn M_113 21 (.putfield 37) 3 24 := by decide +kernel
theorem d_113_24 : m_dn M_113 24 (.aload_n 0) 1 25 := by decide +kernel
theorem d_113_25 : m_dn M_113 25 (.aload_n 1) 1 26 := by decide +kernel
theorem d_113_26 : m_dn M_113 26 (.getfield 38) 3 29 := by decide +kernel
theorem d_113_29 : m_dn M_113 29 (.putfield 41) 3 32 := by decide +kernel
theorem d_113_32 : m_dn M_113 32 (.aload_n 0) 1 33 := by decide +kernel
theorem d_113_33 : m_dn M_113 33 (.aload_n 1) 1 34 := by decide +kernel
theorem d_113_34 : m_dn M_113 34 (.getfield 42) 3 37 := by decide +kernel
theorem d_113_37 : m_dn M_113 37 (.putfield 45) 3 40 := by decide +kernel
theorem d_113_40 : m_dn M_113 40 (.aload_n 0) 1 41 := by decide +kernel
theorem d_113_41 : m_dn M_113 41 (.aload_n 1) 1 42 := by decide +kernel
theorem d_113_42 : m_dn M_113 42 (.getfield 46) 3 45 := by decide +kernel
theorem d_113_45 : m_dn M_113 45 (.putfield 49) 3 48 := by decide +kernel
theorem d_113_48 : m_dn M_113 48 (.aload_n 0) 1 49 := by decide +kernel
theorem d_113_49 : m_dn M_113 49 (.aload_n 1) 1 50 := by decide +kernel
theorem d_113_5 : m_dn M_113 5 (.putfield 29) 3 8 := by decide +kernel
theorem d_113_50 : m_dn M_113 50 (.getfield 50) 3 53 := by decide +kernel
theorem d_113_53 : m_dn M_113 53 (.putfield 54) 3 56 := by decide +kernel
theorem d_113_56 : m_dn M_113 56 (.aload_n 0) 1 57 := by decide +kernel
theorem d_113_57 : m_dn M_113 57 (.aload_n 1) 1 58 := by decide +kernel
theorem d_113_58 : m_dn M_113 58 (.getfield 55) 3 61 := by decide +kernel
theorem d_113_61 : m_dn M_113 61 (.putfield 58) 3 64 := by decide +kernel
theorem d_113_64 : m_dn M_113 64 (.return_) 1 65 := by decide +kernel
theorem d_113_8 : m_dn M_113 8 (.aload_n 0) 1 9 := by decide +kernel
theorem d_113_9 : m_dn M_113 9 (.aload_n 1) 1 10 := by decide +kernel
theorem d_115_0 : m_dn M_115 0 (.aload_n 1) 1 1 := by decide +kernel
theorem d_115_1 : m_dn M_115 1 (.aload_n 0) 1 2 := by decide +kernel
theorem d_115_12 : m_dn M_115 12 (.ifCond .eq 25) 3 15 := by decide +kernel
theorem d_115_15 : m_dn M_115 15 (.aload_n 1) 1 16 := by decide +kernel
theorem d_115_16 : m_dn M_115 16 (.getfield 60) 3 19 := by decide +kernel
theorem d_115_19 : m_dn M_115 19 (.aload_n 1) 1 20 := by decide +kernel
theorem d_115_2 : m_dn M_115 2 (.getfield 13) 3 5 := by decide +kernel
theorem d_115_20 : m_dn M_115 20 (.getfield 63) 3 23 := by decide +kernel
theorem d_115_23 : m_dn M_115 23 (.aload_n 0) 1 24 := by decide +kernel
theorem d_115_24 : m_dn M_115 24 (.getfield 23) 3 27 := by decide +kernel
theorem d_115_27 : m_dn M_115 27 (.aload_n 0) 1 28 := by decide +kernel
theorem d_115_28 : m_dn M_115 28 (.getfield 27) 3 31 := by decide +kernel
theorem d_115_31 : m_dn M_115 31 (.invokevirtual 67) 3 34 := by decide +kernel
theorem d_115_34 : m_dn M_115 34 (.if_icmp .eq 5) 3 37 := by decide +kernel
theorem d_115_37 : m_dn M_115 37 (.iconst 0) 1 38 := by decide +kernel
theorem d_115_38 : m_dn M_115 38 (.ireturn) 1 39 := by decide +kernel
theorem d_115_39 : m_dn M_115 39 (.aload_n 1) 1 40 := by decide +kernel
theorem d_115_40 : m_dn M_115 40 (.getfield 73) 3 43 := by decide +kernel
theorem d_115_43 : m_dn M_115 43 (.aload_n 0) 1 44 := by decide +kernel
theorem d_115_44 : m_dn M_115 44 (.getfield 76) 3 47 := by decide +kernel
theorem d_115_47 : m_dn M_115 47 (.if_icmp .lt 32) 3 50 := by decide +kernel
theorem d_115_5 : m_dn M_115 5 (.aload_n 0) 1 6 := by decide +kernel
theorem d_115_50 : m_dn M_115 50 (.aload_n 1) 1 51 := by decide +kernel
theorem d_115_51 : m_dn M_115 51 (.getfield 63) 3 54 := by decide +kernel
theorem d_115_54 : m_dn M_115 54 (.aload_n 0) 1 55 := by decide +kernel
theorem d_115_55 : m_dn M_115 55 (.getfield 36) 3 58 := by decide +kernel
theorem d_115_58 : m_dn M_115 58 (.aload_n 0) 1 59 := by decide +kernel
theorem d_115_59 : m_dn M_115 59 (.getfield 40) 3 62 := by decide +kernel
theorem d_115_6 : m_dn M_115 6 (.getfield 19) 3 9 := by decide +kernel
theorem d_115_62 : m_dn M_115 62 (.invokevirtual 79) 3 65 := by decide +kernel
theorem d_115_65 : m_dn M_115 65 (.aload_n 1) 1 66 := by decide +kernel
theorem d_115_66 : m_dn M_115 66 (.getfield 82) 3 69 := by decide +kernel
theorem d_115_69 : m_dn M_115 69 (.iconst (-1)) 1 70 := by decide +kernel
theorem d_115_70 : m_dn M_115 70 (.ixor) 1 71 := by decide +kernel
theorem d_115_71 : m_dn M_115 71 (.iand) 1 72 := by decide +kernel
theorem d_115_72 : m_dn M_115 72 (.ifCond .ne 7) 3 75 := by decide +kernel
theorem d_115_75 : m_dn M_115 75 (.iconst 1) 1 76 := by decide +kernel
theorem d_115_76 : m_dn M_115 76 (.goto 4) 3 79 := by decide +kernel
theorem d_115_79 : m_dn M_115 79 (.iconst 0) 1 80 := by decide +kernel
theorem d_115_80 : m_dn M_115 80 (.ireturn) 1 81 := by decide +kernel
theorem d_115_9 : m_dn M_115 9 (.invokevirtual 54) 3 12 := by decide +kernel
theorem d_18_0 : m_dn M_18 0 (.aload_n 0) 1 1 := by decide +kernel
theorem d_18_1 : m_dn M_18 1 (.invokevirtual 31) 3 4 := by decide +kernel
theorem d_18_102 : m_dn M_18 102 (.bipush 10) 2 104 := by decide +kernel
theorem d_18_104 : m_dn M_18 104 (.if_icmp .eq 38) 3 107 := by decide +kernel
theorem d_18_107 : m_dn M_18 107 (.aload_n 0) 1 108 := by decide +kernel
theorem d_18_108 : m_dn M_18 108 (.invokevirtual 55) 3 111 := by decide +kernel
theorem d_18_111 : m_dn M_18 111 (.ifCond .eq 23) 3 114 := by decide +kernel
theorem d_18_114 : m_dn M_18 114 (.aload_n 0) 1 115 := by decide +kernel
theorem d_18_115 : m_dn M_18 115 (.invokevirtual 95) 3 118 := by decide +kernel
theorem d_18_118 : m_dn M_18 118 (.ifCond .eq 16) 3 121 := by decide +kernel
theorem d_18_12 : m_dn M_18 12 (.putfield 76) 3 15 := by decide +kernel
theorem d_18_121 : m_dn M_18 121 (.aload_n 0) 1 122 := by decide +kernel
theorem d_18_122 : m_dn M_18 122 (.bipush 10) 2 124 := by decide +kernel
theorem d_18_124 : m_dn M_18 124 (.invokevirtual 62) 3 127 := by decide +kernel
theorem d_18_127 : m_dn M_18 127 (.ifCond .eq 7) 3 130 := by decide +kernel
theorem d_18_130 : m_dn M_18 130 (.iconst 1) 1 131 := by decide +kernel
theorem d_18_131 : m_dn M_18 131 (.goto 4) 3 134 := by decide +kernel
theorem d_18_134 : m_dn M_18 134 (.iconst 0) 1 135 := by decide +kernel
theorem d_18_135 : m_dn M_18 135 (.istore_n 1) 1 136 := by decide +kernel
theorem d_18_136 : m_dn M_18 136 (.iinc 2 1) 3 139 := by decide +kernel
theorem d_18_139 : m_dn M_18 139 (.goto (-52)) 3 142 := by decide +kernel
theorem d_18_142 : m_dn M_18 142 (.iload_n 1) 1 143 := by decide +kernel
theorem d_18_143 : m_dn M_18 143 (.ifCond .eq 10) 3 146 := by decide +kernel
theorem d_18_146 : m_dn M_18 146 (.aload_n 0) 1 147 := by decide +kernel
theorem d_18_147 : m_dn M_18 147 (.invokevirtual 66) 3 150 := by decide +kernel
theorem d_18_15 : m_dn M_18 15 (.aload_n 0) 1 16 := by decide +kernel
theorem d_18_150 : m_dn M_18 150 (.ifCond .ne 5) 3 153 := by decide +kernel
theorem d_18_153 : m_dn M_18 153 (.aconst_null) 1 154 := by decide +kernel
theorem d_18_154 : m_dn M_18 154 (.areturn) 1 155 := by decide +kernel
theorem d_18_155 : m_dn M_18 155 (.aload_n 0) 1 156 := by decide +kernel
theorem d_18_156 : m_dn M_18 156 (.getfield 76) 3 159 := by decide +kernel
theorem d_18_159 : m_dn M_18 159 (.aload_n 0) 1 160 := by decide +kernel
theorem d_18_16 : m_dn M_18 16 (.new 80) 3 19 := by decide +kernel
theorem d_18_160 : m_dn M_18 160 (.getfield 69) 3 163 := by decide +kernel
theorem d_18_163 : m_dn M_18 163 (.putfield 98) 3 166 := by decide +kernel
theorem d_18_166 : m_dn M_18 166 (.aload_n 0) 1 167 := by decide +kernel
theorem d_18_167 : m_dn M_18 167 (.getfield 76) 3 170 := by decide +kernel
theorem d_18_170 : m_dn M_18 170 (.aload_n 0) 1 171 := by decide +kernel
theorem d_18_171 : m_dn M_18 171 (.getfield 99) 3 174 := by decide +kernel
theorem d_18_174 : m_dn M_18 174 (.putfield 102) 3 177 := by decide +kernel
theorem d_18_177 : m_dn M_18 177 (.aload_n 0) 1 178 := by decide +kernel
theorem d_18_178 : m_dn M_18 178 (.getfield 76) 3 181 := by decide +kernel
theorem d_18_181 : m_dn M_18 181 (.aload_n 0) 1 182 := by decide +kernel
theorem d_18_182 : m_dn M_18 182 (.invokevirtual 103) 3 185 := by decide +kernel
theorem d_18_185 : m_dn M_18 185 (.putfield 107) 3 188 := by decide +kernel
theorem d_18_188 : m_dn M_18 188 (.aload_n 0) 1 189 := by decide +kernel
theorem d_18_189 : m_dn M_18 189 (.getfield 76) 3 192 := by decide +kernel
theorem d_18_19 : m_dn M_18 19 (.dup) 1 20 := by decide +kernel
theorem d_18_192 : m_dn M_18 192 (.aload_n 0) 1 193 := by decide +kernel
theorem d_18_193 : m_dn M_18 193 (.getfield 83) 3 196 := by decide +kernel
theorem d_18_196 : m_dn M_18 196 (.putfield 110) 3 199 := by decide +kernel
theorem d_18_199 : m_dn M_18 199 (.aload_n 0) 1 200 := by decide +kernel
theorem d_18_20 : m_dn M_18 20 (.invokespecial 82) 3 23 := by decide +kernel
theorem d_18_200 : m_dn M_18 200 (.getfield 76) 3 203 := by decide +kernel
theorem d_18_203 : m_dn M_18 203 (.invokevirtual 111) 3 206 := by decide +kernel
theorem d_18_206 : m_dn M_18 206 (.aload_n 0) 1 207 := by decide +kernel
theorem d_18_207 : m_dn M_18 207 (.getfield 76) 3 210 := by decide +kernel
theorem d_18_210 : m_dn M_18 210 (.areturn) 1 211 := by decide +kernel
theorem d_18_23 : m_dn M_18 23 (.putfield 83) 3 26 := by decide +kernel
theorem d_18_26 : m_dn M_18 26 (.aload_n 0) 1 27 := by decide +kernel
theorem d_18_27 : m_dn M_18 27 (.getfield 83) 3 30 := by decide +kernel
theorem d_18_30 : m_dn M_18 30 (.aload_n 0) 1 31 := by decide +kernel
theorem d_18_31 : m_dn M_18 31 (.invokevirtual 51) 3 34 := by decide +kernel
theorem d_18_34 : m_dn M_18 34 (.bipush 72) 2 36 := by decide +kernel
theorem d_18_36 : m_dn M_18 36 (.if_icmp .ne 7) 3 39 := by decide +kernel
theorem d_18_39 : m_dn M_18 39 (.iconst 1) 1 40 := by decide +kernel
theorem d_18_4 : m_dn M_18 4 (.aload_n 0) 1 5 := by decide +kernel
theorem d_18_40 : m_dn M_18 40 (.goto 4) 3 43 := by decide +kernel
theorem d_18_43 : m_dn M_18 43 (.iconst 0) 1 44 := by decide +kernel
theorem d_18_44 : m_dn M_18 44 (.putfield 87) 3 47 := by decide +kernel
theorem d_18_47 : m_dn M_18 47 (.aload_n 0) 1 48 := by decide +kernel
theorem d_18_48 : m_dn M_18 48 (.aload_n 0) 1 49 := by decide +kernel
theorem d_18_49 : m_dn M_18 49 (.getfield 83) 3 52 := by decide +kernel
theorem d_18_5 : m_dn M_18 5 (.new 73) 3 8 := by decide +kernel
theorem d_18_52 : m_dn M_18 52 (.getfield 87) 3 55 := by decide +kernel
theorem d_18_55 : m_dn M_18 55 (.ifCond .eq 8) 3 58 := by decide +kernel
theorem d_18_58 : m_dn M_18 58 (.ldc 91) 2 60 := by decide +kernel
theorem d_18_60 : m_dn M_18 60 (.goto 5) 3 63 := by decide +kernel
theorem d_18_63 : m_dn M_18 63 (.ldc 93) 2 65 := by decide +kernel
theorem d_18_65 : m_dn M_18 65 (.invokevirtual 43) 3 68 := by decide +kernel
theorem d_18_68 : m_dn M_18 68 (.ifCond .eq 15) 3 71 := by decide +kernel
theorem d_18_71 : m_dn M_18 71 (.aload_n 0) 1 72 := by decide +kernel
theorem d_18_72 : m_dn M_18 72 (.iconst 1) 1 73 := by decide +kernel
theorem d_18_73 : m_dn M_18 73 (.invokevirtual 47) 3 76 := by decide +kernel
theorem d_18_76 : m_dn M_18 76 (.ifCond .eq 7) 3 79 := by decide +kernel
theorem d_18_79 : m_dn M_18 79 (.iconst 1) 1 80 := by decide +kernel
theorem d_18_8 : m_dn M_18 8 (.dup) 1 9 := by decide +kernel
theorem d_18_80 : m_dn M_18 80 (.goto 4) 3 83 := by decide +kernel
theorem d_18_83 : m_dn M_18 83 (.iconst 0) 1 84 := by decide +kernel
theorem d_18_84 : m_dn M_18 84 (.istore_n 1) 1 85 := by decide +kernel
theorem d_18_85 : m_dn M_18 85 (.iconst 0) 1 86 := by decide +kernel
theorem d_18_86 : m_dn M_18 86 (.istore_n 2) 1 87 := by decide +kernel
theorem d_18_87 : m_dn M_18 87 (.iload_n 2) 1 88 := by decide +kernel
theorem d_18_88 : m_dn M_18 88 (.sipush 300) 3 91 := by decide +kernel
theorem d_18_9 : m_dn M_18 9 (.invokespecial 75) 3 12 := by decide +kernel
theorem d_18_91 : m_dn M_18 91 (.if_icmp .ge 51) 3 94 := by decide +kernel
theorem d_18_94 : m_dn M_18 94 (.iload_n 1) 1 95 := by decide +kernel
theorem d_18_95 : m_dn M_18 95 (.ifCond .eq 47) 3 98 := by decide +kernel
theorem d_18_98 : m_dn M_18 98 (.aload_n 0) 1 99 := by decide +kernel
theorem d_18_99 : m_dn M_18 99 (.invokevirtual 51) 3 102 := by decide +kernel
theorem d_58_0 : m_dn M_58 0 (.iconst 0) 1 1 := by decide +kernel
theorem d_58_1 : m_dn M_58 1 (.istore_n 1) 1 2 := by decide +kernel
theorem d_58_10 : m_dn M_58 10 (.getfield 23) 3 13 := by decide +kernel
theorem d_58_13 : m_dn M_58 13 (.iload_n 2) 1 14 := by decide +kernel
theorem d_58_14 : m_dn M_58 14 (.iaload) 1 15 := by decide +kernel
theorem d_58_15 : m_dn M_58 15 (.aload_n 0) 1 16 := by decide +kernel
theorem d_58_16 : m_dn M_58 16 (.getfield 23) 3 19 := by decide +kernel
theorem d_58_19 : m_dn M_58 19 (.iload_n 1) 1 20 := by decide +kernel
theorem d_58_2 : m_dn M_58 2 (.iconst 1) 1 3 := by decide +kernel
theorem d_58_20 : m_dn M_58 20 (.iaload) 1 21 := by decide +kernel
theorem d_58_21 : m_dn M_58 21 (.if_icmp .le 5) 3 24 := by decide +kernel
theorem d_58_24 : m_dn M_58 24 (.iload_n 2) 1 25 := by decide +kernel
theorem d_58_25 : m_dn M_58 25 (.istore_n 1) 1 26 := by decide +kernel
theorem d_58_26 : m_dn M_58 26 (.iinc 2 1) 3 29 := by decide +kernel
theorem d_58_29 : m_dn M_58 29 (.goto (-25)) 3 32 := by decide +kernel
theorem d_58_3 : m_dn M_58 3 (.istore_n 2) 1 4 := by decide +kernel
theorem d_58_32 : m_dn M_58 32 (.iload_n 1) 1 33 := by decide +kernel
theorem d_58_33 : m_dn M_58 33 (.ireturn) 1 34 := by decide +kernel
theorem d_58_4 : m_dn M_58 4 (.iload_n 2) 1 5 := by decide +kernel
theorem d_58_5 : m_dn M_58 5 (.iconst 4) 1 6 := by decide +kernel
theorem d_58_6 : m_dn M_58 6 (.if_icmp .ge 26) 3 9 := by decide +kernel
theorem d_58_9 : m_dn M_58 9 (.aload_n 0) 1 10 := by decide +kernel
theorem d_59_0 : m_dn M_59 0 (.aload_n 0) 1 1 := by decide +kernel
theorem d_59_1 : m_dn M_59 1 (.getfield 78) 3 4 := by decide +kernel
theorem d_59_11 : m_dn M_59 11 (.getfield 109) 3 14 := by decide +kernel
theorem d_59_14 : m_dn M_59 14 (.iconst 1) 1 15 := by decide +kernel
theorem d_59_15 : m_dn M_59 15 (.if_icmp .ne 52) 3 18 := by decide +kernel
theorem d_59_18 : m_dn M_59 18 (.aload_n 0) 1 19 := by decide +kernel
theorem d_59_19 : m_dn M_59 19 (.getfield 78) 3 22 := by decide +kernel
theorem d_59_22 : m_dn M_59 22 (.getfield 112) 3 25 := by decide +kernel
theorem d_59_25 : m_dn M_59 25 (.iconst (-1)) 1 26 := by decide +kernel
theorem d_59_26 : m_dn M_59 26 (.if_icmp .ne 41) 3 29 := by decide +kernel
theorem d_59_29 : m_dn M_59 29 (.aload_n 0) 1 30 := by decide +kernel
theorem d_59_30 : m_dn M_59 30 (.aload_n 0) 1 31 := by decide +kernel
theorem d_59_31 : m_dn M_59 31 (.getfield 78) 3 34 := by decide +kernel
theorem d_59_34 : m_dn M_59 34 (.getfield 115) 3 37 := by decide +kernel
theorem d_59_37 : m_dn M_59 37 (.sipush 255) 3 40 := by decide +kernel
theorem d_59_4 : m_dn M_59 4 (.ifnull 63) 3 7 := by decide +kernel
theorem d_59_40 : m_dn M_59 40 (.invokestatic 116) 3 43 := by decide +kernel
theorem d_59_43 : m_dn M_59 43 (.iconst 4) 1 44 := by decide +kernel
theorem d_59_44 : m_dn M_59 44 (.ishr) 1 45 := by decide +kernel
theorem d_59_45 : m_dn M_59 45 (.putfield 45) 3 48 := by decide +kernel
theorem d_59_48 : m_dn M_59 48 (.aload_n 0) 1 49 := by decide +kernel
theorem d_59_49 : m_dn M_59 49 (.aload_n 0) 1 50 := by decide +kernel
theorem d_59_50 : m_dn M_59 50 (.getfield 78) 3 53 := by decide +kernel
theorem d_59_53 : m_dn M_59 53 (.getfield 121) 3 56 := by decide +kernel
theorem d_59_56 : m_dn M_59 56 (.sipush 255) 3 59 := by decide +kernel
theorem d_59_59 : m_dn M_59 59 (.invokestatic 116) 3 62 := by decide +kernel
theorem d_59_62 : m_dn M_59 62 (.iconst 4) 1 63 := by decide +kernel
theorem d_59_63 : m_dn M_59 63 (.ishr) 1 64 := by decide +kernel
theorem d_59_64 : m_dn M_59 64 (.putfield 9) 3 67 := by decide +kernel
theorem d_59_67 : m_dn M_59 67 (.return_) 1 68 := by decide +kernel
theorem d_59_7 : m_dn M_59 7 (.aload_n 0) 1 8 := by decide +kernel
theorem d_59_8 : m_dn M_59 8 (.getfield 78) 3 11 := by decide +kernel
theorem d_60_0 : m_dn M_60 0 (.aload_n 0) 1 1 := by decide +kernel
theorem d_60_1 : m_dn M_60 1 (.iconst 0) 1 2 := by decide +kernel
theorem d_60_2 : m_dn M_60 2 (.putfield 26) 3 5 := by decide +kernel
theorem d_60_5 : m_dn M_60 5 (.return_) 1 6 := by decide +kernel
theorem d_61_0 : m_dn M_61 0 (.aload_n 0) 1 1 := by decide +kernel
theorem d_61_1 : m_dn M_61 1 (.invokespecial 3) 3 4 := by decide +kernel
theorem d_61_10 : m_dn M_61 10 (.return_) 1 11 := by decide +kernel
theorem d_61_4 : m_dn M_61 4 (.aload_n 0) 1 5 := by decide +kernel
theorem d_61_5 : m_dn M_61 5 (.ldc 9) 2 7 := by decide +kernel
theorem d_61_7 : m_dn M_61 7 (.putfield 11) 3 10 := by decide +kernel
theorem d_70_0 : m_dn M_70 0 (.aload_n 1) 1 1 := by decide +kernel
theorem d_70_1 : m_dn M_70 1 (.iload_n 2) 1 2 := by decide +kernel
theorem d_70_10 : m_dn M_70 10 (.putfield 532) 3 13 := by decide +kernel
theorem d_70_13 : m_dn M_70 13 (.aload_n 0) 1 14 := by decide +kernel
theorem d_70_14 : m_dn M_70 14 (.dup) 1 15 := by decide +kernel
theorem d_70_15 : m_dn M_70 15 (.getfield 261) 3 18 := by decide +kernel
theorem d_70_18 : m_dn M_70 18 (.iconst 1) 1 19 := by decide +kernel
theorem d_70_19 : m_dn M_70 19 (.iadd) 1 20 := by decide +kernel
theorem d_70_2 : m_dn M_70 2 (.putfield 531) 3 5 := by decide +kernel
theorem d_70_20 : m_dn M_70 20 (.putfield 261) 3 23 := by decide +kernel
theorem d_70_23 : m_dn M_70 23 (.return_) 1 24 := by decide +kernel
theorem d_70_5 : m_dn M_70 5 (.aload_n 1) 1 6 := by decide +kernel
theorem d_70_6 : m_dn M_70 6 (.aload_n 0) 1 7 := by decide +kernel
theorem d_70_7 : m_dn M_70 7 (.getfield 174) 3 10 := by decide +kernel
theorem d_71_0 : m_dn M_71 0 (.bipush 64) 2 2 := by decide +kernel
theorem d_71_100 : m_dn M_71 100 (.iadd) 1 101 := by decide +kernel
theorem d_71_101 : m_dn M_71 101 (.istore 12) 2 103 := by decide +kernel
theorem d_71_103 : m_dn M_71 103 (.iload 7) 2 105 := by decide +kernel
theorem d_71_105 : m_dn M_71 105 (.iconst (-1)) 1 106 := by decide +kernel
theorem d_71_106 : m_dn M_71 106 (.if_icmp .eq 10) 3 109 := by decide +kernel
theorem d_71_109 : m_dn M_71 109 (.iload 12) 2 111 := by decide +kernel
theorem d_71_11 : m_dn M_71 11 (.iconst (-1)) 1 12 := by decide +kernel
theorem d_71_111 : m_dn M_71 111 (.iload 8) 2 113 := by decide +kernel
theorem d_71_113 : m_dn M_71 113 (.if_icmp .ge 11) 3 116 := by decide +kernel
theorem d_71_116 : m_dn M_71 116 (.iload 9) 2 118 := by decide +kernel
theorem d_71_118 : m_dn M_71 118 (.istore 7) 2 120 := by decide +kernel
theorem d_71_12 : m_dn M_71 12 (.istore 7) 2 14 := by decide +kernel
theorem d_71_120 : m_dn M_71 120 (.iload 12) 2 122 := by decide +kernel
theorem d_71_122 : m_dn M_71 122 (.istore 8) 2 124 := by decide +kernel
theorem d_71_124 : m_dn M_71 124 (.iinc 11 1) 3 127 := by decide +kernel
theorem d_71_127 : m_dn M_71 127 (.goto (-54)) 3 130 := by decide +kernel
theorem d_71_130 : m_dn M_71 130 (.iinc 9 1) 3 133 := by decide +kernel
theorem d_71_133 : m_dn M_71 133 (.goto (-113)) 3 136 := by decide +kernel
theorem d_71_136 : m_dn M_71 136 (.iload 7) 2 138 := by decide +kernel
theorem d_71_138 : m_dn M_71 138 (.ireturn) 1 139 := by decide +kernel
theorem d_71_14 : m_dn M_71 14 (.iconst 0) 1 15 := by decide +kernel
theorem d_71_15 : m_dn M_71 15 (.istore 8) 2 17 := by decide +kernel
theorem d_71_17 : m_dn M_71 17 (.iload_n 1) 1 18 := by decide +kernel
theorem d_71_18 : m_dn M_71 18 (.istore 9) 2 20 := by decide +kernel
theorem d_71_2 : m_dn M_71 2 (.iload_n 3) 1 3 := by decide +kernel
theorem d_71_20 : m_dn M_71 20 (.iload 9) 2 22 := by decide +kernel
theorem d_71_22 : m_dn M_71 22 (.iload_n 2) 1 23 := by decide +kernel
theorem d_71_23 : m_dn M_71 23 (.if_icmp .gt 113) 3 26 := by decide +kernel
theorem d_71_26 : m_dn M_71 26 (.aload_n 0) 1 27 := by decide +kernel
theorem d_71_27 : m_dn M_71 27 (.getfield 28) 3 30 := by decide +kernel
theorem d_71_3 : m_dn M_71 3 (.iadd) 1 4 := by decide +kernel
theorem d_71_30 : m_dn M_71 30 (.iload 9) 2 32 := by decide +kernel
theorem d_71_32 : m_dn M_71 32 (.aaload) 1 33 := by decide +kernel
theorem d_71_33 : m_dn M_71 33 (.getfield 160) 3 36 := by decide +kernel
theorem d_71_36 : m_dn M_71 36 (.ifCond .ne 6) 3 39 := by decide +kernel
theorem d_71_39 : m_dn M_71 39 (.goto 91) 3 42 := by decide +kernel
theorem d_71_4 : m_dn M_71 4 (.iload 4) 2 6 := by decide +kernel
theorem d_71_42 : m_dn M_71 42 (.aload 5) 2 44 := by decide +kernel
theorem d_71_44 : m_dn M_71 44 (.ifnull 23) 3 47 := by decide +kernel
theorem d_71_47 : m_dn M_71 47 (.aload 5) 2 49 := by decide +kernel
theorem d_71_49 : m_dn M_71 49 (.iload 9) 2 51 := by decide +kernel
theorem d_71_51 : m_dn M_71 51 (.aload_n 0) 1 52 := by decide +kernel
theorem d_71_52 : m_dn M_71 52 (.getfield 174) 3 55 := by decide +kernel
theorem d_71_55 : m_dn M_71 55 (.invokevirtual 267) 3 58 := by decide +kernel
theorem d_71_58 : m_dn M_71 58 (.ifCond .eq 9) 3 61 := by decide +kernel
theorem d_71_6 : m_dn M_71 6 (.invokestatic 61) 3 9 := by decide +kernel
theorem d_71_61 : m_dn M_71 61 (.ldc_w 271) 3 64 := by decide +kernel
theorem d_71_64 : m_dn M_71 64 (.goto 4) 3 67 := by decide +kernel
theorem d_71_67 : m_dn M_71 67 (.iconst 0) 1 68 := by decide +kernel
theorem d_71_68 : m_dn M_71 68 (.istore 10) 2 70 := by decide +kernel
theorem d_71_70 : m_dn M_71 70 (.iconst 0) 1 71 := by decide +kernel
theorem d_71_71 : m_dn M_71 71 (.istore 11) 2 73 := by decide +kernel
theorem d_71_73 : m_dn M_71 73 (.iload 11) 2 75 := by decide +kernel
theorem d_71_75 : m_dn M_71 75 (.iconst 4) 1 76 := by decide +kernel
theorem d_71_76 : m_dn M_71 76 (.if_icmp .ge 54) 3 79 := by decide +kernel
theorem d_71_79 : m_dn M_71 79 (.aload_n 0) 1 80 := by decide +kernel
theorem d_71_80 : m_dn M_71 80 (.getfield 32) 3 83 := by decide +kernel
theorem d_71_83 : m_dn M_71 83 (.iload 9) 2 85 := by decide +kernel
theorem d_71_85 : m_dn M_71 85 (.iconst 4) 1 86 := by decide +kernel
theorem d_71_86 : m_dn M_71 86 (.imul) 1 87 := by decide +kernel
theorem d_71_87 : m_dn M_71 87 (.iload 11) 2 89 := by decide +kernel
theorem d_71_89 : m_dn M_71 89 (.iadd) 1 90 := by decide +kernel
theorem d_71_9 : m_dn M_71 9 (.istore 6) 2 11 := by decide +kernel
theorem d_71_90 : m_dn M_71 90 (.iaload) 1 91 := by decide +kernel
theorem d_71_91 : m_dn M_71 91 (.iload 6) 2 93 := by decide +kernel
theorem d_71_93 : m_dn M_71 93 (.isub) 1 94 := by decide +kernel
theorem d_71_94 : m_dn M_71 94 (.ldc_w 272) 3 97 := by decide +kernel
theorem d_71_97 : m_dn M_71 97 (.iand) 1 98 := by decide +kernel
theorem d_71_98 : m_dn M_71 98 (.iload 10) 2 100 := by decide +kernel
theorem d_72_0 : m_dn M_72 0 (.iload_n 1) 1 1 := by decide +kernel
theorem d_72_1 : m_dn M_72 1 (.iconst 1) 1 2 := by decide +kernel
theorem d_72_10 : m_dn M_72 10 (.iload_n 2) 1 11 := by decide +kernel
theorem d_72_11 : m_dn M_72 11 (.aload_n 0) 1 12 := by decide +kernel
theorem d_72_12 : m_dn M_72 12 (.getfield 33) 3 15 := by decide +kernel
theorem d_72_15 : m_dn M_72 15 (.iload_n 1) 1 16 := by decide +kernel
theorem d_72_16 : m_dn M_72 16 (.iaload) 1 17 := by decide +kernel
theorem d_72_17 : m_dn M_72 17 (.if_icmp .ge 7) 3 20 := by decide +kernel
theorem d_72_2 : m_dn M_72 2 (.if_icmp .lt 22) 3 5 := by decide +kernel
theorem d_72_20 : m_dn M_72 20 (.iconst 1) 1 21 := by decide +kernel
theorem d_72_21 : m_dn M_72 21 (.goto 4) 3 24 := by decide +kernel
theorem d_72_24 : m_dn M_72 24 (.iconst 0) 1 25 := by decide +kernel
theorem d_72_25 : m_dn M_72 25 (.ireturn) 1 26 := by decide +kernel
theorem d_72_5 : m_dn M_72 5 (.iload_n 1) 1 6 := by decide +kernel
theorem d_72_6 : m_dn M_72 6 (.iconst 2) 1 7 := by decide +kernel
theorem d_72_7 : m_dn M_72 7 (.if_icmp .gt 17) 3 10 := by decide +kernel
theorem d_74_0 : m_dn M_74 0 (.iconst 0) 1 1 := by decide +kernel
theorem d_74_1 : m_dn M_74 1 (.istore_n 2) 1 2 := by decide +kernel
theorem d_74_10 : m_dn M_74 10 (.aload_n 0) 1 11 := by decide +kernel
theorem d_74_11 : m_dn M_74 11 (.iload_n 2) 1 12 := by decide +kernel
theorem d_74_12 : m_dn M_74 12 (.invokevirtual 41) 3 15 := by decide +kernel
theorem d_74_15 : m_dn M_74 15 (.astore_n 3) 1 16 := by decide +kernel
theorem d_74_16 : m_dn M_74 16 (.aload_n 3) 1 17 := by decide +kernel
theorem d_74_17 : m_dn M_74 17 (.ifnull 13) 3 20 := by decide +kernel
theorem d_74_2 : m_dn M_74 2 (.iload_n 2) 1 3 := by decide +kernel
theorem d_74_20 : m_dn M_74 20 (.aload_n 3) 1 21 := by decide +kernel
theorem d_74_21 : m_dn M_74 21 (.aload_n 1) 1 22 := by decide +kernel
theorem d_74_22 : m_dn M_74 22 (.invokevirtual 52) 3 25 := by decide +kernel
theorem d_74_25 : m_dn M_74 25 (.ifCond .eq 5) 3 28 := by decide +kernel
theorem d_74_28 : m_dn M_74 28 (.aload_n 3) 1 29 := by decide +kernel
theorem d_74_29 : m_dn M_74 29 (.areturn) 1 30 := by decide +kernel
theorem d_74_3 : m_dn M_74 3 (.aload_n 0) 1 4 := by decide +kernel
theorem d_74_30 : m_dn M_74 30 (.iinc 2 1) 3 33 := by decide +kernel
theorem d_74_33 : m_dn M_74 33 (.goto (-31)) 3 36 := by decide +kernel
theorem d_74_36 : m_dn M_74 36 (.aconst_null) 1 37 := by decide +kernel
theorem d_74_37 : m_dn M_74 37 (.areturn) 1 38 := by decide +kernel
theorem d_74_4 : m_dn M_74 4 (.invokevirtual 29) 3 7 := by decide +kernel
theorem d_74_7 : m_dn M_74 7 (.if_icmp .ge 29) 3 10 := by decide +kernel
theorem d_75_0 : m_dn M_75 0 (.aload_n 0) 1 1 := by decide +kernel
theorem d_75_1 : m_dn M_75 1 (.getfield 12) 3 4 := by decide +kernel
theorem d_75_11 : m_dn M_75 11 (.invokevirtual 25) 3 14 := by decide +kernel
theorem d_75_14 : m_dn M_75 14 (.iadd) 1 15 := by decide +kernel
theorem d_75_15 : m_dn M_75 15 (.ireturn) 1 16 := by decide +kernel
theorem d_75_4 : m_dn M_75 4 (.invokevirtual 25) 3 7 := by decide +kernel
theorem d_75_7 : m_dn M_75 7 (.aload_n 0) 1 8 := by decide +kernel
theorem d_75_8 : m_dn M_75 8 (.getfield 18) 3 11 := by decide +kernel
theorem d_76_0 : m_dn M_76 0 (.iload_n 1) 1 1 := by decide +kernel
theorem d_76_1 : m_dn M_76 1 (.ifCond .lt 11) 3 4 := by decide +kernel
theorem d_76_12 : m_dn M_76 12 (.aconst_null) 1 13 := by decide +kernel
theorem d_76_13 : m_dn M_76 13 (.areturn) 1 14 := by decide +kernel
theorem d_76_14 : m_dn M_76 14 (.iload_n 1) 1 15 := by decide +kernel
theorem d_76_15 : m_dn M_76 15 (.aload_n 0) 1 16 := by decide +kernel
theorem d_76_16 : m_dn M_76 16 (.getfield 12) 3 19 := by decide +kernel
theorem d_76_19 : m_dn M_76 19 (.invokevirtual 25) 3 22 := by decide +kernel
theorem d_76_22 : m_dn M_76 22 (.if_icmp .ge 17) 3 25 := by decide +kernel
theorem d_76_25 : m_dn M_76 25 (.aload_n 0) 1 26 := by decide +kernel
theorem d_76_26 : m_dn M_76 26 (.getfield 12) 3 29 := by decide +kernel
theorem d_76_29 : m_dn M_76 29 (.iload_n 1) 1 30 := by decide +kernel
theorem d_76_30 : m_dn M_76 30 (.invokevirtual 32) 3 33 := by decide +kernel
theorem d_76_33 : m_dn M_76 33 (.checkcast 36) 3 36 := by decide +kernel
theorem d_76_36 : m_dn M_76 36 (.goto 22) 3 39 := by decide +kernel
theorem d_76_39 : m_dn M_76 39 (.aload_n 0) 1 40 := by decide +kernel
theorem d_76_4 : m_dn M_76 4 (.iload_n 1) 1 5 := by decide +kernel
theorem d_76_40 : m_dn M_76 40 (.getfield 18) 3 43 := by decide +kernel
theorem d_76_43 : m_dn M_76 43 (.iload_n 1) 1 44 := by decide +kernel
theorem d_76_44 : m_dn M_76 44 (.aload_n 0) 1 45 := by decide +kernel
theorem d_76_45 : m_dn M_76 45 (.getfield 12) 3 48 := by decide +kernel
theorem d_76_48 : m_dn M_76 48 (.invokevirtual 25) 3 51 := by decide +kernel
theorem d_76_5 : m_dn M_76 5 (.aload_n 0) 1 6 := by decide +kernel
theorem d_76_51 : m_dn M_76 51 (.isub) 1 52 := by decide +kernel
theorem d_76_52 : m_dn M_76 52 (.invokevirtual 32) 3 55 := by decide +kernel
theorem d_76_55 : m_dn M_76 55 (.checkcast 36) 3 58 := by decide +kernel
theorem d_76_58 : m_dn M_76 58 (.areturn) 1 59 := by decide +kernel
theorem d_76_6 : m_dn M_76 6 (.invokevirtual 29) 3 9 := by decide +kernel
theorem d_76_9 : m_dn M_76 9 (.if_icmp .lt 5) 3 12 := by decide +kernel
theorem d_80_0 : m_dn M_80 0 (.aload_n 0) 1 1 := by decide +kernel
theorem d_80_1 : m_dn M_80 1 (.aload_n 1) 1 2 := by decide +kernel
theorem d_80_12 : m_dn M_80 12 (.ifCond .eq 29) 3 15 := by decide +kernel
theorem d_80_15 : m_dn M_80 15 (.aload_n 0) 1 16 := by decide +kernel
theorem d_80_16 : m_dn M_80 16 (.getfield 22) 3 19 := by decide +kernel
theorem d_80_19 : m_dn M_80 19 (.aload_n 0) 1 20 := by decide +kernel
theorem d_80_2 : m_dn M_80 2 (.getfield 25) 3 5 := by decide +kernel
theorem d_80_20 : m_dn M_80 20 (.getfield 18) 3 23 := by decide +kernel
theorem d_80_23 : m_dn M_80 23 (.aload_n 1) 1 24 := by decide +kernel
theorem d_80_24 : m_dn M_80 24 (.getfield 33) 3 27 := by decide +kernel
theorem d_80_27 : m_dn M_80 27 (.aload_n 1) 1 28 := by decide +kernel
theorem d_80_28 : m_dn M_80 28 (.getfield 36) 3 31 := by decide +kernel
theorem d_80_31 : m_dn M_80 31 (.invokevirtual 39) 3 34 := by decide +kernel
theorem d_80_34 : m_dn M_80 34 (.if_icmp .ne 7) 3 37 := by decide +kernel
theorem d_80_37 : m_dn M_80 37 (.iconst 1) 1 38 := by decide +kernel
theorem d_80_38 : m_dn M_80 38 (.goto 4) 3 41 := by decide +kernel
theorem d_80_41 : m_dn M_80 41 (.iconst 0) 1 42 := by decide +kernel
theorem d_80_42 : m_dn M_80 42 (.ireturn) 1 43 := by decide +kernel
theorem d_80_5 : m_dn M_80 5 (.aload_n 1) 1 6 := by decide +kernel
theorem d_80_6 : m_dn M_80 6 (.getfield 28) 3 9 := by decide +kernel
theorem d_80_9 : m_dn M_80 9 (.invokevirtual 29) 3 12 := by decide +kernel
theorem d_81_0 : m_dn M_81 0 (.aload_n 0) 1 1 := by decide +kernel
theorem d_81_1 : m_dn M_81 1 (.getfield 9) 3 4 := by decide +kernel
theorem d_81_12 : m_dn M_81 12 (.iload_n 2) 1 13 := by decide +kernel
theorem d_81_13 : m_dn M_81 13 (.if_icmp .ne 7) 3 16 := by decide +kernel
theorem d_81_16 : m_dn M_81 16 (.iconst 1) 1 17 := by decide +kernel
theorem d_81_17 : m_dn M_81 17 (.goto 4) 3 20 := by decide +kernel
theorem d_81_20 : m_dn M_81 20 (.iconst 0) 1 21 := by decide +kernel
theorem d_81_21 : m_dn M_81 21 (.ireturn) 1 22 := by decide +kernel
theorem d_81_4 : m_dn M_81 4 (.iload_n 1) 1 5 := by decide +kernel
theorem d_81_5 : m_dn M_81 5 (.if_icmp .ne 15) 3 8 := by decide +kernel
theorem d_81_8 : m_dn M_81 8 (.aload_n 0) 1 9 := by decide +kernel
theorem d_81_9 : m_dn M_81 9 (.getfield 15) 3 12 := by decide +kernel
theorem d_82_0 : m_dn M_82 0 (.aload_n 0) 1 1 := by decide +kernel
theorem d_82_1 : m_dn M_82 1 (.getfield 24) 3 4 := by decide +kernel
theorem d_82_10 : m_dn M_82 10 (.goto 4) 3 13 := by decide +kernel
theorem d_82_13 : m_dn M_82 13 (.iconst 0) 1 14 := by decide +kernel
theorem d_82_14 : m_dn M_82 14 (.aload_n 0) 1 15 := by decide +kernel
theorem d_82_15 : m_dn M_82 15 (.getfield 24) 3 18 := by decide +kernel
theorem d_82_18 : m_dn M_82 18 (.iconst 2) 1 19 := by decide +kernel
theorem d_82_19 : m_dn M_82 19 (.iand) 1 20 := by decide +kernel
theorem d_82_20 : m_dn M_82 20 (.ifCond .eq 9) 3 23 := by decide +kernel
theorem d_82_23 : m_dn M_82 23 (.iconst 4) 1 24 := by decide +kernel
theorem d_82_24 : m_dn M_82 24 (.iload_n 2) 1 25 := by decide +kernel
theorem d_82_25 : m_dn M_82 25 (.imul) 1 26 := by decide +kernel
theorem d_82_26 : m_dn M_82 26 (.goto 4) 3 29 := by decide +kernel
theorem d_82_29 : m_dn M_82 29 (.iconst 0) 1 30 := by decide +kernel
theorem d_82_30 : m_dn M_82 30 (.iadd) 1 31 := by decide +kernel
theorem d_82_31 : m_dn M_82 31 (.ireturn) 1 32 := by decide +kernel
theorem d_82_4 : m_dn M_82 4 (.iconst 1) 1 5 := by decide +kernel
theorem d_82_5 : m_dn M_82 5 (.iand) 1 6 := by decide +kernel
theorem d_82_6 : m_dn M_82 6 (.ifCond .eq 7) 3 9 := by decide +kernel
theorem d_82_9 : m_dn M_82 9 (.iload_n 1) 1 10 := by decide +kernel
theorem d_83_0 : m_dn M_83 0 (.aload_n 0) 1 1 := by decide +kernel
theorem d_83_1 : m_dn M_83 1 (.getfield 62) 3 4 := by decide +kernel
theorem d_83_10 : m_dn M_83 10 (.isub) 1 11 := by decide +kernel
theorem d_83_11 : m_dn M_83 11 (.ireturn) 1 12 := by decide +kernel
theorem d_83_4 : m_dn M_83 4 (.iload_n 1) 1 5 := by decide +kernel
theorem d_83_5 : m_dn M_83 5 (.iadd) 1 6 := by decide +kernel
theorem d_83_6 : m_dn M_83 6 (.aload_n 0) 1 7 := by decide +kernel
theorem d_83_7 : m_dn M_83 7 (.getfield 65) 3 10 := by decide +kernel
theorem d_84_0 : m_dn M_84 0 (.aload_n 1) 1 1 := by decide +kernel
theorem d_84_1 : m_dn M_84 1 (.getfield 72) 3 4 := by decide +kernel
theorem d_84_100 : m_dn M_84 100 (.ixor) 1 101 := by decide +kernel
theorem d_84_101 : m_dn M_84 101 (.iand) 1 102 := by decide +kernel
theorem d_84_102 : m_dn M_84 102 (.ireturn) 1 103 := by decide +kernel
theorem d_84_12 : m_dn M_84 12 (.aload_n 2) 1 13 := by decide +kernel
theorem d_84_13 : m_dn M_84 13 (.aload_n 0) 1 14 := by decide +kernel
theorem d_84_14 : m_dn M_84 14 (.getfield 45) 3 17 := by decide +kernel
theorem d_84_17 : m_dn M_84 17 (.aload_n 0) 1 18 := by decide +kernel
theorem d_84_18 : m_dn M_84 18 (.getfield 9) 3 21 := by decide +kernel
theorem d_84_21 : m_dn M_84 21 (.invokevirtual 82) 3 24 := by decide +kernel
theorem d_84_24 : m_dn M_84 24 (.aload_n 1) 1 25 := by decide +kernel
theorem d_84_25 : m_dn M_84 25 (.getfield 88) 3 28 := by decide +kernel
theorem d_84_28 : m_dn M_84 28 (.iconst (-1)) 1 29 := by decide +kernel
theorem d_84_29 : m_dn M_84 29 (.ixor) 1 30 := by decide +kernel
theorem d_84_30 : m_dn M_84 30 (.iand) 1 31 := by decide +kernel
theorem d_84_31 : m_dn M_84 31 (.ireturn) 1 32 := by decide +kernel
theorem d_84_32 : m_dn M_84 32 (.aload_n 0) 1 33 := by decide +kernel
theorem d_84_33 : m_dn M_84 33 (.getfield 78) 3 36 := by decide +kernel
theorem d_84_36 : m_dn M_84 36 (.aload_n 1) 1 37 := by decide +kernel
theorem d_84_37 : m_dn M_84 37 (.invokevirtual 90) 3 40 := by decide +kernel
theorem d_84_4 : m_dn M_84 4 (.astore_n 2) 1 5 := by decide +kernel
theorem d_84_40 : m_dn M_84 40 (.invokevirtual 94) 3 43 := by decide +kernel
theorem d_84_43 : m_dn M_84 43 (.istore_n 3) 1 44 := by decide +kernel
theorem d_84_44 : m_dn M_84 44 (.aload_n 0) 1 45 := by decide +kernel
theorem d_84_45 : m_dn M_84 45 (.getfield 78) 3 48 := by decide +kernel
theorem d_84_48 : m_dn M_84 48 (.iload_n 3) 1 49 := by decide +kernel
theorem d_84_49 : m_dn M_84 49 (.aload_n 2) 1 50 := by decide +kernel
theorem d_84_5 : m_dn M_84 5 (.aload_n 0) 1 6 := by decide +kernel
theorem d_84_50 : m_dn M_84 50 (.getfield 100) 3 53 := by decide +kernel
theorem d_84_53 : m_dn M_84 53 (.invokevirtual 103) 3 56 := by decide +kernel
theorem d_84_56 : m_dn M_84 56 (.istore 4) 2 58 := by decide +kernel
theorem d_84_58 : m_dn M_84 58 (.aload_n 0) 1 59 := by decide +kernel
theorem d_84_59 : m_dn M_84 59 (.getfield 78) 3 62 := by decide +kernel
theorem d_84_6 : m_dn M_84 6 (.getfield 78) 3 9 := by decide +kernel
theorem d_84_62 : m_dn M_84 62 (.iload_n 3) 1 63 := by decide +kernel
theorem d_84_63 : m_dn M_84 63 (.aload_n 2) 1 64 := by decide +kernel
theorem d_84_64 : m_dn M_84 64 (.getfield 100) 3 67 := by decide +kernel
theorem d_84_67 : m_dn M_84 67 (.invokevirtual 106) 3 70 := by decide +kernel
theorem d_84_70 : m_dn M_84 70 (.istore 5) 2 72 := by decide +kernel
theorem d_84_72 : m_dn M_84 72 (.iload 4) 2 74 := by decide +kernel
theorem d_84_74 : m_dn M_84 74 (.iload 5) 2 76 := by decide +kernel
theorem d_84_76 : m_dn M_84 76 (.if_icmp .le 7) 3 79 := by decide +kernel
theorem d_84_79 : m_dn M_84 79 (.iconst 0) 1 80 := by decide +kernel
theorem d_84_80 : m_dn M_84 80 (.goto 22) 3 83 := by decide +kernel
theorem d_84_83 : m_dn M_84 83 (.aload_n 2) 1 84 := by decide +kernel
theorem d_84_84 : m_dn M_84 84 (.iload 4) 2 86 := by decide +kernel
theorem d_84_86 : m_dn M_84 86 (.iconst 4) 1 87 := by decide +kernel
theorem d_84_87 : m_dn M_84 87 (.ishr) 1 88 := by decide +kernel
theorem d_84_88 : m_dn M_84 88 (.iload 5) 2 90 := by decide +kernel
theorem d_84_9 : m_dn M_84 9 (.ifnonnull 23) 3 12 := by decide +kernel
theorem d_84_90 : m_dn M_84 90 (.iconst 4) 1 91 := by decide +kernel
theorem d_84_91 : m_dn M_84 91 (.ishr) 1 92 := by decide +kernel
theorem d_84_92 : m_dn M_84 92 (.invokevirtual 82) 3 95 := by decide +kernel
theorem d_84_95 : m_dn M_84 95 (.aload_n 1) 1 96 := by decide +kernel
theorem d_84_96 : m_dn M_84 96 (.getfield 88) 3 99 := by decide +kernel
theorem d_84_99 : m_dn M_84 99 (.iconst (-1)) 1 100 := by decide +kernel
theorem d_85_0 : m_dn M_85 0 (.aload_n 0) 1 1 := by decide +kernel
theorem d_85_1 : m_dn M_85 1 (.getfield 27) 3 4 := by decide +kernel
theorem d_85_10 : m_dn M_85 10 (.iload_n 2) 1 11 := by decide +kernel
theorem d_85_11 : m_dn M_85 11 (.iconst 1) 1 12 := by decide +kernel
theorem d_85_12 : m_dn M_85 12 (.iadd) 1 13 := by decide +kernel
theorem d_85_13 : m_dn M_85 13 (.iload_n 3) 1 14 := by decide +kernel
theorem d_85_14 : m_dn M_85 14 (.invokestatic 30) 3 17 := by decide +kernel
theorem d_85_17 : m_dn M_85 17 (.istore 4) 2 19 := by decide +kernel
theorem d_85_19 : m_dn M_85 19 (.iconst 1) 1 20 := by decide +kernel
theorem d_85_20 : m_dn M_85 20 (.iload 4) 2 22 := by decide +kernel
theorem d_85_22 : m_dn M_85 22 (.ishl) 1 23 := by decide +kernel
theorem d_85_23 : m_dn M_85 23 (.iconst 1) 1 24 := by decide +kernel
theorem d_85_24 : m_dn M_85 24 (.isub) 1 25 := by decide +kernel
theorem d_85_25 : m_dn M_85 25 (.iconst (-1)) 1 26 := by decide +kernel
theorem d_85_26 : m_dn M_85 26 (.iload_n 1) 1 27 := by decide +kernel
theorem d_85_27 : m_dn M_85 27 (.ishl) 1 28 := by decide +kernel
theorem d_85_28 : m_dn M_85 28 (.iand) 1 29 := by decide +kernel
theorem d_85_29 : m_dn M_85 29 (.ireturn) 1 30 := by decide +kernel
theorem d_85_4 : m_dn M_85 4 (.bipush 15) 2 6 := by decide +kernel
theorem d_85_6 : m_dn M_85 6 (.iadd) 1 7 := by decide +kernel
theorem d_85_7 : m_dn M_85 7 (.iconst 4) 1 8 := by decide +kernel
theorem d_85_8 : m_dn M_85 8 (.ishr) 1 9 := by decide +kernel
theorem d_85_9 : m_dn M_85 9 (.istore_n 3) 1 10 := by decide +kernel
theorem d_86_0 : m_dn M_86 0 (.bipush 8) 2 2 := by decide +kernel
theorem d_86_10 : m_dn M_86 10 (.aload_n 0) 1 11 := by decide +kernel
theorem d_86_11 : m_dn M_86 11 (.getfield 22) 3 14 := by decide +kernel
theorem d_86_14 : m_dn M_86 14 (.iadd) 1 15 := by decide +kernel
theorem d_86_15 : m_dn M_86 15 (.ireturn) 1 16 := by decide +kernel
theorem d_86_2 : m_dn M_86 2 (.aload_n 0) 1 3 := by decide +kernel
theorem d_86_3 : m_dn M_86 3 (.getfield 18) 3 6 := by decide +kernel
theorem d_86_6 : m_dn M_86 6 (.getfield 59) 3 9 := by decide +kernel
theorem d_86_9 : m_dn M_86 9 (.imul) 1 10 := by decide +kernel
theorem d_87_0 : m_dn M_87 0 (.aload_n 0) 1 1 := by decide +kernel
theorem d_87_1 : m_dn M_87 1 (.getfield 11) 3 4 := by decide +kernel
theorem d_87_11 : m_dn M_87 11 (.iconst (-1)) 1 12 := by decide +kernel
theorem d_87_12 : m_dn M_87 12 (.if_icmp .eq 11) 3 15 := by decide +kernel
theorem d_87_15 : m_dn M_87 15 (.aload_n 0) 1 16 := by decide +kernel
theorem d_87_16 : m_dn M_87 16 (.getfield 19) 3 19 := by decide +kernel
theorem d_87_19 : m_dn M_87 19 (.iload_n 1) 1 20 := by decide +kernel
theorem d_87_20 : m_dn M_87 20 (.if_icmp .ne 7) 3 23 := by decide +kernel
theorem d_87_23 : m_dn M_87 23 (.iconst 1) 1 24 := by decide +kernel
theorem d_87_24 : m_dn M_87 24 (.goto 4) 3 27 := by decide +kernel
theorem d_87_27 : m_dn M_87 27 (.iconst 0) 1 28 := by decide +kernel
theorem d_87_28 : m_dn M_87 28 (.ireturn) 1 29 := by decide +kernel
theorem d_87_4 : m_dn M_87 4 (.ifCond .eq 23) 3 7 := by decide +kernel
theorem d_87_7 : m_dn M_87 7 (.aload_n 0) 1 8 := by decide +kernel
theorem d_87_8 : m_dn M_87 8 (.getfield 19) 3 11 := by decide +kernel
theorem d_88_0 : m_dn M_88 0 (.iload_n 1) 1 1 := by decide +kernel
theorem d_88_1 : m_dn M_88 1 (.ifCond .ne 5) 3 4 := by decide +kernel
theorem d_88_10 : m_dn M_88 10 (.iconst 1) 1 11 := by decide +kernel
theorem d_88_11 : m_dn M_88 11 (.if_icmp .ne 10) 3 14 := by decide +kernel
theorem d_88_14 : m_dn M_88 14 (.aload_n 0) 1 15 := by decide +kernel
theorem d_88_15 : m_dn M_88 15 (.getfield 22) 3 18 := by decide +kernel
theorem d_88_18 : m_dn M_88 18 (.goto 13) 3 21 := by decide +kernel
theorem d_88_21 : m_dn M_88 21 (.iconst 0) 1 22 := by decide +kernel
theorem d_88_22 : m_dn M_88 22 (.iload_n 2) 1 23 := by decide +kernel
theorem d_88_23 : m_dn M_88 23 (.aload_n 0) 1 24 := by decide +kernel
theorem d_88_24 : m_dn M_88 24 (.getfield 22) 3 27 := by decide +kernel
theorem d_88_27 : m_dn M_88 27 (.isub) 1 28 := by decide +kernel
theorem d_88_28 : m_dn M_88 28 (.invokestatic 25) 3 31 := by decide +kernel
theorem d_88_31 : m_dn M_88 31 (.ireturn) 1 32 := by decide +kernel
theorem d_88_4 : m_dn M_88 4 (.iconst 0) 1 5 := by decide +kernel
theorem d_88_5 : m_dn M_88 5 (.ireturn) 1 6 := by decide +kernel
theorem d_88_6 : m_dn M_88 6 (.aload_n 0) 1 7 := by decide +kernel
theorem d_88_7 : m_dn M_88 7 (.getfield 11) 3 10 := by decide +kernel
theorem d_89_0 : m_dn M_89 0 (.iload_n 1) 1 1 := by decide +kernel
theorem d_89_1 : m_dn M_89 1 (.ifCond .eq 24) 3 4 := by decide +kernel
theorem d_89_12 : m_dn M_89 12 (.aload_n 0) 1 13 := by decide +kernel
theorem d_89_13 : m_dn M_89 13 (.getfield 31) 3 16 := by decide +kernel
theorem d_89_16 : m_dn M_89 16 (.iload_n 2) 1 17 := by decide +kernel
theorem d_89_17 : m_dn M_89 17 (.iconst 1) 1 18 := by decide +kernel
theorem d_89_18 : m_dn M_89 18 (.isub) 1 19 := by decide +kernel
theorem d_89_19 : m_dn M_89 19 (.invokestatic 34) 3 22 := by decide +kernel
theorem d_89_22 : m_dn M_89 22 (.goto 6) 3 25 := by decide +kernel
theorem d_89_25 : m_dn M_89 25 (.iload_n 2) 1 26 := by decide +kernel
theorem d_89_26 : m_dn M_89 26 (.iconst 1) 1 27 := by decide +kernel
theorem d_89_27 : m_dn M_89 27 (.isub) 1 28 := by decide +kernel
theorem d_89_28 : m_dn M_89 28 (.ireturn) 1 29 := by decide +kernel
theorem d_89_4 : m_dn M_89 4 (.aload_n 0) 1 5 := by decide +kernel
theorem d_89_5 : m_dn M_89 5 (.getfield 11) 3 8 := by decide +kernel
theorem d_89_8 : m_dn M_89 8 (.iconst 1) 1 9 := by decide +kernel
theorem d_89_9 : m_dn M_89 9 (.if_icmp .ne 16) 3 12 := by decide +kernel
theorem d_90_0 : m_dn M_90 0 (.aload_n 0) 1 1 := by decide +kernel
theorem d_90_1 : m_dn M_90 1 (.getfield 15) 3 4 := by decide +kernel
theorem d_90_10 : m_dn M_90 10 (.getfield 15) 3 13 := by decide +kernel
theorem d_90_13 : m_dn M_90 13 (.if_icmp .gt 7) 3 16 := by decide +kernel
theorem d_90_16 : m_dn M_90 16 (.iconst 1) 1 17 := by decide +kernel
theorem d_90_17 : m_dn M_90 17 (.goto 4) 3 20 := by decide +kernel
theorem d_90_20 : m_dn M_90 20 (.iconst 0) 1 21 := by decide +kernel
theorem d_90_21 : m_dn M_90 21 (.istore_n 3) 1 22 := by decide +kernel
theorem d_90_22 : m_dn M_90 22 (.iload_n 3) 1 23 := by decide +kernel
theorem d_90_23 : m_dn M_90 23 (.ifCond .eq 24) 3 26 := by decide +kernel
theorem d_90_26 : m_dn M_90 26 (.iload_n 2) 1 27 := by decide +kernel
theorem d_90_27 : m_dn M_90 27 (.aload_n 0) 1 28 := by decide +kernel
theorem d_90_28 : m_dn M_90 28 (.getfield 18) 3 31 := by decide +kernel
theorem d_90_31 : m_dn M_90 31 (.iconst 0) 1 32 := by decide +kernel
theorem d_90_32 : m_dn M_90 32 (.invokestatic 122) 3 35 := by decide +kernel
theorem d_90_35 : m_dn M_90 35 (.iadd) 1 36 := by decide +kernel
theorem d_90_36 : m_dn M_90 36 (.aload_n 1) 1 37 := by decide +kernel
theorem d_90_37 : m_dn M_90 37 (.invokevirtual 125) 3 40 := by decide +kernel
theorem d_90_4 : m_dn M_90 4 (.iconst (-1)) 1 5 := by decide +kernel
theorem d_90_40 : m_dn M_90 40 (.if_icmp .ge 7) 3 43 := by decide +kernel
theorem d_90_43 : m_dn M_90 43 (.iconst 1) 1 44 := by decide +kernel
theorem d_90_44 : m_dn M_90 44 (.goto 4) 3 47 := by decide +kernel
theorem d_90_47 : m_dn M_90 47 (.iconst 0) 1 48 := by decide +kernel
theorem d_90_48 : m_dn M_90 48 (.ireturn) 1 49 := by decide +kernel
theorem d_90_5 : m_dn M_90 5 (.if_icmp .eq 11) 3 8 := by decide +kernel
theorem d_90_8 : m_dn M_90 8 (.iload_n 2) 1 9 := by decide +kernel
theorem d_90_9 : m_dn M_90 9 (.aload_n 0) 1 10 := by decide +kernel
theorem d_91_0 : m_dn M_91 0 (.aload_n 0) 1 1 := by decide +kernel
theorem d_91_1 : m_dn M_91 1 (.getfield 7) 3 4 := by decide +kernel
theorem d_91_11 : m_dn M_91 11 (.aload_n 0) 1 12 := by decide +kernel
theorem d_91_12 : m_dn M_91 12 (.getfield 13) 3 15 := by decide +kernel
theorem d_91_15 : m_dn M_91 15 (.ireturn) 1 16 := by decide +kernel
theorem d_91_4 : m_dn M_91 4 (.ifCond .eq 7) 3 7 := by decide +kernel
theorem d_91_7 : m_dn M_91 7 (.iconst 0) 1 8 := by decide +kernel
theorem d_91_8 : m_dn M_91 8 (.goto 7) 3 11 := by decide +kernel
theorem d_92_0 : m_dn M_92 0 (.aload_n 0) 1 1 := by decide +kernel
theorem d_92_1 : m_dn M_92 1 (.aload_n 1) 1 2 := by decide +kernel
theorem d_92_10 : m_dn M_92 10 (.aload_n 0) 1 11 := by decide +kernel
theorem d_92_11 : m_dn M_92 11 (.getfield 18) 3 14 := by decide +kernel
theorem d_92_14 : m_dn M_92 14 (.aload_n 1) 1 15 := by decide +kernel
theorem d_92_15 : m_dn M_92 15 (.invokevirtual 95) 3 18 := by decide +kernel
theorem d_92_18 : m_dn M_92 18 (.pop) 1 19 := by decide +kernel
theorem d_92_19 : m_dn M_92 19 (.aload_n 0) 1 20 := by decide +kernel
theorem d_92_2 : m_dn M_92 2 (.invokevirtual 102) 3 5 := by decide +kernel
theorem d_92_20 : m_dn M_92 20 (.invokevirtual 99) 3 23 := by decide +kernel
theorem d_92_23 : m_dn M_92 23 (.return_) 1 24 := by decide +kernel
theorem d_92_5 : m_dn M_92 5 (.aload_n 1) 1 6 := by decide +kernel
theorem d_92_6 : m_dn M_92 6 (.iconst 1) 1 7 := by decide +kernel
theorem d_92_7 : m_dn M_92 7 (.putfield 71) 3 10 := by decide +kernel
theorem d_93_0 : m_dn M_93 0 (.aload_n 0) 1 1 := by decide +kernel
theorem d_93_1 : m_dn M_93 1 (.aload_n 1) 1 2 := by decide +kernel
theorem d_93_11 : m_dn M_93 11 (.return_) 1 12 := by decide +kernel
theorem d_93_12 : m_dn M_93 12 (.aload_n 1) 1 13 := by decide +kernel
theorem d_93_13 : m_dn M_93 13 (.getfield 71) 3 16 := by decide +kernel
theorem d_93_16 : m_dn M_93 16 (.ifCond .eq 15) 3 19 := by decide +kernel
theorem d_93_19 : m_dn M_93 19 (.aload_n 0) 1 20 := by decide +kernel
theorem d_93_2 : m_dn M_93 2 (.invokevirtual 75) 3 5 := by decide +kernel
theorem d_93_20 : m_dn M_93 20 (.getfield 18) 3 23 := by decide +kernel
theorem d_93_23 : m_dn M_93 23 (.iload_n 2) 1 24 := by decide +kernel
theorem d_93_24 : m_dn M_93 24 (.invokevirtual 38) 3 27 := by decide +kernel
theorem d_93_27 : m_dn M_93 27 (.pop) 1 28 := by decide +kernel
theorem d_93_28 : m_dn M_93 28 (.goto 12) 3 31 := by decide +kernel
theorem d_93_31 : m_dn M_93 31 (.aload_n 0) 1 32 := by decide +kernel
theorem d_93_32 : m_dn M_93 32 (.getfield 12) 3 35 := by decide +kernel
theorem d_93_35 : m_dn M_93 35 (.iload_n 2) 1 36 := by decide +kernel
theorem d_93_36 : m_dn M_93 36 (.invokevirtual 38) 3 39 := by decide +kernel
theorem d_93_39 : m_dn M_93 39 (.pop) 1 40 := by decide +kernel
theorem d_93_40 : m_dn M_93 40 (.return_) 1 41 := by decide +kernel
theorem d_93_5 : m_dn M_93 5 (.istore_n 2) 1 6 := by decide +kernel
theorem d_93_6 : m_dn M_93 6 (.iload_n 2) 1 7 := by decide +kernel
theorem d_93_7 : m_dn M_93 7 (.iconst (-1)) 1 8 := by decide +kernel
theorem d_93_8 : m_dn M_93 8 (.if_icmp .ne 4) 3 11 := by decide +kernel
theorem d_94_0 : m_dn M_94 0 (.aload_n 1) 1 1 := by decide +kernel
theorem d_94_1 : m_dn M_94 1 (.getfield 71) 3 4 := by decide +kernel
theorem d_94_11 : m_dn M_94 11 (.goto 7) 3 14 := by decide +kernel
theorem d_94_14 : m_dn M_94 14 (.aload_n 0) 1 15 := by decide +kernel
theorem d_94_15 : m_dn M_94 15 (.getfield 12) 3 18 := by decide +kernel
theorem d_94_18 : m_dn M_94 18 (.astore_n 2) 1 19 := by decide +kernel
theorem d_94_19 : m_dn M_94 19 (.iconst 0) 1 20 := by decide +kernel
theorem d_94_20 : m_dn M_94 20 (.istore_n 3) 1 21 := by decide +kernel
theorem d_94_21 : m_dn M_94 21 (.iload_n 3) 1 22 := by decide +kernel
theorem d_94_22 : m_dn M_94 22 (.aload_n 2) 1 23 := by decide +kernel
theorem d_94_23 : m_dn M_94 23 (.invokevirtual 25) 3 26 := by decide +kernel
theorem d_94_26 : m_dn M_94 26 (.if_icmp .ge 20) 3 29 := by decide +kernel
theorem d_94_29 : m_dn M_94 29 (.aload_n 2) 1 30 := by decide +kernel
theorem d_94_30 : m_dn M_94 30 (.iload_n 3) 1 31 := by decide +kernel
theorem d_94_31 : m_dn M_94 31 (.invokevirtual 32) 3 34 := by decide +kernel
theorem d_94_34 : m_dn M_94 34 (.aload_n 1) 1 35 := by decide +kernel
theorem d_94_35 : m_dn M_94 35 (.if_acmp .ne 5) 3 38 := by decide +kernel
theorem d_94_38 : m_dn M_94 38 (.iload_n 3) 1 39 := by decide +kernel
theorem d_94_39 : m_dn M_94 39 (.ireturn) 1 40 := by decide +kernel
theorem d_94_4 : m_dn M_94 4 (.ifCond .eq 10) 3 7 := by decide +kernel
theorem d_94_40 : m_dn M_94 40 (.iinc 3 1) 3 43 := by decide +kernel
theorem d_94_43 : m_dn M_94 43 (.goto (-22)) 3 46 := by decide +kernel
theorem d_94_46 : m_dn M_94 46 (.iconst (-1)) 1 47 := by decide +kernel
theorem d_94_47 : m_dn M_94 47 (.ireturn) 1 48 := by decide +kernel
theorem d_94_7 : m_dn M_94 7 (.aload_n 0) 1 8 := by decide +kernel
theorem d_94_8 : m_dn M_94 8 (.getfield 18) 3 11 := by decide +kernel
theorem d_97_0 : m_dn M_97 0 (.aload_n 0) 1 1 := by decide +kernel
theorem d_97_1 : m_dn M_97 1 (.aload_n 0) 1 2 := by decide +kernel
theorem d_97_10 : m_dn M_97 10 (.aload_n 0) 1 11 := by decide +kernel
theorem d_97_101 : m_dn M_97 101 (.aload_n 0) 1 102 := by decide +kernel
theorem d_97_102 : m_dn M_97 102 (.getfield 18) 3 105 := by decide +kernel
theorem d_97_105 : m_dn M_97 105 (.iconst 0) 1 106 := by decide +kernel
theorem d_97_106 : m_dn M_97 106 (.invokevirtual 38) 3 109 := by decide +kernel
theorem d_97_109 : m_dn M_97 109 (.checkcast 36) 3 112 := by decide +kernel
theorem d_97_11 : m_dn M_97 11 (.aload_n 0) 1 12 := by decide +kernel
theorem d_97_112 : m_dn M_97 112 (.goto 14) 3 115 := by decide +kernel
theorem d_97_115 : m_dn M_97 115 (.aload_n 0) 1 116 := by decide +kernel
theorem d_97_116 : m_dn M_97 116 (.getfield 12) 3 119 := by decide +kernel
theorem d_97_119 : m_dn M_97 119 (.iconst 0) 1 120 := by decide +kernel
theorem d_97_12 : m_dn M_97 12 (.getfield 12) 3 15 := by decide +kernel
theorem d_97_120 : m_dn M_97 120 (.invokevirtual 38) 3 123 := by decide +kernel
theorem d_97_123 : m_dn M_97 123 (.checkcast 36) 3 126 := by decide +kernel
theorem d_97_126 : m_dn M_97 126 (.astore_n 3) 1 127 := by decide +kernel
theorem d_97_127 : m_dn M_97 127 (.iload_n 2) 1 128 := by decide +kernel
theorem d_97_128 : m_dn M_97 128 (.aload_n 3) 1 129 := by decide +kernel
theorem d_97_129 : m_dn M_97 129 (.invokevirtual 105) 3 132 := by decide +kernel
theorem d_97_132 : m_dn M_97 132 (.isub) 1 133 := by decide +kernel
theorem d_97_133 : m_dn M_97 133 (.istore_n 2) 1 134 := by decide +kernel
theorem d_97_134 : m_dn M_97 134 (.goto (-58)) 3 137 := by decide +kernel
theorem d_97_137 : m_dn M_97 137 (.return_) 1 138 := by decide +kernel
theorem d_97_15 : m_dn M_97 15 (.invokevirtual 106) 3 18 := by decide +kernel
theorem d_97_18 : m_dn M_97 18 (.iadd) 1 19 := by decide +kernel
theorem d_97_19 : m_dn M_97 19 (.istore_n 2) 1 20 := by decide +kernel
theorem d_97_2 : m_dn M_97 2 (.getfield 18) 3 5 := by decide +kernel
theorem d_97_20 : m_dn M_97 20 (.aload_n 0) 1 21 := by decide +kernel
theorem d_97_21 : m_dn M_97 21 (.getfield 18) 3 24 := by decide +kernel
theorem d_97_24 : m_dn M_97 24 (.invokevirtual 110) 3 27 := by decide +kernel
theorem d_97_27 : m_dn M_97 27 (.ifCond .ne 49) 3 30 := by decide +kernel
theorem d_97_30 : m_dn M_97 30 (.iload_n 1) 1 31 := by decide +kernel
theorem d_97_31 : m_dn M_97 31 (.aload_n 0) 1 32 := by decide +kernel
theorem d_97_32 : m_dn M_97 32 (.getfield 21) 3 35 := by decide +kernel
theorem d_97_35 : m_dn M_97 35 (.iconst 1) 1 36 := by decide +kernel
theorem d_97_36 : m_dn M_97 36 (.ishr) 1 37 := by decide +kernel
theorem d_97_37 : m_dn M_97 37 (.if_icmp .le 39) 3 40 := by decide +kernel
theorem d_97_40 : m_dn M_97 40 (.aload_n 0) 1 41 := by decide +kernel
theorem d_97_41 : m_dn M_97 41 (.getfield 18) 3 44 := by decide +kernel
theorem d_97_44 : m_dn M_97 44 (.iconst 0) 1 45 := by decide +kernel
theorem d_97_45 : m_dn M_97 45 (.invokevirtual 38) 3 48 := by decide +kernel
theorem d_97_48 : m_dn M_97 48 (.checkcast 36) 3 51 := by decide +kernel
theorem d_97_5 : m_dn M_97 5 (.invokevirtual 106) 3 8 := by decide +kernel
theorem d_97_51 : m_dn M_97 51 (.astore_n 3) 1 52 := by decide +kernel
theorem d_97_52 : m_dn M_97 52 (.iload_n 1) 1 53 := by decide +kernel
theorem d_97_53 : m_dn M_97 53 (.aload_n 3) 1 54 := by decide +kernel
theorem d_97_54 : m_dn M_97 54 (.invokevirtual 105) 3 57 := by decide +kernel
theorem d_97_57 : m_dn M_97 57 (.isub) 1 58 := by decide +kernel
theorem d_97_58 : m_dn M_97 58 (.istore_n 1) 1 59 := by decide +kernel
theorem d_97_59 : m_dn M_97 59 (.aload_n 3) 1 60 := by decide +kernel
theorem d_97_60 : m_dn M_97 60 (.iconst 0) 1 61 := by decide +kernel
theorem d_97_61 : m_dn M_97 61 (.putfield 71) 3 64 := by decide +kernel
theorem d_97_64 : m_dn M_97 64 (.aload_n 0) 1 65 := by decide +kernel
theorem d_97_65 : m_dn M_97 65 (.getfield 12) 3 68 := by decide +kernel
theorem d_97_68 : m_dn M_97 68 (.aload_n 3) 1 69 := by decide +kernel
theorem d_97_69 : m_dn M_97 69 (.invokevirtual 95) 3 72 := by decide +kernel
theorem d_97_72 : m_dn M_97 72 (.pop) 1 73 := by decide +kernel
theorem d_97_73 : m_dn M_97 73 (.goto (-53)) 3 76 := by decide +kernel
theorem d_97_76 : m_dn M_97 76 (.aload_n 0) 1 77 := by decide +kernel
theorem d_97_77 : m_dn M_97 77 (.invokevirtual 29) 3 80 := by decide +kernel
theorem d_97_8 : m_dn M_97 8 (.istore_n 1) 1 9 := by decide +kernel
theorem d_97_80 : m_dn M_97 80 (.ifCond .le 57) 3 83 := by decide +kernel
theorem d_97_83 : m_dn M_97 83 (.iload_n 2) 1 84 := by decide +kernel
theorem d_97_84 : m_dn M_97 84 (.aload_n 0) 1 85 := by decide +kernel
theorem d_97_85 : m_dn M_97 85 (.getfield 21) 3 88 := by decide +kernel
theorem d_97_88 : m_dn M_97 88 (.if_icmp .le 49) 3 91 := by decide +kernel
theorem d_97_9 : m_dn M_97 9 (.iload_n 1) 1 10 := by decide +kernel
theorem d_97_91 : m_dn M_97 91 (.aload_n 0) 1 92 := by decide +kernel
theorem d_97_92 : m_dn M_97 92 (.getfield 12) 3 95 := by decide +kernel
theorem d_97_95 : m_dn M_97 95 (.invokevirtual 110) 3 98 := by decide +kernel
theorem d_97_98 : m_dn M_97 98 (.ifCond .eq 17) 3 101 := by decide +kernel
theorem d_98_0 : m_dn M_98 0 (.iconst 0) 1 1 := by decide +kernel
theorem d_98_1 : m_dn M_98 1 (.istore_n 2) 1 2 := by decide +kernel
theorem d_98_12 : m_dn M_98 12 (.iload_n 2) 1 13 := by decide +kernel
theorem d_98_13 : m_dn M_98 13 (.aload_n 1) 1 14 := by decide +kernel
theorem d_98_14 : m_dn M_98 14 (.iload_n 3) 1 15 := by decide +kernel
theorem d_98_15 : m_dn M_98 15 (.invokevirtual 32) 3 18 := by decide +kernel
theorem d_98_18 : m_dn M_98 18 (.checkcast 36) 3 21 := by decide +kernel
theorem d_98_2 : m_dn M_98 2 (.iconst 0) 1 3 := by decide +kernel
theorem d_98_21 : m_dn M_98 21 (.invokevirtual 105) 3 24 := by decide +kernel
theorem d_98_24 : m_dn M_98 24 (.iadd) 1 25 := by decide +kernel
theorem d_98_25 : m_dn M_98 25 (.istore_n 2) 1 26 := by decide +kernel
theorem d_98_26 : m_dn M_98 26 (.iinc 3 1) 3 29 := by decide +kernel
theorem d_98_29 : m_dn M_98 29 (.goto (-25)) 3 32 := by decide +kernel
theorem d_98_3 : m_dn M_98 3 (.istore_n 3) 1 4 := by decide +kernel
theorem d_98_32 : m_dn M_98 32 (.iload_n 2) 1 33 := by decide +kernel
theorem d_98_33 : m_dn M_98 33 (.ireturn) 1 34 := by decide +kernel
theorem d_98_4 : m_dn M_98 4 (.iload_n 3) 1 5 := by decide +kernel
theorem d_98_5 : m_dn M_98 5 (.aload_n 1) 1 6 := by decide +kernel
theorem d_98_6 : m_dn M_98 6 (.invokevirtual 25) 3 9 := by decide +kernel
theorem d_98_9 : m_dn M_98 9 (.if_icmp .ge 23) 3 12 := by decide +kernel
theorem d_99_0 : m_dn M_99 0 (.bipush 16) 2 2 := by decide +kernel
theorem d_99_11 : m_dn M_99 11 (.imul) 1 12 := by decide +kernel
theorem d_99_12 : m_dn M_99 12 (.iadd) 1 13 := by decide +kernel
theorem d_99_13 : m_dn M_99 13 (.ireturn) 1 14 := by decide +kernel
theorem d_99_2 : m_dn M_99 2 (.bipush 16) 2 4 := by decide +kernel
theorem d_99_4 : m_dn M_99 4 (.aload_n 0) 1 5 := by decide +kernel
theorem d_99_5 : m_dn M_99 5 (.getfield 68) 3 8 := by decide +kernel
theorem d_99_8 : m_dn M_99 8 (.invokestatic 71) 3 11 := by decide +kernel
def D_c_Reader_heaviestLanguage_26 (F : Nat) (rec4 : Nat → Int32 → Int32 → tT → Option (Int32)) (x0 : Nat) (x1 : Int32) (x2 : Int32) (T0 : tT) : Option (Int32) := rec4 x0 x1 (x2 + Int32.ofInt 1) T0
theorem T_c_Reader_heaviestLanguage_26 {l : Launch} {w0 : List mM} {F : Nat} {T0 : tT} {rec4 : Nat → Int32 → Int32 → tT → Option (Int32)} (hr4 : ∀ {x0 : Nat} {x1 : Int32} {x2 : Int32} {w : List mM} {yz : Int32}, okr T0.2.1 (some x0) → RT T0 w → m_Fm w0 w → rec4 x0 x1 x2 T0 = some yz → m_Rb l M_58 (4, [(0, .ref x0), (1, .int x1), (2, .int x2)], [], w) (fun v w' => v = some (.int yz) ∧ RT T0 w' ∧ m_Fm w0 w') T0 T0 0 0) {x0 : Nat} {x1 : Int32} {x2 : Int32} {w : List mM} {yz : Int32} (hx0 : okr T0.2.1 (some x0)) (h : RT T0 w) (hF : m_Fm w0 w) (h0 : D_c_Reader_heaviestLanguage_26 F rec4 x0 x1 x2 T0 = some yz) : m_Rb l M_58 (26, [(0, .ref x0), (1, .int x1), (2, .int x2)], [], w) (fun v w' => v = some (.int yz) ∧ RT T0 w' ∧ m_Fm w0 w') T0 T0 0 0 := by
  rw [D_c_Reader_heaviestLanguage_26] at h0
  refine m_Rb.n0 b_58 (x_iinc d_58_26 rfl rfl rfl (show m_put1 _ _ _ = [(2, _), (0, _), (1, _)] from rfl)) ?_
  refine m_Rb.n0 b_58 (x_goto d_58_29 rfl) ?_
  exact m_Rb.pick [1, 2, 0] rfl (hr4 hx0 h hF h0)
def D_c_Reader_heaviestLanguage_4 (F : Nat) : Nat → Nat → Int32 → Int32 → tT → Option (Int32)
  | 0, _, _, _, _ => none
  | n + 1, x0, x1, x2, T0 => cond (m_c2 .ge x2 (4 : Int32)) (some x1) ((tgr T0 x0 1 12).bind fun v3 => (v3).bind fun a7 => (tai T0 a7 0 x2).bind fun v10 => (tgr T0 x0 1 12).bind fun v13 => (v13).bind fun a17 => (tai T0 a17 0 x1).bind fun v20 => cond (m_c2 .le v10 v20) (D_c_Reader_heaviestLanguage_26 F (D_c_Reader_heaviestLanguage_4 F n) x0 x1 x2 T0) (D_c_Reader_heaviestLanguage_26 F (D_c_Reader_heaviestLanguage_4 F n) x0 x2 x2 T0))
theorem T_c_Reader_heaviestLanguage_4 {l : Launch} {w0 : List mM} {F : Nat} {T0 : tT} : ∀ (n : Nat) {x0 : Nat} {x1 : Int32} {x2 : Int32} {w : List mM} {yz : Int32}, okr T0.2.1 (some x0) → RT T0 w → m_Fm w0 w → D_c_Reader_heaviestLanguage_4 F n x0 x1 x2 T0 = some yz → m_Rb l M_58 (4, [(0, .ref x0), (1, .int x1), (2, .int x2)], [], w) (fun v w' => v = some (.int yz) ∧ RT T0 w' ∧ m_Fm w0 w') T0 T0 0 0 := by
  intro n
  induction n with
  | zero => intro x0 x1 x2 w yz hx0 h hF h0; cases h0
  | succ n ih =>
    intro x0 x1 x2 w yz hx0 h hF h0
    rw [D_c_Reader_heaviestLanguage_4] at h0
    refine m_Rb.n0 b_58 (x_iload_n d_58_4 rfl) ?_
    refine m_Rb.n0 b_58 (x_iconst (z := 4) d_58_5 (by decide)) ?_
    cases hc1 : m_c2 .ge x2 (4 : Int32) with
    | true =>
      have j2 := cT hc1 h0
      refine m_Rb.n0 b_58 (x_ict d_58_6 rfl hc1) ?_
      refine m_Rb.n0 b_58 (x_iload_n d_58_32 rfl) ?_
      cases j2
      exact m_Rb.ret b_58 (m_rt_ir d_58_33 rfl rfl) ⟨rfl, h, hF⟩
    | false =>
      have j2 := cF hc1 h0
      refine m_Rb.n0 b_58 (x_icf d_58_6 rfl hc1) ?_
      refine m_Rb.n0 b_58 (x_aload_n d_58_9 rfl) ?_
      obtain ⟨v3, e4, j5⟩ := bS j2
      refine m_Rb.tgetR b_58 d_58_10 rfl h e4 (fun o6 => ?_)
      refine m_Rb.n0 b_58 (x_iload_n d_58_13 rfl) ?_
      obtain ⟨a7, e8, j9⟩ := bS j5
      subst e8
      obtain ⟨v10, e11, j12⟩ := bS j9
      refine m_Rb.tgetA b_58 d_58_14 h e11 ?_
      refine m_Rb.n0 b_58 (x_aload_n d_58_15 rfl) ?_
      obtain ⟨v13, e14, j15⟩ := bS j12
      refine m_Rb.tgetR b_58 d_58_16 rfl h e14 (fun o16 => ?_)
      refine m_Rb.n0 b_58 (x_iload_n d_58_19 rfl) ?_
      obtain ⟨a17, e18, j19⟩ := bS j15
      subst e18
      obtain ⟨v20, e21, j22⟩ := bS j19
      refine m_Rb.tgetA b_58 d_58_20 h e21 ?_
      cases hc27 : m_c2 .le v10 v20 with
      | true =>
        have j28 := cT hc27 j22
        refine m_Rb.n0 b_58 (x_ict d_58_21 rfl hc27) ?_
        exact m_Rb.pick [0, 1, 2] rfl (T_c_Reader_heaviestLanguage_26 ih hx0 h hF j28)
      | false =>
        have j28 := cF hc27 j22
        refine m_Rb.n0 b_58 (x_icf d_58_21 rfl hc27) ?_
        refine m_Rb.n0 b_58 (x_iload_n d_58_24 rfl) ?_
        refine m_Rb.n0 b_58 (x_istore_n d_58_25 rfl (show m_put1 _ _ _ = [(1, _), (0, _), (2, _)] from rfl)) ?_
        exact m_Rb.pick [1, 0, 2] rfl (T_c_Reader_heaviestLanguage_26 ih hx0 h hF j28)
def D_c_Reader_heaviestLanguage (F : Nat) (a0 : Nat) (T0 : tT) : Option (Int32) := D_c_Reader_heaviestLanguage_4 F F a0 (0 : Int32) (1 : Int32) T0
theorem T_c_Reader_heaviestLanguage {l : Launch} {w : List mM} {F : Nat} {a0 : Nat} {T0 : tT} {yz : Int32} (ha0 : okr T0.2.1 (some a0)) (h : RT T0 w) (h0 : D_c_Reader_heaviestLanguage F a0 T0 = some yz) : m_Rb l M_58 (m_ent M_58 [.ref a0] w) (fun v w' => v = some (.int yz) ∧ RT T0 w' ∧ m_Fm w w') T0 T0 0 0 := by
  rw [show m_ent M_58 [.ref a0] w = (0, [(0, .ref a0)], [], w) from by first | rfl | (simp only [m_ent, lv_args_r, lv_args_a, lv_args_i, lv_args_l, lv_args_0]; done) | (simp only [m_ent, lv_args_r, lv_args_a, lv_args_i, lv_args_l, lv_args_0]; rfl)]
  generalize hw0 : w = w0 at h ⊢
  have hF : m_Fm w0 w0 := m_Fm.refl
  rw [D_c_Reader_heaviestLanguage] at h0
  refine m_Rb.n0 b_58 (x_iconst (z := 0) d_58_0 (by decide)) ?_
  refine m_Rb.n0 b_58 (x_istore_n d_58_1 rfl (show m_put1 _ _ _ = [(1, _), (0, _)] from rfl)) ?_
  refine m_Rb.n0 b_58 (x_iconst (z := 1) d_58_2 (by decide)) ?_
  refine m_Rb.n0 b_58 (x_istore_n d_58_3 rfl (show m_put1 _ _ _ = [(2, _), (1, _), (0, _)] from rfl)) ?_
  exact m_Rb.pick [2, 1, 0] rfl (T_c_Reader_heaviestLanguage_4 F ha0 h hF h0)
def D_c_Request_chooseBlocks (F : Nat) (a0 : Nat) (T : tT) : Option (tT) := (tgr T a0 6 13).bind fun v1 => nc v1 (some T) fun a5 => ((tgr T a0 6 13).bind fun v7 => (v7).bind fun a11 => (tgi T a11 7 1).bind fun v14 => cond (m_c2 .ne v14 (1 : Int32)) (some T) ((tgr T a0 6 13).bind fun v23 => (v23).bind fun a27 => (tgi T a27 7 7).bind fun v30 => cond (m_c2 .ne v30 ((-1) : Int32)) (some T) ((tgr T a0 6 13).bind fun v39 => (v39).bind fun a43 => (tgi T a43 7 2).bind fun v46 => (tpi T a0 6 4 ((if (255 : Int32) < v46 then (255 : Int32) else v46) >>> ((4 : Int32) &&& 31))).bind fun T49 => (tgr T49 a0 6 13).bind fun v53 => (v53).bind fun a57 => (tgi T49 a57 7 3).bind fun v60 => (tpi T49 a0 6 5 ((if (255 : Int32) < v60 then (255 : Int32) else v60) >>> ((4 : Int32) &&& 31))).bind fun T63 => some T63)))
theorem T_c_Request_chooseBlocks {l : Launch} {w : List mM} {F : Nat} {a0 : Nat} {T : tT} {Tz : tT} (ha0 : okr T.2.1 (some a0)) (h : RT T w) (h0 : D_c_Request_chooseBlocks F a0 T = some Tz) : m_Rb l M_59 (m_ent M_59 [.ref a0] w) (fun v w' => v = none ∧ RT Tz w' ∧ m_Fm w w') T Tz 1 100 := by
  rw [show m_ent M_59 [.ref a0] w = (0, [(0, .ref a0)], [], w) from by first | rfl | (simp only [m_ent, lv_args_r, lv_args_a, lv_args_i, lv_args_l, lv_args_0]; done) | (simp only [m_ent, lv_args_r, lv_args_a, lv_args_i, lv_args_l, lv_args_0]; rfl)]
  generalize hw0 : w = w0 at h ⊢
  have hF : m_Fm w0 w0 := m_Fm.refl
  rw [D_c_Request_chooseBlocks] at h0
  refine m_Rb.n0 b_59 (x_aload_n d_59_0 rfl) ?_
  obtain ⟨v1, e2, j3⟩ := bS h0
  refine m_Rb.tgetR b_59 d_59_1 rfl h e2 (fun o4 => ?_)
  cases v1 with
  | none =>
    have j6 := nN j3
    refine m_Rb.n0 b_59 (x_ifnull0 d_59_4 rfl) ?_
    cases j6
    exact m_Rb.ret b_59 (m_rt_vr d_59_67 rfl) ⟨rfl, h, hF⟩
  | some a5 =>
    have j6 := nS j3
    refine m_Rb.n0 b_59 (x_ifnull1 d_59_4 rfl) ?_
    refine m_Rb.n0 b_59 (x_aload_n d_59_7 rfl) ?_
    obtain ⟨v7, e8, j9⟩ := bS j6
    refine m_Rb.tgetR b_59 d_59_8 rfl h e8 (fun o10 => ?_)
    obtain ⟨a11, e12, j13⟩ := bS j9
    subst e12
    obtain ⟨v14, e15, j16⟩ := bS j13
    refine m_Rb.tgetI b_59 d_59_11 rfl h e15 ?_
    refine m_Rb.n0 b_59 (x_iconst (z := 1) d_59_14 (by decide)) ?_
    cases hc21 : m_c2 .ne v14 (1 : Int32) with
    | true =>
      have j22 := cT hc21 j16
      refine m_Rb.n0 b_59 (x_ict d_59_15 rfl hc21) ?_
      cases j22
      exact m_Rb.ret b_59 (m_rt_vr d_59_67 rfl) ⟨rfl, h, hF⟩
    | false =>
      have j22 := cF hc21 j16
      refine m_Rb.n0 b_59 (x_icf d_59_15 rfl hc21) ?_
      refine m_Rb.n0 b_59 (x_aload_n d_59_18 rfl) ?_
      obtain ⟨v23, e24, j25⟩ := bS j22
      refine m_Rb.tgetR b_59 d_59_19 rfl h e24 (fun o26 => ?_)
      obtain ⟨a27, e28, j29⟩ := bS j25
      subst e28
      obtain ⟨v30, e31, j32⟩ := bS j29
      refine m_Rb.tgetI b_59 d_59_22 rfl h e31 ?_
      refine m_Rb.n0 b_59 (x_iconst (z := (-1)) d_59_25 (by decide)) ?_
      cases hc37 : m_c2 .ne v30 ((-1) : Int32) with
      | true =>
        have j38 := cT hc37 j32
        refine m_Rb.n0 b_59 (x_ict d_59_26 rfl hc37) ?_
        cases j38
        exact m_Rb.ret b_59 (m_rt_vr d_59_67 rfl) ⟨rfl, h, hF⟩
      | false =>
        have j38 := cF hc37 j32
        refine m_Rb.n0 b_59 (x_icf d_59_26 rfl hc37) ?_
        refine m_Rb.n0 b_59 (x_aload_n d_59_29 rfl) ?_
        refine m_Rb.n0 b_59 (x_aload_n d_59_30 rfl) ?_
        obtain ⟨v39, e40, j41⟩ := bS j38
        refine m_Rb.tgetR b_59 d_59_31 rfl h e40 (fun o42 => ?_)
        obtain ⟨a43, e44, j45⟩ := bS j41
        subst e44
        obtain ⟨v46, e47, j48⟩ := bS j45
        refine m_Rb.tgetI b_59 d_59_34 rfl h e47 ?_
        refine m_Rb.n0 b_59 (x_sipush (z := 255) d_59_37 (by decide)) ?_
        refine m_Rb.nz b_59 (x_min d_59_40 rfl (catL (Nat.le_of_ble_eq_true rfl)) rfl) ?_ (by decide) (by decide)
        refine m_Rb.n0 b_59 (x_iconst (z := 4) d_59_43 (by decide)) ?_
        refine m_Rb.n0 b_59 (x_ishr d_59_44 rfl) ?_
        obtain ⟨T49, e50, j51⟩ := bS j48
        refine m_Rb.tputI b_59 d_59_45 rfl rfl (by decide) h hF e50 (fun w52 h52 f52 k52 => ?_)
        refine m_Rb.n0 b_59 (x_aload_n d_59_48 rfl) ?_
        refine m_Rb.n0 b_59 (x_aload_n d_59_49 rfl) ?_
        obtain ⟨v53, e54, j55⟩ := bS j51
        refine m_Rb.tgetR b_59 d_59_50 rfl h52 e54 (fun o56 => ?_)
        obtain ⟨a57, e58, j59⟩ := bS j55
        subst e58
        obtain ⟨v60, e61, j62⟩ := bS j59
        refine m_Rb.tgetI b_59 d_59_53 rfl h52 e61 ?_
        refine m_Rb.n0 b_59 (x_sipush (z := 255) d_59_56 (by decide)) ?_
        refine m_Rb.nz b_59 (x_min d_59_59 rfl (catL (Nat.le_of_ble_eq_true rfl)) rfl) ?_ (by decide) (by decide)
        refine m_Rb.n0 b_59 (x_iconst (z := 4) d_59_62 (by decide)) ?_
        refine m_Rb.n0 b_59 (x_ishr d_59_63 rfl) ?_
        obtain ⟨T63, e64, j65⟩ := bS j62
        refine m_Rb.tputI b_59 d_59_64 rfl rfl (by decide) h52 f52 e64 (fun w66 h66 f66 k66 => ?_)
        cases j65
        exact m_Rb.ret b_59 (m_rt_vr d_59_67 rfl) ⟨rfl, h66, f66⟩
def D_c_Reader_readRequest_135 (F : Nat) (rec87 : Nat → Int32 → Int32 → tT → Option (Option Nat × tT)) (x0 : Nat) (x2 : Int32) (y0 : Int32) (T : tT) : Option (Option Nat × tT) := rec87 x0 y0 (x2 + Int32.ofInt 1) T
theorem T_c_Reader_readRequest_135 {l : Launch} {w0 : List mM} {F : Nat} {rec87 : Nat → Int32 → Int32 → tT → Option (Option Nat × tT)} (hr87 : ∀ {x0 : Nat} {x1 : Int32} {x2 : Int32} {T : tT} {w : List mM} {yz : Option Nat} {Tz : tT}, okr T.2.1 (some x0) → RT T w → m_Fm w0 w → rec87 x0 x1 x2 T = some (yz, Tz) → m_Rb l M_18 (87, [(0, .ref x0), (1, .int x1), (2, .int x2)], [], w) (fun v w' => v = some (rv yz) ∧ okr Tz.2.1 yz ∧ RT Tz w' ∧ m_Fm w0 w') T Tz 8 800) {x0 : Nat} {x2 : Int32} {y0 : Int32} {T : tT} {w : List mM} {yz : Option Nat} {Tz : tT} (hx0 : okr T.2.1 (some x0)) (h : RT T w) (hF : m_Fm w0 w) (h0 : D_c_Reader_readRequest_135 F rec87 x0 x2 y0 T = some (yz, Tz)) : m_Rb l M_18 (135, [(0, .ref x0), (2, .int x2)], [.int y0], w) (fun v w' => v = some (rv yz) ∧ okr Tz.2.1 yz ∧ RT Tz w' ∧ m_Fm w0 w') T Tz 8 800 := by
  rw [D_c_Reader_readRequest_135] at h0
  refine m_Rb.n0 b_18 (x_istore_n d_18_135 rfl (show m_put1 _ _ _ = [(1, _), (0, _), (2, _)] from rfl)) ?_
  refine m_Rb.n0 b_18 (x_iinc d_18_136 rfl rfl rfl (show m_put1 _ _ _ = [(2, _), (1, _), (0, _)] from rfl)) ?_
  refine m_Rb.n0 b_18 (x_goto d_18_139 rfl) ?_
  exact m_Rb.pick [2, 1, 0] rfl (hr87 hx0 h hF h0)
def D_c_Reader_readRequest_134 (F : Nat) (rec87 : Nat → Int32 → Int32 → tT → Option (Option Nat × tT)) (x0 : Nat) (x2 : Int32) (T : tT) : Option (Option Nat × tT) := D_c_Reader_readRequest_135 F rec87 x0 x2 (0 : Int32) T
theorem T_c_Reader_readRequest_134 {l : Launch} {w0 : List mM} {F : Nat} {rec87 : Nat → Int32 → Int32 → tT → Option (Option Nat × tT)} (hr87 : ∀ {x0 : Nat} {x1 : Int32} {x2 : Int32} {T : tT} {w : List mM} {yz : Option Nat} {Tz : tT}, okr T.2.1 (some x0) → RT T w → m_Fm w0 w → rec87 x0 x1 x2 T = some (yz, Tz) → m_Rb l M_18 (87, [(0, .ref x0), (1, .int x1), (2, .int x2)], [], w) (fun v w' => v = some (rv yz) ∧ okr Tz.2.1 yz ∧ RT Tz w' ∧ m_Fm w0 w') T Tz 8 800) {x0 : Nat} {x2 : Int32} {T : tT} {w : List mM} {yz : Option Nat} {Tz : tT} (hx0 : okr T.2.1 (some x0)) (h : RT T w) (hF : m_Fm w0 w) (h0 : D_c_Reader_readRequest_134 F rec87 x0 x2 T = some (yz, Tz)) : m_Rb l M_18 (134, [(0, .ref x0), (2, .int x2)], [], w) (fun v w' => v = some (rv yz) ∧ okr Tz.2.1 yz ∧ RT Tz w' ∧ m_Fm w0 w') T Tz 8 800 := by
  rw [D_c_Reader_readRequest_134] at h0
  refine m_Rb.n0 b_18 (x_iconst (z := 0) d_18_134 (by decide)) ?_
  exact m_Rb.pick [0, 1] rfl (T_c_Reader_readRequest_135 hr87 hx0 h hF h0)
def D_c_Reader_readRequest_153 (F : Nat) (x0 : Nat) (T : tT) : Option (Option Nat × tT) := some (none, T)
theorem T_c_Reader_readRequest_153 {l : Launch} {w0 : List mM} {F : Nat} {x0 : Nat} {T : tT} {w : List mM} {yz : Option Nat} {Tz : tT} (hx0 : okr T.2.1 (some x0)) (h : RT T w) (hF : m_Fm w0 w) (h0 : D_c_Reader_readRequest_153 F x0 T = some (yz, Tz)) : m_Rb l M_18 (153, [(0, .ref x0)], [], w) (fun v w' => v = some (rv yz) ∧ okr Tz.2.1 yz ∧ RT Tz w' ∧ m_Fm w0 w') T Tz 8 800 := by
  rw [D_c_Reader_readRequest_153] at h0
  refine m_Rb.n0 b_18 (x_null d_18_153) ?_
  have o9 : okr T.2.1 none := okr_none
  cases h0
  exact m_Rb.ret b_18 (m_rt_rr (x := none) d_18_154 rfl) ⟨rfl, o9, h, hF⟩
def D_c_Reader_readRequest_142 (F : Nat) (x0 : Nat) (x1 : Int32) (T : tT) : Option (Option Nat × tT) := cond (m_c1 .eq x1) (D_c_Reader_readRequest_153 F x0 T) ((tcl T x0 1).bind fun _ => bd2 (D_c_Reader_readEnd F x0 T) fun v198 T199 => cond (m_c1 .ne v198) ((tgr T199 x0 1 13).bind fun v205 => (tgi T199 x0 1 10).bind fun v209 => (v205).bind fun a212 => (tpi T199 a212 6 0 v209).bind fun T215 => (tgr T215 x0 1 13).bind fun v219 => (tgi T215 x0 1 11).bind fun v223 => (v219).bind fun a226 => (tpi T215 a226 6 1 v223).bind fun T229 => (tgr T229 x0 1 13).bind fun v233 => (tcl T229 x0 1).bind fun _ => (D_c_Reader_heaviestLanguage F x0 T229).bind fun v240 => (v233).bind fun a244 => (tpi T229 a244 6 2 v240).bind fun T247 => (tgr T247 x0 1 13).bind fun v251 => (tgr T247 x0 1 14).bind fun v255 => (v251).bind fun a259 => (tpr T247 a259 6 13 v255).bind fun T262 => (tgr T262 x0 1 13).bind fun v266 => (v266).bind fun a270 => (tcl T262 a270 6).bind fun _ => (D_c_Request_chooseBlocks F a270 T262).bind fun T276 => (tgr T276 x0 1 13).bind fun v280 => some (v280, T276)) (D_c_Reader_readRequest_153 F x0 T199))
theorem T_c_Reader_readRequest_142 {l : Launch} {w0 : List mM} {F : Nat} {x0 : Nat} {x1 : Int32} {T : tT} {w : List mM} {yz : Option Nat} {Tz : tT} (hx0 : okr T.2.1 (some x0)) (h : RT T w) (hF : m_Fm w0 w) (h0 : D_c_Reader_readRequest_142 F x0 x1 T = some (yz, Tz)) : m_Rb l M_18 (142, [(0, .ref x0), (1, .int x1)], [], w) (fun v w' => v = some (rv yz) ∧ okr Tz.2.1 yz ∧ RT Tz w' ∧ m_Fm w0 w') T Tz 8 800 := by
  rw [D_c_Reader_readRequest_142] at h0
  refine m_Rb.n0 b_18 (x_iload_n d_18_142 rfl) ?_
  cases hc193 : m_c1 .eq x1 with
  | true =>
    have j194 := cT hc193 h0
    refine m_Rb.n0 b_18 (x_ift d_18_143 rfl hc193) ?_
    exact m_Rb.pick [0] rfl (T_c_Reader_readRequest_153 hx0 h hF j194)
  | false =>
    have j194 := cF hc193 h0
    refine m_Rb.n0 b_18 (x_iff d_18_143 rfl hc193) ?_
    refine m_Rb.n0 b_18 (x_aload_n d_18_146 rfl) ?_
    obtain ⟨_, e195, j196⟩ := bS j194
    obtain ⟨_, g197⟩ := RT.cls h e195
    obtain ⟨v198, T199, e200, j201⟩ := bS2 j196
    refine m_Rb.callI b_18 (y_cv d_18_147 rfl q_57 (m_isRecv_of rfl g197) (show m_takeI _ _ = some (_, [_], []) from m_takeI_of rfl rfl rfl (Nat.le_of_ble_eq_true rfl)) (by simp only [m_okf, List.all_cons, List.all_nil, Bool.and_true, Bool.and_self, m_okv_i, m_okv_l, m_okv_0, m_okv_n0, m_okv_t, RT.okn h hx0, RT.okv h hx0]) rfl) (T_c_Reader_readEnd hx0 h e200) hF rfl (fun w202 h202 f202 k202 => ?_) (by decide) (by decide)
    cases hc203 : m_c1 .ne v198 with
    | true =>
      have j204 := cT hc203 j201
      refine m_Rb.n0 b_18 (x_ift d_18_150 rfl hc203) ?_
      refine m_Rb.n0 b_18 (x_aload_n d_18_155 rfl) ?_
      obtain ⟨v205, e206, j207⟩ := bS j204
      refine m_Rb.tgetR b_18 d_18_156 rfl h202 e206 (fun o208 => ?_)
      refine m_Rb.n0 b_18 (x_aload_n d_18_159 rfl) ?_
      obtain ⟨v209, e210, j211⟩ := bS j207
      refine m_Rb.tgetI b_18 d_18_160 rfl h202 e210 ?_
      obtain ⟨a212, e213, j214⟩ := bS j211
      subst e213
      obtain ⟨T215, e216, j217⟩ := bS j214
      refine m_Rb.tputI b_18 d_18_163 rfl rfl (by decide) h202 f202 e216 (fun w218 h218 f218 k218 => ?_)
      refine m_Rb.n0 b_18 (x_aload_n d_18_166 rfl) ?_
      obtain ⟨v219, e220, j221⟩ := bS j217
      refine m_Rb.tgetR b_18 d_18_167 rfl h218 e220 (fun o222 => ?_)
      refine m_Rb.n0 b_18 (x_aload_n d_18_170 rfl) ?_
      obtain ⟨v223, e224, j225⟩ := bS j221
      refine m_Rb.tgetI b_18 d_18_171 rfl h218 e224 ?_
      obtain ⟨a226, e227, j228⟩ := bS j225
      subst e227
      obtain ⟨T229, e230, j231⟩ := bS j228
      refine m_Rb.tputI b_18 d_18_174 rfl rfl (by decide) h218 f218 e230 (fun w232 h232 f232 k232 => ?_)
      refine m_Rb.n0 b_18 (x_aload_n d_18_177 rfl) ?_
      obtain ⟨v233, e234, j235⟩ := bS j231
      refine m_Rb.tgetR b_18 d_18_178 rfl h232 e234 (fun o236 => ?_)
      refine m_Rb.n0 b_18 (x_aload_n d_18_181 rfl) ?_
      obtain ⟨_, e237, j238⟩ := bS j235
      obtain ⟨_, g239⟩ := RT.cls h232 e237
      obtain ⟨v240, e241, j242⟩ := bS j238
      refine m_Rb.callI b_18 (y_cv d_18_182 rfl q_58 (m_isRecv_of rfl g239) (show m_takeI _ _ = some (_, [_], [_]) from m_takeI_of rfl rfl rfl (Nat.le_of_ble_eq_true rfl)) (by simp only [m_okf, List.all_cons, List.all_nil, Bool.and_true, Bool.and_self, m_okv_i, m_okv_l, m_okv_0, m_okv_n0, m_okv_t, RT.okn h232 (okm (okm (okm hx0 k202) k218) k232), RT.okv h232 (okm (okm (okm hx0 k202) k218) k232), RT.okv h232 o236]) rfl) (T_c_Reader_heaviestLanguage (okm (okm (okm hx0 k202) k218) k232) h232 e241) f232 rfl (fun w243 h243 f243 k243 => ?_) (by decide) (by decide)
      obtain ⟨a244, e245, j246⟩ := bS j242
      subst e245
      obtain ⟨T247, e248, j249⟩ := bS j246
      refine m_Rb.tputI b_18 d_18_185 rfl rfl (by decide) h243 f243 e248 (fun w250 h250 f250 k250 => ?_)
      refine m_Rb.n0 b_18 (x_aload_n d_18_188 rfl) ?_
      obtain ⟨v251, e252, j253⟩ := bS j249
      refine m_Rb.tgetR b_18 d_18_189 rfl h250 e252 (fun o254 => ?_)
      refine m_Rb.n0 b_18 (x_aload_n d_18_192 rfl) ?_
      obtain ⟨v255, e256, j257⟩ := bS j253
      refine m_Rb.tgetR b_18 d_18_193 rfl h250 e256 (fun o258 => ?_)
      obtain ⟨a259, e260, j261⟩ := bS j257
      subst e260
      obtain ⟨T262, e263, j264⟩ := bS j261
      refine m_Rb.tputR (z := v255) b_18 d_18_196 rfl rfl (by decide) h250 f250 e263 o258 (fun w265 h265 f265 k265 => ?_)
      refine m_Rb.n0 b_18 (x_aload_n d_18_199 rfl) ?_
      obtain ⟨v266, e267, j268⟩ := bS j264
      refine m_Rb.tgetR b_18 d_18_200 rfl h265 e267 (fun o269 => ?_)
      obtain ⟨a270, e271, j272⟩ := bS j268
      subst e271
      obtain ⟨_, e273, j274⟩ := bS j272
      obtain ⟨_, g275⟩ := RT.cls h265 e273
      obtain ⟨T276, e277, j278⟩ := bS j274
      refine m_Rb.callV b_18 (y_cv d_18_203 rfl q_59 (m_isRecv_of rfl g275) (show m_takeI _ _ = some (_, [_], []) from m_takeI_of rfl rfl rfl (Nat.le_of_ble_eq_true rfl)) (by simp only [m_okf, List.all_cons, List.all_nil, Bool.and_true, Bool.and_self, m_okv_i, m_okv_l, m_okv_0, m_okv_n0, m_okv_t, RT.okn h265 (okm (okm (okm (okm (okm hx0 k202) k218) k232) k250) k265), RT.okv h265 (okm (okm (okm (okm (okm hx0 k202) k218) k232) k250) k265), RT.okn h265 o269, RT.okv h265 o269]) rfl) (T_c_Request_chooseBlocks o269 h265 e277) f265 rfl (fun w279 h279 f279 k279 => ?_) (by decide) (by decide)
      refine m_Rb.n0 b_18 (x_aload_n d_18_206 rfl) ?_
      obtain ⟨v280, e281, j282⟩ := bS j278
      refine m_Rb.tgetR b_18 d_18_207 rfl h279 e281 (fun o283 => ?_)
      have o9 : okr T276.2.1 v280 := o283
      cases j282
      exact m_Rb.ret b_18 (m_rt_rr d_18_210 rfl) ⟨rfl, o9, h279, f279⟩
    | false =>
      have j204 := cF hc203 j201
      refine m_Rb.n0 b_18 (x_iff d_18_150 rfl hc203) ?_
      exact m_Rb.pick [0] rfl (T_c_Reader_readRequest_153 (okm hx0 k202) h202 f202 j204)
def D_c_Reader_readRequest_87 (F : Nat) : Nat → Nat → Int32 → Int32 → tT → Option (Option Nat × tT)
  | 0, _, _, _, _ => none
  | n + 1, x0, x1, x2, T => cond (m_c2 .ge x2 (300 : Int32)) (D_c_Reader_readRequest_142 F x0 x1 T) (cond (m_c1 .eq x1) (D_c_Reader_readRequest_142 F x0 x1 T) ((tcl T x0 1).bind fun _ => (D_c_Reader_here F x0 T).bind fun v124 => cond (m_c2 .eq v124 (10 : Int32)) (D_c_Reader_readRequest_142 F x0 x1 T) ((tcl T x0 1).bind fun _ => bd2 (D_c_Reader_readName F x0 T) fun v133 T134 => cond (m_c1 .eq v133) (D_c_Reader_readRequest_134 F (D_c_Reader_readRequest_87 F n) x0 x2 T134) ((tcl T134 x0 1).bind fun _ => bd2 (D_c_Reader_readAskedValue F x0 T134) fun v157 T158 => cond (m_c1 .eq v157) (D_c_Reader_readRequest_134 F (D_c_Reader_readRequest_87 F n) x0 x2 T158) ((tcl T158 x0 1).bind fun _ => bd2 (D_c_Reader_expect F x0 (10 : Int32) T158) fun v181 T182 => (cond (m_c1 .eq v181) (some (0 : Int32)) (some (1 : Int32))).bind fun v190 => D_c_Reader_readRequest_87 F n x0 v190 (x2 + Int32.ofInt 1) T182)))))
theorem T_c_Reader_readRequest_87 {l : Launch} {w0 : List mM} {F : Nat} : ∀ (n : Nat) {x0 : Nat} {x1 : Int32} {x2 : Int32} {T : tT} {w : List mM} {yz : Option Nat} {Tz : tT}, okr T.2.1 (some x0) → RT T w → m_Fm w0 w → D_c_Reader_readRequest_87 F n x0 x1 x2 T = some (yz, Tz) → m_Rb l M_18 (87, [(0, .ref x0), (1, .int x1), (2, .int x2)], [], w) (fun v w' => v = some (rv yz) ∧ okr Tz.2.1 yz ∧ RT Tz w' ∧ m_Fm w0 w') T Tz 8 800 := by
  intro n
  induction n with
  | zero => intro x0 x1 x2 T w yz Tz hx0 h hF h0; cases h0
  | succ n ih =>
    intro x0 x1 x2 T w yz Tz hx0 h hF h0
    rw [D_c_Reader_readRequest_87] at h0
    refine m_Rb.n0 b_18 (x_iload_n d_18_87 rfl) ?_
    refine m_Rb.n0 b_18 (x_sipush (z := 300) d_18_88 (by decide)) ?_
    cases hc117 : m_c2 .ge x2 (300 : Int32) with
    | true =>
      have j118 := cT hc117 h0
      refine m_Rb.n0 b_18 (x_ict d_18_91 rfl hc117) ?_
      exact m_Rb.pick [0, 1] rfl (T_c_Reader_readRequest_142 hx0 h hF j118)
    | false =>
      have j118 := cF hc117 h0
      refine m_Rb.n0 b_18 (x_icf d_18_91 rfl hc117) ?_
      refine m_Rb.n0 b_18 (x_iload_n d_18_94 rfl) ?_
      cases hc119 : m_c1 .eq x1 with
      | true =>
        have j120 := cT hc119 j118
        refine m_Rb.n0 b_18 (x_ift d_18_95 rfl hc119) ?_
        exact m_Rb.pick [0, 1] rfl (T_c_Reader_readRequest_142 hx0 h hF j120)
      | false =>
        have j120 := cF hc119 j118
        refine m_Rb.n0 b_18 (x_iff d_18_95 rfl hc119) ?_
        refine m_Rb.n0 b_18 (x_aload_n d_18_98 rfl) ?_
        obtain ⟨_, e121, j122⟩ := bS j120
        obtain ⟨_, g123⟩ := RT.cls h e121
        obtain ⟨v124, e125, j126⟩ := bS j122
        refine m_Rb.callI b_18 (y_cv d_18_99 rfl q_22 (m_isRecv_of rfl g123) (show m_takeI _ _ = some (_, [_], []) from m_takeI_of rfl rfl rfl (Nat.le_of_ble_eq_true rfl)) (by simp only [m_okf, List.all_cons, List.all_nil, Bool.and_true, Bool.and_self, m_okv_i, m_okv_l, m_okv_0, m_okv_n0, m_okv_t, RT.okn h hx0, RT.okv h hx0]) rfl) (T_c_Reader_here hx0 h e125) hF rfl (fun w127 h127 f127 k127 => ?_) (by decide) (by decide)
        refine m_Rb.n0 b_18 (x_bipush (z := 10) d_18_102 (by decide)) ?_
        cases hc128 : m_c2 .eq v124 (10 : Int32) with
        | true =>
          have j129 := cT hc128 j126
          refine m_Rb.n0 b_18 (x_ict d_18_104 rfl hc128) ?_
          exact m_Rb.pick [0, 1] rfl (T_c_Reader_readRequest_142 hx0 h127 f127 j129)
        | false =>
          have j129 := cF hc128 j126
          refine m_Rb.n0 b_18 (x_icf d_18_104 rfl hc128) ?_
          refine m_Rb.n0 b_18 (x_aload_n d_18_107 rfl) ?_
          obtain ⟨_, e130, j131⟩ := bS j129
          obtain ⟨_, g132⟩ := RT.cls h127 e130
          obtain ⟨v133, T134, e135, j136⟩ := bS2 j131
          refine m_Rb.callI b_18 (y_cv d_18_108 rfl q_40 (m_isRecv_of rfl g132) (show m_takeI _ _ = some (_, [_], []) from m_takeI_of rfl rfl rfl (Nat.le_of_ble_eq_true rfl)) (by simp only [m_okf, List.all_cons, List.all_nil, Bool.and_true, Bool.and_self, m_okv_i, m_okv_l, m_okv_0, m_okv_n0, m_okv_t, RT.okn h127 hx0, RT.okv h127 hx0]) rfl) (T_c_Reader_readName hx0 h127 e135) f127 rfl (fun w137 h137 f137 k137 => ?_) (by decide) (by decide)
          cases hc152 : m_c1 .eq v133 with
          | true =>
            have j153 := cT hc152 j136
            refine m_Rb.n0 b_18 (x_ift d_18_111 rfl hc152) ?_
            exact m_Rb.pick [0, 2] rfl (T_c_Reader_readRequest_134 ih (okm hx0 k137) h137 f137 j153)
          | false =>
            have j153 := cF hc152 j136
            refine m_Rb.n0 b_18 (x_iff d_18_111 rfl hc152) ?_
            refine m_Rb.n0 b_18 (x_aload_n d_18_114 rfl) ?_
            obtain ⟨_, e154, j155⟩ := bS j153
            obtain ⟨_, g156⟩ := RT.cls h137 e154
            obtain ⟨v157, T158, e159, j160⟩ := bS2 j155
            refine m_Rb.callI b_18 (y_cv d_18_115 rfl q_44 (m_isRecv_of rfl g156) (show m_takeI _ _ = some (_, [_], []) from m_takeI_of rfl rfl rfl (Nat.le_of_ble_eq_true rfl)) (by simp only [m_okf, List.all_cons, List.all_nil, Bool.and_true, Bool.and_self, m_okv_i, m_okv_l, m_okv_0, m_okv_n0, m_okv_t, RT.okn h137 (okm hx0 k137), RT.okv h137 (okm hx0 k137)]) rfl) (T_c_Reader_readAskedValue (okm hx0 k137) h137 e159) f137 rfl (fun w161 h161 f161 k161 => ?_) (by decide) (by decide)
            cases hc176 : m_c1 .eq v157 with
            | true =>
              have j177 := cT hc176 j160
              refine m_Rb.n0 b_18 (x_ift d_18_118 rfl hc176) ?_
              exact m_Rb.pick [0, 2] rfl (T_c_Reader_readRequest_134 ih (okm (okm hx0 k137) k161) h161 f161 j177)
            | false =>
              have j177 := cF hc176 j160
              refine m_Rb.n0 b_18 (x_iff d_18_118 rfl hc176) ?_
              refine m_Rb.n0 b_18 (x_aload_n d_18_121 rfl) ?_
              refine m_Rb.n0 b_18 (x_bipush (z := 10) d_18_122 (by decide)) ?_
              obtain ⟨_, e178, j179⟩ := bS j177
              obtain ⟨_, g180⟩ := RT.cls h161 e178
              obtain ⟨v181, T182, e183, j184⟩ := bS2 j179
              refine m_Rb.callI b_18 (y_cv d_18_124 rfl q_35 (m_isRecv_of rfl g180) (show m_takeI _ _ = some (_, [_, _], []) from m_takeI_of rfl rfl rfl (Nat.le_of_ble_eq_true rfl)) (by simp only [m_okf, List.all_cons, List.all_nil, Bool.and_true, Bool.and_self, m_okv_i, m_okv_l, m_okv_0, m_okv_n0, m_okv_t, RT.okn h161 (okm (okm hx0 k137) k161), RT.okv h161 (okm (okm hx0 k137) k161)]) rfl) (T_c_Reader_expect (okm (okm hx0 k137) k161) h161 e183) f161 rfl (fun w185 h185 f185 k185 => ?_) (by decide) (by decide)
              obtain ⟨v190, e187, j191⟩ := bS j184
              have kk186 : ∀ (xz : Int32) (w1 : List mM), xz = v190 → RT T182 w1 → m_Fm w0 w1 → m_Rb l M_18 (135, [(0, .ref x0), (1, .int x1), (2, .int x2)], [.int xz], w1) (fun v w' => v = some (rv yz) ∧ okr Tz.2.1 yz ∧ RT Tz w' ∧ m_Fm w0 w') T182 Tz 8 800 := by
                intro xz w192 ez h192 f192
                rw [ez]
                refine m_Rb.n0 b_18 (x_istore_n d_18_135 rfl (show m_put1 _ _ _ = [(1, _), (0, _), (2, _)] from rfl)) ?_
                refine m_Rb.n0 b_18 (x_iinc d_18_136 rfl rfl rfl (show m_put1 _ _ _ = [(2, _), (1, _), (0, _)] from rfl)) ?_
                refine m_Rb.n0 b_18 (x_goto d_18_139 rfl) ?_
                exact m_Rb.pick [2, 1, 0] rfl (ih (okm (okm (okm hx0 k137) k161) k185) h192 f192 j191)
              cases hc188 : m_c1 .eq v181 with
              | true =>
                have j189 := cT hc188 e187
                refine m_Rb.n0 b_18 (x_ift d_18_127 rfl hc188) ?_
                refine m_Rb.n0 b_18 (x_iconst (z := 0) d_18_134 (by decide)) ?_
                exact kk186 _ _ (Option.some.inj j189) h185 f185
              | false =>
                have j189 := cF hc188 e187
                refine m_Rb.n0 b_18 (x_iff d_18_127 rfl hc188) ?_
                refine m_Rb.n0 b_18 (x_iconst (z := 1) d_18_130 (by decide)) ?_
                refine m_Rb.n0 b_18 (x_goto d_18_131 rfl) ?_
                exact kk186 _ _ (Option.some.inj j189) h185 f185
def D_c_Reader_readRequest_84 (F : Nat) (x0 : Nat) (y0 : Int32) (T : tT) : Option (Option Nat × tT) := D_c_Reader_readRequest_87 F F x0 y0 (0 : Int32) T
theorem T_c_Reader_readRequest_84 {l : Launch} {w0 : List mM} {F : Nat} {x0 : Nat} {y0 : Int32} {T : tT} {w : List mM} {yz : Option Nat} {Tz : tT} (hx0 : okr T.2.1 (some x0)) (h : RT T w) (hF : m_Fm w0 w) (h0 : D_c_Reader_readRequest_84 F x0 y0 T = some (yz, Tz)) : m_Rb l M_18 (84, [(0, .ref x0)], [.int y0], w) (fun v w' => v = some (rv yz) ∧ okr Tz.2.1 yz ∧ RT Tz w' ∧ m_Fm w0 w') T Tz 8 800 := by
  rw [D_c_Reader_readRequest_84] at h0
  refine m_Rb.n0 b_18 (x_istore_n d_18_84 rfl (show m_put1 _ _ _ = [(1, _), (0, _)] from rfl)) ?_
  refine m_Rb.n0 b_18 (x_iconst (z := 0) d_18_85 (by decide)) ?_
  refine m_Rb.n0 b_18 (x_istore_n d_18_86 rfl (show m_put1 _ _ _ = [(2, _), (1, _), (0, _)] from rfl)) ?_
  exact m_Rb.pick [2, 1, 0] rfl (T_c_Reader_readRequest_87 F hx0 h hF h0)
def D_c_Reader_readRequest_83 (F : Nat) (x0 : Nat) (T : tT) : Option (Option Nat × tT) := D_c_Reader_readRequest_84 F x0 (0 : Int32) T
theorem T_c_Reader_readRequest_83 {l : Launch} {w0 : List mM} {F : Nat} {x0 : Nat} {T : tT} {w : List mM} {yz : Option Nat} {Tz : tT} (hx0 : okr T.2.1 (some x0)) (h : RT T w) (hF : m_Fm w0 w) (h0 : D_c_Reader_readRequest_83 F x0 T = some (yz, Tz)) : m_Rb l M_18 (83, [(0, .ref x0)], [], w) (fun v w' => v = some (rv yz) ∧ okr Tz.2.1 yz ∧ RT Tz w' ∧ m_Fm w0 w') T Tz 8 800 := by
  rw [D_c_Reader_readRequest_83] at h0
  refine m_Rb.n0 b_18 (x_iconst (z := 0) d_18_83 (by decide)) ?_
  exact m_Rb.pick [0] rfl (T_c_Reader_readRequest_84 hx0 h hF h0)
def D_c_Reader_readRequest_65 (F : Nat) (x0 : Nat) (y0 : Nat) (y1 : Option Nat) (T : tT) : Option (Option Nat × tT) := (y1).bind fun a75 => (tcl T a75 1).bind fun _ => bd2 (D_c_Reader_expectText F a75 y0 T) fun v81 T82 => cond (m_c1 .eq v81) (D_c_Reader_readRequest_83 F x0 T82) ((tcl T82 x0 1).bind fun _ => bd2 (D_c_Reader_readTarget F x0 (1 : Int32) T82) fun v105 T106 => (cond (m_c1 .eq v105) (some (0 : Int32)) (some (1 : Int32))).bind fun v114 => D_c_Reader_readRequest_87 F F x0 v114 (0 : Int32) T106)
theorem T_c_Reader_readRequest_65 {l : Launch} {w0 : List mM} {F : Nat} {x0 : Nat} {y0 : Nat} {y1 : Option Nat} {T : tT} {w : List mM} {yz : Option Nat} {Tz : tT} (hx0 : okr T.2.1 (some x0)) (hy0 : y0 < 512) (hy1 : okr T.2.1 y1) (h : RT T w) (hF : m_Fm w0 w) (h0 : D_c_Reader_readRequest_65 F x0 y0 y1 T = some (yz, Tz)) : m_Rb l M_18 (65, [(0, .ref x0)], [.ref y0, rv y1], w) (fun v w' => v = some (rv yz) ∧ okr Tz.2.1 yz ∧ RT Tz w' ∧ m_Fm w0 w') T Tz 8 800 := by
  rw [D_c_Reader_readRequest_65] at h0
  obtain ⟨a75, e76, j77⟩ := bS h0
  subst e76
  obtain ⟨_, e78, j79⟩ := bS j77
  obtain ⟨_, g80⟩ := RT.cls h e78
  obtain ⟨v81, T82, e83, j84⟩ := bS2 j79
  refine m_Rb.callI b_18 (y_cv d_18_65 rfl q_23 (m_isRecv_of rfl g80) (show m_takeI _ _ = some (_, [_, _], []) from m_takeI_of rfl rfl rfl (Nat.le_of_ble_eq_true rfl)) (by simp only [m_okf, List.all_cons, List.all_nil, Bool.and_true, Bool.and_self, m_okv_i, m_okv_l, m_okv_0, m_okv_n0, m_okv_t, RT.okn h hx0, RT.okv h hx0, m_okv_out (a := y0) hy0, RT.okn h hy1, RT.okv h hy1]) rfl) (T_c_Reader_expectText hy1 hy0 h e83) hF rfl (fun w85 h85 f85 k85 => ?_) (by decide) (by decide)
  cases hc100 : m_c1 .eq v81 with
  | true =>
    have j101 := cT hc100 j84
    refine m_Rb.n0 b_18 (x_ift d_18_68 rfl hc100) ?_
    exact m_Rb.pick [0] rfl (T_c_Reader_readRequest_83 (okm hx0 k85) h85 f85 j101)
  | false =>
    have j101 := cF hc100 j84
    refine m_Rb.n0 b_18 (x_iff d_18_68 rfl hc100) ?_
    refine m_Rb.n0 b_18 (x_aload_n d_18_71 rfl) ?_
    refine m_Rb.n0 b_18 (x_iconst (z := 1) d_18_72 (by decide)) ?_
    obtain ⟨_, e102, j103⟩ := bS j101
    obtain ⟨_, g104⟩ := RT.cls h85 e102
    obtain ⟨v105, T106, e107, j108⟩ := bS2 j103
    refine m_Rb.callI b_18 (y_cv d_18_73 rfl q_37 (m_isRecv_of rfl g104) (show m_takeI _ _ = some (_, [_, _], []) from m_takeI_of rfl rfl rfl (Nat.le_of_ble_eq_true rfl)) (by simp only [m_okf, List.all_cons, List.all_nil, Bool.and_true, Bool.and_self, m_okv_i, m_okv_l, m_okv_0, m_okv_n0, m_okv_t, RT.okn h85 (okm hx0 k85), RT.okv h85 (okm hx0 k85)]) rfl) (T_c_Reader_readTarget (okm hx0 k85) h85 e107) f85 rfl (fun w109 h109 f109 k109 => ?_) (by decide) (by decide)
    obtain ⟨v114, e111, j115⟩ := bS j108
    have kk110 : ∀ (xz : Int32) (w1 : List mM), xz = v114 → RT T106 w1 → m_Fm w0 w1 → m_Rb l M_18 (84, [(0, .ref x0)], [.int xz], w1) (fun v w' => v = some (rv yz) ∧ okr Tz.2.1 yz ∧ RT Tz w' ∧ m_Fm w0 w') T106 Tz 8 800 := by
      intro xz w116 ez h116 f116
      rw [ez]
      refine m_Rb.n0 b_18 (x_istore_n d_18_84 rfl (show m_put1 _ _ _ = [(1, _), (0, _)] from rfl)) ?_
      refine m_Rb.n0 b_18 (x_iconst (z := 0) d_18_85 (by decide)) ?_
      refine m_Rb.n0 b_18 (x_istore_n d_18_86 rfl (show m_put1 _ _ _ = [(2, _), (1, _), (0, _)] from rfl)) ?_
      exact m_Rb.pick [2, 1, 0] rfl (T_c_Reader_readRequest_87 F (okm (okm hx0 k85) k109) h116 f116 j115)
    cases hc112 : m_c1 .eq v105 with
    | true =>
      have j113 := cT hc112 e111
      refine m_Rb.n0 b_18 (x_ift d_18_76 rfl hc112) ?_
      refine m_Rb.n0 b_18 (x_iconst (z := 0) d_18_83 (by decide)) ?_
      exact kk110 _ _ (Option.some.inj j113) h109 f109
    | false =>
      have j113 := cF hc112 e111
      refine m_Rb.n0 b_18 (x_iff d_18_76 rfl hc112) ?_
      refine m_Rb.n0 b_18 (x_iconst (z := 1) d_18_79 (by decide)) ?_
      refine m_Rb.n0 b_18 (x_goto d_18_80 rfl) ?_
      exact kk110 _ _ (Option.some.inj j113) h109 f109
def D_c_Reader_readRequest (F : Nat) (a0 : Nat) (T : tT) : Option (Option Nat × tT) := (tcl T a0 1).bind fun _ => (D_c_Reader_begin F a0 T).bind fun T4 => bd2 (tnw T4 6) fun a8 T9 => (D_c_Request_init F a8 T9).bind fun T13 => (tpr T13 a0 1 13 (some a8)).bind fun T17 => bd2 (tnw T17 7) fun a21 T22 => (D_c_Conditions_init F a21 T22).bind fun T26 => (tpr T26 a0 1 14 (some a21)).bind fun T30 => (tgr T30 a0 1 14).bind fun v34 => (tcl T30 a0 1).bind fun _ => (D_c_Reader_here F a0 T30).bind fun v41 => (cond (m_c2 .ne v41 (72 : Int32)) (some (0 : Int32)) (some (1 : Int32))).bind fun v49 => (v34).bind fun a52 => (tpz T30 a52 7 0 v49).bind fun T55 => (tgr T55 a0 1 14).bind fun v59 => (v59).bind fun a63 => (tgi T55 a63 7 0).bind fun v66 => cond (m_c1 .eq v66) (D_c_Reader_readRequest_65 F a0 7 (some a0) T55) (D_c_Reader_readRequest_65 F a0 6 (some a0) T55)
theorem T_c_Reader_readRequest {l : Launch} {w : List mM} {F : Nat} {a0 : Nat} {T : tT} {yz : Option Nat} {Tz : tT} (ha0 : okr T.2.1 (some a0)) (h : RT T w) (h0 : D_c_Reader_readRequest F a0 T = some (yz, Tz)) : m_Rb l M_18 (m_ent M_18 [.ref a0] w) (fun v w' => v = some (rv yz) ∧ okr Tz.2.1 yz ∧ RT Tz w' ∧ m_Fm w w') T Tz 8 800 := by
  rw [show m_ent M_18 [.ref a0] w = (0, [(0, .ref a0)], [], w) from by first | rfl | (simp only [m_ent, lv_args_r, lv_args_a, lv_args_i, lv_args_l, lv_args_0]; done) | (simp only [m_ent, lv_args_r, lv_args_a, lv_args_i, lv_args_l, lv_args_0]; rfl)]
  generalize hw0 : w = w0 at h ⊢
  have hF : m_Fm w0 w0 := m_Fm.refl
  rw [D_c_Reader_readRequest] at h0
  refine m_Rb.n0 b_18 (x_aload_n d_18_0 rfl) ?_
  obtain ⟨_, e1, j2⟩ := bS h0
  obtain ⟨_, g3⟩ := RT.cls h e1
  obtain ⟨T4, e5, j6⟩ := bS j2
  refine m_Rb.callV b_18 (y_cv d_18_1 rfl q_19 (m_isRecv_of rfl g3) (show m_takeI _ _ = some (_, [_], []) from m_takeI_of rfl rfl rfl (Nat.le_of_ble_eq_true rfl)) (by simp only [m_okf, List.all_cons, List.all_nil, Bool.and_true, Bool.and_self, m_okv_i, m_okv_l, m_okv_0, m_okv_n0, m_okv_t, RT.okn h ha0, RT.okv h ha0]) rfl) (T_c_Reader_begin ha0 h e5) hF rfl (fun w7 h7 f7 k7 => ?_) (by decide) (by decide)
  refine m_Rb.n0 b_18 (x_aload_n d_18_4 rfl) ?_
  obtain ⟨a8, T9, e10, j11⟩ := bS2 j6
  refine m_Rb.tnew b_18 d_18_5 rfl (by simp only [m_okf, List.all_cons, List.all_nil, Bool.and_true, Bool.and_self, m_okv_i, m_okv_l, m_okv_0, m_okv_n0, m_okv_t, RT.okn h7 (okm ha0 k7), RT.okv h7 (okm ha0 k7)]) h7 f7 e10 (fun w12 o12 h12 f12 k12 => ?_)
  refine m_Rb.n0 b_18 (x_dup d_18_8 rfl) ?_
  obtain ⟨T13, e14, j15⟩ := bS j11
  refine m_Rb.callV b_18 (x_ci d_18_9 rfl (by decide) q_20 (show m_takeI _ _ = some (_, [_], [_, _]) from m_takeI_of rfl rfl rfl (Nat.le_of_ble_eq_true rfl)) (by simp only [m_okf, List.all_cons, List.all_nil, Bool.and_true, Bool.and_self, m_okv_i, m_okv_l, m_okv_0, m_okv_n0, m_okv_t, RT.okn h12 (okm (okm ha0 k7) k12), RT.okv h12 (okm (okm ha0 k7) k12), RT.okn h12 o12, RT.okv h12 o12]) rfl) (T_c_Request_init o12 h12 e14) f12 rfl (fun w16 h16 f16 k16 => ?_) (by decide) (by decide)
  obtain ⟨T17, e18, j19⟩ := bS j15
  refine m_Rb.tputR (z := (some a8)) b_18 d_18_12 rfl rfl (by decide) h16 f16 e18 (okm o12 k16) (fun w20 h20 f20 k20 => ?_)
  refine m_Rb.n0 b_18 (x_aload_n d_18_15 rfl) ?_
  obtain ⟨a21, T22, e23, j24⟩ := bS2 j19
  refine m_Rb.tnew b_18 d_18_16 rfl (by simp only [m_okf, List.all_cons, List.all_nil, Bool.and_true, Bool.and_self, m_okv_i, m_okv_l, m_okv_0, m_okv_n0, m_okv_t, RT.okn h20 (okm (okm (okm (okm ha0 k7) k12) k16) k20), RT.okv h20 (okm (okm (okm (okm ha0 k7) k12) k16) k20)]) h20 f20 e23 (fun w25 o25 h25 f25 k25 => ?_)
  refine m_Rb.n0 b_18 (x_dup d_18_19 rfl) ?_
  obtain ⟨T26, e27, j28⟩ := bS j24
  refine m_Rb.callV b_18 (x_ci d_18_20 rfl (by decide) q_21 (show m_takeI _ _ = some (_, [_], [_, _]) from m_takeI_of rfl rfl rfl (Nat.le_of_ble_eq_true rfl)) (by simp only [m_okf, List.all_cons, List.all_nil, Bool.and_true, Bool.and_self, m_okv_i, m_okv_l, m_okv_0, m_okv_n0, m_okv_t, RT.okn h25 (okm (okm (okm (okm (okm ha0 k7) k12) k16) k20) k25), RT.okv h25 (okm (okm (okm (okm (okm ha0 k7) k12) k16) k20) k25), RT.okn h25 o25, RT.okv h25 o25]) rfl) (T_c_Conditions_init o25 h25 e27) f25 rfl (fun w29 h29 f29 k29 => ?_) (by decide) (by decide)
  obtain ⟨T30, e31, j32⟩ := bS j28
  refine m_Rb.tputR (z := (some a21)) b_18 d_18_23 rfl rfl (by decide) h29 f29 e31 (okm o25 k29) (fun w33 h33 f33 k33 => ?_)
  refine m_Rb.n0 b_18 (x_aload_n d_18_26 rfl) ?_
  obtain ⟨v34, e35, j36⟩ := bS j32
  refine m_Rb.tgetR b_18 d_18_27 rfl h33 e35 (fun o37 => ?_)
  refine m_Rb.n0 b_18 (x_aload_n d_18_30 rfl) ?_
  obtain ⟨_, e38, j39⟩ := bS j36
  obtain ⟨_, g40⟩ := RT.cls h33 e38
  obtain ⟨v41, e42, j43⟩ := bS j39
  refine m_Rb.callI b_18 (y_cv d_18_31 rfl q_22 (m_isRecv_of rfl g40) (show m_takeI _ _ = some (_, [_], [_]) from m_takeI_of rfl rfl rfl (Nat.le_of_ble_eq_true rfl)) (by simp only [m_okf, List.all_cons, List.all_nil, Bool.and_true, Bool.and_self, m_okv_i, m_okv_l, m_okv_0, m_okv_n0, m_okv_t, RT.okn h33 (okm (okm (okm (okm (okm (okm (okm ha0 k7) k12) k16) k20) k25) k29) k33), RT.okv h33 (okm (okm (okm (okm (okm (okm (okm ha0 k7) k12) k16) k20) k25) k29) k33), RT.okv h33 o37]) rfl) (T_c_Reader_here (okm (okm (okm (okm (okm (okm (okm ha0 k7) k12) k16) k20) k25) k29) k33) h33 e42) f33 rfl (fun w44 h44 f44 k44 => ?_) (by decide) (by decide)
  refine m_Rb.n0 b_18 (x_bipush (z := 72) d_18_34 (by decide)) ?_
  obtain ⟨v49, e46, j50⟩ := bS j43
  have kk45 : ∀ (xz : Int32) (w1 : List mM), xz = v49 → RT T30 w1 → m_Fm w0 w1 → m_Rb l M_18 (44, [(0, .ref a0)], [.int xz, rv v34], w1) (fun v w' => v = some (rv yz) ∧ okr Tz.2.1 yz ∧ RT Tz w' ∧ m_Fm w0 w') T30 Tz 8 800 := by
    intro xz w51 ez h51 f51
    rw [ez]
    obtain ⟨a52, e53, j54⟩ := bS j50
    subst e53
    obtain ⟨T55, e56, j57⟩ := bS j54
    refine m_Rb.tputZ b_18 d_18_44 rfl rfl (by decide) h51 f51 e56 (fun w58 h58 f58 k58 => ?_)
    refine m_Rb.n0 b_18 (x_aload_n d_18_47 rfl) ?_
    refine m_Rb.n0 b_18 (x_aload_n d_18_48 rfl) ?_
    obtain ⟨v59, e60, j61⟩ := bS j57
    refine m_Rb.tgetR b_18 d_18_49 rfl h58 e60 (fun o62 => ?_)
    obtain ⟨a63, e64, j65⟩ := bS j61
    subst e64
    obtain ⟨v66, e67, j68⟩ := bS j65
    refine m_Rb.tgetI b_18 d_18_52 rfl h58 e67 ?_
    cases hc73 : m_c1 .eq v66 with
    | true =>
      have j74 := cT hc73 j68
      refine m_Rb.n0 b_18 (x_ift d_18_55 rfl hc73) ?_
      refine m_Rb.n0 b_18 (x_text d_18_63 rfl rfl) ?_
      exact m_Rb.pick [0] rfl (T_c_Reader_readRequest_65 (okm (okm (okm (okm (okm (okm (okm (okm ha0 k7) k12) k16) k20) k25) k29) k33) k58) (by decide) (okm (okm (okm (okm (okm (okm (okm (okm ha0 k7) k12) k16) k20) k25) k29) k33) k58) h58 f58 j74)
    | false =>
      have j74 := cF hc73 j68
      refine m_Rb.n0 b_18 (x_iff d_18_55 rfl hc73) ?_
      refine m_Rb.n0 b_18 (x_text d_18_58 rfl rfl) ?_
      refine m_Rb.n0 b_18 (x_goto d_18_60 rfl) ?_
      exact m_Rb.pick [0] rfl (T_c_Reader_readRequest_65 (okm (okm (okm (okm (okm (okm (okm (okm ha0 k7) k12) k16) k20) k25) k29) k33) k58) (by decide) (okm (okm (okm (okm (okm (okm (okm (okm ha0 k7) k12) k16) k20) k25) k29) k33) k58) h58 f58 j74)
  cases hc47 : m_c2 .ne v41 (72 : Int32) with
  | true =>
    have j48 := cT hc47 e46
    refine m_Rb.n0 b_18 (x_ict d_18_36 rfl hc47) ?_
    refine m_Rb.n0 b_18 (x_iconst (z := 0) d_18_43 (by decide)) ?_
    exact kk45 _ _ (Option.some.inj j48) h44 f44
  | false =>
    have j48 := cF hc47 e46
    refine m_Rb.n0 b_18 (x_icf d_18_36 rfl hc47) ?_
    refine m_Rb.n0 b_18 (x_iconst (z := 1) d_18_39 (by decide)) ?_
    refine m_Rb.n0 b_18 (x_goto d_18_40 rfl) ?_
    exact kk45 _ _ (Option.some.inj j48) h44 f44
def D_c_Reader_empty (F : Nat) (a0 : Nat) (T : tT) : Option (tT) := (tpi T a0 1 1 (0 : Int32)).bind fun T1 => some T1
theorem T_c_Reader_empty {l : Launch} {w : List mM} {F : Nat} {a0 : Nat} {T : tT} {Tz : tT} (ha0 : okr T.2.1 (some a0)) (h : RT T w) (h0 : D_c_Reader_empty F a0 T = some Tz) : m_Rb l M_60 (m_ent M_60 [.ref a0] w) (fun v w' => v = none ∧ RT Tz w' ∧ m_Fm w w') T Tz 0 0 := by
  rw [show m_ent M_60 [.ref a0] w = (0, [(0, .ref a0)], [], w) from by first | rfl | (simp only [m_ent, lv_args_r, lv_args_a, lv_args_i, lv_args_l, lv_args_0]; done) | (simp only [m_ent, lv_args_r, lv_args_a, lv_args_i, lv_args_l, lv_args_0]; rfl)]
  generalize hw0 : w = w0 at h ⊢
  have hF : m_Fm w0 w0 := m_Fm.refl
  rw [D_c_Reader_empty] at h0
  refine m_Rb.n0 b_60 (x_aload_n d_60_0 rfl) ?_
  refine m_Rb.n0 b_60 (x_iconst (z := 0) d_60_1 (by decide)) ?_
  obtain ⟨T1, e2, j3⟩ := bS h0
  refine m_Rb.tputI b_60 d_60_2 rfl rfl (by decide) h hF e2 (fun w4 h4 f4 k4 => ?_)
  cases j3
  exact m_Rb.ret b_60 (m_rt_vr d_60_5 rfl) ⟨rfl, h4, f4⟩
def D_c_Reply_init (F : Nat) (a0 : Nat) (T : tT) : Option (tT) := (tpr T a0 8 13 (some 31)).bind fun T1 => some T1
theorem T_c_Reply_init {l : Launch} {w : List mM} {F : Nat} {a0 : Nat} {T : tT} {Tz : tT} (ha0 : okr T.2.1 (some a0)) (h : RT T w) (h0 : D_c_Reply_init F a0 T = some Tz) : m_Rb l M_61 (m_ent M_61 [.ref a0] w) (fun v w' => v = none ∧ RT Tz w' ∧ m_Fm w w') T Tz 1 100 := by
  rw [show m_ent M_61 [.ref a0] w = (0, [(0, .ref a0)], [], w) from by first | rfl | (simp only [m_ent, lv_args_r, lv_args_a, lv_args_i, lv_args_l, lv_args_0]; done) | (simp only [m_ent, lv_args_r, lv_args_a, lv_args_i, lv_args_l, lv_args_0]; rfl)]
  generalize hw0 : w = w0 at h ⊢
  have hF : m_Fm w0 w0 := m_Fm.refl
  rw [D_c_Reply_init] at h0
  refine m_Rb.n0 b_61 (x_aload_n d_61_0 rfl) ?_
  refine m_Rb.toinit b_61 d_61_1 rfl (Nat.le_of_ble_eq_true rfl) ?_ (by decide) (by decide)
  refine m_Rb.n0 b_61 (x_aload_n d_61_4 rfl) ?_
  refine m_Rb.n0 b_61 (x_text d_61_5 rfl rfl) ?_
  obtain ⟨T1, e2, j3⟩ := bS h0
  refine m_Rb.tputR (z := (some 31)) b_61 d_61_7 rfl rfl (by decide) h hF e2 (RT.out h (by decide)) (fun w4 h4 f4 k4 => ?_)
  cases j3
  exact m_Rb.ret b_61 (m_rt_vr d_61_10 rfl) ⟨rfl, h4, f4⟩
def D_c_EdgeHouse_close (F : Nat) (a0 : Nat) (p0 : Option Nat) (p1 : Int32) (T : tT) : Option (tT) := (p0).bind fun a1 => (tpi T a1 8 1 p1).bind fun T4 => (tgi T4 a0 0 14).bind fun v8 => (tpi T4 a1 8 12 v8).bind fun T11 => (tgi T11 a0 0 10).bind fun v15 => (tpi T11 a0 0 10 (v15 + (1 : Int32))).bind fun T18 => some T18
theorem T_c_EdgeHouse_close {l : Launch} {w : List mM} {F : Nat} {a0 : Nat} {p0 : Option Nat} {p1 : Int32} {T : tT} {Tz : tT} (ha0 : okr T.2.1 (some a0)) (hp0 : okr T.2.1 p0) (h : RT T w) (h0 : D_c_EdgeHouse_close F a0 p0 p1 T = some Tz) : m_Rb l M_70 (m_ent M_70 [.ref a0, rv p0, .int p1] w) (fun v w' => v = none ∧ RT Tz w' ∧ m_Fm w w') T Tz 0 0 := by
  rw [show m_ent M_70 [.ref a0, rv p0, .int p1] w = (0, [(0, .ref a0), (1, rv p0), (2, .int p1)], [], w) from by first | rfl | (simp only [m_ent, lv_args_r, lv_args_a, lv_args_i, lv_args_l, lv_args_0]; done) | (simp only [m_ent, lv_args_r, lv_args_a, lv_args_i, lv_args_l, lv_args_0]; rfl)]
  generalize hw0 : w = w0 at h ⊢
  have hF : m_Fm w0 w0 := m_Fm.refl
  rw [D_c_EdgeHouse_close] at h0
  refine m_Rb.n0 b_70 (x_aloadr_n (x := p0) d_70_0 rfl) ?_
  refine m_Rb.n0 b_70 (x_iload_n d_70_1 rfl) ?_
  obtain ⟨a1, e2, j3⟩ := bS h0
  subst e2
  obtain ⟨T4, e5, j6⟩ := bS j3
  refine m_Rb.tputI b_70 d_70_2 rfl rfl (by decide) h hF e5 (fun w7 h7 f7 k7 => ?_)
  refine m_Rb.n0 b_70 (x_aload_n d_70_5 rfl) ?_
  refine m_Rb.n0 b_70 (x_aload_n d_70_6 rfl) ?_
  obtain ⟨v8, e9, j10⟩ := bS j6
  refine m_Rb.tgetI b_70 d_70_7 rfl h7 e9 ?_
  obtain ⟨T11, e12, j13⟩ := bS j10
  refine m_Rb.tputI b_70 d_70_10 rfl rfl (by decide) h7 f7 e12 (fun w14 h14 f14 k14 => ?_)
  refine m_Rb.n0 b_70 (x_aload_n d_70_13 rfl) ?_
  refine m_Rb.n0 b_70 (x_dup d_70_14 rfl) ?_
  obtain ⟨v15, e16, j17⟩ := bS j13
  refine m_Rb.tgetI b_70 d_70_15 rfl h14 e16 ?_
  refine m_Rb.n0 b_70 (x_iconst (z := 1) d_70_18 (by decide)) ?_
  refine m_Rb.n0 b_70 (x_iadd d_70_19 rfl) ?_
  obtain ⟨T18, e19, j20⟩ := bS j17
  refine m_Rb.tputI b_70 d_70_20 rfl rfl (by decide) h14 f14 e19 (fun w21 h21 f21 k21 => ?_)
  cases j20
  exact m_Rb.ret b_70 (m_rt_vr d_70_23 rfl) ⟨rfl, h21, f21⟩
def D_c_Node_shuns (F : Nat) (a0 : Nat) (p0 : Int32) (p1 : Int32) (T0 : tT) : Option (Int32) := (cond (m_c2 .lt p0 (1 : Int32)) (some (0 : Int32)) (cond (m_c2 .gt p0 (2 : Int32)) (some (0 : Int32)) ((tgr T0 a0 4 5).bind fun v7 => (v7).bind fun a11 => (tai T0 a11 0 p0).bind fun v14 => cond (m_c2 .ge p1 v14) (some (0 : Int32)) (some (1 : Int32))))).bind fun v19 => (bret v19).bind fun v22 => some v22
theorem T_c_Node_shuns {l : Launch} {w : List mM} {F : Nat} {a0 : Nat} {p0 : Int32} {p1 : Int32} {T0 : tT} {yz : Int32} (ha0 : okr T0.2.1 (some a0)) (h : RT T0 w) (h0 : D_c_Node_shuns F a0 p0 p1 T0 = some yz) : m_Rb l M_72 (m_ent M_72 [.ref a0, .int p0, .int p1] w) (fun v w' => v = some (.int yz) ∧ RT T0 w' ∧ m_Fm w w') T0 T0 0 0 := by
  rw [show m_ent M_72 [.ref a0, .int p0, .int p1] w = (0, [(0, .ref a0), (1, .int p0), (2, .int p1)], [], w) from by first | rfl | (simp only [m_ent, lv_args_r, lv_args_a, lv_args_i, lv_args_l, lv_args_0]; done) | (simp only [m_ent, lv_args_r, lv_args_a, lv_args_i, lv_args_l, lv_args_0]; rfl)]
  generalize hw0 : w = w0 at h ⊢
  have hF : m_Fm w0 w0 := m_Fm.refl
  rw [D_c_Node_shuns] at h0
  refine m_Rb.n0 b_72 (x_iload_n d_72_0 rfl) ?_
  refine m_Rb.n0 b_72 (x_iconst (z := 1) d_72_1 (by decide)) ?_
  obtain ⟨v19, e2, j20⟩ := bS h0
  have kk1 : ∀ (xz : Int32) (w1 : List mM), xz = v19 → RT T0 w1 → m_Fm w0 w1 → m_Rb l M_72 (25, [(0, .ref a0), (1, .int p0), (2, .int p1)], [.int xz], w1) (fun v w' => v = some (.int yz) ∧ RT T0 w' ∧ m_Fm w0 w') T0 T0 0 0 := by
    intro xz w21 ez h21 f21
    rw [ez]
    obtain ⟨v22, e23, j24⟩ := bS j20
    cases j24
    exact m_Rb.retb b_72 d_72_25 rfl e23 ⟨rfl, h21, f21⟩
  cases hc3 : m_c2 .lt p0 (1 : Int32) with
  | true =>
    have j4 := cT hc3 e2
    refine m_Rb.n0 b_72 (x_ict d_72_2 rfl hc3) ?_
    refine m_Rb.n0 b_72 (x_iconst (z := 0) d_72_24 (by decide)) ?_
    exact kk1 _ _ (Option.some.inj j4) h hF
  | false =>
    have j4 := cF hc3 e2
    refine m_Rb.n0 b_72 (x_icf d_72_2 rfl hc3) ?_
    refine m_Rb.n0 b_72 (x_iload_n d_72_5 rfl) ?_
    refine m_Rb.n0 b_72 (x_iconst (z := 2) d_72_6 (by decide)) ?_
    cases hc5 : m_c2 .gt p0 (2 : Int32) with
    | true =>
      have j6 := cT hc5 j4
      refine m_Rb.n0 b_72 (x_ict d_72_7 rfl hc5) ?_
      refine m_Rb.n0 b_72 (x_iconst (z := 0) d_72_24 (by decide)) ?_
      exact kk1 _ _ (Option.some.inj j6) h hF
    | false =>
      have j6 := cF hc5 j4
      refine m_Rb.n0 b_72 (x_icf d_72_7 rfl hc5) ?_
      refine m_Rb.n0 b_72 (x_iload_n d_72_10 rfl) ?_
      refine m_Rb.n0 b_72 (x_aload_n d_72_11 rfl) ?_
      obtain ⟨v7, e8, j9⟩ := bS j6
      refine m_Rb.tgetR b_72 d_72_12 rfl h e8 (fun o10 => ?_)
      refine m_Rb.n0 b_72 (x_iload_n d_72_15 rfl) ?_
      obtain ⟨a11, e12, j13⟩ := bS j9
      subst e12
      obtain ⟨v14, e15, j16⟩ := bS j13
      refine m_Rb.tgetA b_72 d_72_16 h e15 ?_
      cases hc17 : m_c2 .ge p1 v14 with
      | true =>
        have j18 := cT hc17 j16
        refine m_Rb.n0 b_72 (x_ict d_72_17 rfl hc17) ?_
        refine m_Rb.n0 b_72 (x_iconst (z := 0) d_72_24 (by decide)) ?_
        exact kk1 _ _ (Option.some.inj j18) h hF
      | false =>
        have j18 := cF hc17 j16
        refine m_Rb.n0 b_72 (x_icf d_72_17 rfl hc17) ?_
        refine m_Rb.n0 b_72 (x_iconst (z := 1) d_72_20 (by decide)) ?_
        refine m_Rb.n0 b_72 (x_goto d_72_21 rfl) ?_
        exact kk1 _ _ (Option.some.inj j18) h hF
def D_c_EdgeHouse_ringNode_124 (F : Nat) (rec20 : Nat → Int32 → Option Nat → Int32 → Int32 → Int32 → Int32 → tT → Option (Int32)) (rec73 : Nat → Int32 → Option Nat → Int32 → Int32 → Int32 → Int32 → Int32 → Int32 → tT → Option (Int32)) (x0 : Nat) (x2 : Int32) (x5 : Option Nat) (x6 : Int32) (x7 : Int32) (x8 : Int32) (x9 : Int32) (x10 : Int32) (x11 : Int32) (T0 : tT) : Option (Int32) := rec73 x0 x2 x5 x6 x7 x8 x9 x10 (x11 + Int32.ofInt 1) T0
theorem T_c_EdgeHouse_ringNode_124 {l : Launch} {w0 : List mM} {F : Nat} {T0 : tT} {rec20 : Nat → Int32 → Option Nat → Int32 → Int32 → Int32 → Int32 → tT → Option (Int32)} {rec73 : Nat → Int32 → Option Nat → Int32 → Int32 → Int32 → Int32 → Int32 → Int32 → tT → Option (Int32)} (hr20 : ∀ {x0 : Nat} {x2 : Int32} {x5 : Option Nat} {x6 : Int32} {x7 : Int32} {x8 : Int32} {x9 : Int32} {w : List mM} {yz : Int32}, okr T0.2.1 (some x0) → okr T0.2.1 x5 → RT T0 w → m_Fm w0 w → rec20 x0 x2 x5 x6 x7 x8 x9 T0 = some yz → m_Rb l M_71 (20, [(0, .ref x0), (2, .int x2), (5, rv x5), (6, .int x6), (7, .int x7), (8, .int x8), (9, .int x9)], [], w) (fun v w' => v = some (.int yz) ∧ RT T0 w' ∧ m_Fm w0 w') T0 T0 1 100) (hr73 : ∀ {x0 : Nat} {x2 : Int32} {x5 : Option Nat} {x6 : Int32} {x7 : Int32} {x8 : Int32} {x9 : Int32} {x10 : Int32} {x11 : Int32} {w : List mM} {yz : Int32}, okr T0.2.1 (some x0) → okr T0.2.1 x5 → RT T0 w → m_Fm w0 w → rec73 x0 x2 x5 x6 x7 x8 x9 x10 x11 T0 = some yz → m_Rb l M_71 (73, [(0, .ref x0), (2, .int x2), (5, rv x5), (6, .int x6), (7, .int x7), (8, .int x8), (9, .int x9), (10, .int x10), (11, .int x11)], [], w) (fun v w' => v = some (.int yz) ∧ RT T0 w' ∧ m_Fm w0 w') T0 T0 1 100) {x0 : Nat} {x2 : Int32} {x5 : Option Nat} {x6 : Int32} {x7 : Int32} {x8 : Int32} {x9 : Int32} {x10 : Int32} {x11 : Int32} {w : List mM} {yz : Int32} (hx0 : okr T0.2.1 (some x0)) (hx5 : okr T0.2.1 x5) (h : RT T0 w) (hF : m_Fm w0 w) (h0 : D_c_EdgeHouse_ringNode_124 F rec20 rec73 x0 x2 x5 x6 x7 x8 x9 x10 x11 T0 = some yz) : m_Rb l M_71 (124, [(0, .ref x0), (2, .int x2), (5, rv x5), (6, .int x6), (7, .int x7), (8, .int x8), (9, .int x9), (10, .int x10), (11, .int x11)], [], w) (fun v w' => v = some (.int yz) ∧ RT T0 w' ∧ m_Fm w0 w') T0 T0 1 100 := by
  rw [D_c_EdgeHouse_ringNode_124] at h0
  refine m_Rb.n0 b_71 (x_iinc d_71_124 rfl rfl rfl (show m_put1 _ _ _ = [(11, _), (0, _), (2, _), (5, _), (6, _), (7, _), (8, _), (9, _), (10, _)] from rfl)) ?_
  refine m_Rb.n0 b_71 (x_goto d_71_127 rfl) ?_
  exact m_Rb.pick [1, 2, 3, 4, 5, 6, 7, 8, 0] rfl (hr73 hx0 hx5 h hF h0)
def D_c_EdgeHouse_ringNode_116 (F : Nat) (rec20 : Nat → Int32 → Option Nat → Int32 → Int32 → Int32 → Int32 → tT → Option (Int32)) (rec73 : Nat → Int32 → Option Nat → Int32 → Int32 → Int32 → Int32 → Int32 → Int32 → tT → Option (Int32)) (x0 : Nat) (x2 : Int32) (x5 : Option Nat) (x6 : Int32) (x9 : Int32) (x10 : Int32) (x11 : Int32) (x12 : Int32) (T0 : tT) : Option (Int32) := D_c_EdgeHouse_ringNode_124 F rec20 rec73 x0 x2 x5 x6 x9 x12 x9 x10 x11 T0
theorem T_c_EdgeHouse_ringNode_116 {l : Launch} {w0 : List mM} {F : Nat} {T0 : tT} {rec20 : Nat → Int32 → Option Nat → Int32 → Int32 → Int32 → Int32 → tT → Option (Int32)} {rec73 : Nat → Int32 → Option Nat → Int32 → Int32 → Int32 → Int32 → Int32 → Int32 → tT → Option (Int32)} (hr20 : ∀ {x0 : Nat} {x2 : Int32} {x5 : Option Nat} {x6 : Int32} {x7 : Int32} {x8 : Int32} {x9 : Int32} {w : List mM} {yz : Int32}, okr T0.2.1 (some x0) → okr T0.2.1 x5 → RT T0 w → m_Fm w0 w → rec20 x0 x2 x5 x6 x7 x8 x9 T0 = some yz → m_Rb l M_71 (20, [(0, .ref x0), (2, .int x2), (5, rv x5), (6, .int x6), (7, .int x7), (8, .int x8), (9, .int x9)], [], w) (fun v w' => v = some (.int yz) ∧ RT T0 w' ∧ m_Fm w0 w') T0 T0 1 100) (hr73 : ∀ {x0 : Nat} {x2 : Int32} {x5 : Option Nat} {x6 : Int32} {x7 : Int32} {x8 : Int32} {x9 : Int32} {x10 : Int32} {x11 : Int32} {w : List mM} {yz : Int32}, okr T0.2.1 (some x0) → okr T0.2.1 x5 → RT T0 w → m_Fm w0 w → rec73 x0 x2 x5 x6 x7 x8 x9 x10 x11 T0 = some yz → m_Rb l M_71 (73, [(0, .ref x0), (2, .int x2), (5, rv x5), (6, .int x6), (7, .int x7), (8, .int x8), (9, .int x9), (10, .int x10), (11, .int x11)], [], w) (fun v w' => v = some (.int yz) ∧ RT T0 w' ∧ m_Fm w0 w') T0 T0 1 100) {x0 : Nat} {x2 : Int32} {x5 : Option Nat} {x6 : Int32} {x9 : Int32} {x10 : Int32} {x11 : Int32} {x12 : Int32} {w : List mM} {yz : Int32} (hx0 : okr T0.2.1 (some x0)) (hx5 : okr T0.2.1 x5) (h : RT T0 w) (hF : m_Fm w0 w) (h0 : D_c_EdgeHouse_ringNode_116 F rec20 rec73 x0 x2 x5 x6 x9 x10 x11 x12 T0 = some yz) : m_Rb l M_71 (116, [(0, .ref x0), (2, .int x2), (5, rv x5), (6, .int x6), (9, .int x9), (10, .int x10), (11, .int x11), (12, .int x12)], [], w) (fun v w' => v = some (.int yz) ∧ RT T0 w' ∧ m_Fm w0 w') T0 T0 1 100 := by
  rw [D_c_EdgeHouse_ringNode_116] at h0
  refine m_Rb.n0 b_71 (x_iload d_71_116 rfl) ?_
  refine m_Rb.n0 b_71 (x_istore d_71_118 rfl (show m_put1 _ _ _ = [(7, _), (0, _), (2, _), (5, _), (6, _), (9, _), (10, _), (11, _), (12, _)] from rfl)) ?_
  refine m_Rb.n0 b_71 (x_iload d_71_120 rfl) ?_
  refine m_Rb.n0 b_71 (x_istore d_71_122 rfl (show m_put1 _ _ _ = [(8, _), (7, _), (0, _), (2, _), (5, _), (6, _), (9, _), (10, _), (11, _), (12, _)] from rfl)) ?_
  exact m_Rb.pick [2, 3, 4, 5, 1, 0, 6, 7, 8] rfl (T_c_EdgeHouse_ringNode_124 hr20 hr73 hx0 hx5 h hF h0)
def D_c_EdgeHouse_ringNode_130 (F : Nat) (rec20 : Nat → Int32 → Option Nat → Int32 → Int32 → Int32 → Int32 → tT → Option (Int32)) (x0 : Nat) (x2 : Int32) (x5 : Option Nat) (x6 : Int32) (x7 : Int32) (x8 : Int32) (x9 : Int32) (T0 : tT) : Option (Int32) := rec20 x0 x2 x5 x6 x7 x8 (x9 + Int32.ofInt 1) T0
theorem T_c_EdgeHouse_ringNode_130 {l : Launch} {w0 : List mM} {F : Nat} {T0 : tT} {rec20 : Nat → Int32 → Option Nat → Int32 → Int32 → Int32 → Int32 → tT → Option (Int32)} (hr20 : ∀ {x0 : Nat} {x2 : Int32} {x5 : Option Nat} {x6 : Int32} {x7 : Int32} {x8 : Int32} {x9 : Int32} {w : List mM} {yz : Int32}, okr T0.2.1 (some x0) → okr T0.2.1 x5 → RT T0 w → m_Fm w0 w → rec20 x0 x2 x5 x6 x7 x8 x9 T0 = some yz → m_Rb l M_71 (20, [(0, .ref x0), (2, .int x2), (5, rv x5), (6, .int x6), (7, .int x7), (8, .int x8), (9, .int x9)], [], w) (fun v w' => v = some (.int yz) ∧ RT T0 w' ∧ m_Fm w0 w') T0 T0 1 100) {x0 : Nat} {x2 : Int32} {x5 : Option Nat} {x6 : Int32} {x7 : Int32} {x8 : Int32} {x9 : Int32} {w : List mM} {yz : Int32} (hx0 : okr T0.2.1 (some x0)) (hx5 : okr T0.2.1 x5) (h : RT T0 w) (hF : m_Fm w0 w) (h0 : D_c_EdgeHouse_ringNode_130 F rec20 x0 x2 x5 x6 x7 x8 x9 T0 = some yz) : m_Rb l M_71 (130, [(0, .ref x0), (2, .int x2), (5, rv x5), (6, .int x6), (7, .int x7), (8, .int x8), (9, .int x9)], [], w) (fun v w' => v = some (.int yz) ∧ RT T0 w' ∧ m_Fm w0 w') T0 T0 1 100 := by
  rw [D_c_EdgeHouse_ringNode_130] at h0
  refine m_Rb.n0 b_71 (x_iinc d_71_130 rfl rfl rfl (show m_put1 _ _ _ = [(9, _), (0, _), (2, _), (5, _), (6, _), (7, _), (8, _)] from rfl)) ?_
  refine m_Rb.n0 b_71 (x_goto d_71_133 rfl) ?_
  exact m_Rb.pick [1, 2, 3, 4, 5, 6, 0] rfl (hr20 hx0 hx5 h hF h0)
def D_c_EdgeHouse_ringNode_73 (F : Nat) (rec20 : Nat → Int32 → Option Nat → Int32 → Int32 → Int32 → Int32 → tT → Option (Int32)) : Nat → Nat → Int32 → Option Nat → Int32 → Int32 → Int32 → Int32 → Int32 → Int32 → tT → Option (Int32)
  | 0, _, _, _, _, _, _, _, _, _, _ => none
  | n + 1, x0, x2, x5, x6, x7, x8, x9, x10, x11, T0 => cond (m_c2 .ge x11 (4 : Int32)) (D_c_EdgeHouse_ringNode_130 F rec20 x0 x2 x5 x6 x7 x8 x9 T0) ((tgr T0 x0 0 4).bind fun v47 => (v47).bind fun a51 => (tai T0 a51 0 ((x9 * (4 : Int32)) + x11)).bind fun v54 => cond (m_c2 .eq x7 ((-1) : Int32)) (D_c_EdgeHouse_ringNode_116 F rec20 (D_c_EdgeHouse_ringNode_73 F rec20 n) x0 x2 x5 x6 x9 x10 x11 (((v54 - x6) &&& (65535 : Int32)) + x10) T0) (cond (m_c2 .ge (((v54 - x6) &&& (65535 : Int32)) + x10) x8) (D_c_EdgeHouse_ringNode_124 F rec20 (D_c_EdgeHouse_ringNode_73 F rec20 n) x0 x2 x5 x6 x7 x8 x9 x10 x11 T0) (D_c_EdgeHouse_ringNode_116 F rec20 (D_c_EdgeHouse_ringNode_73 F rec20 n) x0 x2 x5 x6 x9 x10 x11 (((v54 - x6) &&& (65535 : Int32)) + x10) T0)))
theorem T_c_EdgeHouse_ringNode_73 {l : Launch} {w0 : List mM} {F : Nat} {T0 : tT} {rec20 : Nat → Int32 → Option Nat → Int32 → Int32 → Int32 → Int32 → tT → Option (Int32)} (hr20 : ∀ {x0 : Nat} {x2 : Int32} {x5 : Option Nat} {x6 : Int32} {x7 : Int32} {x8 : Int32} {x9 : Int32} {w : List mM} {yz : Int32}, okr T0.2.1 (some x0) → okr T0.2.1 x5 → RT T0 w → m_Fm w0 w → rec20 x0 x2 x5 x6 x7 x8 x9 T0 = some yz → m_Rb l M_71 (20, [(0, .ref x0), (2, .int x2), (5, rv x5), (6, .int x6), (7, .int x7), (8, .int x8), (9, .int x9)], [], w) (fun v w' => v = some (.int yz) ∧ RT T0 w' ∧ m_Fm w0 w') T0 T0 1 100) : ∀ (n : Nat) {x0 : Nat} {x2 : Int32} {x5 : Option Nat} {x6 : Int32} {x7 : Int32} {x8 : Int32} {x9 : Int32} {x10 : Int32} {x11 : Int32} {w : List mM} {yz : Int32}, okr T0.2.1 (some x0) → okr T0.2.1 x5 → RT T0 w → m_Fm w0 w → D_c_EdgeHouse_ringNode_73 F rec20 n x0 x2 x5 x6 x7 x8 x9 x10 x11 T0 = some yz → m_Rb l M_71 (73, [(0, .ref x0), (2, .int x2), (5, rv x5), (6, .int x6), (7, .int x7), (8, .int x8), (9, .int x9), (10, .int x10), (11, .int x11)], [], w) (fun v w' => v = some (.int yz) ∧ RT T0 w' ∧ m_Fm w0 w') T0 T0 1 100 := by
  intro n
  induction n with
  | zero => intro x0 x2 x5 x6 x7 x8 x9 x10 x11 w yz hx0 hx5 h hF h0; cases h0
  | succ n ih =>
    intro x0 x2 x5 x6 x7 x8 x9 x10 x11 w yz hx0 hx5 h hF h0
    rw [D_c_EdgeHouse_ringNode_73] at h0
    refine m_Rb.n0 b_71 (x_iload d_71_73 rfl) ?_
    refine m_Rb.n0 b_71 (x_iconst (z := 4) d_71_75 (by decide)) ?_
    cases hc45 : m_c2 .ge x11 (4 : Int32) with
    | true =>
      have j46 := cT hc45 h0
      refine m_Rb.n0 b_71 (x_ict d_71_76 rfl hc45) ?_
      exact m_Rb.pick [0, 1, 2, 3, 4, 5, 6] rfl (T_c_EdgeHouse_ringNode_130 hr20 hx0 hx5 h hF j46)
    | false =>
      have j46 := cF hc45 h0
      refine m_Rb.n0 b_71 (x_icf d_71_76 rfl hc45) ?_
      refine m_Rb.n0 b_71 (x_aload_n d_71_79 rfl) ?_
      obtain ⟨v47, e48, j49⟩ := bS j46
      refine m_Rb.tgetR b_71 d_71_80 rfl h e48 (fun o50 => ?_)
      refine m_Rb.n0 b_71 (x_iload d_71_83 rfl) ?_
      refine m_Rb.n0 b_71 (x_iconst (z := 4) d_71_85 (by decide)) ?_
      refine m_Rb.n0 b_71 (x_imul d_71_86 rfl) ?_
      refine m_Rb.n0 b_71 (x_iload d_71_87 rfl) ?_
      refine m_Rb.n0 b_71 (x_iadd d_71_89 rfl) ?_
      obtain ⟨a51, e52, j53⟩ := bS j49
      subst e52
      obtain ⟨v54, e55, j56⟩ := bS j53
      refine m_Rb.tgetA b_71 d_71_90 h e55 ?_
      refine m_Rb.n0 b_71 (x_iload d_71_91 rfl) ?_
      refine m_Rb.n0 b_71 (x_isub d_71_93 rfl) ?_
      refine m_Rb.n0 b_71 (x_ldcw (v := .int 65535) d_71_94 rfl) ?_
      refine m_Rb.n0 b_71 (x_iand d_71_97 rfl) ?_
      refine m_Rb.n0 b_71 (x_iload d_71_98 rfl) ?_
      refine m_Rb.n0 b_71 (x_iadd d_71_100 rfl) ?_
      refine m_Rb.n0 b_71 (x_istore d_71_101 rfl (show m_put1 _ _ _ = [(12, _), (0, _), (2, _), (5, _), (6, _), (7, _), (8, _), (9, _), (10, _), (11, _)] from rfl)) ?_
      refine m_Rb.n0 b_71 (x_iload d_71_103 rfl) ?_
      refine m_Rb.n0 b_71 (x_iconst (z := (-1)) d_71_105 (by decide)) ?_
      cases hc61 : m_c2 .eq x7 ((-1) : Int32) with
      | true =>
        have j62 := cT hc61 j56
        refine m_Rb.n0 b_71 (x_ict d_71_106 rfl hc61) ?_
        exact m_Rb.pick [1, 2, 3, 4, 7, 8, 9, 0] rfl (T_c_EdgeHouse_ringNode_116 hr20 ih hx0 hx5 h hF j62)
      | false =>
        have j62 := cF hc61 j56
        refine m_Rb.n0 b_71 (x_icf d_71_106 rfl hc61) ?_
        refine m_Rb.n0 b_71 (x_iload d_71_109 rfl) ?_
        refine m_Rb.n0 b_71 (x_iload d_71_111 rfl) ?_
        cases hc67 : m_c2 .ge (((v54 - x6) &&& (65535 : Int32)) + x10) x8 with
        | true =>
          have j68 := cT hc67 j62
          refine m_Rb.n0 b_71 (x_ict d_71_113 rfl hc67) ?_
          exact m_Rb.pick [1, 2, 3, 4, 5, 6, 7, 8, 9] rfl (T_c_EdgeHouse_ringNode_124 hr20 ih hx0 hx5 h hF j68)
        | false =>
          have j68 := cF hc67 j62
          refine m_Rb.n0 b_71 (x_icf d_71_113 rfl hc67) ?_
          exact m_Rb.pick [1, 2, 3, 4, 7, 8, 9, 0] rfl (T_c_EdgeHouse_ringNode_116 hr20 ih hx0 hx5 h hF j68)
def D_c_EdgeHouse_ringNode_68 (F : Nat) (rec20 : Nat → Int32 → Option Nat → Int32 → Int32 → Int32 → Int32 → tT → Option (Int32)) (x0 : Nat) (x2 : Int32) (x5 : Option Nat) (x6 : Int32) (x7 : Int32) (x8 : Int32) (x9 : Int32) (y0 : Int32) (T0 : tT) : Option (Int32) := D_c_EdgeHouse_ringNode_73 F rec20 F x0 x2 x5 x6 x7 x8 x9 y0 (0 : Int32) T0
theorem T_c_EdgeHouse_ringNode_68 {l : Launch} {w0 : List mM} {F : Nat} {T0 : tT} {rec20 : Nat → Int32 → Option Nat → Int32 → Int32 → Int32 → Int32 → tT → Option (Int32)} (hr20 : ∀ {x0 : Nat} {x2 : Int32} {x5 : Option Nat} {x6 : Int32} {x7 : Int32} {x8 : Int32} {x9 : Int32} {w : List mM} {yz : Int32}, okr T0.2.1 (some x0) → okr T0.2.1 x5 → RT T0 w → m_Fm w0 w → rec20 x0 x2 x5 x6 x7 x8 x9 T0 = some yz → m_Rb l M_71 (20, [(0, .ref x0), (2, .int x2), (5, rv x5), (6, .int x6), (7, .int x7), (8, .int x8), (9, .int x9)], [], w) (fun v w' => v = some (.int yz) ∧ RT T0 w' ∧ m_Fm w0 w') T0 T0 1 100) {x0 : Nat} {x2 : Int32} {x5 : Option Nat} {x6 : Int32} {x7 : Int32} {x8 : Int32} {x9 : Int32} {y0 : Int32} {w : List mM} {yz : Int32} (hx0 : okr T0.2.1 (some x0)) (hx5 : okr T0.2.1 x5) (h : RT T0 w) (hF : m_Fm w0 w) (h0 : D_c_EdgeHouse_ringNode_68 F rec20 x0 x2 x5 x6 x7 x8 x9 y0 T0 = some yz) : m_Rb l M_71 (68, [(0, .ref x0), (2, .int x2), (5, rv x5), (6, .int x6), (7, .int x7), (8, .int x8), (9, .int x9)], [.int y0], w) (fun v w' => v = some (.int yz) ∧ RT T0 w' ∧ m_Fm w0 w') T0 T0 1 100 := by
  rw [D_c_EdgeHouse_ringNode_68] at h0
  refine m_Rb.n0 b_71 (x_istore d_71_68 rfl (show m_put1 _ _ _ = [(10, _), (0, _), (2, _), (5, _), (6, _), (7, _), (8, _), (9, _)] from rfl)) ?_
  refine m_Rb.n0 b_71 (x_iconst (z := 0) d_71_70 (by decide)) ?_
  refine m_Rb.n0 b_71 (x_istore d_71_71 rfl (show m_put1 _ _ _ = [(11, _), (10, _), (0, _), (2, _), (5, _), (6, _), (7, _), (8, _), (9, _)] from rfl)) ?_
  exact m_Rb.pick [2, 3, 4, 5, 6, 7, 8, 1, 0] rfl (T_c_EdgeHouse_ringNode_73 hr20 F hx0 hx5 h hF h0)
def D_c_EdgeHouse_ringNode_67 (F : Nat) (rec20 : Nat → Int32 → Option Nat → Int32 → Int32 → Int32 → Int32 → tT → Option (Int32)) (x0 : Nat) (x2 : Int32) (x5 : Option Nat) (x6 : Int32) (x7 : Int32) (x8 : Int32) (x9 : Int32) (T0 : tT) : Option (Int32) := D_c_EdgeHouse_ringNode_68 F rec20 x0 x2 x5 x6 x7 x8 x9 (0 : Int32) T0
theorem T_c_EdgeHouse_ringNode_67 {l : Launch} {w0 : List mM} {F : Nat} {T0 : tT} {rec20 : Nat → Int32 → Option Nat → Int32 → Int32 → Int32 → Int32 → tT → Option (Int32)} (hr20 : ∀ {x0 : Nat} {x2 : Int32} {x5 : Option Nat} {x6 : Int32} {x7 : Int32} {x8 : Int32} {x9 : Int32} {w : List mM} {yz : Int32}, okr T0.2.1 (some x0) → okr T0.2.1 x5 → RT T0 w → m_Fm w0 w → rec20 x0 x2 x5 x6 x7 x8 x9 T0 = some yz → m_Rb l M_71 (20, [(0, .ref x0), (2, .int x2), (5, rv x5), (6, .int x6), (7, .int x7), (8, .int x8), (9, .int x9)], [], w) (fun v w' => v = some (.int yz) ∧ RT T0 w' ∧ m_Fm w0 w') T0 T0 1 100) {x0 : Nat} {x2 : Int32} {x5 : Option Nat} {x6 : Int32} {x7 : Int32} {x8 : Int32} {x9 : Int32} {w : List mM} {yz : Int32} (hx0 : okr T0.2.1 (some x0)) (hx5 : okr T0.2.1 x5) (h : RT T0 w) (hF : m_Fm w0 w) (h0 : D_c_EdgeHouse_ringNode_67 F rec20 x0 x2 x5 x6 x7 x8 x9 T0 = some yz) : m_Rb l M_71 (67, [(0, .ref x0), (2, .int x2), (5, rv x5), (6, .int x6), (7, .int x7), (8, .int x8), (9, .int x9)], [], w) (fun v w' => v = some (.int yz) ∧ RT T0 w' ∧ m_Fm w0 w') T0 T0 1 100 := by
  rw [D_c_EdgeHouse_ringNode_67] at h0
  refine m_Rb.n0 b_71 (x_iconst (z := 0) d_71_67 (by decide)) ?_
  exact m_Rb.pick [0, 1, 2, 3, 4, 5, 6] rfl (T_c_EdgeHouse_ringNode_68 hr20 hx0 hx5 h hF h0)
def D_c_EdgeHouse_ringNode_20 (F : Nat) : Nat → Nat → Int32 → Option Nat → Int32 → Int32 → Int32 → Int32 → tT → Option (Int32)
  | 0, _, _, _, _, _, _, _, _ => none
  | n + 1, x0, x2, x5, x6, x7, x8, x9, T0 => cond (m_c2 .gt x9 x2) (some x7) ((tgr T0 x0 0 3).bind fun v7 => (v7).bind fun a11 => (tar T0 a11 7 x9).bind fun v14 => (v14).bind fun a18 => (tgi T0 a18 4 6).bind fun v21 => cond (m_c1 .ne v21) (nc x5 (D_c_EdgeHouse_ringNode_67 F (D_c_EdgeHouse_ringNode_20 F n) x0 x2 none x6 x7 x8 x9 T0) fun a26 => ((tgi T0 x0 0 14).bind fun v28 => (tcl T0 a26 4).bind fun _ => (D_c_Node_shuns F a26 x9 v28 T0).bind fun v34 => (cond (m_c1 .eq v34) (some (0 : Int32)) (some (65536 : Int32))).bind fun v42 => D_c_EdgeHouse_ringNode_73 F (D_c_EdgeHouse_ringNode_20 F n) F x0 x2 (some a26) x6 x7 x8 x9 v42 (0 : Int32) T0)) (D_c_EdgeHouse_ringNode_130 F (D_c_EdgeHouse_ringNode_20 F n) x0 x2 x5 x6 x7 x8 x9 T0))
theorem T_c_EdgeHouse_ringNode_20 {l : Launch} {w0 : List mM} {F : Nat} {T0 : tT} : ∀ (n : Nat) {x0 : Nat} {x2 : Int32} {x5 : Option Nat} {x6 : Int32} {x7 : Int32} {x8 : Int32} {x9 : Int32} {w : List mM} {yz : Int32}, okr T0.2.1 (some x0) → okr T0.2.1 x5 → RT T0 w → m_Fm w0 w → D_c_EdgeHouse_ringNode_20 F n x0 x2 x5 x6 x7 x8 x9 T0 = some yz → m_Rb l M_71 (20, [(0, .ref x0), (2, .int x2), (5, rv x5), (6, .int x6), (7, .int x7), (8, .int x8), (9, .int x9)], [], w) (fun v w' => v = some (.int yz) ∧ RT T0 w' ∧ m_Fm w0 w') T0 T0 1 100 := by
  intro n
  induction n with
  | zero => intro x0 x2 x5 x6 x7 x8 x9 w yz hx0 hx5 h hF h0; cases h0
  | succ n ih =>
    intro x0 x2 x5 x6 x7 x8 x9 w yz hx0 hx5 h hF h0
    rw [D_c_EdgeHouse_ringNode_20] at h0
    refine m_Rb.n0 b_71 (x_iload d_71_20 rfl) ?_
    refine m_Rb.n0 b_71 (x_iload_n d_71_22 rfl) ?_
    cases hc5 : m_c2 .gt x9 x2 with
    | true =>
      have j6 := cT hc5 h0
      refine m_Rb.n0 b_71 (x_ict d_71_23 rfl hc5) ?_
      refine m_Rb.n0 b_71 (x_iload d_71_136 rfl) ?_
      cases j6
      exact m_Rb.ret b_71 (m_rt_ir d_71_138 rfl rfl) ⟨rfl, h, hF⟩
    | false =>
      have j6 := cF hc5 h0
      refine m_Rb.n0 b_71 (x_icf d_71_23 rfl hc5) ?_
      refine m_Rb.n0 b_71 (x_aload_n d_71_26 rfl) ?_
      obtain ⟨v7, e8, j9⟩ := bS j6
      refine m_Rb.tgetR b_71 d_71_27 rfl h e8 (fun o10 => ?_)
      refine m_Rb.n0 b_71 (x_iload d_71_30 rfl) ?_
      obtain ⟨a11, e12, j13⟩ := bS j9
      subst e12
      obtain ⟨v14, e15, j16⟩ := bS j13
      refine m_Rb.tgetO (t := 7) b_71 d_71_32 rfl rfl h e15 (fun o17 => ?_)
      obtain ⟨a18, e19, j20⟩ := bS j16
      subst e19
      obtain ⟨v21, e22, j23⟩ := bS j20
      refine m_Rb.tgetI b_71 d_71_33 rfl h e22 ?_
      cases hc24 : m_c1 .ne v21 with
      | true =>
        have j25 := cT hc24 j23
        refine m_Rb.n0 b_71 (x_ift d_71_36 rfl hc24) ?_
        refine m_Rb.n0 b_71 (x_aloadr (x := x5) d_71_42 rfl) ?_
        cases x5 with
        | none =>
          have j27 := nN j25
          refine m_Rb.n0 b_71 (x_ifnull0 d_71_44 rfl) ?_
          exact m_Rb.pick [0, 1, 2, 3, 4, 5, 6] rfl (T_c_EdgeHouse_ringNode_67 ih hx0 okr_none h hF j27)
        | some a26 =>
          have j27 := nS j25
          refine m_Rb.n0 b_71 (x_ifnull1 d_71_44 rfl) ?_
          refine m_Rb.n0 b_71 (x_aload d_71_47 rfl) ?_
          refine m_Rb.n0 b_71 (x_iload d_71_49 rfl) ?_
          refine m_Rb.n0 b_71 (x_aload_n d_71_51 rfl) ?_
          obtain ⟨v28, e29, j30⟩ := bS j27
          refine m_Rb.tgetI b_71 d_71_52 rfl h e29 ?_
          obtain ⟨_, e31, j32⟩ := bS j30
          obtain ⟨_, g33⟩ := RT.cls h e31
          obtain ⟨v34, e35, j36⟩ := bS j32
          refine m_Rb.callI b_71 (y_cv d_71_55 rfl q_72 (m_isRecv_of rfl g33) (show m_takeI _ _ = some (_, [_, _, _], []) from m_takeI_of rfl rfl rfl (Nat.le_of_ble_eq_true rfl)) (by simp only [m_okf, List.all_cons, List.all_nil, Bool.and_true, Bool.and_self, m_okv_i, m_okv_l, m_okv_0, m_okv_n0, m_okv_t, RT.okn h hx0, RT.okv h hx0, RT.okn h hx5, RT.okv h hx5]) rfl) (T_c_Node_shuns hx5 h e35) hF rfl (fun w37 h37 f37 k37 => ?_) (by decide) (by decide)
          obtain ⟨v42, e39, j43⟩ := bS j36
          have kk38 : ∀ (xz : Int32) (w1 : List mM), xz = v42 → RT T0 w1 → m_Fm w0 w1 → m_Rb l M_71 (68, [(0, .ref x0), (2, .int x2), (5, .ref a26), (6, .int x6), (7, .int x7), (8, .int x8), (9, .int x9)], [.int xz], w1) (fun v w' => v = some (.int yz) ∧ RT T0 w' ∧ m_Fm w0 w') T0 T0 1 100 := by
            intro xz w44 ez h44 f44
            rw [ez]
            refine m_Rb.n0 b_71 (x_istore d_71_68 rfl (show m_put1 _ _ _ = [(10, _), (0, _), (2, _), (5, _), (6, _), (7, _), (8, _), (9, _)] from rfl)) ?_
            refine m_Rb.n0 b_71 (x_iconst (z := 0) d_71_70 (by decide)) ?_
            refine m_Rb.n0 b_71 (x_istore d_71_71 rfl (show m_put1 _ _ _ = [(11, _), (10, _), (0, _), (2, _), (5, _), (6, _), (7, _), (8, _), (9, _)] from rfl)) ?_
            exact m_Rb.pick [2, 3, 4, 5, 6, 7, 8, 1, 0] rfl (T_c_EdgeHouse_ringNode_73 ih F hx0 hx5 h44 f44 j43)
          cases hc40 : m_c1 .eq v34 with
          | true =>
            have j41 := cT hc40 e39
            refine m_Rb.n0 b_71 (x_ift d_71_58 rfl hc40) ?_
            refine m_Rb.n0 b_71 (x_iconst (z := 0) d_71_67 (by decide)) ?_
            exact kk38 _ _ (Option.some.inj j41) h37 f37
          | false =>
            have j41 := cF hc40 e39
            refine m_Rb.n0 b_71 (x_iff d_71_58 rfl hc40) ?_
            refine m_Rb.n0 b_71 (x_ldcw (v := .int 65536) d_71_61 rfl) ?_
            refine m_Rb.n0 b_71 (x_goto d_71_64 rfl) ?_
            exact kk38 _ _ (Option.some.inj j41) h37 f37
      | false =>
        have j25 := cF hc24 j23
        refine m_Rb.n0 b_71 (x_iff d_71_36 rfl hc24) ?_
        refine m_Rb.n0 b_71 (x_goto d_71_39 rfl) ?_
        exact m_Rb.pick [0, 1, 2, 3, 4, 5, 6] rfl (T_c_EdgeHouse_ringNode_130 ih hx0 hx5 h hF j25)
def D_c_EdgeHouse_ringNode (F : Nat) (a0 : Nat) (p0 : Int32) (p1 : Int32) (p2 : Int32) (p3 : Int32) (p4 : Option Nat) (T0 : tT) : Option (Int32) := (D_c_EdgeHouse_hash F ((64 : Int32) + p2) p3 T0).bind fun v1 => D_c_EdgeHouse_ringNode_20 F F a0 p1 p4 v1 ((-1) : Int32) (0 : Int32) p0 T0
theorem T_c_EdgeHouse_ringNode {l : Launch} {w : List mM} {F : Nat} {a0 : Nat} {p0 : Int32} {p1 : Int32} {p2 : Int32} {p3 : Int32} {p4 : Option Nat} {T0 : tT} {yz : Int32} (ha0 : okr T0.2.1 (some a0)) (hp4 : okr T0.2.1 p4) (h : RT T0 w) (h0 : D_c_EdgeHouse_ringNode F a0 p0 p1 p2 p3 p4 T0 = some yz) : m_Rb l M_71 (m_ent M_71 [.ref a0, .int p0, .int p1, .int p2, .int p3, rv p4] w) (fun v w' => v = some (.int yz) ∧ RT T0 w' ∧ m_Fm w w') T0 T0 1 100 := by
  rw [show m_ent M_71 [.ref a0, .int p0, .int p1, .int p2, .int p3, rv p4] w = (0, [(0, .ref a0), (1, .int p0), (2, .int p1), (3, .int p2), (4, .int p3), (5, rv p4)], [], w) from by first | rfl | (simp only [m_ent, lv_args_r, lv_args_a, lv_args_i, lv_args_l, lv_args_0]; done) | (simp only [m_ent, lv_args_r, lv_args_a, lv_args_i, lv_args_l, lv_args_0]; rfl)]
  generalize hw0 : w = w0 at h ⊢
  have hF : m_Fm w0 w0 := m_Fm.refl
  rw [D_c_EdgeHouse_ringNode] at h0
  refine m_Rb.n0 b_71 (x_bipush (z := 64) d_71_0 (by decide)) ?_
  refine m_Rb.n0 b_71 (x_iload_n d_71_2 rfl) ?_
  refine m_Rb.n0 b_71 (x_iadd d_71_3 rfl) ?_
  refine m_Rb.n0 b_71 (x_iload d_71_4 rfl) ?_
  obtain ⟨v1, e2, j3⟩ := bS h0
  refine m_Rb.callI b_71 (y_cs d_71_6 rfl q_11 (show m_takeS _ _ = some (_, [_, _], []) from m_takeS_of (Nat.le_of_ble_eq_true rfl) rfl rfl (Nat.le_of_ble_eq_true rfl)) (by simp only [m_okf, List.all_cons, List.all_nil, Bool.and_true, Bool.and_self, m_okv_i, m_okv_l, m_okv_0, m_okv_n0, m_okv_t, RT.okn h ha0, RT.okv h ha0, RT.okv h hp4]) rfl) (T_c_EdgeHouse_hash h e2) hF rfl (fun w4 h4 f4 k4 => ?_) (by decide) (by decide)
  refine m_Rb.n0 b_71 (x_istore d_71_9 rfl (show m_put1 _ _ _ = [(6, _), (0, _), (1, _), (2, _), (3, _), (4, _), (5, _)] from (m_p1r (by simp only [List.all_cons, List.all_nil, cat_rv]; rfl)).trans rfl)) ?_
  refine m_Rb.n0 b_71 (x_iconst (z := (-1)) d_71_11 (by decide)) ?_
  refine m_Rb.n0 b_71 (x_istore d_71_12 rfl (show m_put1 _ _ _ = [(7, _), (6, _), (0, _), (1, _), (2, _), (3, _), (4, _), (5, _)] from rfl)) ?_
  refine m_Rb.n0 b_71 (x_iconst (z := 0) d_71_14 (by decide)) ?_
  refine m_Rb.n0 b_71 (x_istore d_71_15 rfl (show m_put1 _ _ _ = [(8, _), (7, _), (6, _), (0, _), (1, _), (2, _), (3, _), (4, _), (5, _)] from rfl)) ?_
  refine m_Rb.n0 b_71 (x_iload_n d_71_17 rfl) ?_
  refine m_Rb.n0 b_71 (x_istore d_71_18 rfl (show m_put1 _ _ _ = [(9, _), (8, _), (7, _), (6, _), (0, _), (1, _), (2, _), (3, _), (4, _), (5, _)] from rfl)) ?_
  exact m_Rb.pick [4, 6, 9, 3, 2, 1, 0] rfl (T_c_EdgeHouse_ringNode_20 F ha0 hp4 h4 f4 j3)
def D_c_Store_count (F : Nat) (a0 : Nat) (T0 : tT) : Option (Int32) := (tgr T0 a0 5 0).bind fun v1 => (v1).bind fun a5 => (tls T0 a5).bind fun v8 => (tgr T0 a0 5 1).bind fun v11 => (v11).bind fun a15 => (tls T0 a15).bind fun v18 => some (v8 + v18)
theorem T_c_Store_count {l : Launch} {w : List mM} {F : Nat} {a0 : Nat} {T0 : tT} {yz : Int32} (ha0 : okr T0.2.1 (some a0)) (h : RT T0 w) (h0 : D_c_Store_count F a0 T0 = some yz) : m_Rb l M_75 (m_ent M_75 [.ref a0] w) (fun v w' => v = some (.int yz) ∧ RT T0 w' ∧ m_Fm w w') T0 T0 1 100 := by
  rw [show m_ent M_75 [.ref a0] w = (0, [(0, .ref a0)], [], w) from by first | rfl | (simp only [m_ent, lv_args_r, lv_args_a, lv_args_i, lv_args_l, lv_args_0]; done) | (simp only [m_ent, lv_args_r, lv_args_a, lv_args_i, lv_args_l, lv_args_0]; rfl)]
  generalize hw0 : w = w0 at h ⊢
  have hF : m_Fm w0 w0 := m_Fm.refl
  rw [D_c_Store_count] at h0
  refine m_Rb.n0 b_75 (x_aload_n d_75_0 rfl) ?_
  obtain ⟨v1, e2, j3⟩ := bS h0
  refine m_Rb.tgetR b_75 d_75_1 rfl h e2 (fun o4 => ?_)
  obtain ⟨a5, e6, j7⟩ := bS j3
  subst e6
  obtain ⟨v8, e9, j10⟩ := bS j7
  refine m_Rb.tlsize b_75 d_75_4 rfl (by simp only [m_okf, List.all_cons, List.all_nil, Bool.and_true, Bool.and_self, m_okv_i, m_okv_l, m_okv_0, m_okv_n0, m_okv_t, RT.okn h ha0, RT.okv h ha0, RT.okn h o4, RT.okv h o4]) (Nat.le_of_ble_eq_true rfl) h e9 ?_ (by decide) (by decide)
  refine m_Rb.n0 b_75 (x_aload_n d_75_7 rfl) ?_
  obtain ⟨v11, e12, j13⟩ := bS j10
  refine m_Rb.tgetR b_75 d_75_8 rfl h e12 (fun o14 => ?_)
  obtain ⟨a15, e16, j17⟩ := bS j13
  subst e16
  obtain ⟨v18, e19, j20⟩ := bS j17
  refine m_Rb.tlsize b_75 d_75_11 rfl (by simp only [m_okf, List.all_cons, List.all_nil, Bool.and_true, Bool.and_self, m_okv_i, m_okv_l, m_okv_0, m_okv_n0, m_okv_t, RT.okn h ha0, RT.okv h ha0, RT.okn h o14, RT.okv h o14]) (Nat.le_of_ble_eq_true rfl) h e19 ?_ (by decide) (by decide)
  refine m_Rb.n0 b_75 (x_iadd d_75_14 rfl) ?_
  cases j20
  exact m_Rb.ret b_75 (m_rt_ir d_75_15 rfl rfl) ⟨rfl, h, hF⟩
def D_c_Store_at_12 (F : Nat) (x0 : Nat) (T0 : tT) : Option (Option Nat) := some none
theorem T_c_Store_at_12 {l : Launch} {w0 : List mM} {F : Nat} {T0 : tT} {x0 : Nat} {w : List mM} {yz : Option Nat} (hx0 : okr T0.2.1 (some x0)) (h : RT T0 w) (hF : m_Fm w0 w) (h0 : D_c_Store_at_12 F x0 T0 = some yz) : m_Rb l M_76 (12, [(0, .ref x0)], [], w) (fun v w' => v = some (rv yz) ∧ okr T0.2.1 yz ∧ RT T0 w' ∧ m_Fm w0 w') T0 T0 3 300 := by
  rw [D_c_Store_at_12] at h0
  refine m_Rb.n0 b_76 (x_null d_76_12) ?_
  have o9 : okr T0.2.1 none := okr_none
  cases h0
  exact m_Rb.ret b_76 (m_rt_rr (x := none) d_76_13 rfl) ⟨rfl, o9, h, hF⟩
def D_c_Store_at_58 (F : Nat) (x0 : Nat) (y0 : Option Nat) (T0 : tT) : Option (Option Nat) := some y0
theorem T_c_Store_at_58 {l : Launch} {w0 : List mM} {F : Nat} {T0 : tT} {x0 : Nat} {y0 : Option Nat} {w : List mM} {yz : Option Nat} (hx0 : okr T0.2.1 (some x0)) (hy0 : okr T0.2.1 y0) (h : RT T0 w) (hF : m_Fm w0 w) (h0 : D_c_Store_at_58 F x0 y0 T0 = some yz) : m_Rb l M_76 (58, [(0, .ref x0)], [rv y0], w) (fun v w' => v = some (rv yz) ∧ okr T0.2.1 yz ∧ RT T0 w' ∧ m_Fm w0 w') T0 T0 3 300 := by
  rw [D_c_Store_at_58] at h0
  have o9 : okr T0.2.1 y0 := hy0
  cases h0
  exact m_Rb.ret b_76 (m_rt_rr d_76_58 rfl) ⟨rfl, o9, h, hF⟩
def D_c_Store_at (F : Nat) (a0 : Nat) (p0 : Int32) (T0 : tT) : Option (Option Nat) := cond (m_c1 .lt p0) (D_c_Store_at_12 F a0 T0) ((tcl T0 a0 5).bind fun _ => (D_c_Store_count F a0 T0).bind fun v6 => cond (m_c2 .lt p0 v6) ((tgr T0 a0 5 0).bind fun v12 => (v12).bind fun a16 => (tls T0 a16).bind fun v19 => cond (m_c2 .ge p0 v19) ((tgr T0 a0 5 1).bind fun v51 => (tgr T0 a0 5 0).bind fun v55 => (v55).bind fun a59 => (tls T0 a59).bind fun v62 => (v51).bind fun a65 => (tlg T0 a65 (p0 - v62)).bind fun b68 => (tcc T0 (some b68) 11).bind fun _ => D_c_Store_at_58 F a0 (some b68) T0) ((tgr T0 a0 5 0).bind fun v74 => (v74).bind fun a78 => (tlg T0 a78 p0).bind fun b81 => (tcc T0 (some b81) 11).bind fun _ => D_c_Store_at_58 F a0 (some b81) T0)) (D_c_Store_at_12 F a0 T0))
theorem T_c_Store_at {l : Launch} {w : List mM} {F : Nat} {a0 : Nat} {p0 : Int32} {T0 : tT} {yz : Option Nat} (ha0 : okr T0.2.1 (some a0)) (h : RT T0 w) (h0 : D_c_Store_at F a0 p0 T0 = some yz) : m_Rb l M_76 (m_ent M_76 [.ref a0, .int p0] w) (fun v w' => v = some (rv yz) ∧ okr T0.2.1 yz ∧ RT T0 w' ∧ m_Fm w w') T0 T0 3 300 := by
  rw [show m_ent M_76 [.ref a0, .int p0] w = (0, [(0, .ref a0), (1, .int p0)], [], w) from by first | rfl | (simp only [m_ent, lv_args_r, lv_args_a, lv_args_i, lv_args_l, lv_args_0]; done) | (simp only [m_ent, lv_args_r, lv_args_a, lv_args_i, lv_args_l, lv_args_0]; rfl)]
  generalize hw0 : w = w0 at h ⊢
  have hF : m_Fm w0 w0 := m_Fm.refl
  rw [D_c_Store_at] at h0
  refine m_Rb.n0 b_76 (x_iload_n d_76_0 rfl) ?_
  cases hc1 : m_c1 .lt p0 with
  | true =>
    have j2 := cT hc1 h0
    refine m_Rb.n0 b_76 (x_ift d_76_1 rfl hc1) ?_
    exact m_Rb.pick [0] rfl (T_c_Store_at_12 ha0 h hF j2)
  | false =>
    have j2 := cF hc1 h0
    refine m_Rb.n0 b_76 (x_iff d_76_1 rfl hc1) ?_
    refine m_Rb.n0 b_76 (x_iload_n d_76_4 rfl) ?_
    refine m_Rb.n0 b_76 (x_aload_n d_76_5 rfl) ?_
    obtain ⟨_, e3, j4⟩ := bS j2
    obtain ⟨_, g5⟩ := RT.cls h e3
    obtain ⟨v6, e7, j8⟩ := bS j4
    refine m_Rb.callI b_76 (y_cv d_76_6 rfl q_75 (m_isRecv_of rfl g5) (show m_takeI _ _ = some (_, [_], [_]) from m_takeI_of rfl rfl rfl (Nat.le_of_ble_eq_true rfl)) (by simp only [m_okf, List.all_cons, List.all_nil, Bool.and_true, Bool.and_self, m_okv_i, m_okv_l, m_okv_0, m_okv_n0, m_okv_t, RT.okn h ha0, RT.okv h ha0]) rfl) (T_c_Store_count ha0 h e7) hF rfl (fun w9 h9 f9 k9 => ?_) (by decide) (by decide)
    cases hc10 : m_c2 .lt p0 v6 with
    | true =>
      have j11 := cT hc10 j8
      refine m_Rb.n0 b_76 (x_ict d_76_9 rfl hc10) ?_
      refine m_Rb.n0 b_76 (x_iload_n d_76_14 rfl) ?_
      refine m_Rb.n0 b_76 (x_aload_n d_76_15 rfl) ?_
      obtain ⟨v12, e13, j14⟩ := bS j11
      refine m_Rb.tgetR b_76 d_76_16 rfl h9 e13 (fun o15 => ?_)
      obtain ⟨a16, e17, j18⟩ := bS j14
      subst e17
      obtain ⟨v19, e20, j21⟩ := bS j18
      refine m_Rb.tlsize b_76 d_76_19 rfl (by simp only [m_okf, List.all_cons, List.all_nil, Bool.and_true, Bool.and_self, m_okv_i, m_okv_l, m_okv_0, m_okv_n0, m_okv_t, RT.okn h9 ha0, RT.okv h9 ha0, RT.okn h9 o15, RT.okv h9 o15]) (Nat.le_of_ble_eq_true rfl) h9 e20 ?_ (by decide) (by decide)
      cases hc49 : m_c2 .ge p0 v19 with
      | true =>
        have j50 := cT hc49 j21
        refine m_Rb.n0 b_76 (x_ict d_76_22 rfl hc49) ?_
        refine m_Rb.n0 b_76 (x_aload_n d_76_39 rfl) ?_
        obtain ⟨v51, e52, j53⟩ := bS j50
        refine m_Rb.tgetR b_76 d_76_40 rfl h9 e52 (fun o54 => ?_)
        refine m_Rb.n0 b_76 (x_iload_n d_76_43 rfl) ?_
        refine m_Rb.n0 b_76 (x_aload_n d_76_44 rfl) ?_
        obtain ⟨v55, e56, j57⟩ := bS j53
        refine m_Rb.tgetR b_76 d_76_45 rfl h9 e56 (fun o58 => ?_)
        obtain ⟨a59, e60, j61⟩ := bS j57
        subst e60
        obtain ⟨v62, e63, j64⟩ := bS j61
        refine m_Rb.tlsize b_76 d_76_48 rfl (by simp only [m_okf, List.all_cons, List.all_nil, Bool.and_true, Bool.and_self, m_okv_i, m_okv_l, m_okv_0, m_okv_n0, m_okv_t, RT.okn h9 ha0, RT.okv h9 ha0, RT.okn h9 o58, RT.okv h9 o58, RT.okv h9 o54]) (Nat.le_of_ble_eq_true rfl) h9 e63 ?_ (by decide) (by decide)
        refine m_Rb.n0 b_76 (x_isub d_76_51 rfl) ?_
        obtain ⟨a65, e66, j67⟩ := bS j64
        subst e66
        obtain ⟨b68, e69, j70⟩ := bS j67
        refine m_Rb.tlget b_76 d_76_52 rfl (by simp only [m_okf, List.all_cons, List.all_nil, Bool.and_true, Bool.and_self, m_okv_i, m_okv_l, m_okv_0, m_okv_n0, m_okv_t, RT.okn h9 ha0, RT.okv h9 ha0, RT.okn h9 o54, RT.okv h9 o54]) (Nat.le_of_ble_eq_true rfl) h9 e69 (fun o71 => ?_) (by decide) (by decide)
        obtain ⟨_, e72, j73⟩ := bS j70
        refine m_Rb.tcast (z := (some b68)) b_76 d_76_55 rfl h9 e72 ?_
        exact m_Rb.pick [0] rfl (T_c_Store_at_58 ha0 o71 h9 f9 j73)
      | false =>
        have j50 := cF hc49 j21
        refine m_Rb.n0 b_76 (x_icf d_76_22 rfl hc49) ?_
        refine m_Rb.n0 b_76 (x_aload_n d_76_25 rfl) ?_
        obtain ⟨v74, e75, j76⟩ := bS j50
        refine m_Rb.tgetR b_76 d_76_26 rfl h9 e75 (fun o77 => ?_)
        refine m_Rb.n0 b_76 (x_iload_n d_76_29 rfl) ?_
        obtain ⟨a78, e79, j80⟩ := bS j76
        subst e79
        obtain ⟨b81, e82, j83⟩ := bS j80
        refine m_Rb.tlget b_76 d_76_30 rfl (by simp only [m_okf, List.all_cons, List.all_nil, Bool.and_true, Bool.and_self, m_okv_i, m_okv_l, m_okv_0, m_okv_n0, m_okv_t, RT.okn h9 ha0, RT.okv h9 ha0, RT.okn h9 o77, RT.okv h9 o77]) (Nat.le_of_ble_eq_true rfl) h9 e82 (fun o84 => ?_) (by decide) (by decide)
        obtain ⟨_, e85, j86⟩ := bS j83
        refine m_Rb.tcast (z := (some b81)) b_76 d_76_33 rfl h9 e85 ?_
        refine m_Rb.n0 b_76 (x_goto d_76_36 rfl) ?_
        exact m_Rb.pick [0] rfl (T_c_Store_at_58 ha0 o84 h9 f9 j86)
    | false =>
      have j11 := cF hc10 j8
      refine m_Rb.n0 b_76 (x_icf d_76_9 rfl hc10) ?_
      exact m_Rb.pick [0] rfl (T_c_Store_at_12 ha0 h9 f9 j11)
def D_c_Entry_isOf (F : Nat) (a0 : Nat) (p0 : Int32) (p1 : Int32) (T0 : tT) : Option (Int32) := (tgi T0 a0 11 0).bind fun v1 => (cond (m_c2 .ne v1 p0) (some (0 : Int32)) ((tgi T0 a0 11 1).bind fun v8 => cond (m_c2 .ne v8 p1) (some (0 : Int32)) (some (1 : Int32)))).bind fun v13 => (bret v13).bind fun v16 => some v16
theorem T_c_Entry_isOf {l : Launch} {w : List mM} {F : Nat} {a0 : Nat} {p0 : Int32} {p1 : Int32} {T0 : tT} {yz : Int32} (ha0 : okr T0.2.1 (some a0)) (h : RT T0 w) (h0 : D_c_Entry_isOf F a0 p0 p1 T0 = some yz) : m_Rb l M_81 (m_ent M_81 [.ref a0, .int p0, .int p1] w) (fun v w' => v = some (.int yz) ∧ RT T0 w' ∧ m_Fm w w') T0 T0 0 0 := by
  rw [show m_ent M_81 [.ref a0, .int p0, .int p1] w = (0, [(0, .ref a0), (1, .int p0), (2, .int p1)], [], w) from by first | rfl | (simp only [m_ent, lv_args_r, lv_args_a, lv_args_i, lv_args_l, lv_args_0]; done) | (simp only [m_ent, lv_args_r, lv_args_a, lv_args_i, lv_args_l, lv_args_0]; rfl)]
  generalize hw0 : w = w0 at h ⊢
  have hF : m_Fm w0 w0 := m_Fm.refl
  rw [D_c_Entry_isOf] at h0
  refine m_Rb.n0 b_81 (x_aload_n d_81_0 rfl) ?_
  obtain ⟨v1, e2, j3⟩ := bS h0
  refine m_Rb.tgetI b_81 d_81_1 rfl h e2 ?_
  refine m_Rb.n0 b_81 (x_iload_n d_81_4 rfl) ?_
  obtain ⟨v13, e5, j14⟩ := bS j3
  have kk4 : ∀ (xz : Int32) (w1 : List mM), xz = v13 → RT T0 w1 → m_Fm w0 w1 → m_Rb l M_81 (21, [(0, .ref a0), (1, .int p0), (2, .int p1)], [.int xz], w1) (fun v w' => v = some (.int yz) ∧ RT T0 w' ∧ m_Fm w0 w') T0 T0 0 0 := by
    intro xz w15 ez h15 f15
    rw [ez]
    obtain ⟨v16, e17, j18⟩ := bS j14
    cases j18
    exact m_Rb.retb b_81 d_81_21 rfl e17 ⟨rfl, h15, f15⟩
  cases hc6 : m_c2 .ne v1 p0 with
  | true =>
    have j7 := cT hc6 e5
    refine m_Rb.n0 b_81 (x_ict d_81_5 rfl hc6) ?_
    refine m_Rb.n0 b_81 (x_iconst (z := 0) d_81_20 (by decide)) ?_
    exact kk4 _ _ (Option.some.inj j7) h hF
  | false =>
    have j7 := cF hc6 e5
    refine m_Rb.n0 b_81 (x_icf d_81_5 rfl hc6) ?_
    refine m_Rb.n0 b_81 (x_aload_n d_81_8 rfl) ?_
    obtain ⟨v8, e9, j10⟩ := bS j7
    refine m_Rb.tgetI b_81 d_81_9 rfl h e9 ?_
    refine m_Rb.n0 b_81 (x_iload_n d_81_12 rfl) ?_
    cases hc11 : m_c2 .ne v8 p1 with
    | true =>
      have j12 := cT hc11 j10
      refine m_Rb.n0 b_81 (x_ict d_81_13 rfl hc11) ?_
      refine m_Rb.n0 b_81 (x_iconst (z := 0) d_81_20 (by decide)) ?_
      exact kk4 _ _ (Option.some.inj j12) h hF
    | false =>
      have j12 := cF hc11 j10
      refine m_Rb.n0 b_81 (x_icf d_81_13 rfl hc11) ?_
      refine m_Rb.n0 b_81 (x_iconst (z := 1) d_81_16 (by decide)) ?_
      refine m_Rb.n0 b_81 (x_goto d_81_17 rfl) ?_
      exact kk4 _ _ (Option.some.inj j12) h hF
def D_c_Told_whichFor (F : Nat) (a0 : Nat) (p0 : Int32) (p1 : Int32) (T0 : tT) : Option (Int32) := (tgi T0 a0 13 9).bind fun v1 => (cond (m_c1 .eq (v1 &&& (1 : Int32))) (some (0 : Int32)) (some p0)).bind fun v8 => (tgi T0 a0 13 9).bind fun v11 => (cond (m_c1 .eq (v11 &&& (2 : Int32))) (some (0 : Int32)) (some ((4 : Int32) * p1))).bind fun v18 => some (v8 + v18)
theorem T_c_Told_whichFor {l : Launch} {w : List mM} {F : Nat} {a0 : Nat} {p0 : Int32} {p1 : Int32} {T0 : tT} {yz : Int32} (ha0 : okr T0.2.1 (some a0)) (h : RT T0 w) (h0 : D_c_Told_whichFor F a0 p0 p1 T0 = some yz) : m_Rb l M_82 (m_ent M_82 [.ref a0, .int p0, .int p1] w) (fun v w' => v = some (.int yz) ∧ RT T0 w' ∧ m_Fm w w') T0 T0 0 0 := by
  rw [show m_ent M_82 [.ref a0, .int p0, .int p1] w = (0, [(0, .ref a0), (1, .int p0), (2, .int p1)], [], w) from by first | rfl | (simp only [m_ent, lv_args_r, lv_args_a, lv_args_i, lv_args_l, lv_args_0]; done) | (simp only [m_ent, lv_args_r, lv_args_a, lv_args_i, lv_args_l, lv_args_0]; rfl)]
  generalize hw0 : w = w0 at h ⊢
  have hF : m_Fm w0 w0 := m_Fm.refl
  rw [D_c_Told_whichFor] at h0
  refine m_Rb.n0 b_82 (x_aload_n d_82_0 rfl) ?_
  obtain ⟨v1, e2, j3⟩ := bS h0
  refine m_Rb.tgetI b_82 d_82_1 rfl h e2 ?_
  refine m_Rb.n0 b_82 (x_iconst (z := 1) d_82_4 (by decide)) ?_
  refine m_Rb.n0 b_82 (x_iand d_82_5 rfl) ?_
  obtain ⟨v8, e5, j9⟩ := bS j3
  have kk4 : ∀ (xz : Int32) (w1 : List mM), xz = v8 → RT T0 w1 → m_Fm w0 w1 → m_Rb l M_82 (14, [(0, .ref a0), (1, .int p0), (2, .int p1)], [.int xz], w1) (fun v w' => v = some (.int yz) ∧ RT T0 w' ∧ m_Fm w0 w') T0 T0 0 0 := by
    intro xz w10 ez h10 f10
    rw [ez]
    refine m_Rb.n0 b_82 (x_aload_n d_82_14 rfl) ?_
    obtain ⟨v11, e12, j13⟩ := bS j9
    refine m_Rb.tgetI b_82 d_82_15 rfl h10 e12 ?_
    refine m_Rb.n0 b_82 (x_iconst (z := 2) d_82_18 (by decide)) ?_
    refine m_Rb.n0 b_82 (x_iand d_82_19 rfl) ?_
    obtain ⟨v18, e15, j19⟩ := bS j13
    have kk14 : ∀ (xz : Int32) (w1 : List mM), xz = v18 → RT T0 w1 → m_Fm w0 w1 → m_Rb l M_82 (30, [(0, .ref a0), (1, .int p0), (2, .int p1)], [.int xz, .int v8], w1) (fun v w' => v = some (.int yz) ∧ RT T0 w' ∧ m_Fm w0 w') T0 T0 0 0 := by
      intro xz w20 ez h20 f20
      rw [ez]
      refine m_Rb.n0 b_82 (x_iadd d_82_30 rfl) ?_
      cases j19
      exact m_Rb.ret b_82 (m_rt_ir d_82_31 rfl rfl) ⟨rfl, h20, f20⟩
    cases hc16 : m_c1 .eq (v11 &&& (2 : Int32)) with
    | true =>
      have j17 := cT hc16 e15
      refine m_Rb.n0 b_82 (x_ift d_82_20 rfl hc16) ?_
      refine m_Rb.n0 b_82 (x_iconst (z := 0) d_82_29 (by decide)) ?_
      exact kk14 _ _ (Option.some.inj j17) h10 f10
    | false =>
      have j17 := cF hc16 e15
      refine m_Rb.n0 b_82 (x_iff d_82_20 rfl hc16) ?_
      refine m_Rb.n0 b_82 (x_iconst (z := 4) d_82_23 (by decide)) ?_
      refine m_Rb.n0 b_82 (x_iload_n d_82_24 rfl) ?_
      refine m_Rb.n0 b_82 (x_imul d_82_25 rfl) ?_
      refine m_Rb.n0 b_82 (x_goto d_82_26 rfl) ?_
      exact kk14 _ _ (Option.some.inj j17) h10 f10
  cases hc6 : m_c1 .eq (v1 &&& (1 : Int32)) with
  | true =>
    have j7 := cT hc6 e5
    refine m_Rb.n0 b_82 (x_ift d_82_6 rfl hc6) ?_
    refine m_Rb.n0 b_82 (x_iconst (z := 0) d_82_13 (by decide)) ?_
    exact kk4 _ _ (Option.some.inj j7) h hF
  | false =>
    have j7 := cF hc6 e5
    refine m_Rb.n0 b_82 (x_iff d_82_6 rfl hc6) ?_
    refine m_Rb.n0 b_82 (x_iload_n d_82_9 rfl) ?_
    refine m_Rb.n0 b_82 (x_goto d_82_10 rfl) ?_
    exact kk4 _ _ (Option.some.inj j7) h hF
def D_c_Entry_suits (F : Nat) (a0 : Nat) (p0 : Option Nat) (T0 : tT) : Option (Int32) := (p0).bind fun a1 => (tgi T0 a1 6 0).bind fun v4 => (tgi T0 a1 6 1).bind fun v7 => (tcl T0 a0 11).bind fun _ => (D_c_Entry_isOf F a0 v4 v7 T0).bind fun v13 => (cond (m_c1 .eq v13) (some (0 : Int32)) ((tgi T0 a0 11 3).bind fun v21 => (tgr T0 a0 11 2).bind fun v24 => (tgi T0 a1 6 2).bind fun v28 => (tgi T0 a1 6 3).bind fun v31 => (v24).bind fun a34 => (tcl T0 a34 13).bind fun _ => (D_c_Told_whichFor F a34 v28 v31 T0).bind fun v40 => cond (m_c2 .ne v21 v40) (some (0 : Int32)) (some (1 : Int32)))).bind fun v46 => (bret v46).bind fun v49 => some v49
theorem T_c_Entry_suits {l : Launch} {w : List mM} {F : Nat} {a0 : Nat} {p0 : Option Nat} {T0 : tT} {yz : Int32} (ha0 : okr T0.2.1 (some a0)) (hp0 : okr T0.2.1 p0) (h : RT T0 w) (h0 : D_c_Entry_suits F a0 p0 T0 = some yz) : m_Rb l M_80 (m_ent M_80 [.ref a0, rv p0] w) (fun v w' => v = some (.int yz) ∧ RT T0 w' ∧ m_Fm w w') T0 T0 1 100 := by
  rw [show m_ent M_80 [.ref a0, rv p0] w = (0, [(0, .ref a0), (1, rv p0)], [], w) from by first | rfl | (simp only [m_ent, lv_args_r, lv_args_a, lv_args_i, lv_args_l, lv_args_0]; done) | (simp only [m_ent, lv_args_r, lv_args_a, lv_args_i, lv_args_l, lv_args_0]; rfl)]
  generalize hw0 : w = w0 at h ⊢
  have hF : m_Fm w0 w0 := m_Fm.refl
  rw [D_c_Entry_suits] at h0
  refine m_Rb.n0 b_80 (x_aload_n d_80_0 rfl) ?_
  refine m_Rb.n0 b_80 (x_aloadr_n (x := p0) d_80_1 rfl) ?_
  obtain ⟨a1, e2, j3⟩ := bS h0
  subst e2
  obtain ⟨v4, e5, j6⟩ := bS j3
  refine m_Rb.tgetI b_80 d_80_2 rfl h e5 ?_
  refine m_Rb.n0 b_80 (x_aload_n d_80_5 rfl) ?_
  obtain ⟨v7, e8, j9⟩ := bS j6
  refine m_Rb.tgetI b_80 d_80_6 rfl h e8 ?_
  obtain ⟨_, e10, j11⟩ := bS j9
  obtain ⟨_, g12⟩ := RT.cls h e10
  obtain ⟨v13, e14, j15⟩ := bS j11
  refine m_Rb.callI b_80 (y_cv d_80_9 rfl q_81 (m_isRecv_of rfl g12) (show m_takeI _ _ = some (_, [_, _, _], []) from m_takeI_of rfl rfl rfl (Nat.le_of_ble_eq_true rfl)) (by simp only [m_okf, List.all_cons, List.all_nil, Bool.and_true, Bool.and_self, m_okv_i, m_okv_l, m_okv_0, m_okv_n0, m_okv_t, RT.okn h ha0, RT.okv h ha0, RT.okn h hp0, RT.okv h hp0]) rfl) (T_c_Entry_isOf ha0 h e14) hF rfl (fun w16 h16 f16 k16 => ?_) (by decide) (by decide)
  obtain ⟨v46, e18, j47⟩ := bS j15
  have kk17 : ∀ (xz : Int32) (w1 : List mM), xz = v46 → RT T0 w1 → m_Fm w0 w1 → m_Rb l M_80 (42, [(0, .ref a0), (1, .ref a1)], [.int xz], w1) (fun v w' => v = some (.int yz) ∧ RT T0 w' ∧ m_Fm w0 w') T0 T0 1 100 := by
    intro xz w48 ez h48 f48
    rw [ez]
    obtain ⟨v49, e50, j51⟩ := bS j47
    cases j51
    exact m_Rb.retb b_80 d_80_42 rfl e50 ⟨rfl, h48, f48⟩
  cases hc19 : m_c1 .eq v13 with
  | true =>
    have j20 := cT hc19 e18
    refine m_Rb.n0 b_80 (x_ift d_80_12 rfl hc19) ?_
    refine m_Rb.n0 b_80 (x_iconst (z := 0) d_80_41 (by decide)) ?_
    exact kk17 _ _ (Option.some.inj j20) h16 f16
  | false =>
    have j20 := cF hc19 e18
    refine m_Rb.n0 b_80 (x_iff d_80_12 rfl hc19) ?_
    refine m_Rb.n0 b_80 (x_aload_n d_80_15 rfl) ?_
    obtain ⟨v21, e22, j23⟩ := bS j20
    refine m_Rb.tgetI b_80 d_80_16 rfl h16 e22 ?_
    refine m_Rb.n0 b_80 (x_aload_n d_80_19 rfl) ?_
    obtain ⟨v24, e25, j26⟩ := bS j23
    refine m_Rb.tgetR b_80 d_80_20 rfl h16 e25 (fun o27 => ?_)
    refine m_Rb.n0 b_80 (x_aload_n d_80_23 rfl) ?_
    obtain ⟨v28, e29, j30⟩ := bS j26
    refine m_Rb.tgetI b_80 d_80_24 rfl h16 e29 ?_
    refine m_Rb.n0 b_80 (x_aload_n d_80_27 rfl) ?_
    obtain ⟨v31, e32, j33⟩ := bS j30
    refine m_Rb.tgetI b_80 d_80_28 rfl h16 e32 ?_
    obtain ⟨a34, e35, j36⟩ := bS j33
    subst e35
    obtain ⟨_, e37, j38⟩ := bS j36
    obtain ⟨_, g39⟩ := RT.cls h16 e37
    obtain ⟨v40, e41, j42⟩ := bS j38
    refine m_Rb.callI b_80 (y_cv d_80_31 rfl q_82 (m_isRecv_of rfl g39) (show m_takeI _ _ = some (_, [_, _, _], [_]) from m_takeI_of rfl rfl rfl (Nat.le_of_ble_eq_true rfl)) (by simp only [m_okf, List.all_cons, List.all_nil, Bool.and_true, Bool.and_self, m_okv_i, m_okv_l, m_okv_0, m_okv_n0, m_okv_t, RT.okn h16 ha0, RT.okv h16 ha0, RT.okn h16 hp0, RT.okv h16 hp0, RT.okn h16 o27, RT.okv h16 o27]) rfl) (T_c_Told_whichFor o27 h16 e41) f16 rfl (fun w43 h43 f43 k43 => ?_) (by decide) (by decide)
    cases hc44 : m_c2 .ne v21 v40 with
    | true =>
      have j45 := cT hc44 j42
      refine m_Rb.n0 b_80 (x_ict d_80_34 rfl hc44) ?_
      refine m_Rb.n0 b_80 (x_iconst (z := 0) d_80_41 (by decide)) ?_
      exact kk17 _ _ (Option.some.inj j45) h43 f43
    | false =>
      have j45 := cF hc44 j42
      refine m_Rb.n0 b_80 (x_icf d_80_34 rfl hc44) ?_
      refine m_Rb.n0 b_80 (x_iconst (z := 1) d_80_37 (by decide)) ?_
      refine m_Rb.n0 b_80 (x_goto d_80_38 rfl) ?_
      exact kk17 _ _ (Option.some.inj j45) h43 f43
def D_c_Store_suiting_30 (F : Nat) (rec2 : Nat → Option Nat → Int32 → tT → Option (Option Nat)) (x0 : Nat) (x1 : Option Nat) (x2 : Int32) (T0 : tT) : Option (Option Nat) := rec2 x0 x1 (x2 + Int32.ofInt 1) T0
theorem T_c_Store_suiting_30 {l : Launch} {w0 : List mM} {F : Nat} {T0 : tT} {rec2 : Nat → Option Nat → Int32 → tT → Option (Option Nat)} (hr2 : ∀ {x0 : Nat} {x1 : Option Nat} {x2 : Int32} {w : List mM} {yz : Option Nat}, okr T0.2.1 (some x0) → okr T0.2.1 x1 → RT T0 w → m_Fm w0 w → rec2 x0 x1 x2 T0 = some yz → m_Rb l M_74 (2, [(0, .ref x0), (1, rv x1), (2, .int x2)], [], w) (fun v w' => v = some (rv yz) ∧ okr T0.2.1 yz ∧ RT T0 w' ∧ m_Fm w0 w') T0 T0 4 400) {x0 : Nat} {x1 : Option Nat} {x2 : Int32} {w : List mM} {yz : Option Nat} (hx0 : okr T0.2.1 (some x0)) (hx1 : okr T0.2.1 x1) (h : RT T0 w) (hF : m_Fm w0 w) (h0 : D_c_Store_suiting_30 F rec2 x0 x1 x2 T0 = some yz) : m_Rb l M_74 (30, [(0, .ref x0), (1, rv x1), (2, .int x2)], [], w) (fun v w' => v = some (rv yz) ∧ okr T0.2.1 yz ∧ RT T0 w' ∧ m_Fm w0 w') T0 T0 4 400 := by
  rw [D_c_Store_suiting_30] at h0
  refine m_Rb.n0 b_74 (x_iinc d_74_30 rfl rfl rfl (show m_put1 _ _ _ = [(2, _), (0, _), (1, _)] from (m_p1r (by simp only [List.all_cons, List.all_nil, cat_rv]; rfl)).trans rfl)) ?_
  refine m_Rb.n0 b_74 (x_goto d_74_33 rfl) ?_
  exact m_Rb.pick [1, 2, 0] rfl (hr2 hx0 hx1 h hF h0)
def D_c_Store_suiting_2 (F : Nat) : Nat → Nat → Option Nat → Int32 → tT → Option (Option Nat)
  | 0, _, _, _, _ => none
  | n + 1, x0, x1, x2, T0 => (tcl T0 x0 5).bind fun _ => (D_c_Store_count F x0 T0).bind fun v4 => cond (m_c2 .ge x2 v4) (some none) ((tcl T0 x0 5).bind fun _ => (D_c_Store_at F x0 x2 T0).bind fun v13 => nc v13 (D_c_Store_suiting_30 F (D_c_Store_suiting_2 F n) x0 x1 x2 T0) fun a17 => ((tcl T0 a17 11).bind fun _ => (D_c_Entry_suits F a17 x1 T0).bind fun v22 => cond (m_c1 .eq v22) (D_c_Store_suiting_30 F (D_c_Store_suiting_2 F n) x0 x1 x2 T0) (some (some a17))))
theorem T_c_Store_suiting_2 {l : Launch} {w0 : List mM} {F : Nat} {T0 : tT} : ∀ (n : Nat) {x0 : Nat} {x1 : Option Nat} {x2 : Int32} {w : List mM} {yz : Option Nat}, okr T0.2.1 (some x0) → okr T0.2.1 x1 → RT T0 w → m_Fm w0 w → D_c_Store_suiting_2 F n x0 x1 x2 T0 = some yz → m_Rb l M_74 (2, [(0, .ref x0), (1, rv x1), (2, .int x2)], [], w) (fun v w' => v = some (rv yz) ∧ okr T0.2.1 yz ∧ RT T0 w' ∧ m_Fm w0 w') T0 T0 4 400 := by
  intro n
  induction n with
  | zero => intro x0 x1 x2 w yz hx0 hx1 h hF h0; cases h0
  | succ n ih =>
    intro x0 x1 x2 w yz hx0 hx1 h hF h0
    rw [D_c_Store_suiting_2] at h0
    refine m_Rb.n0 b_74 (x_iload_n d_74_2 rfl) ?_
    refine m_Rb.n0 b_74 (x_aload_n d_74_3 rfl) ?_
    obtain ⟨_, e1, j2⟩ := bS h0
    obtain ⟨_, g3⟩ := RT.cls h e1
    obtain ⟨v4, e5, j6⟩ := bS j2
    refine m_Rb.callI b_74 (y_cv d_74_4 rfl q_75 (m_isRecv_of rfl g3) (show m_takeI _ _ = some (_, [_], [_]) from m_takeI_of rfl rfl rfl (Nat.le_of_ble_eq_true rfl)) (by simp only [m_okf, List.all_cons, List.all_nil, Bool.and_true, Bool.and_self, m_okv_i, m_okv_l, m_okv_0, m_okv_n0, m_okv_t, RT.okn h hx0, RT.okv h hx0, RT.okv h hx1]) rfl) (T_c_Store_count hx0 h e5) hF rfl (fun w7 h7 f7 k7 => ?_) (by decide) (by decide)
    cases hc8 : m_c2 .ge x2 v4 with
    | true =>
      have j9 := cT hc8 j6
      refine m_Rb.n0 b_74 (x_ict d_74_7 rfl hc8) ?_
      refine m_Rb.n0 b_74 (x_null d_74_36) ?_
      have o9 : okr T0.2.1 none := okr_none
      cases j9
      exact m_Rb.ret b_74 (m_rt_rr (x := none) d_74_37 rfl) ⟨rfl, o9, h7, f7⟩
    | false =>
      have j9 := cF hc8 j6
      refine m_Rb.n0 b_74 (x_icf d_74_7 rfl hc8) ?_
      refine m_Rb.n0 b_74 (x_aload_n d_74_10 rfl) ?_
      refine m_Rb.n0 b_74 (x_iload_n d_74_11 rfl) ?_
      obtain ⟨_, e10, j11⟩ := bS j9
      obtain ⟨_, g12⟩ := RT.cls h7 e10
      obtain ⟨v13, e14, j15⟩ := bS j11
      refine m_Rb.callR b_74 (y_cv d_74_12 rfl q_76 (m_isRecv_of rfl g12) (show m_takeI _ _ = some (_, [_, _], []) from m_takeI_of rfl rfl rfl (Nat.le_of_ble_eq_true rfl)) (by simp only [m_okf, List.all_cons, List.all_nil, Bool.and_true, Bool.and_self, m_okv_i, m_okv_l, m_okv_0, m_okv_n0, m_okv_t, RT.okn h7 hx0, RT.okv h7 hx0, RT.okv h7 hx1]) rfl) (T_c_Store_at hx0 h7 e14) f7 rfl (fun w16 o16 h16 f16 k16 => ?_) (by decide) (by decide)
      refine m_Rb.n0 b_74 (x_astorer_n (x := v13) d_74_15 rfl (show m_put1 _ _ _ = [(3, _), (0, _), (1, _), (2, _)] from rfl)) ?_
      refine m_Rb.n0 b_74 (x_aloadr_n (x := v13) d_74_16 rfl) ?_
      cases v13 with
      | none =>
        have j18 := nN j15
        refine m_Rb.n0 b_74 (x_ifnull0 d_74_17 rfl) ?_
        exact m_Rb.pick [1, 2, 3] rfl (T_c_Store_suiting_30 ih hx0 hx1 h16 f16 j18)
      | some a17 =>
        have j18 := nS j15
        refine m_Rb.n0 b_74 (x_ifnull1 d_74_17 rfl) ?_
        refine m_Rb.n0 b_74 (x_aload_n d_74_20 rfl) ?_
        refine m_Rb.n0 b_74 (x_aloadr_n (x := x1) d_74_21 rfl) ?_
        obtain ⟨_, e19, j20⟩ := bS j18
        obtain ⟨_, g21⟩ := RT.cls h16 e19
        obtain ⟨v22, e23, j24⟩ := bS j20
        refine m_Rb.callI b_74 (y_cv d_74_22 rfl q_80 (m_isRecv_of rfl g21) (show m_takeI _ _ = some (_, [_, _], []) from m_takeI_of rfl rfl rfl (Nat.le_of_ble_eq_true rfl)) (by simp only [m_okf, List.all_cons, List.all_nil, Bool.and_true, Bool.and_self, m_okv_i, m_okv_l, m_okv_0, m_okv_n0, m_okv_t, RT.okn h16 o16, RT.okv h16 o16, RT.okn h16 hx0, RT.okv h16 hx0, RT.okv h16 hx1]) (decide_eq_true (by simp only [lgs_r, lgs_a, lgs_i, lgs_l, lgs_0]; exact Nat.le_of_ble_eq_true rfl))) (T_c_Entry_suits o16 hx1 h16 e23) f16 rfl (fun w25 h25 f25 k25 => ?_) (by decide) (by decide)
        cases hc26 : m_c1 .eq v22 with
        | true =>
          have j27 := cT hc26 j24
          refine m_Rb.n0 b_74 (x_ift d_74_25 rfl hc26) ?_
          exact m_Rb.pick [1, 2, 3] rfl (T_c_Store_suiting_30 ih hx0 hx1 h25 f25 j27)
        | false =>
          have j27 := cF hc26 j24
          refine m_Rb.n0 b_74 (x_iff d_74_25 rfl hc26) ?_
          refine m_Rb.n0 b_74 (x_aload_n d_74_28 rfl) ?_
          have o9 : okr T0.2.1 (some a17) := o16
          cases j27
          exact m_Rb.ret b_74 (m_rt_rr (x := (some a17)) d_74_29 rfl) ⟨rfl, o9, h25, f25⟩
def D_c_Store_suiting (F : Nat) (a0 : Nat) (p0 : Option Nat) (T0 : tT) : Option (Option Nat) := D_c_Store_suiting_2 F F a0 p0 (0 : Int32) T0
theorem T_c_Store_suiting {l : Launch} {w : List mM} {F : Nat} {a0 : Nat} {p0 : Option Nat} {T0 : tT} {yz : Option Nat} (ha0 : okr T0.2.1 (some a0)) (hp0 : okr T0.2.1 p0) (h : RT T0 w) (h0 : D_c_Store_suiting F a0 p0 T0 = some yz) : m_Rb l M_74 (m_ent M_74 [.ref a0, rv p0] w) (fun v w' => v = some (rv yz) ∧ okr T0.2.1 yz ∧ RT T0 w' ∧ m_Fm w w') T0 T0 4 400 := by
  rw [show m_ent M_74 [.ref a0, rv p0] w = (0, [(0, .ref a0), (1, rv p0)], [], w) from by first | rfl | (simp only [m_ent, lv_args_r, lv_args_a, lv_args_i, lv_args_l, lv_args_0]; done) | (simp only [m_ent, lv_args_r, lv_args_a, lv_args_i, lv_args_l, lv_args_0]; rfl)]
  generalize hw0 : w = w0 at h ⊢
  have hF : m_Fm w0 w0 := m_Fm.refl
  rw [D_c_Store_suiting] at h0
  refine m_Rb.n0 b_74 (x_iconst (z := 0) d_74_0 (by decide)) ?_
  refine m_Rb.n0 b_74 (x_istore_n d_74_1 rfl (show m_put1 _ _ _ = [(2, _), (0, _), (1, _)] from (m_p1r (by simp only [List.all_cons, List.all_nil, cat_rv]; rfl)).trans rfl)) ?_
  exact m_Rb.pick [1, 2, 0] rfl (T_c_Store_suiting_2 F ha0 hp0 h hF h0)
def D_c_Entry_ageAt (F : Nat) (a0 : Nat) (p0 : Int32) (T0 : tT) : Option (Int32) := (tgi T0 a0 11 5).bind fun v1 => (tgi T0 a0 11 6).bind fun v4 => some ((v1 + p0) - v4)
theorem T_c_Entry_ageAt {l : Launch} {w : List mM} {F : Nat} {a0 : Nat} {p0 : Int32} {T0 : tT} {yz : Int32} (ha0 : okr T0.2.1 (some a0)) (h : RT T0 w) (h0 : D_c_Entry_ageAt F a0 p0 T0 = some yz) : m_Rb l M_83 (m_ent M_83 [.ref a0, .int p0] w) (fun v w' => v = some (.int yz) ∧ RT T0 w' ∧ m_Fm w w') T0 T0 0 0 := by
  rw [show m_ent M_83 [.ref a0, .int p0] w = (0, [(0, .ref a0), (1, .int p0)], [], w) from by first | rfl | (simp only [m_ent, lv_args_r, lv_args_a, lv_args_i, lv_args_l, lv_args_0]; done) | (simp only [m_ent, lv_args_r, lv_args_a, lv_args_i, lv_args_l, lv_args_0]; rfl)]
  generalize hw0 : w = w0 at h ⊢
  have hF : m_Fm w0 w0 := m_Fm.refl
  rw [D_c_Entry_ageAt] at h0
  refine m_Rb.n0 b_83 (x_aload_n d_83_0 rfl) ?_
  obtain ⟨v1, e2, j3⟩ := bS h0
  refine m_Rb.tgetI b_83 d_83_1 rfl h e2 ?_
  refine m_Rb.n0 b_83 (x_iload_n d_83_4 rfl) ?_
  refine m_Rb.n0 b_83 (x_iadd d_83_5 rfl) ?_
  refine m_Rb.n0 b_83 (x_aload_n d_83_6 rfl) ?_
  obtain ⟨v4, e5, j6⟩ := bS j3
  refine m_Rb.tgetI b_83 d_83_7 rfl h e5 ?_
  refine m_Rb.n0 b_83 (x_isub d_83_10 rfl) ?_
  cases j6
  exact m_Rb.ret b_83 (m_rt_ir d_83_11 rfl rfl) ⟨rfl, h, hF⟩
def D_c_Told_blocks (F : Nat) (a0 : Nat) (p0 : Int32) (p1 : Int32) (T0 : tT) : Option (Int32) := (tgi T0 a0 13 2).bind fun v1 => some ((((1 : Int32) <<< ((if ((v1 + (15 : Int32)) >>> ((4 : Int32) &&& 31)) < (p1 + (1 : Int32)) then ((v1 + (15 : Int32)) >>> ((4 : Int32) &&& 31)) else (p1 + (1 : Int32))) &&& 31)) - (1 : Int32)) &&& (((-1) : Int32) <<< (p0 &&& 31)))
theorem T_c_Told_blocks {l : Launch} {w : List mM} {F : Nat} {a0 : Nat} {p0 : Int32} {p1 : Int32} {T0 : tT} {yz : Int32} (ha0 : okr T0.2.1 (some a0)) (h : RT T0 w) (h0 : D_c_Told_blocks F a0 p0 p1 T0 = some yz) : m_Rb l M_85 (m_ent M_85 [.ref a0, .int p0, .int p1] w) (fun v w' => v = some (.int yz) ∧ RT T0 w' ∧ m_Fm w w') T0 T0 1 100 := by
  rw [show m_ent M_85 [.ref a0, .int p0, .int p1] w = (0, [(0, .ref a0), (1, .int p0), (2, .int p1)], [], w) from by first | rfl | (simp only [m_ent, lv_args_r, lv_args_a, lv_args_i, lv_args_l, lv_args_0]; done) | (simp only [m_ent, lv_args_r, lv_args_a, lv_args_i, lv_args_l, lv_args_0]; rfl)]
  generalize hw0 : w = w0 at h ⊢
  have hF : m_Fm w0 w0 := m_Fm.refl
  rw [D_c_Told_blocks] at h0
  refine m_Rb.n0 b_85 (x_aload_n d_85_0 rfl) ?_
  obtain ⟨v1, e2, j3⟩ := bS h0
  refine m_Rb.tgetI b_85 d_85_1 rfl h e2 ?_
  refine m_Rb.n0 b_85 (x_bipush (z := 15) d_85_4 (by decide)) ?_
  refine m_Rb.n0 b_85 (x_iadd d_85_6 rfl) ?_
  refine m_Rb.n0 b_85 (x_iconst (z := 4) d_85_7 (by decide)) ?_
  refine m_Rb.n0 b_85 (x_ishr d_85_8 rfl) ?_
  refine m_Rb.n0 b_85 (x_istore_n d_85_9 rfl (show m_put1 _ _ _ = [(3, _), (0, _), (1, _), (2, _)] from rfl)) ?_
  refine m_Rb.n0 b_85 (x_iload_n d_85_10 rfl) ?_
  refine m_Rb.n0 b_85 (x_iconst (z := 1) d_85_11 (by decide)) ?_
  refine m_Rb.n0 b_85 (x_iadd d_85_12 rfl) ?_
  refine m_Rb.n0 b_85 (x_iload_n d_85_13 rfl) ?_
  refine m_Rb.nz b_85 (x_min d_85_14 rfl (catL (Nat.le_of_ble_eq_true rfl)) rfl) ?_ (by decide) (by decide)
  refine m_Rb.n0 b_85 (x_istore d_85_17 rfl (show m_put1 _ _ _ = [(4, _), (3, _), (0, _), (1, _), (2, _)] from rfl)) ?_
  refine m_Rb.n0 b_85 (x_iconst (z := 1) d_85_19 (by decide)) ?_
  refine m_Rb.n0 b_85 (x_iload d_85_20 rfl) ?_
  refine m_Rb.n0 b_85 (x_ishl d_85_22 rfl) ?_
  refine m_Rb.n0 b_85 (x_iconst (z := 1) d_85_23 (by decide)) ?_
  refine m_Rb.n0 b_85 (x_isub d_85_24 rfl) ?_
  refine m_Rb.n0 b_85 (x_iconst (z := (-1)) d_85_25 (by decide)) ?_
  refine m_Rb.n0 b_85 (x_iload_n d_85_26 rfl) ?_
  refine m_Rb.n0 b_85 (x_ishl d_85_27 rfl) ?_
  refine m_Rb.n0 b_85 (x_iand d_85_28 rfl) ?_
  cases j3
  exact m_Rb.ret b_85 (m_rt_ir d_85_29 rfl rfl) ⟨rfl, h, hF⟩
def D_c_Entry_tag (F : Nat) (a0 : Nat) (T0 : tT) : Option (Int32) := (tgr T0 a0 11 2).bind fun v1 => (v1).bind fun a5 => (tgi T0 a5 13 1).bind fun v8 => (tgi T0 a0 11 3).bind fun v11 => some (((8 : Int32) * v8) + v11)
theorem T_c_Entry_tag {l : Launch} {w : List mM} {F : Nat} {a0 : Nat} {T0 : tT} {yz : Int32} (ha0 : okr T0.2.1 (some a0)) (h : RT T0 w) (h0 : D_c_Entry_tag F a0 T0 = some yz) : m_Rb l M_86 (m_ent M_86 [.ref a0] w) (fun v w' => v = some (.int yz) ∧ RT T0 w' ∧ m_Fm w w') T0 T0 0 0 := by
  rw [show m_ent M_86 [.ref a0] w = (0, [(0, .ref a0)], [], w) from by first | rfl | (simp only [m_ent, lv_args_r, lv_args_a, lv_args_i, lv_args_l, lv_args_0]; done) | (simp only [m_ent, lv_args_r, lv_args_a, lv_args_i, lv_args_l, lv_args_0]; rfl)]
  generalize hw0 : w = w0 at h ⊢
  have hF : m_Fm w0 w0 := m_Fm.refl
  rw [D_c_Entry_tag] at h0
  refine m_Rb.n0 b_86 (x_bipush (z := 8) d_86_0 (by decide)) ?_
  refine m_Rb.n0 b_86 (x_aload_n d_86_2 rfl) ?_
  obtain ⟨v1, e2, j3⟩ := bS h0
  refine m_Rb.tgetR b_86 d_86_3 rfl h e2 (fun o4 => ?_)
  obtain ⟨a5, e6, j7⟩ := bS j3
  subst e6
  obtain ⟨v8, e9, j10⟩ := bS j7
  refine m_Rb.tgetI b_86 d_86_6 rfl h e9 ?_
  refine m_Rb.n0 b_86 (x_imul d_86_9 rfl) ?_
  refine m_Rb.n0 b_86 (x_aload_n d_86_10 rfl) ?_
  obtain ⟨v11, e12, j13⟩ := bS j10
  refine m_Rb.tgetI b_86 d_86_11 rfl h e12 ?_
  refine m_Rb.n0 b_86 (x_iadd d_86_14 rfl) ?_
  cases j13
  exact m_Rb.ret b_86 (m_rt_ir d_86_15 rfl rfl) ⟨rfl, h, hF⟩
def D_c_Conditions_rangeCounts (F : Nat) (a0 : Nat) (p0 : Int32) (T0 : tT) : Option (Int32) := (tgi T0 a0 7 1).bind fun v1 => (cond (m_c1 .eq v1) (some (0 : Int32)) ((tgi T0 a0 7 7).bind fun v8 => cond (m_c2 .eq v8 ((-1) : Int32)) (some (1 : Int32)) ((tgi T0 a0 7 7).bind fun v13 => cond (m_c2 .ne v13 p0) (some (0 : Int32)) (some (1 : Int32))))).bind fun v18 => (bret v18).bind fun v21 => some v21
theorem T_c_Conditions_rangeCounts {l : Launch} {w : List mM} {F : Nat} {a0 : Nat} {p0 : Int32} {T0 : tT} {yz : Int32} (ha0 : okr T0.2.1 (some a0)) (h : RT T0 w) (h0 : D_c_Conditions_rangeCounts F a0 p0 T0 = some yz) : m_Rb l M_87 (m_ent M_87 [.ref a0, .int p0] w) (fun v w' => v = some (.int yz) ∧ RT T0 w' ∧ m_Fm w w') T0 T0 0 0 := by
  rw [show m_ent M_87 [.ref a0, .int p0] w = (0, [(0, .ref a0), (1, .int p0)], [], w) from by first | rfl | (simp only [m_ent, lv_args_r, lv_args_a, lv_args_i, lv_args_l, lv_args_0]; done) | (simp only [m_ent, lv_args_r, lv_args_a, lv_args_i, lv_args_l, lv_args_0]; rfl)]
  generalize hw0 : w = w0 at h ⊢
  have hF : m_Fm w0 w0 := m_Fm.refl
  rw [D_c_Conditions_rangeCounts] at h0
  refine m_Rb.n0 b_87 (x_aload_n d_87_0 rfl) ?_
  obtain ⟨v1, e2, j3⟩ := bS h0
  refine m_Rb.tgetI b_87 d_87_1 rfl h e2 ?_
  obtain ⟨v18, e5, j19⟩ := bS j3
  have kk4 : ∀ (xz : Int32) (w1 : List mM), xz = v18 → RT T0 w1 → m_Fm w0 w1 → m_Rb l M_87 (28, [(0, .ref a0), (1, .int p0)], [.int xz], w1) (fun v w' => v = some (.int yz) ∧ RT T0 w' ∧ m_Fm w0 w') T0 T0 0 0 := by
    intro xz w20 ez h20 f20
    rw [ez]
    obtain ⟨v21, e22, j23⟩ := bS j19
    cases j23
    exact m_Rb.retb b_87 d_87_28 rfl e22 ⟨rfl, h20, f20⟩
  cases hc6 : m_c1 .eq v1 with
  | true =>
    have j7 := cT hc6 e5
    refine m_Rb.n0 b_87 (x_ift d_87_4 rfl hc6) ?_
    refine m_Rb.n0 b_87 (x_iconst (z := 0) d_87_27 (by decide)) ?_
    exact kk4 _ _ (Option.some.inj j7) h hF
  | false =>
    have j7 := cF hc6 e5
    refine m_Rb.n0 b_87 (x_iff d_87_4 rfl hc6) ?_
    refine m_Rb.n0 b_87 (x_aload_n d_87_7 rfl) ?_
    obtain ⟨v8, e9, j10⟩ := bS j7
    refine m_Rb.tgetI b_87 d_87_8 rfl h e9 ?_
    refine m_Rb.n0 b_87 (x_iconst (z := (-1)) d_87_11 (by decide)) ?_
    cases hc11 : m_c2 .eq v8 ((-1) : Int32) with
    | true =>
      have j12 := cT hc11 j10
      refine m_Rb.n0 b_87 (x_ict d_87_12 rfl hc11) ?_
      refine m_Rb.n0 b_87 (x_iconst (z := 1) d_87_23 (by decide)) ?_
      refine m_Rb.n0 b_87 (x_goto d_87_24 rfl) ?_
      exact kk4 _ _ (Option.some.inj j12) h hF
    | false =>
      have j12 := cF hc11 j10
      refine m_Rb.n0 b_87 (x_icf d_87_12 rfl hc11) ?_
      refine m_Rb.n0 b_87 (x_aload_n d_87_15 rfl) ?_
      obtain ⟨v13, e14, j15⟩ := bS j12
      refine m_Rb.tgetI b_87 d_87_16 rfl h e14 ?_
      refine m_Rb.n0 b_87 (x_iload_n d_87_19 rfl) ?_
      cases hc16 : m_c2 .ne v13 p0 with
      | true =>
        have j17 := cT hc16 j15
        refine m_Rb.n0 b_87 (x_ict d_87_20 rfl hc16) ?_
        refine m_Rb.n0 b_87 (x_iconst (z := 0) d_87_27 (by decide)) ?_
        exact kk4 _ _ (Option.some.inj j17) h hF
      | false =>
        have j17 := cF hc16 j15
        refine m_Rb.n0 b_87 (x_icf d_87_20 rfl hc16) ?_
        refine m_Rb.n0 b_87 (x_iconst (z := 1) d_87_23 (by decide)) ?_
        refine m_Rb.n0 b_87 (x_goto d_87_24 rfl) ?_
        exact kk4 _ _ (Option.some.inj j17) h hF
def D_c_Conditions_from (F : Nat) (a0 : Nat) (p0 : Int32) (p1 : Int32) (T0 : tT) : Option (Int32) := cond (m_c1 .ne p0) ((tgi T0 a0 7 1).bind fun v3 => (cond (m_c2 .ne v3 (1 : Int32)) ((tgi T0 a0 7 2).bind fun v10 => some (if (0 : Int32) < (p1 - v10) then (p1 - v10) else (0 : Int32))) ((tgi T0 a0 7 2).bind fun v13 => some v13)).bind fun v16 => some v16) (some (0 : Int32))
theorem T_c_Conditions_from {l : Launch} {w : List mM} {F : Nat} {a0 : Nat} {p0 : Int32} {p1 : Int32} {T0 : tT} {yz : Int32} (ha0 : okr T0.2.1 (some a0)) (h : RT T0 w) (h0 : D_c_Conditions_from F a0 p0 p1 T0 = some yz) : m_Rb l M_88 (m_ent M_88 [.ref a0, .int p0, .int p1] w) (fun v w' => v = some (.int yz) ∧ RT T0 w' ∧ m_Fm w w') T0 T0 1 100 := by
  rw [show m_ent M_88 [.ref a0, .int p0, .int p1] w = (0, [(0, .ref a0), (1, .int p0), (2, .int p1)], [], w) from by first | rfl | (simp only [m_ent, lv_args_r, lv_args_a, lv_args_i, lv_args_l, lv_args_0]; done) | (simp only [m_ent, lv_args_r, lv_args_a, lv_args_i, lv_args_l, lv_args_0]; rfl)]
  generalize hw0 : w = w0 at h ⊢
  have hF : m_Fm w0 w0 := m_Fm.refl
  rw [D_c_Conditions_from] at h0
  refine m_Rb.n0 b_88 (x_iload_n d_88_0 rfl) ?_
  cases hc1 : m_c1 .ne p0 with
  | true =>
    have j2 := cT hc1 h0
    refine m_Rb.n0 b_88 (x_ift d_88_1 rfl hc1) ?_
    refine m_Rb.n0 b_88 (x_aload_n d_88_6 rfl) ?_
    obtain ⟨v3, e4, j5⟩ := bS j2
    refine m_Rb.tgetI b_88 d_88_7 rfl h e4 ?_
    refine m_Rb.n0 b_88 (x_iconst (z := 1) d_88_10 (by decide)) ?_
    obtain ⟨v16, e7, j17⟩ := bS j5
    have kk6 : ∀ (xz : Int32) (w1 : List mM), xz = v16 → RT T0 w1 → m_Fm w0 w1 → m_Rb l M_88 (31, [(0, .ref a0), (1, .int p0), (2, .int p1)], [.int xz], w1) (fun v w' => v = some (.int yz) ∧ RT T0 w' ∧ m_Fm w0 w') T0 T0 1 100 := by
      intro xz w18 ez h18 f18
      rw [ez]
      cases j17
      exact m_Rb.ret b_88 (m_rt_ir d_88_31 rfl rfl) ⟨rfl, h18, f18⟩
    cases hc8 : m_c2 .ne v3 (1 : Int32) with
    | true =>
      have j9 := cT hc8 e7
      refine m_Rb.n0 b_88 (x_ict d_88_11 rfl hc8) ?_
      refine m_Rb.n0 b_88 (x_iconst (z := 0) d_88_21 (by decide)) ?_
      refine m_Rb.n0 b_88 (x_iload_n d_88_22 rfl) ?_
      refine m_Rb.n0 b_88 (x_aload_n d_88_23 rfl) ?_
      obtain ⟨v10, e11, j12⟩ := bS j9
      refine m_Rb.tgetI b_88 d_88_24 rfl h e11 ?_
      refine m_Rb.n0 b_88 (x_isub d_88_27 rfl) ?_
      refine m_Rb.nz b_88 (x_max d_88_28 rfl (catL (Nat.le_of_ble_eq_true rfl)) rfl) ?_ (by decide) (by decide)
      exact kk6 _ _ (Option.some.inj j12) h hF
    | false =>
      have j9 := cF hc8 e7
      refine m_Rb.n0 b_88 (x_icf d_88_11 rfl hc8) ?_
      refine m_Rb.n0 b_88 (x_aload_n d_88_14 rfl) ?_
      obtain ⟨v13, e14, j15⟩ := bS j9
      refine m_Rb.tgetI b_88 d_88_15 rfl h e14 ?_
      refine m_Rb.n0 b_88 (x_goto d_88_18 rfl) ?_
      exact kk6 _ _ (Option.some.inj j15) h hF
  | false =>
    have j2 := cF hc1 h0
    refine m_Rb.n0 b_88 (x_iff d_88_1 rfl hc1) ?_
    refine m_Rb.n0 b_88 (x_iconst (z := 0) d_88_4 (by decide)) ?_
    cases j2
    exact m_Rb.ret b_88 (m_rt_ir d_88_5 rfl rfl) ⟨rfl, h, hF⟩
def D_c_Conditions_to (F : Nat) (a0 : Nat) (p0 : Int32) (p1 : Int32) (T0 : tT) : Option (Int32) := (cond (m_c1 .eq p0) (some (p1 - (1 : Int32))) ((tgi T0 a0 7 1).bind fun v5 => cond (m_c2 .ne v5 (1 : Int32)) (some (p1 - (1 : Int32))) ((tgi T0 a0 7 3).bind fun v10 => some (if (p1 - (1 : Int32)) < v10 then (p1 - (1 : Int32)) else v10)))).bind fun v13 => some v13
theorem T_c_Conditions_to {l : Launch} {w : List mM} {F : Nat} {a0 : Nat} {p0 : Int32} {p1 : Int32} {T0 : tT} {yz : Int32} (ha0 : okr T0.2.1 (some a0)) (h : RT T0 w) (h0 : D_c_Conditions_to F a0 p0 p1 T0 = some yz) : m_Rb l M_89 (m_ent M_89 [.ref a0, .int p0, .int p1] w) (fun v w' => v = some (.int yz) ∧ RT T0 w' ∧ m_Fm w w') T0 T0 1 100 := by
  rw [show m_ent M_89 [.ref a0, .int p0, .int p1] w = (0, [(0, .ref a0), (1, .int p0), (2, .int p1)], [], w) from by first | rfl | (simp only [m_ent, lv_args_r, lv_args_a, lv_args_i, lv_args_l, lv_args_0]; done) | (simp only [m_ent, lv_args_r, lv_args_a, lv_args_i, lv_args_l, lv_args_0]; rfl)]
  generalize hw0 : w = w0 at h ⊢
  have hF : m_Fm w0 w0 := m_Fm.refl
  rw [D_c_Conditions_to] at h0
  refine m_Rb.n0 b_89 (x_iload_n d_89_0 rfl) ?_
  obtain ⟨v13, e2, j14⟩ := bS h0
  have kk1 : ∀ (xz : Int32) (w1 : List mM), xz = v13 → RT T0 w1 → m_Fm w0 w1 → m_Rb l M_89 (28, [(0, .ref a0), (1, .int p0), (2, .int p1)], [.int xz], w1) (fun v w' => v = some (.int yz) ∧ RT T0 w' ∧ m_Fm w0 w') T0 T0 1 100 := by
    intro xz w15 ez h15 f15
    rw [ez]
    cases j14
    exact m_Rb.ret b_89 (m_rt_ir d_89_28 rfl rfl) ⟨rfl, h15, f15⟩
  cases hc3 : m_c1 .eq p0 with
  | true =>
    have j4 := cT hc3 e2
    refine m_Rb.n0 b_89 (x_ift d_89_1 rfl hc3) ?_
    refine m_Rb.n0 b_89 (x_iload_n d_89_25 rfl) ?_
    refine m_Rb.n0 b_89 (x_iconst (z := 1) d_89_26 (by decide)) ?_
    refine m_Rb.n0 b_89 (x_isub d_89_27 rfl) ?_
    exact kk1 _ _ (Option.some.inj j4) h hF
  | false =>
    have j4 := cF hc3 e2
    refine m_Rb.n0 b_89 (x_iff d_89_1 rfl hc3) ?_
    refine m_Rb.n0 b_89 (x_aload_n d_89_4 rfl) ?_
    obtain ⟨v5, e6, j7⟩ := bS j4
    refine m_Rb.tgetI b_89 d_89_5 rfl h e6 ?_
    refine m_Rb.n0 b_89 (x_iconst (z := 1) d_89_8 (by decide)) ?_
    cases hc8 : m_c2 .ne v5 (1 : Int32) with
    | true =>
      have j9 := cT hc8 j7
      refine m_Rb.n0 b_89 (x_ict d_89_9 rfl hc8) ?_
      refine m_Rb.n0 b_89 (x_iload_n d_89_25 rfl) ?_
      refine m_Rb.n0 b_89 (x_iconst (z := 1) d_89_26 (by decide)) ?_
      refine m_Rb.n0 b_89 (x_isub d_89_27 rfl) ?_
      exact kk1 _ _ (Option.some.inj j9) h hF
    | false =>
      have j9 := cF hc8 j7
      refine m_Rb.n0 b_89 (x_icf d_89_9 rfl hc8) ?_
      refine m_Rb.n0 b_89 (x_aload_n d_89_12 rfl) ?_
      obtain ⟨v10, e11, j12⟩ := bS j9
      refine m_Rb.tgetI b_89 d_89_13 rfl h e11 ?_
      refine m_Rb.n0 b_89 (x_iload_n d_89_16 rfl) ?_
      refine m_Rb.n0 b_89 (x_iconst (z := 1) d_89_17 (by decide)) ?_
      refine m_Rb.n0 b_89 (x_isub d_89_18 rfl) ?_
      refine m_Rb.nz b_89 (x_min d_89_19 rfl (catL (Nat.le_of_ble_eq_true rfl)) rfl) ?_ (by decide) (by decide)
      refine m_Rb.n0 b_89 (x_goto d_89_22 rfl) ?_
      exact kk1 _ _ (Option.some.inj j12) h hF
def D_c_Request_missingIn (F : Nat) (a0 : Nat) (p0 : Option Nat) (T0 : tT) : Option (Int32) := (p0).bind fun a1 => (tgr T0 a1 11 2).bind fun v4 => (tgr T0 a0 6 13).bind fun v8 => nc v8 ((tgi T0 a0 6 4).bind fun v14 => (tgi T0 a0 6 5).bind fun v17 => (v4).bind fun a20 => (tcl T0 a20 13).bind fun _ => (D_c_Told_blocks F a20 v14 v17 T0).bind fun v26 => (tgi T0 a1 11 7).bind fun v30 => some (v26 &&& (v30 ^^^ ((-1) : Int32)))) fun a12 => ((tgr T0 a0 6 13).bind fun v33 => (tcl T0 a1 11).bind fun _ => (D_c_Entry_tag F a1 T0).bind fun v40 => (v33).bind fun a44 => (tcl T0 a44 7).bind fun _ => (D_c_Conditions_rangeCounts F a44 v40 T0).bind fun v50 => (tgr T0 a0 6 13).bind fun v54 => (v4).bind fun a58 => (tgi T0 a58 13 2).bind fun v61 => (v54).bind fun a64 => (tcl T0 a64 7).bind fun _ => (D_c_Conditions_from F a64 v50 v61 T0).bind fun v70 => (tgr T0 a0 6 13).bind fun v74 => (tgi T0 a58 13 2).bind fun v78 => (v74).bind fun a81 => (tcl T0 a81 7).bind fun _ => (D_c_Conditions_to F a81 v50 v78 T0).bind fun v87 => (cond (m_c2 .le v70 v87) ((tcl T0 a58 13).bind fun _ => (D_c_Told_blocks F a58 (v70 >>> ((4 : Int32) &&& 31)) (v87 >>> ((4 : Int32) &&& 31)) T0).bind fun v98 => (tgi T0 a1 11 7).bind fun v102 => some (v98 &&& (v102 ^^^ ((-1) : Int32)))) (some (0 : Int32))).bind fun v105 => some v105)
theorem T_c_Request_missingIn {l : Launch} {w : List mM} {F : Nat} {a0 : Nat} {p0 : Option Nat} {T0 : tT} {yz : Int32} (ha0 : okr T0.2.1 (some a0)) (hp0 : okr T0.2.1 p0) (h : RT T0 w) (h0 : D_c_Request_missingIn F a0 p0 T0 = some yz) : m_Rb l M_84 (m_ent M_84 [.ref a0, rv p0] w) (fun v w' => v = some (.int yz) ∧ RT T0 w' ∧ m_Fm w w') T0 T0 2 200 := by
  rw [show m_ent M_84 [.ref a0, rv p0] w = (0, [(0, .ref a0), (1, rv p0)], [], w) from by first | rfl | (simp only [m_ent, lv_args_r, lv_args_a, lv_args_i, lv_args_l, lv_args_0]; done) | (simp only [m_ent, lv_args_r, lv_args_a, lv_args_i, lv_args_l, lv_args_0]; rfl)]
  generalize hw0 : w = w0 at h ⊢
  have hF : m_Fm w0 w0 := m_Fm.refl
  rw [D_c_Request_missingIn] at h0
  refine m_Rb.n0 b_84 (x_aloadr_n (x := p0) d_84_0 rfl) ?_
  obtain ⟨a1, e2, j3⟩ := bS h0
  subst e2
  obtain ⟨v4, e5, j6⟩ := bS j3
  refine m_Rb.tgetR b_84 d_84_1 rfl h e5 (fun o7 => ?_)
  refine m_Rb.n0 b_84 (x_astorer_n (x := v4) d_84_4 rfl (show m_put1 _ _ _ = [(2, _), (0, _), (1, _)] from rfl)) ?_
  refine m_Rb.n0 b_84 (x_aload_n d_84_5 rfl) ?_
  obtain ⟨v8, e9, j10⟩ := bS j6
  refine m_Rb.tgetR b_84 d_84_6 rfl h e9 (fun o11 => ?_)
  cases v8 with
  | none =>
    have j13 := nN j10
    refine m_Rb.n0 b_84 (x_ifnonnull0 d_84_9 rfl) ?_
    refine m_Rb.n0 b_84 (x_aloadr_n (x := v4) d_84_12 rfl) ?_
    refine m_Rb.n0 b_84 (x_aload_n d_84_13 rfl) ?_
    obtain ⟨v14, e15, j16⟩ := bS j13
    refine m_Rb.tgetI b_84 d_84_14 rfl h e15 ?_
    refine m_Rb.n0 b_84 (x_aload_n d_84_17 rfl) ?_
    obtain ⟨v17, e18, j19⟩ := bS j16
    refine m_Rb.tgetI b_84 d_84_18 rfl h e18 ?_
    obtain ⟨a20, e21, j22⟩ := bS j19
    subst e21
    obtain ⟨_, e23, j24⟩ := bS j22
    obtain ⟨_, g25⟩ := RT.cls h e23
    obtain ⟨v26, e27, j28⟩ := bS j24
    refine m_Rb.callI b_84 (y_cv d_84_21 rfl q_85 (m_isRecv_of rfl g25) (show m_takeI _ _ = some (_, [_, _, _], []) from m_takeI_of rfl rfl rfl (Nat.le_of_ble_eq_true rfl)) (by simp only [m_okf, List.all_cons, List.all_nil, Bool.and_true, Bool.and_self, m_okv_i, m_okv_l, m_okv_0, m_okv_n0, m_okv_t, RT.okn h o7, RT.okv h o7, RT.okn h ha0, RT.okv h ha0, RT.okn h hp0, RT.okv h hp0]) rfl) (T_c_Told_blocks o7 h e27) hF rfl (fun w29 h29 f29 k29 => ?_) (by decide) (by decide)
    refine m_Rb.n0 b_84 (x_aload_n d_84_24 rfl) ?_
    obtain ⟨v30, e31, j32⟩ := bS j28
    refine m_Rb.tgetI b_84 d_84_25 rfl h29 e31 ?_
    refine m_Rb.n0 b_84 (x_iconst (z := (-1)) d_84_28 (by decide)) ?_
    refine m_Rb.n0 b_84 (x_ixor d_84_29 rfl) ?_
    refine m_Rb.n0 b_84 (x_iand d_84_30 rfl) ?_
    cases j32
    exact m_Rb.ret b_84 (m_rt_ir d_84_31 rfl rfl) ⟨rfl, h29, f29⟩
  | some a12 =>
    have j13 := nS j10
    refine m_Rb.n0 b_84 (x_ifnonnull1 d_84_9 rfl) ?_
    refine m_Rb.n0 b_84 (x_aload_n d_84_32 rfl) ?_
    obtain ⟨v33, e34, j35⟩ := bS j13
    refine m_Rb.tgetR b_84 d_84_33 rfl h e34 (fun o36 => ?_)
    refine m_Rb.n0 b_84 (x_aload_n d_84_36 rfl) ?_
    obtain ⟨_, e37, j38⟩ := bS j35
    obtain ⟨_, g39⟩ := RT.cls h e37
    obtain ⟨v40, e41, j42⟩ := bS j38
    refine m_Rb.callI b_84 (y_cv d_84_37 rfl q_86 (m_isRecv_of rfl g39) (show m_takeI _ _ = some (_, [_], [_]) from m_takeI_of rfl rfl rfl (Nat.le_of_ble_eq_true rfl)) (by simp only [m_okf, List.all_cons, List.all_nil, Bool.and_true, Bool.and_self, m_okv_i, m_okv_l, m_okv_0, m_okv_n0, m_okv_t, RT.okv h o7, RT.okn h ha0, RT.okv h ha0, RT.okn h hp0, RT.okv h hp0, RT.okv h o36]) rfl) (T_c_Entry_tag hp0 h e41) hF rfl (fun w43 h43 f43 k43 => ?_) (by decide) (by decide)
    obtain ⟨a44, e45, j46⟩ := bS j42
    subst e45
    obtain ⟨_, e47, j48⟩ := bS j46
    obtain ⟨_, g49⟩ := RT.cls h43 e47
    obtain ⟨v50, e51, j52⟩ := bS j48
    refine m_Rb.callI b_84 (y_cv d_84_40 rfl q_87 (m_isRecv_of rfl g49) (show m_takeI _ _ = some (_, [_, _], []) from m_takeI_of rfl rfl rfl (Nat.le_of_ble_eq_true rfl)) (by simp only [m_okf, List.all_cons, List.all_nil, Bool.and_true, Bool.and_self, m_okv_i, m_okv_l, m_okv_0, m_okv_n0, m_okv_t, RT.okv h43 o7, RT.okn h43 ha0, RT.okv h43 ha0, RT.okn h43 hp0, RT.okv h43 hp0, RT.okn h43 o36, RT.okv h43 o36]) rfl) (T_c_Conditions_rangeCounts o36 h43 e51) f43 rfl (fun w53 h53 f53 k53 => ?_) (by decide) (by decide)
    refine m_Rb.n0 b_84 (x_istore_n d_84_43 rfl (show m_put1 _ _ _ = [(3, _), (2, _), (0, _), (1, _)] from (m_p1r (by simp only [List.all_cons, List.all_nil, cat_rv]; rfl)).trans rfl)) ?_
    refine m_Rb.n0 b_84 (x_aload_n d_84_44 rfl) ?_
    obtain ⟨v54, e55, j56⟩ := bS j52
    refine m_Rb.tgetR b_84 d_84_45 rfl h53 e55 (fun o57 => ?_)
    refine m_Rb.n0 b_84 (x_iload_n d_84_48 rfl) ?_
    refine m_Rb.n0 b_84 (x_aloadr_n (x := v4) d_84_49 rfl) ?_
    obtain ⟨a58, e59, j60⟩ := bS j56
    subst e59
    obtain ⟨v61, e62, j63⟩ := bS j60
    refine m_Rb.tgetI b_84 d_84_50 rfl h53 e62 ?_
    obtain ⟨a64, e65, j66⟩ := bS j63
    subst e65
    obtain ⟨_, e67, j68⟩ := bS j66
    obtain ⟨_, g69⟩ := RT.cls h53 e67
    obtain ⟨v70, e71, j72⟩ := bS j68
    refine m_Rb.callI b_84 (y_cv d_84_53 rfl q_88 (m_isRecv_of rfl g69) (show m_takeI _ _ = some (_, [_, _, _], []) from m_takeI_of rfl rfl rfl (Nat.le_of_ble_eq_true rfl)) (by simp only [m_okf, List.all_cons, List.all_nil, Bool.and_true, Bool.and_self, m_okv_i, m_okv_l, m_okv_0, m_okv_n0, m_okv_t, RT.okn h53 o7, RT.okv h53 o7, RT.okn h53 ha0, RT.okv h53 ha0, RT.okn h53 hp0, RT.okv h53 hp0, RT.okn h53 o57, RT.okv h53 o57]) rfl) (T_c_Conditions_from o57 h53 e71) f53 rfl (fun w73 h73 f73 k73 => ?_) (by decide) (by decide)
    refine m_Rb.n0 b_84 (x_istore d_84_56 rfl (show m_put1 _ _ _ = [(4, _), (3, _), (2, _), (0, _), (1, _)] from rfl)) ?_
    refine m_Rb.n0 b_84 (x_aload_n d_84_58 rfl) ?_
    obtain ⟨v74, e75, j76⟩ := bS j72
    refine m_Rb.tgetR b_84 d_84_59 rfl h73 e75 (fun o77 => ?_)
    refine m_Rb.n0 b_84 (x_iload_n d_84_62 rfl) ?_
    refine m_Rb.n0 b_84 (x_aload_n d_84_63 rfl) ?_
    obtain ⟨v78, e79, j80⟩ := bS j76
    refine m_Rb.tgetI b_84 d_84_64 rfl h73 e79 ?_
    obtain ⟨a81, e82, j83⟩ := bS j80
    subst e82
    obtain ⟨_, e84, j85⟩ := bS j83
    obtain ⟨_, g86⟩ := RT.cls h73 e84
    obtain ⟨v87, e88, j89⟩ := bS j85
    refine m_Rb.callI b_84 (y_cv d_84_67 rfl q_89 (m_isRecv_of rfl g86) (show m_takeI _ _ = some (_, [_, _, _], []) from m_takeI_of rfl rfl rfl (Nat.le_of_ble_eq_true rfl)) (by simp only [m_okf, List.all_cons, List.all_nil, Bool.and_true, Bool.and_self, m_okv_i, m_okv_l, m_okv_0, m_okv_n0, m_okv_t, RT.okn h73 o7, RT.okv h73 o7, RT.okn h73 ha0, RT.okv h73 ha0, RT.okn h73 hp0, RT.okv h73 hp0, RT.okn h73 o77, RT.okv h73 o77]) rfl) (T_c_Conditions_to o77 h73 e88) f73 rfl (fun w90 h90 f90 k90 => ?_) (by decide) (by decide)
    refine m_Rb.n0 b_84 (x_istore d_84_70 rfl (show m_put1 _ _ _ = [(5, _), (4, _), (3, _), (2, _), (0, _), (1, _)] from rfl)) ?_
    refine m_Rb.n0 b_84 (x_iload d_84_72 rfl) ?_
    refine m_Rb.n0 b_84 (x_iload d_84_74 rfl) ?_
    obtain ⟨v105, e92, j106⟩ := bS j89
    have kk91 : ∀ (xz : Int32) (w1 : List mM), xz = v105 → RT T0 w1 → m_Fm w0 w1 → m_Rb l M_84 (102, [(5, .int v87), (4, .int v70), (3, .int v50), (2, .ref a58), (0, .ref a0), (1, .ref a1)], [.int xz], w1) (fun v w' => v = some (.int yz) ∧ RT T0 w' ∧ m_Fm w0 w') T0 T0 2 200 := by
      intro xz w107 ez h107 f107
      rw [ez]
      cases j106
      exact m_Rb.ret b_84 (m_rt_ir d_84_102 rfl rfl) ⟨rfl, h107, f107⟩
    cases hc93 : m_c2 .le v70 v87 with
    | true =>
      have j94 := cT hc93 e92
      refine m_Rb.n0 b_84 (x_ict d_84_76 rfl hc93) ?_
      refine m_Rb.n0 b_84 (x_aload_n d_84_83 rfl) ?_
      refine m_Rb.n0 b_84 (x_iload d_84_84 rfl) ?_
      refine m_Rb.n0 b_84 (x_iconst (z := 4) d_84_86 (by decide)) ?_
      refine m_Rb.n0 b_84 (x_ishr d_84_87 rfl) ?_
      refine m_Rb.n0 b_84 (x_iload d_84_88 rfl) ?_
      refine m_Rb.n0 b_84 (x_iconst (z := 4) d_84_90 (by decide)) ?_
      refine m_Rb.n0 b_84 (x_ishr d_84_91 rfl) ?_
      obtain ⟨_, e95, j96⟩ := bS j94
      obtain ⟨_, g97⟩ := RT.cls h90 e95
      obtain ⟨v98, e99, j100⟩ := bS j96
      refine m_Rb.callI b_84 (y_cv d_84_92 rfl q_85 (m_isRecv_of rfl g97) (show m_takeI _ _ = some (_, [_, _, _], []) from m_takeI_of rfl rfl rfl (Nat.le_of_ble_eq_true rfl)) (by simp only [m_okf, List.all_cons, List.all_nil, Bool.and_true, Bool.and_self, m_okv_i, m_okv_l, m_okv_0, m_okv_n0, m_okv_t, RT.okn h90 o7, RT.okv h90 o7, RT.okn h90 ha0, RT.okv h90 ha0, RT.okn h90 hp0, RT.okv h90 hp0]) rfl) (T_c_Told_blocks o7 h90 e99) f90 rfl (fun w101 h101 f101 k101 => ?_) (by decide) (by decide)
      refine m_Rb.n0 b_84 (x_aload_n d_84_95 rfl) ?_
      obtain ⟨v102, e103, j104⟩ := bS j100
      refine m_Rb.tgetI b_84 d_84_96 rfl h101 e103 ?_
      refine m_Rb.n0 b_84 (x_iconst (z := (-1)) d_84_99 (by decide)) ?_
      refine m_Rb.n0 b_84 (x_ixor d_84_100 rfl) ?_
      refine m_Rb.n0 b_84 (x_iand d_84_101 rfl) ?_
      exact kk91 _ _ (Option.some.inj j104) h101 f101
    | false =>
      have j94 := cF hc93 e92
      refine m_Rb.n0 b_84 (x_icf d_84_76 rfl hc93) ?_
      refine m_Rb.n0 b_84 (x_iconst (z := 0) d_84_79 (by decide)) ?_
      refine m_Rb.n0 b_84 (x_goto d_84_80 rfl) ?_
      exact kk91 _ _ (Option.some.inj j94) h90 f90
def D_c_Told_life (F : Nat) (a0 : Nat) (T0 : tT) : Option (Int32) := (tgi T0 a0 13 7).bind fun v1 => (cond (m_c1 .eq v1) ((tgi T0 a0 13 3).bind fun v8 => some v8) (some (0 : Int32))).bind fun v11 => some v11
theorem T_c_Told_life {l : Launch} {w : List mM} {F : Nat} {a0 : Nat} {T0 : tT} {yz : Int32} (ha0 : okr T0.2.1 (some a0)) (h : RT T0 w) (h0 : D_c_Told_life F a0 T0 = some yz) : m_Rb l M_91 (m_ent M_91 [.ref a0] w) (fun v w' => v = some (.int yz) ∧ RT T0 w' ∧ m_Fm w w') T0 T0 0 0 := by
  rw [show m_ent M_91 [.ref a0] w = (0, [(0, .ref a0)], [], w) from by first | rfl | (simp only [m_ent, lv_args_r, lv_args_a, lv_args_i, lv_args_l, lv_args_0]; done) | (simp only [m_ent, lv_args_r, lv_args_a, lv_args_i, lv_args_l, lv_args_0]; rfl)]
  generalize hw0 : w = w0 at h ⊢
  have hF : m_Fm w0 w0 := m_Fm.refl
  rw [D_c_Told_life] at h0
  refine m_Rb.n0 b_91 (x_aload_n d_91_0 rfl) ?_
  obtain ⟨v1, e2, j3⟩ := bS h0
  refine m_Rb.tgetI b_91 d_91_1 rfl h e2 ?_
  obtain ⟨v11, e5, j12⟩ := bS j3
  have kk4 : ∀ (xz : Int32) (w1 : List mM), xz = v11 → RT T0 w1 → m_Fm w0 w1 → m_Rb l M_91 (15, [(0, .ref a0)], [.int xz], w1) (fun v w' => v = some (.int yz) ∧ RT T0 w' ∧ m_Fm w0 w') T0 T0 0 0 := by
    intro xz w13 ez h13 f13
    rw [ez]
    cases j12
    exact m_Rb.ret b_91 (m_rt_ir d_91_15 rfl rfl) ⟨rfl, h13, f13⟩
  cases hc6 : m_c1 .eq v1 with
  | true =>
    have j7 := cT hc6 e5
    refine m_Rb.n0 b_91 (x_ift d_91_4 rfl hc6) ?_
    refine m_Rb.n0 b_91 (x_aload_n d_91_11 rfl) ?_
    obtain ⟨v8, e9, j10⟩ := bS j7
    refine m_Rb.tgetI b_91 d_91_12 rfl h e9 ?_
    exact kk4 _ _ (Option.some.inj j10) h hF
  | false =>
    have j7 := cF hc6 e5
    refine m_Rb.n0 b_91 (x_iff d_91_4 rfl hc6) ?_
    refine m_Rb.n0 b_91 (x_iconst (z := 0) d_91_7 (by decide)) ?_
    refine m_Rb.n0 b_91 (x_goto d_91_8 rfl) ?_
    exact kk4 _ _ (Option.some.inj j7) h hF
def D_c_Request_takesFresh (F : Nat) (a0 : Nat) (p0 : Option Nat) (p1 : Int32) (T0 : tT) : Option (Int32) := (tgi T0 a0 6 8).bind fun v1 => (cond (m_c2 .eq v1 ((-1) : Int32)) (some (1 : Int32)) ((tgi T0 a0 6 8).bind fun v8 => cond (m_c2 .gt p1 v8) (some (0 : Int32)) (some (1 : Int32)))).bind fun v13 => cond (m_c1 .eq v13) (some (0 : Int32)) ((tgi T0 a0 6 9).bind fun v37 => (p0).bind fun a40 => (tcl T0 a40 13).bind fun _ => (D_c_Told_life F a40 T0).bind fun v46 => (cond (m_c2 .ge (p1 + (if v37 < (0 : Int32) then (0 : Int32) else v37)) v46) (some (0 : Int32)) (some (1 : Int32))).bind fun v54 => (bret v54).bind fun v57 => some v57)
theorem T_c_Request_takesFresh {l : Launch} {w : List mM} {F : Nat} {a0 : Nat} {p0 : Option Nat} {p1 : Int32} {T0 : tT} {yz : Int32} (ha0 : okr T0.2.1 (some a0)) (hp0 : okr T0.2.1 p0) (h : RT T0 w) (h0 : D_c_Request_takesFresh F a0 p0 p1 T0 = some yz) : m_Rb l M_90 (m_ent M_90 [.ref a0, rv p0, .int p1] w) (fun v w' => v = some (.int yz) ∧ RT T0 w' ∧ m_Fm w w') T0 T0 1 100 := by
  rw [show m_ent M_90 [.ref a0, rv p0, .int p1] w = (0, [(0, .ref a0), (1, rv p0), (2, .int p1)], [], w) from by first | rfl | (simp only [m_ent, lv_args_r, lv_args_a, lv_args_i, lv_args_l, lv_args_0]; done) | (simp only [m_ent, lv_args_r, lv_args_a, lv_args_i, lv_args_l, lv_args_0]; rfl)]
  generalize hw0 : w = w0 at h ⊢
  have hF : m_Fm w0 w0 := m_Fm.refl
  rw [D_c_Request_takesFresh] at h0
  refine m_Rb.n0 b_90 (x_aload_n d_90_0 rfl) ?_
  obtain ⟨v1, e2, j3⟩ := bS h0
  refine m_Rb.tgetI b_90 d_90_1 rfl h e2 ?_
  refine m_Rb.n0 b_90 (x_iconst (z := (-1)) d_90_4 (by decide)) ?_
  obtain ⟨v13, e5, j14⟩ := bS j3
  have kk4 : ∀ (xz : Int32) (w1 : List mM), xz = v13 → RT T0 w1 → m_Fm w0 w1 → m_Rb l M_90 (21, [(0, .ref a0), (1, rv p0), (2, .int p1)], [.int xz], w1) (fun v w' => v = some (.int yz) ∧ RT T0 w' ∧ m_Fm w0 w') T0 T0 1 100 := by
    intro xz w15 ez h15 f15
    rw [ez]
    refine m_Rb.n0 b_90 (x_istore_n d_90_21 rfl (show m_put1 _ _ _ = [(3, _), (0, _), (1, _), (2, _)] from rfl)) ?_
    refine m_Rb.n0 b_90 (x_iload_n d_90_22 rfl) ?_
    cases hc35 : m_c1 .eq v13 with
    | true =>
      have j36 := cT hc35 j14
      refine m_Rb.n0 b_90 (x_ift d_90_23 rfl hc35) ?_
      refine m_Rb.n0 b_90 (x_iconst (z := 0) d_90_47 (by decide)) ?_
      cases j36
      exact m_Rb.ret b_90 (m_rt_ir d_90_48 rfl m_nb0) ⟨rfl, h15, f15⟩
    | false =>
      have j36 := cF hc35 j14
      refine m_Rb.n0 b_90 (x_iff d_90_23 rfl hc35) ?_
      refine m_Rb.n0 b_90 (x_iload_n d_90_26 rfl) ?_
      refine m_Rb.n0 b_90 (x_aload_n d_90_27 rfl) ?_
      obtain ⟨v37, e38, j39⟩ := bS j36
      refine m_Rb.tgetI b_90 d_90_28 rfl h15 e38 ?_
      refine m_Rb.n0 b_90 (x_iconst (z := 0) d_90_31 (by decide)) ?_
      refine m_Rb.nz b_90 (x_max d_90_32 rfl (catL (Nat.le_of_ble_eq_true rfl)) rfl) ?_ (by decide) (by decide)
      refine m_Rb.n0 b_90 (x_iadd d_90_35 rfl) ?_
      refine m_Rb.n0 b_90 (x_aloadr_n (x := p0) d_90_36 rfl) ?_
      obtain ⟨a40, e41, j42⟩ := bS j39
      subst e41
      obtain ⟨_, e43, j44⟩ := bS j42
      obtain ⟨_, g45⟩ := RT.cls h15 e43
      obtain ⟨v46, e47, j48⟩ := bS j44
      refine m_Rb.callI b_90 (y_cv d_90_37 rfl q_91 (m_isRecv_of rfl g45) (show m_takeI _ _ = some (_, [_], [_]) from m_takeI_of rfl rfl rfl (Nat.le_of_ble_eq_true rfl)) (by simp only [m_okf, List.all_cons, List.all_nil, Bool.and_true, Bool.and_self, m_okv_i, m_okv_l, m_okv_0, m_okv_n0, m_okv_t, RT.okn h15 ha0, RT.okv h15 ha0, RT.okn h15 hp0, RT.okv h15 hp0]) rfl) (T_c_Told_life hp0 h15 e47) f15 rfl (fun w49 h49 f49 k49 => ?_) (by decide) (by decide)
      obtain ⟨v54, e51, j55⟩ := bS j48
      have kk50 : ∀ (xz : Int32) (w1 : List mM), xz = v54 → RT T0 w1 → m_Fm w0 w1 → m_Rb l M_90 (48, [(3, .int v13), (0, .ref a0), (1, .ref a40), (2, .int p1)], [.int xz], w1) (fun v w' => v = some (.int yz) ∧ RT T0 w' ∧ m_Fm w0 w') T0 T0 1 100 := by
        intro xz w56 ez h56 f56
        rw [ez]
        obtain ⟨v57, e58, j59⟩ := bS j55
        cases j59
        exact m_Rb.retb b_90 d_90_48 rfl e58 ⟨rfl, h56, f56⟩
      cases hc52 : m_c2 .ge (p1 + (if v37 < (0 : Int32) then (0 : Int32) else v37)) v46 with
      | true =>
        have j53 := cT hc52 e51
        refine m_Rb.n0 b_90 (x_ict d_90_40 rfl hc52) ?_
        refine m_Rb.n0 b_90 (x_iconst (z := 0) d_90_47 (by decide)) ?_
        exact kk50 _ _ (Option.some.inj j53) h49 f49
      | false =>
        have j53 := cF hc52 e51
        refine m_Rb.n0 b_90 (x_icf d_90_40 rfl hc52) ?_
        refine m_Rb.n0 b_90 (x_iconst (z := 1) d_90_43 (by decide)) ?_
        refine m_Rb.n0 b_90 (x_goto d_90_44 rfl) ?_
        exact kk50 _ _ (Option.some.inj j53) h49 f49
  cases hc6 : m_c2 .eq v1 ((-1) : Int32) with
  | true =>
    have j7 := cT hc6 e5
    refine m_Rb.n0 b_90 (x_ict d_90_5 rfl hc6) ?_
    refine m_Rb.n0 b_90 (x_iconst (z := 1) d_90_16 (by decide)) ?_
    refine m_Rb.n0 b_90 (x_goto d_90_17 rfl) ?_
    exact kk4 _ _ (Option.some.inj j7) h hF
  | false =>
    have j7 := cF hc6 e5
    refine m_Rb.n0 b_90 (x_icf d_90_5 rfl hc6) ?_
    refine m_Rb.n0 b_90 (x_iload_n d_90_8 rfl) ?_
    refine m_Rb.n0 b_90 (x_aload_n d_90_9 rfl) ?_
    obtain ⟨v8, e9, j10⟩ := bS j7
    refine m_Rb.tgetI b_90 d_90_10 rfl h e9 ?_
    cases hc11 : m_c2 .gt p1 v8 with
    | true =>
      have j12 := cT hc11 j10
      refine m_Rb.n0 b_90 (x_ict d_90_13 rfl hc11) ?_
      refine m_Rb.n0 b_90 (x_iconst (z := 0) d_90_20 (by decide)) ?_
      exact kk4 _ _ (Option.some.inj j12) h hF
    | false =>
      have j12 := cF hc11 j10
      refine m_Rb.n0 b_90 (x_icf d_90_13 rfl hc11) ?_
      refine m_Rb.n0 b_90 (x_iconst (z := 1) d_90_16 (by decide)) ?_
      refine m_Rb.n0 b_90 (x_goto d_90_17 rfl) ?_
      exact kk4 _ _ (Option.some.inj j12) h hF
def D_c_Store_placeOf_21 (F : Nat) : Nat → Nat → Option Nat → Option Nat → Int32 → tT → Option (Int32)
  | 0, _, _, _, _, _ => none
  | n + 1, x0, x1, x2, x3, T0 => (x2).bind fun a25 => (tls T0 a25).bind fun v28 => cond (m_c2 .ge x3 v28) (some ((-1) : Int32)) ((tlg T0 a25 x3).bind fun b33 => (x1).bind fun a37 => (tao b33 a37).bind fun _ => cond (decide (b33 = a37)) (some x3) (D_c_Store_placeOf_21 F n x0 (some a37) (some a25) (x3 + Int32.ofInt 1) T0))
theorem T_c_Store_placeOf_21 {l : Launch} {w0 : List mM} {F : Nat} {T0 : tT} : ∀ (n : Nat) {x0 : Nat} {x1 : Option Nat} {x2 : Option Nat} {x3 : Int32} {w : List mM} {yz : Int32}, okr T0.2.1 (some x0) → okr T0.2.1 x1 → okr T0.2.1 x2 → RT T0 w → m_Fm w0 w → D_c_Store_placeOf_21 F n x0 x1 x2 x3 T0 = some yz → m_Rb l M_94 (21, [(0, .ref x0), (1, rv x1), (2, rv x2), (3, .int x3)], [], w) (fun v w' => v = some (.int yz) ∧ RT T0 w' ∧ m_Fm w0 w') T0 T0 3 300 := by
  intro n
  induction n with
  | zero => intro x0 x1 x2 x3 w yz hx0 hx1 hx2 h hF h0; cases h0
  | succ n ih =>
    intro x0 x1 x2 x3 w yz hx0 hx1 hx2 h hF h0
    rw [D_c_Store_placeOf_21] at h0
    refine m_Rb.n0 b_94 (x_iload_n d_94_21 rfl) ?_
    refine m_Rb.n0 b_94 (x_aloadr_n (x := x2) d_94_22 rfl) ?_
    obtain ⟨a25, e26, j27⟩ := bS h0
    subst e26
    obtain ⟨v28, e29, j30⟩ := bS j27
    refine m_Rb.tlsize b_94 d_94_23 rfl (by simp only [m_okf, List.all_cons, List.all_nil, Bool.and_true, Bool.and_self, m_okv_i, m_okv_l, m_okv_0, m_okv_n0, m_okv_t, RT.okn h hx0, RT.okv h hx0, RT.okv h hx1, RT.okn h hx2, RT.okv h hx2]) (Nat.le_of_ble_eq_true rfl) h e29 ?_ (by decide) (by decide)
    cases hc31 : m_c2 .ge x3 v28 with
    | true =>
      have j32 := cT hc31 j30
      refine m_Rb.n0 b_94 (x_ict d_94_26 rfl hc31) ?_
      refine m_Rb.n0 b_94 (x_iconst (z := (-1)) d_94_46 (by decide)) ?_
      cases j32
      exact m_Rb.ret b_94 (m_rt_ir d_94_47 rfl rfl) ⟨rfl, h, hF⟩
    | false =>
      have j32 := cF hc31 j30
      refine m_Rb.n0 b_94 (x_icf d_94_26 rfl hc31) ?_
      refine m_Rb.n0 b_94 (x_aload_n d_94_29 rfl) ?_
      refine m_Rb.n0 b_94 (x_iload_n d_94_30 rfl) ?_
      obtain ⟨b33, e34, j35⟩ := bS j32
      refine m_Rb.tlget b_94 d_94_31 rfl (by simp only [m_okf, List.all_cons, List.all_nil, Bool.and_true, Bool.and_self, m_okv_i, m_okv_l, m_okv_0, m_okv_n0, m_okv_t, RT.okn h hx0, RT.okv h hx0, RT.okv h hx1, RT.okn h hx2, RT.okv h hx2]) (Nat.le_of_ble_eq_true rfl) h e34 (fun o36 => ?_) (by decide) (by decide)
      refine m_Rb.n0 b_94 (x_aloadr_n (x := x1) d_94_34 rfl) ?_
      obtain ⟨a37, e38, j39⟩ := bS j35
      subst e38
      obtain ⟨_, e40, j41⟩ := bS j39
      cases hc42 : decide (b33 = a37) with
      | true =>
        have j43 := cT hc42 j41
        refine m_Rb.n0 b_94 (x_acmpnt d_94_35 rfl (tao_ok e40) hc42 (RT.okn h o36) (RT.okn h hx1)) ?_
        refine m_Rb.n0 b_94 (x_iload_n d_94_38 rfl) ?_
        cases j43
        exact m_Rb.ret b_94 (m_rt_ir d_94_39 rfl rfl) ⟨rfl, h, hF⟩
      | false =>
        have j43 := cF hc42 j41
        refine m_Rb.n0 b_94 (x_acmpnf d_94_35 rfl (tao_ok e40) hc42 (RT.okn h o36) (RT.okn h hx1)) ?_
        refine m_Rb.n0 b_94 (x_iinc d_94_40 rfl rfl rfl (show m_put1 _ _ _ = [(3, _), (0, _), (1, _), (2, _)] from rfl)) ?_
        refine m_Rb.n0 b_94 (x_goto d_94_43 rfl) ?_
        exact m_Rb.pick [1, 2, 3, 0] rfl (ih hx0 hx1 hx2 h hF j43)
def D_c_Store_placeOf_18 (F : Nat) (x0 : Nat) (x1 : Option Nat) (y0 : Option Nat) (T0 : tT) : Option (Int32) := D_c_Store_placeOf_21 F F x0 x1 y0 (0 : Int32) T0
theorem T_c_Store_placeOf_18 {l : Launch} {w0 : List mM} {F : Nat} {T0 : tT} {x0 : Nat} {x1 : Option Nat} {y0 : Option Nat} {w : List mM} {yz : Int32} (hx0 : okr T0.2.1 (some x0)) (hx1 : okr T0.2.1 x1) (hy0 : okr T0.2.1 y0) (h : RT T0 w) (hF : m_Fm w0 w) (h0 : D_c_Store_placeOf_18 F x0 x1 y0 T0 = some yz) : m_Rb l M_94 (18, [(0, .ref x0), (1, rv x1)], [rv y0], w) (fun v w' => v = some (.int yz) ∧ RT T0 w' ∧ m_Fm w0 w') T0 T0 3 300 := by
  rw [D_c_Store_placeOf_18] at h0
  refine m_Rb.n0 b_94 (x_astorer_n (x := y0) d_94_18 rfl (show m_put1 _ _ _ = [(2, _), (0, _), (1, _)] from (m_p1r (by simp only [List.all_cons, List.all_nil, cat_rv]; rfl)).trans rfl)) ?_
  refine m_Rb.n0 b_94 (x_iconst (z := 0) d_94_19 (by decide)) ?_
  refine m_Rb.n0 b_94 (x_istore_n d_94_20 rfl (show m_put1 _ _ _ = [(3, _), (2, _), (0, _), (1, _)] from (m_p1r (by simp only [List.all_cons, List.all_nil, cat_rv]; rfl)).trans rfl)) ?_
  exact m_Rb.pick [2, 3, 1, 0] rfl (T_c_Store_placeOf_21 F hx0 hx1 hy0 h hF h0)
def D_c_Store_placeOf (F : Nat) (a0 : Nat) (p0 : Option Nat) (T0 : tT) : Option (Int32) := (p0).bind fun a1 => (tgi T0 a1 11 8).bind fun v4 => cond (m_c1 .eq v4) ((tgr T0 a0 5 0).bind fun v17 => D_c_Store_placeOf_18 F a0 (some a1) v17 T0) ((tgr T0 a0 5 1).bind fun v21 => D_c_Store_placeOf_18 F a0 (some a1) v21 T0)
theorem T_c_Store_placeOf {l : Launch} {w : List mM} {F : Nat} {a0 : Nat} {p0 : Option Nat} {T0 : tT} {yz : Int32} (ha0 : okr T0.2.1 (some a0)) (hp0 : okr T0.2.1 p0) (h : RT T0 w) (h0 : D_c_Store_placeOf F a0 p0 T0 = some yz) : m_Rb l M_94 (m_ent M_94 [.ref a0, rv p0] w) (fun v w' => v = some (.int yz) ∧ RT T0 w' ∧ m_Fm w w') T0 T0 3 300 := by
  rw [show m_ent M_94 [.ref a0, rv p0] w = (0, [(0, .ref a0), (1, rv p0)], [], w) from by first | rfl | (simp only [m_ent, lv_args_r, lv_args_a, lv_args_i, lv_args_l, lv_args_0]; done) | (simp only [m_ent, lv_args_r, lv_args_a, lv_args_i, lv_args_l, lv_args_0]; rfl)]
  generalize hw0 : w = w0 at h ⊢
  have hF : m_Fm w0 w0 := m_Fm.refl
  rw [D_c_Store_placeOf] at h0
  refine m_Rb.n0 b_94 (x_aloadr_n (x := p0) d_94_0 rfl) ?_
  obtain ⟨a1, e2, j3⟩ := bS h0
  subst e2
  obtain ⟨v4, e5, j6⟩ := bS j3
  refine m_Rb.tgetI b_94 d_94_1 rfl h e5 ?_
  cases hc15 : m_c1 .eq v4 with
  | true =>
    have j16 := cT hc15 j6
    refine m_Rb.n0 b_94 (x_ift d_94_4 rfl hc15) ?_
    refine m_Rb.n0 b_94 (x_aload_n d_94_14 rfl) ?_
    obtain ⟨v17, e18, j19⟩ := bS j16
    refine m_Rb.tgetR b_94 d_94_15 rfl h e18 (fun o20 => ?_)
    exact m_Rb.pick [0, 1] rfl (T_c_Store_placeOf_18 ha0 hp0 o20 h hF j19)
  | false =>
    have j16 := cF hc15 j6
    refine m_Rb.n0 b_94 (x_iff d_94_4 rfl hc15) ?_
    refine m_Rb.n0 b_94 (x_aload_n d_94_7 rfl) ?_
    obtain ⟨v21, e22, j23⟩ := bS j16
    refine m_Rb.tgetR b_94 d_94_8 rfl h e22 (fun o24 => ?_)
    refine m_Rb.n0 b_94 (x_goto d_94_11 rfl) ?_
    exact m_Rb.pick [0, 1] rfl (T_c_Store_placeOf_18 ha0 hp0 o24 h hF j23)
def D_c_Store_remove (F : Nat) (a0 : Nat) (p0 : Option Nat) (T : tT) : Option (tT) := (tcl T a0 5).bind fun _ => (D_c_Store_placeOf F a0 p0 T).bind fun v4 => cond (m_c2 .ne v4 ((-1) : Int32)) ((p0).bind fun a10 => (tgi T a10 11 8).bind fun v13 => cond (m_c1 .eq v13) ((tgr T a0 5 0).bind fun v34 => (v34).bind fun a38 => bd2 (tlr T a38 v4) fun b41 T42 => some T42) ((tgr T a0 5 1).bind fun v46 => (v46).bind fun a50 => bd2 (tlr T a50 v4) fun b53 T54 => some T54)) (some T)
theorem T_c_Store_remove {l : Launch} {w : List mM} {F : Nat} {a0 : Nat} {p0 : Option Nat} {T : tT} {Tz : tT} (ha0 : okr T.2.1 (some a0)) (hp0 : okr T.2.1 p0) (h : RT T w) (h0 : D_c_Store_remove F a0 p0 T = some Tz) : m_Rb l M_93 (m_ent M_93 [.ref a0, rv p0] w) (fun v w' => v = none ∧ RT Tz w' ∧ m_Fm w w') T Tz 5 500 := by
  rw [show m_ent M_93 [.ref a0, rv p0] w = (0, [(0, .ref a0), (1, rv p0)], [], w) from by first | rfl | (simp only [m_ent, lv_args_r, lv_args_a, lv_args_i, lv_args_l, lv_args_0]; done) | (simp only [m_ent, lv_args_r, lv_args_a, lv_args_i, lv_args_l, lv_args_0]; rfl)]
  generalize hw0 : w = w0 at h ⊢
  have hF : m_Fm w0 w0 := m_Fm.refl
  rw [D_c_Store_remove] at h0
  refine m_Rb.n0 b_93 (x_aload_n d_93_0 rfl) ?_
  refine m_Rb.n0 b_93 (x_aloadr_n (x := p0) d_93_1 rfl) ?_
  obtain ⟨_, e1, j2⟩ := bS h0
  obtain ⟨_, g3⟩ := RT.cls h e1
  obtain ⟨v4, e5, j6⟩ := bS j2
  refine m_Rb.callI b_93 (y_cv d_93_2 rfl q_94 (m_isRecv_of rfl g3) (show m_takeI _ _ = some (_, [_, _], []) from m_takeI_of rfl rfl rfl (Nat.le_of_ble_eq_true rfl)) (by simp only [m_okf, List.all_cons, List.all_nil, Bool.and_true, Bool.and_self, m_okv_i, m_okv_l, m_okv_0, m_okv_n0, m_okv_t, RT.okn h ha0, RT.okv h ha0, RT.okv h hp0]) (decide_eq_true (by simp only [lgs_r, lgs_a, lgs_i, lgs_l, lgs_0]; exact Nat.le_of_ble_eq_true rfl))) (T_c_Store_placeOf ha0 hp0 h e5) hF rfl (fun w7 h7 f7 k7 => ?_) (by decide) (by decide)
  refine m_Rb.n0 b_93 (x_istore_n d_93_5 rfl (show m_put1 _ _ _ = [(2, _), (0, _), (1, _)] from (m_p1r (by simp only [List.all_cons, List.all_nil, cat_rv]; rfl)).trans rfl)) ?_
  refine m_Rb.n0 b_93 (x_iload_n d_93_6 rfl) ?_
  refine m_Rb.n0 b_93 (x_iconst (z := (-1)) d_93_7 (by decide)) ?_
  cases hc8 : m_c2 .ne v4 ((-1) : Int32) with
  | true =>
    have j9 := cT hc8 j6
    refine m_Rb.n0 b_93 (x_ict d_93_8 rfl hc8) ?_
    refine m_Rb.n0 b_93 (x_aloadr_n (x := p0) d_93_12 rfl) ?_
    obtain ⟨a10, e11, j12⟩ := bS j9
    subst e11
    obtain ⟨v13, e14, j15⟩ := bS j12
    refine m_Rb.tgetI b_93 d_93_13 rfl h7 e14 ?_
    cases hc32 : m_c1 .eq v13 with
    | true =>
      have j33 := cT hc32 j15
      refine m_Rb.n0 b_93 (x_ift d_93_16 rfl hc32) ?_
      refine m_Rb.n0 b_93 (x_aload_n d_93_31 rfl) ?_
      obtain ⟨v34, e35, j36⟩ := bS j33
      refine m_Rb.tgetR b_93 d_93_32 rfl h7 e35 (fun o37 => ?_)
      refine m_Rb.n0 b_93 (x_iload_n d_93_35 rfl) ?_
      obtain ⟨a38, e39, j40⟩ := bS j36
      subst e39
      obtain ⟨b41, T42, e43, j44⟩ := bS2 j40
      refine m_Rb.tlrem b_93 d_93_36 rfl (by simp only [m_okf, List.all_cons, List.all_nil, Bool.and_true, Bool.and_self, m_okv_i, m_okv_l, m_okv_0, m_okv_n0, m_okv_t, RT.okn h7 ha0, RT.okv h7 ha0, RT.okn h7 hp0, RT.okv h7 hp0, RT.okn h7 o37, RT.okv h7 o37]) (Nat.le_of_ble_eq_true rfl) h7 f7 e43 (fun w45 o45 h45 f45 k45 => ?_) (by decide) (by decide)
      refine m_Rb.n0 b_93 (x_pop d_93_39 rfl) ?_
      cases j44
      exact m_Rb.ret b_93 (m_rt_vr d_93_40 rfl) ⟨rfl, h45, f45⟩
    | false =>
      have j33 := cF hc32 j15
      refine m_Rb.n0 b_93 (x_iff d_93_16 rfl hc32) ?_
      refine m_Rb.n0 b_93 (x_aload_n d_93_19 rfl) ?_
      obtain ⟨v46, e47, j48⟩ := bS j33
      refine m_Rb.tgetR b_93 d_93_20 rfl h7 e47 (fun o49 => ?_)
      refine m_Rb.n0 b_93 (x_iload_n d_93_23 rfl) ?_
      obtain ⟨a50, e51, j52⟩ := bS j48
      subst e51
      obtain ⟨b53, T54, e55, j56⟩ := bS2 j52
      refine m_Rb.tlrem b_93 d_93_24 rfl (by simp only [m_okf, List.all_cons, List.all_nil, Bool.and_true, Bool.and_self, m_okv_i, m_okv_l, m_okv_0, m_okv_n0, m_okv_t, RT.okn h7 ha0, RT.okv h7 ha0, RT.okn h7 hp0, RT.okv h7 hp0, RT.okn h7 o49, RT.okv h7 o49]) (Nat.le_of_ble_eq_true rfl) h7 f7 e55 (fun w57 o57 h57 f57 k57 => ?_) (by decide) (by decide)
      refine m_Rb.n0 b_93 (x_pop d_93_27 rfl) ?_
      refine m_Rb.n0 b_93 (x_goto d_93_28 rfl) ?_
      cases j56
      exact m_Rb.ret b_93 (m_rt_vr d_93_40 rfl) ⟨rfl, h57, f57⟩
  | false =>
    have j9 := cF hc8 j6
    refine m_Rb.n0 b_93 (x_icf d_93_8 rfl hc8) ?_
    cases j9
    exact m_Rb.ret b_93 (m_rt_vr d_93_11 rfl) ⟨rfl, h7, f7⟩
def D_c_Entry_size (F : Nat) (a0 : Nat) (T0 : tT) : Option (Int32) := (tgi T0 a0 11 7).bind fun v1 => some ((16 : Int32) + ((16 : Int32) * (F_bc v1)))
theorem T_c_Entry_size {l : Launch} {w : List mM} {F : Nat} {a0 : Nat} {T0 : tT} {yz : Int32} (ha0 : okr T0.2.1 (some a0)) (h : RT T0 w) (h0 : D_c_Entry_size F a0 T0 = some yz) : m_Rb l M_99 (m_ent M_99 [.ref a0] w) (fun v w' => v = some (.int yz) ∧ RT T0 w' ∧ m_Fm w w') T0 T0 1 100 := by
  rw [show m_ent M_99 [.ref a0] w = (0, [(0, .ref a0)], [], w) from by first | rfl | (simp only [m_ent, lv_args_r, lv_args_a, lv_args_i, lv_args_l, lv_args_0]; done) | (simp only [m_ent, lv_args_r, lv_args_a, lv_args_i, lv_args_l, lv_args_0]; rfl)]
  generalize hw0 : w = w0 at h ⊢
  have hF : m_Fm w0 w0 := m_Fm.refl
  rw [D_c_Entry_size] at h0
  refine m_Rb.n0 b_99 (x_bipush (z := 16) d_99_0 (by decide)) ?_
  refine m_Rb.n0 b_99 (x_bipush (z := 16) d_99_2 (by decide)) ?_
  refine m_Rb.n0 b_99 (x_aload_n d_99_4 rfl) ?_
  obtain ⟨v1, e2, j3⟩ := bS h0
  refine m_Rb.tgetI b_99 d_99_5 rfl h e2 ?_
  refine m_Rb.callE b_99 (y_cs d_99_8 rfl q_100 (show m_takeS _ _ = some (_, [_], [_, _]) from m_takeS_of (Nat.le_of_ble_eq_true rfl) rfl rfl (Nat.le_of_ble_eq_true rfl)) (by simp only [m_okf, List.all_cons, List.all_nil, Bool.and_true, Bool.and_self, m_okv_i, m_okv_l, m_okv_0, m_okv_n0, m_okv_t, RT.okn h ha0, RT.okv h ha0]) rfl) P_bc rfl ?_ (by decide) (by decide)
  refine m_Rb.n0 b_99 (x_imul d_99_11 rfl) ?_
  refine m_Rb.n0 b_99 (x_iadd d_99_12 rfl) ?_
  cases j3
  exact m_Rb.ret b_99 (m_rt_ir d_99_13 rfl rfl) ⟨rfl, h, hF⟩
def D_c_Store_sizeOf_4 (F : Nat) : Nat → Nat → Option Nat → Int32 → Int32 → tT → Option (Int32)
  | 0, _, _, _, _, _ => none
  | n + 1, x0, x1, x2, x3, T0 => (x1).bind fun a1 => (tls T0 a1).bind fun v4 => cond (m_c2 .ge x3 v4) (some x2) ((tlg T0 a1 x3).bind fun b9 => (tcc T0 (some b9) 11).bind fun _ => (tcl T0 b9 11).bind fun _ => (D_c_Entry_size F b9 T0).bind fun v18 => D_c_Store_sizeOf_4 F n x0 (some a1) (x2 + v18) (x3 + Int32.ofInt 1) T0)
theorem T_c_Store_sizeOf_4 {l : Launch} {w0 : List mM} {F : Nat} {T0 : tT} : ∀ (n : Nat) {x0 : Nat} {x1 : Option Nat} {x2 : Int32} {x3 : Int32} {w : List mM} {yz : Int32}, okr T0.2.1 (some x0) → okr T0.2.1 x1 → RT T0 w → m_Fm w0 w → D_c_Store_sizeOf_4 F n x0 x1 x2 x3 T0 = some yz → m_Rb l M_98 (4, [(0, .ref x0), (1, rv x1), (2, .int x2), (3, .int x3)], [], w) (fun v w' => v = some (.int yz) ∧ RT T0 w' ∧ m_Fm w0 w') T0 T0 3 300 := by
  intro n
  induction n with
  | zero => intro x0 x1 x2 x3 w yz hx0 hx1 h hF h0; cases h0
  | succ n ih =>
    intro x0 x1 x2 x3 w yz hx0 hx1 h hF h0
    rw [D_c_Store_sizeOf_4] at h0
    refine m_Rb.n0 b_98 (x_iload_n d_98_4 rfl) ?_
    refine m_Rb.n0 b_98 (x_aloadr_n (x := x1) d_98_5 rfl) ?_
    obtain ⟨a1, e2, j3⟩ := bS h0
    subst e2
    obtain ⟨v4, e5, j6⟩ := bS j3
    refine m_Rb.tlsize b_98 d_98_6 rfl (by simp only [m_okf, List.all_cons, List.all_nil, Bool.and_true, Bool.and_self, m_okv_i, m_okv_l, m_okv_0, m_okv_n0, m_okv_t, RT.okn h hx0, RT.okv h hx0, RT.okn h hx1, RT.okv h hx1]) (Nat.le_of_ble_eq_true rfl) h e5 ?_ (by decide) (by decide)
    cases hc7 : m_c2 .ge x3 v4 with
    | true =>
      have j8 := cT hc7 j6
      refine m_Rb.n0 b_98 (x_ict d_98_9 rfl hc7) ?_
      refine m_Rb.n0 b_98 (x_iload_n d_98_32 rfl) ?_
      cases j8
      exact m_Rb.ret b_98 (m_rt_ir d_98_33 rfl rfl) ⟨rfl, h, hF⟩
    | false =>
      have j8 := cF hc7 j6
      refine m_Rb.n0 b_98 (x_icf d_98_9 rfl hc7) ?_
      refine m_Rb.n0 b_98 (x_iload_n d_98_12 rfl) ?_
      refine m_Rb.n0 b_98 (x_aload_n d_98_13 rfl) ?_
      refine m_Rb.n0 b_98 (x_iload_n d_98_14 rfl) ?_
      obtain ⟨b9, e10, j11⟩ := bS j8
      refine m_Rb.tlget b_98 d_98_15 rfl (by simp only [m_okf, List.all_cons, List.all_nil, Bool.and_true, Bool.and_self, m_okv_i, m_okv_l, m_okv_0, m_okv_n0, m_okv_t, RT.okn h hx0, RT.okv h hx0, RT.okn h hx1, RT.okv h hx1]) (Nat.le_of_ble_eq_true rfl) h e10 (fun o12 => ?_) (by decide) (by decide)
      obtain ⟨_, e13, j14⟩ := bS j11
      refine m_Rb.tcast (z := (some b9)) b_98 d_98_18 rfl h e13 ?_
      obtain ⟨_, e15, j16⟩ := bS j14
      obtain ⟨_, g17⟩ := RT.cls h e15
      obtain ⟨v18, e19, j20⟩ := bS j16
      refine m_Rb.callI b_98 (y_cv d_98_21 rfl q_99 (m_isRecv_of rfl g17) (show m_takeI _ _ = some (_, [_], [_]) from m_takeI_of rfl rfl rfl (Nat.le_of_ble_eq_true rfl)) (by simp only [m_okf, List.all_cons, List.all_nil, Bool.and_true, Bool.and_self, m_okv_i, m_okv_l, m_okv_0, m_okv_n0, m_okv_t, RT.okn h hx0, RT.okv h hx0, RT.okn h hx1, RT.okv h hx1, RT.okn h o12, RT.okv h o12]) rfl) (T_c_Entry_size o12 h e19) hF rfl (fun w21 h21 f21 k21 => ?_) (by decide) (by decide)
      refine m_Rb.n0 b_98 (x_iadd d_98_24 rfl) ?_
      refine m_Rb.n0 b_98 (x_istore_n d_98_25 rfl (show m_put1 _ _ _ = [(2, _), (0, _), (1, _), (3, _)] from rfl)) ?_
      refine m_Rb.n0 b_98 (x_iinc d_98_26 rfl rfl rfl (show m_put1 _ _ _ = [(3, _), (2, _), (0, _), (1, _)] from rfl)) ?_
      refine m_Rb.n0 b_98 (x_goto d_98_29 rfl) ?_
      exact m_Rb.pick [2, 3, 1, 0] rfl (ih hx0 hx1 h21 f21 j20)
def D_c_Store_sizeOf (F : Nat) (a0 : Nat) (p0 : Option Nat) (T0 : tT) : Option (Int32) := D_c_Store_sizeOf_4 F F a0 p0 (0 : Int32) (0 : Int32) T0
theorem T_c_Store_sizeOf {l : Launch} {w : List mM} {F : Nat} {a0 : Nat} {p0 : Option Nat} {T0 : tT} {yz : Int32} (ha0 : okr T0.2.1 (some a0)) (hp0 : okr T0.2.1 p0) (h : RT T0 w) (h0 : D_c_Store_sizeOf F a0 p0 T0 = some yz) : m_Rb l M_98 (m_ent M_98 [.ref a0, rv p0] w) (fun v w' => v = some (.int yz) ∧ RT T0 w' ∧ m_Fm w w') T0 T0 3 300 := by
  rw [show m_ent M_98 [.ref a0, rv p0] w = (0, [(0, .ref a0), (1, rv p0)], [], w) from by first | rfl | (simp only [m_ent, lv_args_r, lv_args_a, lv_args_i, lv_args_l, lv_args_0]; done) | (simp only [m_ent, lv_args_r, lv_args_a, lv_args_i, lv_args_l, lv_args_0]; rfl)]
  generalize hw0 : w = w0 at h ⊢
  have hF : m_Fm w0 w0 := m_Fm.refl
  rw [D_c_Store_sizeOf] at h0
  refine m_Rb.n0 b_98 (x_iconst (z := 0) d_98_0 (by decide)) ?_
  refine m_Rb.n0 b_98 (x_istore_n d_98_1 rfl (show m_put1 _ _ _ = [(2, _), (0, _), (1, _)] from (m_p1r (by simp only [List.all_cons, List.all_nil, cat_rv]; rfl)).trans rfl)) ?_
  refine m_Rb.n0 b_98 (x_iconst (z := 0) d_98_2 (by decide)) ?_
  refine m_Rb.n0 b_98 (x_istore_n d_98_3 rfl (show m_put1 _ _ _ = [(3, _), (2, _), (0, _), (1, _)] from rfl)) ?_
  exact m_Rb.pick [2, 3, 1, 0] rfl (T_c_Store_sizeOf_4 F ha0 hp0 h hF h0)
def D_c_Store_balance_126 (F : Nat) (rec76 : Nat → Int32 → tT → Option (tT)) (x0 : Nat) (x2 : Int32) (y0 : Option Nat) (T : tT) : Option (tT) := (y0).bind fun a148 => (tcl T a148 11).bind fun _ => (D_c_Entry_size F a148 T).bind fun v154 => rec76 x0 (x2 - v154) T
theorem T_c_Store_balance_126 {l : Launch} {w0 : List mM} {F : Nat} {rec76 : Nat → Int32 → tT → Option (tT)} (hr76 : ∀ {x0 : Nat} {x2 : Int32} {T : tT} {w : List mM} {Tz : tT}, okr T.2.1 (some x0) → RT T w → m_Fm w0 w → rec76 x0 x2 T = some Tz → m_Rb l M_97 (76, [(0, .ref x0), (2, .int x2)], [], w) (fun v w' => v = none ∧ RT Tz w' ∧ m_Fm w0 w') T Tz 13 1300) {x0 : Nat} {x2 : Int32} {y0 : Option Nat} {T : tT} {w : List mM} {Tz : tT} (hx0 : okr T.2.1 (some x0)) (hy0 : okr T.2.1 y0) (h : RT T w) (hF : m_Fm w0 w) (h0 : D_c_Store_balance_126 F rec76 x0 x2 y0 T = some Tz) : m_Rb l M_97 (126, [(0, .ref x0), (2, .int x2)], [rv y0], w) (fun v w' => v = none ∧ RT Tz w' ∧ m_Fm w0 w') T Tz 13 1300 := by
  rw [D_c_Store_balance_126] at h0
  refine m_Rb.n0 b_97 (x_astorer_n (x := y0) d_97_126 rfl (show m_put1 _ _ _ = [(3, _), (0, _), (2, _)] from rfl)) ?_
  refine m_Rb.n0 b_97 (x_iload_n d_97_127 rfl) ?_
  refine m_Rb.n0 b_97 (x_aloadr_n (x := y0) d_97_128 rfl) ?_
  obtain ⟨a148, e149, j150⟩ := bS h0
  subst e149
  obtain ⟨_, e151, j152⟩ := bS j150
  obtain ⟨_, g153⟩ := RT.cls h e151
  obtain ⟨v154, e155, j156⟩ := bS j152
  refine m_Rb.callI b_97 (y_cv d_97_129 rfl q_99 (m_isRecv_of rfl g153) (show m_takeI _ _ = some (_, [_], [_]) from m_takeI_of rfl rfl rfl (Nat.le_of_ble_eq_true rfl)) (by simp only [m_okf, List.all_cons, List.all_nil, Bool.and_true, Bool.and_self, m_okv_i, m_okv_l, m_okv_0, m_okv_n0, m_okv_t, RT.okn h hy0, RT.okv h hy0, RT.okn h hx0, RT.okv h hx0]) rfl) (T_c_Entry_size hy0 h e155) hF rfl (fun w157 h157 f157 k157 => ?_) (by decide) (by decide)
  refine m_Rb.n0 b_97 (x_isub d_97_132 rfl) ?_
  refine m_Rb.n0 b_97 (x_istore_n d_97_133 rfl (show m_put1 _ _ _ = [(2, _), (3, _), (0, _)] from rfl)) ?_
  refine m_Rb.n0 b_97 (x_goto d_97_134 rfl) ?_
  exact m_Rb.pick [2, 0] rfl (hr76 hx0 h157 f157 j156)
def D_c_Store_balance_76 (F : Nat) : Nat → Nat → Int32 → tT → Option (tT)
  | 0, _, _, _ => none
  | n + 1, x0, x2, T => (tcl T x0 5).bind fun _ => (D_c_Store_count F x0 T).bind fun v79 => cond (m_c1 .le v79) (some T) ((tgi T x0 5 2).bind fun v85 => cond (m_c2 .le x2 v85) (some T) ((tgr T x0 5 0).bind fun v90 => (v90).bind fun a94 => (tle T a94).bind fun v97 => cond (m_c1 .eq v97) ((tgr T x0 5 0).bind fun v120 => (v120).bind fun a124 => bd2 (tlr T a124 (0 : Int32)) fun b127 T128 => (tcc T128 (some b127) 11).bind fun _ => D_c_Store_balance_126 F (D_c_Store_balance_76 F n) x0 x2 (some b127) T128) ((tgr T x0 5 1).bind fun v134 => (v134).bind fun a138 => bd2 (tlr T a138 (0 : Int32)) fun b141 T142 => (tcc T142 (some b141) 11).bind fun _ => D_c_Store_balance_126 F (D_c_Store_balance_76 F n) x0 x2 (some b141) T142)))
theorem T_c_Store_balance_76 {l : Launch} {w0 : List mM} {F : Nat} : ∀ (n : Nat) {x0 : Nat} {x2 : Int32} {T : tT} {w : List mM} {Tz : tT}, okr T.2.1 (some x0) → RT T w → m_Fm w0 w → D_c_Store_balance_76 F n x0 x2 T = some Tz → m_Rb l M_97 (76, [(0, .ref x0), (2, .int x2)], [], w) (fun v w' => v = none ∧ RT Tz w' ∧ m_Fm w0 w') T Tz 13 1300 := by
  intro n
  induction n with
  | zero => intro x0 x2 T w Tz hx0 h hF h0; cases h0
  | succ n ih =>
    intro x0 x2 T w Tz hx0 h hF h0
    rw [D_c_Store_balance_76] at h0
    refine m_Rb.n0 b_97 (x_aload_n d_97_76 rfl) ?_
    obtain ⟨_, e76, j77⟩ := bS h0
    obtain ⟨_, g78⟩ := RT.cls h e76
    obtain ⟨v79, e80, j81⟩ := bS j77
    refine m_Rb.callI b_97 (y_cv d_97_77 rfl q_75 (m_isRecv_of rfl g78) (show m_takeI _ _ = some (_, [_], []) from m_takeI_of rfl rfl rfl (Nat.le_of_ble_eq_true rfl)) (by simp only [m_okf, List.all_cons, List.all_nil, Bool.and_true, Bool.and_self, m_okv_i, m_okv_l, m_okv_0, m_okv_n0, m_okv_t, RT.okn h hx0, RT.okv h hx0]) rfl) (T_c_Store_count hx0 h e80) hF rfl (fun w82 h82 f82 k82 => ?_) (by decide) (by decide)
    cases hc83 : m_c1 .le v79 with
    | true =>
      have j84 := cT hc83 j81
      refine m_Rb.n0 b_97 (x_ift d_97_80 rfl hc83) ?_
      cases j84
      exact m_Rb.ret b_97 (m_rt_vr d_97_137 rfl) ⟨rfl, h82, f82⟩
    | false =>
      have j84 := cF hc83 j81
      refine m_Rb.n0 b_97 (x_iff d_97_80 rfl hc83) ?_
      refine m_Rb.n0 b_97 (x_iload_n d_97_83 rfl) ?_
      refine m_Rb.n0 b_97 (x_aload_n d_97_84 rfl) ?_
      obtain ⟨v85, e86, j87⟩ := bS j84
      refine m_Rb.tgetI b_97 d_97_85 rfl h82 e86 ?_
      cases hc88 : m_c2 .le x2 v85 with
      | true =>
        have j89 := cT hc88 j87
        refine m_Rb.n0 b_97 (x_ict d_97_88 rfl hc88) ?_
        cases j89
        exact m_Rb.ret b_97 (m_rt_vr d_97_137 rfl) ⟨rfl, h82, f82⟩
      | false =>
        have j89 := cF hc88 j87
        refine m_Rb.n0 b_97 (x_icf d_97_88 rfl hc88) ?_
        refine m_Rb.n0 b_97 (x_aload_n d_97_91 rfl) ?_
        obtain ⟨v90, e91, j92⟩ := bS j89
        refine m_Rb.tgetR b_97 d_97_92 rfl h82 e91 (fun o93 => ?_)
        obtain ⟨a94, e95, j96⟩ := bS j92
        subst e95
        obtain ⟨v97, e98, j99⟩ := bS j96
        refine m_Rb.tlempty b_97 d_97_95 rfl (by simp only [m_okf, List.all_cons, List.all_nil, Bool.and_true, Bool.and_self, m_okv_i, m_okv_l, m_okv_0, m_okv_n0, m_okv_t, RT.okn h82 hx0, RT.okv h82 hx0, RT.okn h82 o93, RT.okv h82 o93]) (Nat.le_of_ble_eq_true rfl) h82 e98 ?_ (by decide) (by decide)
        cases hc118 : m_c1 .eq v97 with
        | true =>
          have j119 := cT hc118 j99
          refine m_Rb.n0 b_97 (x_ift d_97_98 rfl hc118) ?_
          refine m_Rb.n0 b_97 (x_aload_n d_97_115 rfl) ?_
          obtain ⟨v120, e121, j122⟩ := bS j119
          refine m_Rb.tgetR b_97 d_97_116 rfl h82 e121 (fun o123 => ?_)
          refine m_Rb.n0 b_97 (x_iconst (z := 0) d_97_119 (by decide)) ?_
          obtain ⟨a124, e125, j126⟩ := bS j122
          subst e125
          obtain ⟨b127, T128, e129, j130⟩ := bS2 j126
          refine m_Rb.tlrem b_97 d_97_120 rfl (by simp only [m_okf, List.all_cons, List.all_nil, Bool.and_true, Bool.and_self, m_okv_i, m_okv_l, m_okv_0, m_okv_n0, m_okv_t, RT.okn h82 hx0, RT.okv h82 hx0, RT.okn h82 o123, RT.okv h82 o123]) (Nat.le_of_ble_eq_true rfl) h82 f82 e129 (fun w131 o131 h131 f131 k131 => ?_) (by decide) (by decide)
          obtain ⟨_, e132, j133⟩ := bS j130
          refine m_Rb.tcast (z := (some b127)) b_97 d_97_123 rfl h131 e132 ?_
          exact m_Rb.pick [0, 1] rfl (T_c_Store_balance_126 ih (okm hx0 k131) o131 h131 f131 j133)
        | false =>
          have j119 := cF hc118 j99
          refine m_Rb.n0 b_97 (x_iff d_97_98 rfl hc118) ?_
          refine m_Rb.n0 b_97 (x_aload_n d_97_101 rfl) ?_
          obtain ⟨v134, e135, j136⟩ := bS j119
          refine m_Rb.tgetR b_97 d_97_102 rfl h82 e135 (fun o137 => ?_)
          refine m_Rb.n0 b_97 (x_iconst (z := 0) d_97_105 (by decide)) ?_
          obtain ⟨a138, e139, j140⟩ := bS j136
          subst e139
          obtain ⟨b141, T142, e143, j144⟩ := bS2 j140
          refine m_Rb.tlrem b_97 d_97_106 rfl (by simp only [m_okf, List.all_cons, List.all_nil, Bool.and_true, Bool.and_self, m_okv_i, m_okv_l, m_okv_0, m_okv_n0, m_okv_t, RT.okn h82 hx0, RT.okv h82 hx0, RT.okn h82 o137, RT.okv h82 o137]) (Nat.le_of_ble_eq_true rfl) h82 f82 e143 (fun w145 o145 h145 f145 k145 => ?_) (by decide) (by decide)
          obtain ⟨_, e146, j147⟩ := bS j144
          refine m_Rb.tcast (z := (some b141)) b_97 d_97_109 rfl h145 e146 ?_
          refine m_Rb.n0 b_97 (x_goto d_97_112 rfl) ?_
          exact m_Rb.pick [0, 1] rfl (T_c_Store_balance_126 ih (okm hx0 k145) o145 h145 f145 j147)
def D_c_Store_balance_20 (F : Nat) : Nat → Nat → Int32 → Int32 → tT → Option (tT)
  | 0, _, _, _, _ => none
  | n + 1, x0, x1, x2, T => (tgr T x0 5 1).bind fun v23 => (v23).bind fun a27 => (tle T a27).bind fun v30 => cond (m_c1 .ne v30) (D_c_Store_balance_76 F F x0 x2 T) ((tgi T x0 5 2).bind fun v35 => cond (m_c2 .le x1 (v35 >>> ((1 : Int32) &&& 31))) (D_c_Store_balance_76 F F x0 x2 T) ((tgr T x0 5 1).bind fun v40 => (v40).bind fun a44 => bd2 (tlr T a44 (0 : Int32)) fun b47 T48 => (tcc T48 (some b47) 11).bind fun _ => (tcl T48 b47 11).bind fun _ => (D_c_Entry_size F b47 T48).bind fun v57 => (tpz T48 b47 11 8 (0 : Int32)).bind fun T61 => (tgr T61 x0 5 0).bind fun v65 => (v65).bind fun a69 => (tla T61 a69 b47).bind fun T72 => D_c_Store_balance_20 F n x0 (x1 - v57) x2 T72))
theorem T_c_Store_balance_20 {l : Launch} {w0 : List mM} {F : Nat} : ∀ (n : Nat) {x0 : Nat} {x1 : Int32} {x2 : Int32} {T : tT} {w : List mM} {Tz : tT}, okr T.2.1 (some x0) → RT T w → m_Fm w0 w → D_c_Store_balance_20 F n x0 x1 x2 T = some Tz → m_Rb l M_97 (20, [(0, .ref x0), (1, .int x1), (2, .int x2)], [], w) (fun v w' => v = none ∧ RT Tz w' ∧ m_Fm w0 w') T Tz 13 1300 := by
  intro n
  induction n with
  | zero => intro x0 x1 x2 T w Tz hx0 h hF h0; cases h0
  | succ n ih =>
    intro x0 x1 x2 T w Tz hx0 h hF h0
    rw [D_c_Store_balance_20] at h0
    refine m_Rb.n0 b_97 (x_aload_n d_97_20 rfl) ?_
    obtain ⟨v23, e24, j25⟩ := bS h0
    refine m_Rb.tgetR b_97 d_97_21 rfl h e24 (fun o26 => ?_)
    obtain ⟨a27, e28, j29⟩ := bS j25
    subst e28
    obtain ⟨v30, e31, j32⟩ := bS j29
    refine m_Rb.tlempty b_97 d_97_24 rfl (by simp only [m_okf, List.all_cons, List.all_nil, Bool.and_true, Bool.and_self, m_okv_i, m_okv_l, m_okv_0, m_okv_n0, m_okv_t, RT.okn h hx0, RT.okv h hx0, RT.okn h o26, RT.okv h o26]) (Nat.le_of_ble_eq_true rfl) h e31 ?_ (by decide) (by decide)
    cases hc33 : m_c1 .ne v30 with
    | true =>
      have j34 := cT hc33 j32
      refine m_Rb.n0 b_97 (x_ift d_97_27 rfl hc33) ?_
      exact m_Rb.pick [0, 2] rfl (T_c_Store_balance_76 F hx0 h hF j34)
    | false =>
      have j34 := cF hc33 j32
      refine m_Rb.n0 b_97 (x_iff d_97_27 rfl hc33) ?_
      refine m_Rb.n0 b_97 (x_iload_n d_97_30 rfl) ?_
      refine m_Rb.n0 b_97 (x_aload_n d_97_31 rfl) ?_
      obtain ⟨v35, e36, j37⟩ := bS j34
      refine m_Rb.tgetI b_97 d_97_32 rfl h e36 ?_
      refine m_Rb.n0 b_97 (x_iconst (z := 1) d_97_35 (by decide)) ?_
      refine m_Rb.n0 b_97 (x_ishr d_97_36 rfl) ?_
      cases hc38 : m_c2 .le x1 (v35 >>> ((1 : Int32) &&& 31)) with
      | true =>
        have j39 := cT hc38 j37
        refine m_Rb.n0 b_97 (x_ict d_97_37 rfl hc38) ?_
        exact m_Rb.pick [0, 2] rfl (T_c_Store_balance_76 F hx0 h hF j39)
      | false =>
        have j39 := cF hc38 j37
        refine m_Rb.n0 b_97 (x_icf d_97_37 rfl hc38) ?_
        refine m_Rb.n0 b_97 (x_aload_n d_97_40 rfl) ?_
        obtain ⟨v40, e41, j42⟩ := bS j39
        refine m_Rb.tgetR b_97 d_97_41 rfl h e41 (fun o43 => ?_)
        refine m_Rb.n0 b_97 (x_iconst (z := 0) d_97_44 (by decide)) ?_
        obtain ⟨a44, e45, j46⟩ := bS j42
        subst e45
        obtain ⟨b47, T48, e49, j50⟩ := bS2 j46
        refine m_Rb.tlrem b_97 d_97_45 rfl (by simp only [m_okf, List.all_cons, List.all_nil, Bool.and_true, Bool.and_self, m_okv_i, m_okv_l, m_okv_0, m_okv_n0, m_okv_t, RT.okn h hx0, RT.okv h hx0, RT.okn h o43, RT.okv h o43]) (Nat.le_of_ble_eq_true rfl) h hF e49 (fun w51 o51 h51 f51 k51 => ?_) (by decide) (by decide)
        obtain ⟨_, e52, j53⟩ := bS j50
        refine m_Rb.tcast (z := (some b47)) b_97 d_97_48 rfl h51 e52 ?_
        refine m_Rb.n0 b_97 (x_astore_n d_97_51 rfl (show m_put1 _ _ _ = [(3, _), (0, _), (1, _), (2, _)] from rfl)) ?_
        refine m_Rb.n0 b_97 (x_iload_n d_97_52 rfl) ?_
        refine m_Rb.n0 b_97 (x_aload_n d_97_53 rfl) ?_
        obtain ⟨_, e54, j55⟩ := bS j53
        obtain ⟨_, g56⟩ := RT.cls h51 e54
        obtain ⟨v57, e58, j59⟩ := bS j55
        refine m_Rb.callI b_97 (y_cv d_97_54 rfl q_99 (m_isRecv_of rfl g56) (show m_takeI _ _ = some (_, [_], [_]) from m_takeI_of rfl rfl rfl (Nat.le_of_ble_eq_true rfl)) (by simp only [m_okf, List.all_cons, List.all_nil, Bool.and_true, Bool.and_self, m_okv_i, m_okv_l, m_okv_0, m_okv_n0, m_okv_t, RT.okn h51 o51, RT.okv h51 o51, RT.okn h51 (okm hx0 k51), RT.okv h51 (okm hx0 k51)]) rfl) (T_c_Entry_size o51 h51 e58) f51 rfl (fun w60 h60 f60 k60 => ?_) (by decide) (by decide)
        refine m_Rb.n0 b_97 (x_isub d_97_57 rfl) ?_
        refine m_Rb.n0 b_97 (x_istore_n d_97_58 rfl (show m_put1 _ _ _ = [(1, _), (3, _), (0, _), (2, _)] from rfl)) ?_
        refine m_Rb.n0 b_97 (x_aload_n d_97_59 rfl) ?_
        refine m_Rb.n0 b_97 (x_iconst (z := 0) d_97_60 (by decide)) ?_
        obtain ⟨T61, e62, j63⟩ := bS j59
        refine m_Rb.tputZ b_97 d_97_61 rfl rfl (by decide) h60 f60 e62 (fun w64 h64 f64 k64 => ?_)
        refine m_Rb.n0 b_97 (x_aload_n d_97_64 rfl) ?_
        obtain ⟨v65, e66, j67⟩ := bS j63
        refine m_Rb.tgetR b_97 d_97_65 rfl h64 e66 (fun o68 => ?_)
        refine m_Rb.n0 b_97 (x_aload_n d_97_68 rfl) ?_
        obtain ⟨a69, e70, j71⟩ := bS j67
        subst e70
        obtain ⟨T72, e73, j74⟩ := bS j71
        refine m_Rb.tladd b_97 d_97_69 rfl (by simp only [m_okf, List.all_cons, List.all_nil, Bool.and_true, Bool.and_self, m_okv_i, m_okv_l, m_okv_0, m_okv_n0, m_okv_t, RT.okn h64 (okm o51 k64), RT.okv h64 (okm o51 k64), RT.okn h64 (okm (okm hx0 k51) k64), RT.okv h64 (okm (okm hx0 k51) k64), RT.okn h64 o68, RT.okv h64 o68]) (Nat.le_of_ble_eq_true rfl) h64 f64 e73 (fun w75 h75 f75 k75 => ?_) (by decide) (by decide)
        refine m_Rb.n0 b_97 (x_pop d_97_72 rfl) ?_
        refine m_Rb.n0 b_97 (x_goto d_97_73 rfl) ?_
        exact m_Rb.pick [2, 0, 3] rfl (ih (okm (okm (okm hx0 k51) k64) k75) h75 f75 j74)
def D_c_Store_balance (F : Nat) (a0 : Nat) (T : tT) : Option (tT) := (tgr T a0 5 1).bind fun v1 => (tcl T a0 5).bind fun _ => (D_c_Store_sizeOf F a0 v1 T).bind fun v8 => (tgr T a0 5 0).bind fun v12 => (tcl T a0 5).bind fun _ => (D_c_Store_sizeOf F a0 v12 T).bind fun v19 => D_c_Store_balance_20 F F a0 v8 (v8 + v19) T
theorem T_c_Store_balance {l : Launch} {w : List mM} {F : Nat} {a0 : Nat} {T : tT} {Tz : tT} (ha0 : okr T.2.1 (some a0)) (h : RT T w) (h0 : D_c_Store_balance F a0 T = some Tz) : m_Rb l M_97 (m_ent M_97 [.ref a0] w) (fun v w' => v = none ∧ RT Tz w' ∧ m_Fm w w') T Tz 13 1300 := by
  rw [show m_ent M_97 [.ref a0] w = (0, [(0, .ref a0)], [], w) from by first | rfl | (simp only [m_ent, lv_args_r, lv_args_a, lv_args_i, lv_args_l, lv_args_0]; done) | (simp only [m_ent, lv_args_r, lv_args_a, lv_args_i, lv_args_l, lv_args_0]; rfl)]
  generalize hw0 : w = w0 at h ⊢
  have hF : m_Fm w0 w0 := m_Fm.refl
  rw [D_c_Store_balance] at h0
  refine m_Rb.n0 b_97 (x_aload_n d_97_0 rfl) ?_
  refine m_Rb.n0 b_97 (x_aload_n d_97_1 rfl) ?_
  obtain ⟨v1, e2, j3⟩ := bS h0
  refine m_Rb.tgetR b_97 d_97_2 rfl h e2 (fun o4 => ?_)
  obtain ⟨_, e5, j6⟩ := bS j3
  obtain ⟨_, g7⟩ := RT.cls h e5
  obtain ⟨v8, e9, j10⟩ := bS j6
  refine m_Rb.callI b_97 (y_cv d_97_5 rfl q_98 (m_isRecv_of rfl g7) (show m_takeI _ _ = some (_, [_, _], []) from m_takeI_of rfl rfl rfl (Nat.le_of_ble_eq_true rfl)) (by simp only [m_okf, List.all_cons, List.all_nil, Bool.and_true, Bool.and_self, m_okv_i, m_okv_l, m_okv_0, m_okv_n0, m_okv_t, RT.okn h ha0, RT.okv h ha0, RT.okv h o4]) (decide_eq_true (by simp only [lgs_r, lgs_a, lgs_i, lgs_l, lgs_0]; exact Nat.le_of_ble_eq_true rfl))) (T_c_Store_sizeOf ha0 o4 h e9) hF rfl (fun w11 h11 f11 k11 => ?_) (by decide) (by decide)
  refine m_Rb.n0 b_97 (x_istore_n d_97_8 rfl (show m_put1 _ _ _ = [(1, _), (0, _)] from rfl)) ?_
  refine m_Rb.n0 b_97 (x_iload_n d_97_9 rfl) ?_
  refine m_Rb.n0 b_97 (x_aload_n d_97_10 rfl) ?_
  refine m_Rb.n0 b_97 (x_aload_n d_97_11 rfl) ?_
  obtain ⟨v12, e13, j14⟩ := bS j10
  refine m_Rb.tgetR b_97 d_97_12 rfl h11 e13 (fun o15 => ?_)
  obtain ⟨_, e16, j17⟩ := bS j14
  obtain ⟨_, g18⟩ := RT.cls h11 e16
  obtain ⟨v19, e20, j21⟩ := bS j17
  refine m_Rb.callI b_97 (y_cv d_97_15 rfl q_98 (m_isRecv_of rfl g18) (show m_takeI _ _ = some (_, [_, _], [_]) from m_takeI_of rfl rfl rfl (Nat.le_of_ble_eq_true rfl)) (by simp only [m_okf, List.all_cons, List.all_nil, Bool.and_true, Bool.and_self, m_okv_i, m_okv_l, m_okv_0, m_okv_n0, m_okv_t, RT.okn h11 ha0, RT.okv h11 ha0, RT.okv h11 o15]) (decide_eq_true (by simp only [lgs_r, lgs_a, lgs_i, lgs_l, lgs_0]; exact Nat.le_of_ble_eq_true rfl))) (T_c_Store_sizeOf ha0 o15 h11 e20) f11 rfl (fun w22 h22 f22 k22 => ?_) (by decide) (by decide)
  refine m_Rb.n0 b_97 (x_iadd d_97_18 rfl) ?_
  refine m_Rb.n0 b_97 (x_istore_n d_97_19 rfl (show m_put1 _ _ _ = [(2, _), (1, _), (0, _)] from rfl)) ?_
  exact m_Rb.pick [2, 1, 0] rfl (T_c_Store_balance_20 F ha0 h22 f22 j21)
def D_c_Store_use (F : Nat) (a0 : Nat) (p0 : Option Nat) (T : tT) : Option (tT) := (tcl T a0 5).bind fun _ => (D_c_Store_remove F a0 p0 T).bind fun T4 => (p0).bind fun a8 => (tpz T4 a8 11 8 (1 : Int32)).bind fun T11 => (tgr T11 a0 5 1).bind fun v15 => (v15).bind fun a19 => (tla T11 a19 a8).bind fun T22 => (tcl T22 a0 5).bind fun _ => (D_c_Store_balance F a0 T22).bind fun T29 => some T29
theorem T_c_Store_use {l : Launch} {w : List mM} {F : Nat} {a0 : Nat} {p0 : Option Nat} {T : tT} {Tz : tT} (ha0 : okr T.2.1 (some a0)) (hp0 : okr T.2.1 p0) (h : RT T w) (h0 : D_c_Store_use F a0 p0 T = some Tz) : m_Rb l M_92 (m_ent M_92 [.ref a0, rv p0] w) (fun v w' => v = none ∧ RT Tz w' ∧ m_Fm w w') T Tz 14 1400 := by
  rw [show m_ent M_92 [.ref a0, rv p0] w = (0, [(0, .ref a0), (1, rv p0)], [], w) from by first | rfl | (simp only [m_ent, lv_args_r, lv_args_a, lv_args_i, lv_args_l, lv_args_0]; done) | (simp only [m_ent, lv_args_r, lv_args_a, lv_args_i, lv_args_l, lv_args_0]; rfl)]
  generalize hw0 : w = w0 at h ⊢
  have hF : m_Fm w0 w0 := m_Fm.refl
  rw [D_c_Store_use] at h0
  refine m_Rb.n0 b_92 (x_aload_n d_92_0 rfl) ?_
  refine m_Rb.n0 b_92 (x_aloadr_n (x := p0) d_92_1 rfl) ?_
  obtain ⟨_, e1, j2⟩ := bS h0
  obtain ⟨_, g3⟩ := RT.cls h e1
  obtain ⟨T4, e5, j6⟩ := bS j2
  refine m_Rb.callV b_92 (y_cv d_92_2 rfl q_93 (m_isRecv_of rfl g3) (show m_takeI _ _ = some (_, [_, _], []) from m_takeI_of rfl rfl rfl (Nat.le_of_ble_eq_true rfl)) (by simp only [m_okf, List.all_cons, List.all_nil, Bool.and_true, Bool.and_self, m_okv_i, m_okv_l, m_okv_0, m_okv_n0, m_okv_t, RT.okn h ha0, RT.okv h ha0, RT.okv h hp0]) (decide_eq_true (by simp only [lgs_r, lgs_a, lgs_i, lgs_l, lgs_0]; exact Nat.le_of_ble_eq_true rfl))) (T_c_Store_remove ha0 hp0 h e5) hF rfl (fun w7 h7 f7 k7 => ?_) (by decide) (by decide)
  refine m_Rb.n0 b_92 (x_aloadr_n (x := p0) d_92_5 rfl) ?_
  refine m_Rb.n0 b_92 (x_iconst (z := 1) d_92_6 (by decide)) ?_
  obtain ⟨a8, e9, j10⟩ := bS j6
  subst e9
  obtain ⟨T11, e12, j13⟩ := bS j10
  refine m_Rb.tputZ b_92 d_92_7 rfl rfl (by decide) h7 f7 e12 (fun w14 h14 f14 k14 => ?_)
  refine m_Rb.n0 b_92 (x_aload_n d_92_10 rfl) ?_
  obtain ⟨v15, e16, j17⟩ := bS j13
  refine m_Rb.tgetR b_92 d_92_11 rfl h14 e16 (fun o18 => ?_)
  refine m_Rb.n0 b_92 (x_aload_n d_92_14 rfl) ?_
  obtain ⟨a19, e20, j21⟩ := bS j17
  subst e20
  obtain ⟨T22, e23, j24⟩ := bS j21
  refine m_Rb.tladd b_92 d_92_15 rfl (by simp only [m_okf, List.all_cons, List.all_nil, Bool.and_true, Bool.and_self, m_okv_i, m_okv_l, m_okv_0, m_okv_n0, m_okv_t, RT.okn h14 (okm (okm ha0 k7) k14), RT.okv h14 (okm (okm ha0 k7) k14), RT.okn h14 (okm (okm hp0 k7) k14), RT.okv h14 (okm (okm hp0 k7) k14), RT.okn h14 o18, RT.okv h14 o18]) (Nat.le_of_ble_eq_true rfl) h14 f14 e23 (fun w25 h25 f25 k25 => ?_) (by decide) (by decide)
  refine m_Rb.n0 b_92 (x_pop d_92_18 rfl) ?_
  refine m_Rb.n0 b_92 (x_aload_n d_92_19 rfl) ?_
  obtain ⟨_, e26, j27⟩ := bS j24
  obtain ⟨_, g28⟩ := RT.cls h25 e26
  obtain ⟨T29, e30, j31⟩ := bS j27
  refine m_Rb.callV b_92 (y_cv d_92_20 rfl q_97 (m_isRecv_of rfl g28) (show m_takeI _ _ = some (_, [_], []) from m_takeI_of rfl rfl rfl (Nat.le_of_ble_eq_true rfl)) (by simp only [m_okf, List.all_cons, List.all_nil, Bool.and_true, Bool.and_self, m_okv_i, m_okv_l, m_okv_0, m_okv_n0, m_okv_t, RT.okn h25 (okm (okm (okm ha0 k7) k14) k25), RT.okv h25 (okm (okm (okm ha0 k7) k14) k25), RT.okn h25 (okm (okm (okm hp0 k7) k14) k25), RT.okv h25 (okm (okm (okm hp0 k7) k14) k25)]) rfl) (T_c_Store_balance (okm (okm (okm ha0 k7) k14) k25) h25 e30) f25 rfl (fun w32 h32 f32 k32 => ?_) (by decide) (by decide)
  cases j31
  exact m_Rb.ret b_92 (m_rt_vr d_92_23 rfl) ⟨rfl, h32, f32⟩
def D_c_Message_init (F : Nat) (a0 : Nat) (p0 : Int32) (p1 : Int32) (p2 : Int32) (p3 : Int32) (T : tT) : Option (tT) := (tpi T a0 9 0 p0).bind fun T1 => (tpi T1 a0 9 1 p1).bind fun T5 => (tpi T5 a0 9 2 p2).bind fun T9 => (tpi T9 a0 9 3 p3).bind fun T13 => some T13
theorem T_c_Message_init {l : Launch} {w : List mM} {F : Nat} {a0 : Nat} {p0 : Int32} {p1 : Int32} {p2 : Int32} {p3 : Int32} {T : tT} {Tz : tT} (ha0 : okr T.2.1 (some a0)) (h : RT T w) (h0 : D_c_Message_init F a0 p0 p1 p2 p3 T = some Tz) : m_Rb l M_104 (m_ent M_104 [.ref a0, .int p0, .int p1, .int p2, .int p3] w) (fun v w' => v = none ∧ RT Tz w' ∧ m_Fm w w') T Tz 1 100 := by
  rw [show m_ent M_104 [.ref a0, .int p0, .int p1, .int p2, .int p3] w = (0, [(0, .ref a0), (1, .int p0), (2, .int p1), (3, .int p2), (4, .int p3)], [], w) from by first | rfl | (simp only [m_ent, lv_args_r, lv_args_a, lv_args_i, lv_args_l, lv_args_0]; done) | (simp only [m_ent, lv_args_r, lv_args_a, lv_args_i, lv_args_l, lv_args_0]; rfl)]
  generalize hw0 : w = w0 at h ⊢
  have hF : m_Fm w0 w0 := m_Fm.refl
  rw [D_c_Message_init] at h0
  refine m_Rb.n0 b_104 (x_aload_n d_104_0 rfl) ?_
  refine m_Rb.toinit b_104 d_104_1 rfl (Nat.le_of_ble_eq_true rfl) ?_ (by decide) (by decide)
  refine m_Rb.n0 b_104 (x_aload_n d_104_4 rfl) ?_
  refine m_Rb.n0 b_104 (x_iload_n d_104_5 rfl) ?_
  obtain ⟨T1, e2, j3⟩ := bS h0
  refine m_Rb.tputI b_104 d_104_6 rfl rfl (by decide) h hF e2 (fun w4 h4 f4 k4 => ?_)
  refine m_Rb.n0 b_104 (x_aload_n d_104_9 rfl) ?_
  refine m_Rb.n0 b_104 (x_iload_n d_104_10 rfl) ?_
  obtain ⟨T5, e6, j7⟩ := bS j3
  refine m_Rb.tputI b_104 d_104_11 rfl rfl (by decide) h4 f4 e6 (fun w8 h8 f8 k8 => ?_)
  refine m_Rb.n0 b_104 (x_aload_n d_104_14 rfl) ?_
  refine m_Rb.n0 b_104 (x_iload_n d_104_15 rfl) ?_
  obtain ⟨T9, e10, j11⟩ := bS j7
  refine m_Rb.tputI b_104 d_104_16 rfl rfl (by decide) h8 f8 e10 (fun w12 h12 f12 k12 => ?_)
  refine m_Rb.n0 b_104 (x_aload_n d_104_19 rfl) ?_
  refine m_Rb.n0 b_104 (x_iload d_104_20 rfl) ?_
  obtain ⟨T13, e14, j15⟩ := bS j11
  refine m_Rb.tputI b_104 d_104_22 rfl rfl (by decide) h12 f12 e14 (fun w16 h16 f16 k16 => ?_)
  cases j15
  exact m_Rb.ret b_104 (m_rt_vr d_104_25 rfl) ⟨rfl, h16, f16⟩
def D_c_EdgeHouse_send (F : Nat) (a0 : Nat) (p0 : Option Nat) (T : tT) : Option (tT) := (tgr T a0 0 7).bind fun v1 => (v1).bind fun a5 => (tls T a5).bind fun v8 => cond (m_c2 .lt v8 (100 : Int32)) ((tgi T a0 0 14).bind fun v13 => (p0).bind fun a16 => (tpi T a16 9 18 v13).bind fun T19 => (tgr T19 a0 0 7).bind fun v23 => (v23).bind fun a27 => (tla T19 a27 a16).bind fun T30 => some T30) ((tgi T a0 0 11).bind fun v34 => (tpi T a0 0 11 (v34 + (1 : Int32))).bind fun T37 => some T37)
theorem T_c_EdgeHouse_send {l : Launch} {w : List mM} {F : Nat} {a0 : Nat} {p0 : Option Nat} {T : tT} {Tz : tT} (ha0 : okr T.2.1 (some a0)) (hp0 : okr T.2.1 p0) (h : RT T w) (h0 : D_c_EdgeHouse_send F a0 p0 T = some Tz) : m_Rb l M_105 (m_ent M_105 [.ref a0, rv p0] w) (fun v w' => v = none ∧ RT Tz w' ∧ m_Fm w w') T Tz 13 1300 := by
  rw [show m_ent M_105 [.ref a0, rv p0] w = (0, [(0, .ref a0), (1, rv p0)], [], w) from by first | rfl | (simp only [m_ent, lv_args_r, lv_args_a, lv_args_i, lv_args_l, lv_args_0]; done) | (simp only [m_ent, lv_args_r, lv_args_a, lv_args_i, lv_args_l, lv_args_0]; rfl)]
  generalize hw0 : w = w0 at h ⊢
  have hF : m_Fm w0 w0 := m_Fm.refl
  rw [D_c_EdgeHouse_send] at h0
  refine m_Rb.n0 b_105 (x_aload_n d_105_0 rfl) ?_
  obtain ⟨v1, e2, j3⟩ := bS h0
  refine m_Rb.tgetR b_105 d_105_1 rfl h e2 (fun o4 => ?_)
  obtain ⟨a5, e6, j7⟩ := bS j3
  subst e6
  obtain ⟨v8, e9, j10⟩ := bS j7
  refine m_Rb.tlsize b_105 d_105_4 rfl (by simp only [m_okf, List.all_cons, List.all_nil, Bool.and_true, Bool.and_self, m_okv_i, m_okv_l, m_okv_0, m_okv_n0, m_okv_t, RT.okn h ha0, RT.okv h ha0, RT.okv h hp0, RT.okn h o4, RT.okv h o4]) (Nat.le_of_ble_eq_true rfl) h e9 ?_ (by decide) (by decide)
  refine m_Rb.n0 b_105 (x_bipush (z := 100) d_105_7 (by decide)) ?_
  cases hc11 : m_c2 .lt v8 (100 : Int32) with
  | true =>
    have j12 := cT hc11 j10
    refine m_Rb.n0 b_105 (x_ict d_105_9 rfl hc11) ?_
    refine m_Rb.n0 b_105 (x_aloadr_n (x := p0) d_105_23 rfl) ?_
    refine m_Rb.n0 b_105 (x_aload_n d_105_24 rfl) ?_
    obtain ⟨v13, e14, j15⟩ := bS j12
    refine m_Rb.tgetI b_105 d_105_25 rfl h e14 ?_
    obtain ⟨a16, e17, j18⟩ := bS j15
    subst e17
    obtain ⟨T19, e20, j21⟩ := bS j18
    refine m_Rb.tputI b_105 d_105_28 rfl rfl (by decide) h hF e20 (fun w22 h22 f22 k22 => ?_)
    refine m_Rb.n0 b_105 (x_aload_n d_105_31 rfl) ?_
    obtain ⟨v23, e24, j25⟩ := bS j21
    refine m_Rb.tgetR b_105 d_105_32 rfl h22 e24 (fun o26 => ?_)
    refine m_Rb.n0 b_105 (x_aload_n d_105_35 rfl) ?_
    obtain ⟨a27, e28, j29⟩ := bS j25
    subst e28
    obtain ⟨T30, e31, j32⟩ := bS j29
    refine m_Rb.tladd b_105 d_105_36 rfl (by simp only [m_okf, List.all_cons, List.all_nil, Bool.and_true, Bool.and_self, m_okv_i, m_okv_l, m_okv_0, m_okv_n0, m_okv_t, RT.okn h22 (okm ha0 k22), RT.okv h22 (okm ha0 k22), RT.okn h22 (okm hp0 k22), RT.okv h22 (okm hp0 k22), RT.okn h22 o26, RT.okv h22 o26]) (Nat.le_of_ble_eq_true rfl) h22 f22 e31 (fun w33 h33 f33 k33 => ?_) (by decide) (by decide)
    refine m_Rb.n0 b_105 (x_pop d_105_39 rfl) ?_
    cases j32
    exact m_Rb.ret b_105 (m_rt_vr d_105_40 rfl) ⟨rfl, h33, f33⟩
  | false =>
    have j12 := cF hc11 j10
    refine m_Rb.n0 b_105 (x_icf d_105_9 rfl hc11) ?_
    refine m_Rb.n0 b_105 (x_aload_n d_105_12 rfl) ?_
    refine m_Rb.n0 b_105 (x_dup d_105_13 rfl) ?_
    obtain ⟨v34, e35, j36⟩ := bS j12
    refine m_Rb.tgetI b_105 d_105_14 rfl h e35 ?_
    refine m_Rb.n0 b_105 (x_iconst (z := 1) d_105_17 (by decide)) ?_
    refine m_Rb.n0 b_105 (x_iadd d_105_18 rfl) ?_
    obtain ⟨T37, e38, j39⟩ := bS j36
    refine m_Rb.tputI b_105 d_105_19 rfl rfl (by decide) h hF e38 (fun w40 h40 f40 k40 => ?_)
    cases j39
    exact m_Rb.ret b_105 (m_rt_vr d_105_22 rfl) ⟨rfl, h40, f40⟩
def D_c_EdgeHouse_sendFill (F : Nat) (a0 : Nat) (p0 : Int32) (p1 : Option Nat) (p2 : Option Nat) (T : tT) : Option (tT) := (p1).bind fun a1 => (tgi T a1 6 17).bind fun v4 => (p2).bind fun a7 => (tgr T a7 11 2).bind fun v10 => (v10).bind fun a14 => (tgi T a14 13 1).bind fun v17 => (cond (m_c2 .ne v4 v17) (some (0 : Int32)) (some (1 : Int32))).bind fun v24 => bd2 (tnw T 9) fun a27 T28 => (tgi T28 a1 6 15).bind fun v32 => (tgi T28 a1 6 16).bind fun v35 => (D_c_Message_init F a27 (1 : Int32) p0 v32 v35 T28).bind fun T38 => (tgi T38 a1 6 0).bind fun v42 => (tpi T38 a27 9 4 v42).bind fun T45 => (tgi T45 a1 6 1).bind fun v49 => (tpi T45 a27 9 5 v49).bind fun T52 => (cond (m_c1 .eq v24) (some (200 : Int32)) (some (304 : Int32))).bind fun v60 => (tpi T52 a27 9 12 v60).bind fun T63 => (tgr T63 a7 11 2).bind fun v67 => (tpr T63 a27 9 15 v67).bind fun T71 => (tgi T71 a7 11 3).bind fun v75 => (tpi T71 a27 9 14 v75).bind fun T78 => (tgi T78 a7 11 4).bind fun v82 => (tpi T78 a27 9 13 v82).bind fun T85 => (tgi T85 a0 0 14).bind fun v89 => (tcl T85 a7 11).bind fun _ => (D_c_Entry_ageAt F a7 v89 T85).bind fun v95 => (tpi T85 a27 9 16 v95).bind fun T99 => (cond (m_c1 .eq v24) ((tgi T99 a7 11 7).bind fun v107 => (tgr T99 a7 11 2).bind fun v110 => (tgi T99 a1 6 4).bind fun v114 => (tgi T99 a1 6 5).bind fun v117 => (v110).bind fun a120 => (tcl T99 a120 13).bind fun _ => (D_c_Told_blocks F a120 v114 v117 T99).bind fun v126 => some (v107 &&& v126)) (some (0 : Int32))).bind fun v130 => (tpi T99 a27 9 17 v130).bind fun T133 => (tcl T133 a0 0).bind fun _ => (D_c_EdgeHouse_send F a0 (some a27) T133).bind fun T140 => some T140
theorem T_c_EdgeHouse_sendFill {l : Launch} {w : List mM} {F : Nat} {a0 : Nat} {p0 : Int32} {p1 : Option Nat} {p2 : Option Nat} {T : tT} {Tz : tT} (ha0 : okr T.2.1 (some a0)) (hp1 : okr T.2.1 p1) (hp2 : okr T.2.1 p2) (h : RT T w) (h0 : D_c_EdgeHouse_sendFill F a0 p0 p1 p2 T = some Tz) : m_Rb l M_103 (m_ent M_103 [.ref a0, .int p0, rv p1, rv p2] w) (fun v w' => v = none ∧ RT Tz w' ∧ m_Fm w w') T Tz 14 1400 := by
  rw [show m_ent M_103 [.ref a0, .int p0, rv p1, rv p2] w = (0, [(0, .ref a0), (1, .int p0), (2, rv p1), (3, rv p2)], [], w) from by first | rfl | (simp only [m_ent, lv_args_r, lv_args_a, lv_args_i, lv_args_l, lv_args_0]; done) | (simp only [m_ent, lv_args_r, lv_args_a, lv_args_i, lv_args_l, lv_args_0]; rfl)]
  generalize hw0 : w = w0 at h ⊢
  have hF : m_Fm w0 w0 := m_Fm.refl
  rw [D_c_EdgeHouse_sendFill] at h0
  refine m_Rb.n0 b_103 (x_aloadr_n (x := p1) d_103_0 rfl) ?_
  obtain ⟨a1, e2, j3⟩ := bS h0
  subst e2
  obtain ⟨v4, e5, j6⟩ := bS j3
  refine m_Rb.tgetI b_103 d_103_1 rfl h e5 ?_
  refine m_Rb.n0 b_103 (x_aloadr_n (x := p2) d_103_4 rfl) ?_
  obtain ⟨a7, e8, j9⟩ := bS j6
  subst e8
  obtain ⟨v10, e11, j12⟩ := bS j9
  refine m_Rb.tgetR b_103 d_103_5 rfl h e11 (fun o13 => ?_)
  obtain ⟨a14, e15, j16⟩ := bS j12
  subst e15
  obtain ⟨v17, e18, j19⟩ := bS j16
  refine m_Rb.tgetI b_103 d_103_8 rfl h e18 ?_
  obtain ⟨v24, e21, j25⟩ := bS j19
  have kk20 : ∀ (xz : Int32) (w1 : List mM), xz = v24 → RT T w1 → m_Fm w0 w1 → m_Rb l M_103 (19, [(0, .ref a0), (1, .int p0), (2, .ref a1), (3, .ref a7)], [.int xz], w1) (fun v w' => v = none ∧ RT Tz w' ∧ m_Fm w0 w') T Tz 14 1400 := by
    intro xz w26 ez h26 f26
    rw [ez]
    refine m_Rb.n0 b_103 (x_istore d_103_19 rfl (show m_put1 _ _ _ = [(4, _), (0, _), (1, _), (2, _), (3, _)] from rfl)) ?_
    obtain ⟨a27, T28, e29, j30⟩ := bS2 j25
    refine m_Rb.tnew b_103 d_103_21 rfl (by simp only [m_okf, List.all_cons, List.all_nil, Bool.and_true, Bool.and_self, m_okv_i, m_okv_l, m_okv_0, m_okv_n0, m_okv_t, RT.okn h26 ha0, RT.okv h26 ha0, RT.okn h26 hp1, RT.okv h26 hp1, RT.okn h26 hp2, RT.okv h26 hp2]) h26 f26 e29 (fun w31 o31 h31 f31 k31 => ?_)
    refine m_Rb.n0 b_103 (x_dup d_103_24 rfl) ?_
    refine m_Rb.n0 b_103 (x_iconst (z := 1) d_103_25 (by decide)) ?_
    refine m_Rb.n0 b_103 (x_iload_n d_103_26 rfl) ?_
    refine m_Rb.n0 b_103 (x_aload_n d_103_27 rfl) ?_
    obtain ⟨v32, e33, j34⟩ := bS j30
    refine m_Rb.tgetI b_103 d_103_28 rfl h31 e33 ?_
    refine m_Rb.n0 b_103 (x_aload_n d_103_31 rfl) ?_
    obtain ⟨v35, e36, j37⟩ := bS j34
    refine m_Rb.tgetI b_103 d_103_32 rfl h31 e36 ?_
    obtain ⟨T38, e39, j40⟩ := bS j37
    refine m_Rb.callV b_103 (x_ci d_103_35 rfl (by decide) q_104 (show m_takeI _ _ = some (_, [_, _, _, _, _], [_]) from m_takeI_of rfl rfl rfl (Nat.le_of_ble_eq_true rfl)) (by simp only [m_okf, List.all_cons, List.all_nil, Bool.and_true, Bool.and_self, m_okv_i, m_okv_l, m_okv_0, m_okv_n0, m_okv_t, RT.okn h31 (okm ha0 k31), RT.okv h31 (okm ha0 k31), RT.okn h31 (okm hp1 k31), RT.okv h31 (okm hp1 k31), RT.okn h31 (okm hp2 k31), RT.okv h31 (okm hp2 k31), RT.okn h31 o31, RT.okv h31 o31]) rfl) (T_c_Message_init o31 h31 e39) f31 rfl (fun w41 h41 f41 k41 => ?_) (by decide) (by decide)
    refine m_Rb.n0 b_103 (x_astore d_103_38 rfl (show m_put1 _ _ _ = [(5, _), (4, _), (0, _), (1, _), (2, _), (3, _)] from rfl)) ?_
    refine m_Rb.n0 b_103 (x_aload d_103_40 rfl) ?_
    refine m_Rb.n0 b_103 (x_aload_n d_103_42 rfl) ?_
    obtain ⟨v42, e43, j44⟩ := bS j40
    refine m_Rb.tgetI b_103 d_103_43 rfl h41 e43 ?_
    obtain ⟨T45, e46, j47⟩ := bS j44
    refine m_Rb.tputI b_103 d_103_46 rfl rfl (by decide) h41 f41 e46 (fun w48 h48 f48 k48 => ?_)
    refine m_Rb.n0 b_103 (x_aload d_103_49 rfl) ?_
    refine m_Rb.n0 b_103 (x_aload_n d_103_51 rfl) ?_
    obtain ⟨v49, e50, j51⟩ := bS j47
    refine m_Rb.tgetI b_103 d_103_52 rfl h48 e50 ?_
    obtain ⟨T52, e53, j54⟩ := bS j51
    refine m_Rb.tputI b_103 d_103_55 rfl rfl (by decide) h48 f48 e53 (fun w55 h55 f55 k55 => ?_)
    refine m_Rb.n0 b_103 (x_aload d_103_58 rfl) ?_
    refine m_Rb.n0 b_103 (x_iload d_103_60 rfl) ?_
    obtain ⟨v60, e57, j61⟩ := bS j54
    have kk56 : ∀ (xz : Int32) (w1 : List mM), xz = v60 → RT T52 w1 → m_Fm w0 w1 → m_Rb l M_103 (74, [(5, .ref a27), (4, .int v24), (0, .ref a0), (1, .int p0), (2, .ref a1), (3, .ref a7)], [.int xz, .ref a27], w1) (fun v w' => v = none ∧ RT Tz w' ∧ m_Fm w0 w') T52 Tz 14 1400 := by
      intro xz w62 ez h62 f62
      rw [ez]
      obtain ⟨T63, e64, j65⟩ := bS j61
      refine m_Rb.tputI b_103 d_103_74 rfl rfl (by decide) h62 f62 e64 (fun w66 h66 f66 k66 => ?_)
      refine m_Rb.n0 b_103 (x_aload d_103_77 rfl) ?_
      refine m_Rb.n0 b_103 (x_aload_n d_103_79 rfl) ?_
      obtain ⟨v67, e68, j69⟩ := bS j65
      refine m_Rb.tgetR b_103 d_103_80 rfl h66 e68 (fun o70 => ?_)
      obtain ⟨T71, e72, j73⟩ := bS j69
      refine m_Rb.tputR (z := v67) b_103 d_103_83 rfl rfl (by decide) h66 f66 e72 o70 (fun w74 h74 f74 k74 => ?_)
      refine m_Rb.n0 b_103 (x_aload d_103_86 rfl) ?_
      refine m_Rb.n0 b_103 (x_aload_n d_103_88 rfl) ?_
      obtain ⟨v75, e76, j77⟩ := bS j73
      refine m_Rb.tgetI b_103 d_103_89 rfl h74 e76 ?_
      obtain ⟨T78, e79, j80⟩ := bS j77
      refine m_Rb.tputI b_103 d_103_92 rfl rfl (by decide) h74 f74 e79 (fun w81 h81 f81 k81 => ?_)
      refine m_Rb.n0 b_103 (x_aload d_103_95 rfl) ?_
      refine m_Rb.n0 b_103 (x_aload_n d_103_97 rfl) ?_
      obtain ⟨v82, e83, j84⟩ := bS j80
      refine m_Rb.tgetI b_103 d_103_98 rfl h81 e83 ?_
      obtain ⟨T85, e86, j87⟩ := bS j84
      refine m_Rb.tputI b_103 d_103_101 rfl rfl (by decide) h81 f81 e86 (fun w88 h88 f88 k88 => ?_)
      refine m_Rb.n0 b_103 (x_aload d_103_104 rfl) ?_
      refine m_Rb.n0 b_103 (x_aload_n d_103_106 rfl) ?_
      refine m_Rb.n0 b_103 (x_aload_n d_103_107 rfl) ?_
      obtain ⟨v89, e90, j91⟩ := bS j87
      refine m_Rb.tgetI b_103 d_103_108 rfl h88 e90 ?_
      obtain ⟨_, e92, j93⟩ := bS j91
      obtain ⟨_, g94⟩ := RT.cls h88 e92
      obtain ⟨v95, e96, j97⟩ := bS j93
      refine m_Rb.callI b_103 (y_cv d_103_111 rfl q_83 (m_isRecv_of rfl g94) (show m_takeI _ _ = some (_, [_, _], [_]) from m_takeI_of rfl rfl rfl (Nat.le_of_ble_eq_true rfl)) (by simp only [m_okf, List.all_cons, List.all_nil, Bool.and_true, Bool.and_self, m_okv_i, m_okv_l, m_okv_0, m_okv_n0, m_okv_t, RT.okn h88 (okm (okm (okm (okm (okm (okm (okm o31 k41) k48) k55) k66) k74) k81) k88), RT.okv h88 (okm (okm (okm (okm (okm (okm (okm o31 k41) k48) k55) k66) k74) k81) k88), RT.okn h88 (okm (okm (okm (okm (okm (okm (okm (okm ha0 k31) k41) k48) k55) k66) k74) k81) k88), RT.okv h88 (okm (okm (okm (okm (okm (okm (okm (okm ha0 k31) k41) k48) k55) k66) k74) k81) k88), RT.okn h88 (okm (okm (okm (okm (okm (okm (okm (okm hp1 k31) k41) k48) k55) k66) k74) k81) k88), RT.okv h88 (okm (okm (okm (okm (okm (okm (okm (okm hp1 k31) k41) k48) k55) k66) k74) k81) k88), RT.okn h88 (okm (okm (okm (okm (okm (okm (okm (okm hp2 k31) k41) k48) k55) k66) k74) k81) k88), RT.okv h88 (okm (okm (okm (okm (okm (okm (okm (okm hp2 k31) k41) k48) k55) k66) k74) k81) k88)]) rfl) (T_c_Entry_ageAt (okm (okm (okm (okm (okm (okm (okm (okm hp2 k31) k41) k48) k55) k66) k74) k81) k88) h88 e96) f88 rfl (fun w98 h98 f98 k98 => ?_) (by decide) (by decide)
      obtain ⟨T99, e100, j101⟩ := bS j97
      refine m_Rb.tputI b_103 d_103_114 rfl rfl (by decide) h98 f98 e100 (fun w102 h102 f102 k102 => ?_)
      refine m_Rb.n0 b_103 (x_aload d_103_117 rfl) ?_
      refine m_Rb.n0 b_103 (x_iload d_103_119 rfl) ?_
      obtain ⟨v130, e104, j131⟩ := bS j101
      have kk103 : ∀ (xz : Int32) (w1 : List mM), xz = v130 → RT T99 w1 → m_Fm w0 w1 → m_Rb l M_103 (148, [(5, .ref a27), (4, .int v24), (0, .ref a0), (1, .int p0), (2, .ref a1), (3, .ref a7)], [.int xz, .ref a27], w1) (fun v w' => v = none ∧ RT Tz w' ∧ m_Fm w0 w') T99 Tz 14 1400 := by
        intro xz w132 ez h132 f132
        rw [ez]
        obtain ⟨T133, e134, j135⟩ := bS j131
        refine m_Rb.tputI b_103 d_103_148 rfl rfl (by decide) h132 f132 e134 (fun w136 h136 f136 k136 => ?_)
        refine m_Rb.n0 b_103 (x_aload_n d_103_151 rfl) ?_
        refine m_Rb.n0 b_103 (x_aload d_103_152 rfl) ?_
        obtain ⟨_, e137, j138⟩ := bS j135
        obtain ⟨_, g139⟩ := RT.cls h136 e137
        obtain ⟨T140, e141, j142⟩ := bS j138
        refine m_Rb.callV b_103 (y_cv d_103_154 rfl q_105 (m_isRecv_of rfl g139) (show m_takeI _ _ = some (_, [_, _], []) from m_takeI_of rfl rfl rfl (Nat.le_of_ble_eq_true rfl)) (by simp only [m_okf, List.all_cons, List.all_nil, Bool.and_true, Bool.and_self, m_okv_i, m_okv_l, m_okv_0, m_okv_n0, m_okv_t, RT.okn h136 (okm (okm (okm (okm (okm (okm (okm (okm (okm o31 k41) k48) k55) k66) k74) k81) k88) k102) k136), RT.okv h136 (okm (okm (okm (okm (okm (okm (okm (okm (okm o31 k41) k48) k55) k66) k74) k81) k88) k102) k136), RT.okn h136 (okm (okm (okm (okm (okm (okm (okm (okm (okm (okm ha0 k31) k41) k48) k55) k66) k74) k81) k88) k102) k136), RT.okv h136 (okm (okm (okm (okm (okm (okm (okm (okm (okm (okm ha0 k31) k41) k48) k55) k66) k74) k81) k88) k102) k136), RT.okn h136 (okm (okm (okm (okm (okm (okm (okm (okm (okm (okm hp1 k31) k41) k48) k55) k66) k74) k81) k88) k102) k136), RT.okv h136 (okm (okm (okm (okm (okm (okm (okm (okm (okm (okm hp1 k31) k41) k48) k55) k66) k74) k81) k88) k102) k136), RT.okn h136 (okm (okm (okm (okm (okm (okm (okm (okm (okm (okm hp2 k31) k41) k48) k55) k66) k74) k81) k88) k102) k136), RT.okv h136 (okm (okm (okm (okm (okm (okm (okm (okm (okm (okm hp2 k31) k41) k48) k55) k66) k74) k81) k88) k102) k136)]) rfl) (T_c_EdgeHouse_send (okm (okm (okm (okm (okm (okm (okm (okm (okm (okm ha0 k31) k41) k48) k55) k66) k74) k81) k88) k102) k136) (okm (okm (okm (okm (okm (okm (okm (okm (okm o31 k41) k48) k55) k66) k74) k81) k88) k102) k136) h136 e141) f136 rfl (fun w143 h143 f143 k143 => ?_) (by decide) (by decide)
        cases j142
        exact m_Rb.ret b_103 (m_rt_vr d_103_157 rfl) ⟨rfl, h143, f143⟩
      cases hc105 : m_c1 .eq v24 with
      | true =>
        have j106 := cT hc105 e104
        refine m_Rb.n0 b_103 (x_ift d_103_121 rfl hc105) ?_
        refine m_Rb.n0 b_103 (x_aload_n d_103_128 rfl) ?_
        obtain ⟨v107, e108, j109⟩ := bS j106
        refine m_Rb.tgetI b_103 d_103_129 rfl h102 e108 ?_
        refine m_Rb.n0 b_103 (x_aload_n d_103_132 rfl) ?_
        obtain ⟨v110, e111, j112⟩ := bS j109
        refine m_Rb.tgetR b_103 d_103_133 rfl h102 e111 (fun o113 => ?_)
        refine m_Rb.n0 b_103 (x_aload_n d_103_136 rfl) ?_
        obtain ⟨v114, e115, j116⟩ := bS j112
        refine m_Rb.tgetI b_103 d_103_137 rfl h102 e115 ?_
        refine m_Rb.n0 b_103 (x_aload_n d_103_140 rfl) ?_
        obtain ⟨v117, e118, j119⟩ := bS j116
        refine m_Rb.tgetI b_103 d_103_141 rfl h102 e118 ?_
        obtain ⟨a120, e121, j122⟩ := bS j119
        subst e121
        obtain ⟨_, e123, j124⟩ := bS j122
        obtain ⟨_, g125⟩ := RT.cls h102 e123
        obtain ⟨v126, e127, j128⟩ := bS j124
        refine m_Rb.callI b_103 (y_cv d_103_144 rfl q_85 (m_isRecv_of rfl g125) (show m_takeI _ _ = some (_, [_, _, _], [_, _]) from m_takeI_of rfl rfl rfl (Nat.le_of_ble_eq_true rfl)) (by simp only [m_okf, List.all_cons, List.all_nil, Bool.and_true, Bool.and_self, m_okv_i, m_okv_l, m_okv_0, m_okv_n0, m_okv_t, RT.okn h102 (okm (okm (okm (okm (okm (okm (okm (okm o31 k41) k48) k55) k66) k74) k81) k88) k102), RT.okv h102 (okm (okm (okm (okm (okm (okm (okm (okm o31 k41) k48) k55) k66) k74) k81) k88) k102), RT.okn h102 (okm (okm (okm (okm (okm (okm (okm (okm (okm ha0 k31) k41) k48) k55) k66) k74) k81) k88) k102), RT.okv h102 (okm (okm (okm (okm (okm (okm (okm (okm (okm ha0 k31) k41) k48) k55) k66) k74) k81) k88) k102), RT.okn h102 (okm (okm (okm (okm (okm (okm (okm (okm (okm hp1 k31) k41) k48) k55) k66) k74) k81) k88) k102), RT.okv h102 (okm (okm (okm (okm (okm (okm (okm (okm (okm hp1 k31) k41) k48) k55) k66) k74) k81) k88) k102), RT.okn h102 (okm (okm (okm (okm (okm (okm (okm (okm (okm hp2 k31) k41) k48) k55) k66) k74) k81) k88) k102), RT.okv h102 (okm (okm (okm (okm (okm (okm (okm (okm (okm hp2 k31) k41) k48) k55) k66) k74) k81) k88) k102), RT.okn h102 o113, RT.okv h102 o113]) rfl) (T_c_Told_blocks o113 h102 e127) f102 rfl (fun w129 h129 f129 k129 => ?_) (by decide) (by decide)
        refine m_Rb.n0 b_103 (x_iand d_103_147 rfl) ?_
        exact kk103 _ _ (Option.some.inj j128) h129 f129
      | false =>
        have j106 := cF hc105 e104
        refine m_Rb.n0 b_103 (x_iff d_103_121 rfl hc105) ?_
        refine m_Rb.n0 b_103 (x_iconst (z := 0) d_103_124 (by decide)) ?_
        refine m_Rb.n0 b_103 (x_goto d_103_125 rfl) ?_
        exact kk103 _ _ (Option.some.inj j106) h102 f102
    cases hc58 : m_c1 .eq v24 with
    | true =>
      have j59 := cT hc58 e57
      refine m_Rb.n0 b_103 (x_ift d_103_62 rfl hc58) ?_
      refine m_Rb.n0 b_103 (x_sipush (z := 200) d_103_71 (by decide)) ?_
      exact kk56 _ _ (Option.some.inj j59) h55 f55
    | false =>
      have j59 := cF hc58 e57
      refine m_Rb.n0 b_103 (x_iff d_103_62 rfl hc58) ?_
      refine m_Rb.n0 b_103 (x_sipush (z := 304) d_103_65 (by decide)) ?_
      refine m_Rb.n0 b_103 (x_goto d_103_68 rfl) ?_
      exact kk56 _ _ (Option.some.inj j59) h55 f55
  cases hc22 : m_c2 .ne v4 v17 with
  | true =>
    have j23 := cT hc22 e21
    refine m_Rb.n0 b_103 (x_ict d_103_11 rfl hc22) ?_
    refine m_Rb.n0 b_103 (x_iconst (z := 0) d_103_18 (by decide)) ?_
    exact kk20 _ _ (Option.some.inj j23) h hF
  | false =>
    have j23 := cF hc22 e21
    refine m_Rb.n0 b_103 (x_icf d_103_11 rfl hc22) ?_
    refine m_Rb.n0 b_103 (x_iconst (z := 1) d_103_14 (by decide)) ?_
    refine m_Rb.n0 b_103 (x_goto d_103_15 rfl) ?_
    exact kk20 _ _ (Option.some.inj j23) h hF
def D_c_Conditions_matches_2 (F : Nat) : Nat → Nat → Int32 → Int32 → tT → Option (Int32)
  | 0, _, _, _, _ => none
  | n + 1, x0, x1, x2, T0 => (tgi T0 x0 7 6).bind fun v1 => cond (m_c2 .ge x2 v1) ((tgi T0 x0 7 4).bind fun v6 => (bret v6).bind fun v9 => some v9) ((tgr T0 x0 7 5).bind fun v12 => (v12).bind fun a16 => (tai T0 a16 0 x2).bind fun v19 => cond (m_c2 .ne v19 x1) (D_c_Conditions_matches_2 F n x0 x1 (x2 + Int32.ofInt 1) T0) (some (1 : Int32)))
theorem T_c_Conditions_matches_2 {l : Launch} {w0 : List mM} {F : Nat} {T0 : tT} : ∀ (n : Nat) {x0 : Nat} {x1 : Int32} {x2 : Int32} {w : List mM} {yz : Int32}, okr T0.2.1 (some x0) → RT T0 w → m_Fm w0 w → D_c_Conditions_matches_2 F n x0 x1 x2 T0 = some yz → m_Rb l M_107 (2, [(0, .ref x0), (1, .int x1), (2, .int x2)], [], w) (fun v w' => v = some (.int yz) ∧ RT T0 w' ∧ m_Fm w0 w') T0 T0 0 0 := by
  intro n
  induction n with
  | zero => intro x0 x1 x2 w yz hx0 h hF h0; cases h0
  | succ n ih =>
    intro x0 x1 x2 w yz hx0 h hF h0
    rw [D_c_Conditions_matches_2] at h0
    refine m_Rb.n0 b_107 (x_iload_n d_107_2 rfl) ?_
    refine m_Rb.n0 b_107 (x_aload_n d_107_3 rfl) ?_
    obtain ⟨v1, e2, j3⟩ := bS h0
    refine m_Rb.tgetI b_107 d_107_4 rfl h e2 ?_
    cases hc4 : m_c2 .ge x2 v1 with
    | true =>
      have j5 := cT hc4 j3
      refine m_Rb.n0 b_107 (x_ict d_107_7 rfl hc4) ?_
      refine m_Rb.n0 b_107 (x_aload_n d_107_28 rfl) ?_
      obtain ⟨v6, e7, j8⟩ := bS j5
      refine m_Rb.tgetI b_107 d_107_29 rfl h e7 ?_
      obtain ⟨v9, e10, j11⟩ := bS j8
      cases j11
      exact m_Rb.retb b_107 d_107_32 rfl e10 ⟨rfl, h, hF⟩
    | false =>
      have j5 := cF hc4 j3
      refine m_Rb.n0 b_107 (x_icf d_107_7 rfl hc4) ?_
      refine m_Rb.n0 b_107 (x_aload_n d_107_10 rfl) ?_
      obtain ⟨v12, e13, j14⟩ := bS j5
      refine m_Rb.tgetR b_107 d_107_11 rfl h e13 (fun o15 => ?_)
      refine m_Rb.n0 b_107 (x_iload_n d_107_14 rfl) ?_
      obtain ⟨a16, e17, j18⟩ := bS j14
      subst e17
      obtain ⟨v19, e20, j21⟩ := bS j18
      refine m_Rb.tgetA b_107 d_107_15 h e20 ?_
      refine m_Rb.n0 b_107 (x_iload_n d_107_16 rfl) ?_
      cases hc22 : m_c2 .ne v19 x1 with
      | true =>
        have j23 := cT hc22 j21
        refine m_Rb.n0 b_107 (x_ict d_107_17 rfl hc22) ?_
        refine m_Rb.n0 b_107 (x_iinc d_107_22 rfl rfl rfl (show m_put1 _ _ _ = [(2, _), (0, _), (1, _)] from rfl)) ?_
        refine m_Rb.n0 b_107 (x_goto d_107_25 rfl) ?_
        exact m_Rb.pick [1, 2, 0] rfl (ih hx0 h hF j23)
      | false =>
        have j23 := cF hc22 j21
        refine m_Rb.n0 b_107 (x_icf d_107_17 rfl hc22) ?_
        refine m_Rb.n0 b_107 (x_iconst (z := 1) d_107_20 (by decide)) ?_
        cases j23
        exact m_Rb.ret b_107 (m_rt_ir d_107_21 rfl m_nb1) ⟨rfl, h, hF⟩
def D_c_Conditions_matches (F : Nat) (a0 : Nat) (p0 : Int32) (T0 : tT) : Option (Int32) := D_c_Conditions_matches_2 F F a0 p0 (0 : Int32) T0
theorem T_c_Conditions_matches {l : Launch} {w : List mM} {F : Nat} {a0 : Nat} {p0 : Int32} {T0 : tT} {yz : Int32} (ha0 : okr T0.2.1 (some a0)) (h : RT T0 w) (h0 : D_c_Conditions_matches F a0 p0 T0 = some yz) : m_Rb l M_107 (m_ent M_107 [.ref a0, .int p0] w) (fun v w' => v = some (.int yz) ∧ RT T0 w' ∧ m_Fm w w') T0 T0 0 0 := by
  rw [show m_ent M_107 [.ref a0, .int p0] w = (0, [(0, .ref a0), (1, .int p0)], [], w) from by first | rfl | (simp only [m_ent, lv_args_r, lv_args_a, lv_args_i, lv_args_l, lv_args_0]; done) | (simp only [m_ent, lv_args_r, lv_args_a, lv_args_i, lv_args_l, lv_args_0]; rfl)]
  generalize hw0 : w = w0 at h ⊢
  have hF : m_Fm w0 w0 := m_Fm.refl
  rw [D_c_Conditions_matches] at h0
  refine m_Rb.n0 b_107 (x_iconst (z := 0) d_107_0 (by decide)) ?_
  refine m_Rb.n0 b_107 (x_istore_n d_107_1 rfl (show m_put1 _ _ _ = [(2, _), (0, _), (1, _)] from rfl)) ?_
  exact m_Rb.pick [1, 2, 0] rfl (T_c_Conditions_matches_2 F ha0 h hF h0)
def D_c_Reply_fillFrom_170 (F : Nat) (x0 : Nat) (x4 : Int32) (x5 : Int32) (T : tT) : Option (tT) := (cond (m_c1 .eq x4) (some (200 : Int32)) (some (206 : Int32))).bind fun v204 => (tpi T x0 8 1 v204).bind fun T207 => (tpi T207 x0 8 10 x5).bind fun T211 => some T211
theorem T_c_Reply_fillFrom_170 {l : Launch} {w0 : List mM} {F : Nat} {x0 : Nat} {x4 : Int32} {x5 : Int32} {T : tT} {w : List mM} {Tz : tT} (hx0 : okr T.2.1 (some x0)) (h : RT T w) (hF : m_Fm w0 w) (h0 : D_c_Reply_fillFrom_170 F x0 x4 x5 T = some Tz) : m_Rb l M_106 (170, [(0, .ref x0), (4, .int x4), (5, .int x5)], [], w) (fun v w' => v = none ∧ RT Tz w' ∧ m_Fm w0 w') T Tz 2 200 := by
  rw [D_c_Reply_fillFrom_170] at h0
  refine m_Rb.n0 b_106 (x_aload_n d_106_170 rfl) ?_
  refine m_Rb.n0 b_106 (x_iload d_106_171 rfl) ?_
  obtain ⟨v204, e201, j205⟩ := bS h0
  have kk200 : ∀ (xz : Int32) (w1 : List mM), xz = v204 → RT T w1 → m_Fm w0 w1 → m_Rb l M_106 (185, [(0, .ref x0), (4, .int x4), (5, .int x5)], [.int xz, .ref x0], w1) (fun v w' => v = none ∧ RT Tz w' ∧ m_Fm w0 w') T Tz 2 200 := by
    intro xz w206 ez h206 f206
    rw [ez]
    obtain ⟨T207, e208, j209⟩ := bS j205
    refine m_Rb.tputI b_106 d_106_185 rfl rfl (by decide) h206 f206 e208 (fun w210 h210 f210 k210 => ?_)
    refine m_Rb.n0 b_106 (x_aload_n d_106_188 rfl) ?_
    refine m_Rb.n0 b_106 (x_iload d_106_189 rfl) ?_
    obtain ⟨T211, e212, j213⟩ := bS j209
    refine m_Rb.tputI b_106 d_106_191 rfl rfl (by decide) h210 f210 e212 (fun w214 h214 f214 k214 => ?_)
    cases j213
    exact m_Rb.ret b_106 (m_rt_vr d_106_194 rfl) ⟨rfl, h214, f214⟩
  cases hc202 : m_c1 .eq x4 with
  | true =>
    have j203 := cT hc202 e201
    refine m_Rb.n0 b_106 (x_ift d_106_173 rfl hc202) ?_
    refine m_Rb.n0 b_106 (x_sipush (z := 200) d_106_182 (by decide)) ?_
    exact kk200 _ _ (Option.some.inj j203) h hF
  | false =>
    have j203 := cF hc202 e201
    refine m_Rb.n0 b_106 (x_iff d_106_173 rfl hc202) ?_
    refine m_Rb.n0 b_106 (x_sipush (z := 206) d_106_176 (by decide)) ?_
    refine m_Rb.n0 b_106 (x_goto d_106_179 rfl) ?_
    exact kk200 _ _ (Option.some.inj j203) h hF
def D_c_Reply_fillFrom (F : Nat) (a0 : Nat) (p0 : Option Nat) (p1 : Option Nat) (T : tT) : Option (tT) := (p0).bind fun a1 => (tcl T a1 11).bind fun _ => (D_c_Entry_tag F a1 T).bind fun v7 => (p1).bind fun a11 => (tgi T a11 7 0).bind fun v14 => (tpz T a0 8 2 v14).bind fun T17 => (tgr T17 a1 11 2).bind fun v21 => (v21).bind fun a25 => (tgi T17 a25 13 1).bind fun v28 => (tpi T17 a0 8 3 v28).bind fun T31 => (tgi T31 a1 11 3).bind fun v35 => (tpi T31 a0 8 4 v35).bind fun T38 => (tgr T38 a1 11 2).bind fun v42 => (v42).bind fun a46 => (tgi T38 a46 13 9).bind fun v49 => (tpi T38 a0 8 5 v49).bind fun T52 => (tgr T52 a1 11 2).bind fun v56 => (v56).bind fun a60 => (tgi T52 a60 13 2).bind fun v63 => (tpi T52 a0 8 8 v63).bind fun T66 => (tgi T66 a1 11 0).bind fun v70 => (tgi T66 a1 11 1).bind fun v73 => (tgi T66 a0 8 4).bind fun v76 => (tgi T66 a0 8 3).bind fun v79 => (tpi T66 a0 8 11 (((((31 : Int32) * v70) + ((17 : Int32) * v73)) + ((5 : Int32) * v76)) + ((13 : Int32) * v79))).bind fun T82 => (tcl T82 a11 7).bind fun _ => (D_c_Conditions_rangeCounts F a11 v7 T82).bind fun v89 => (tgi T82 a0 8 8).bind fun v93 => (tcl T82 a11 7).bind fun _ => (D_c_Conditions_from F a11 v89 v93 T82).bind fun v99 => (tpi T82 a0 8 9 v99).bind fun T103 => (tgi T103 a0 8 8).bind fun v107 => (tcl T103 a11 7).bind fun _ => (D_c_Conditions_to F a11 v89 v107 T103).bind fun v113 => (tgi T103 a0 8 9).bind fun v117 => (tcl T103 a11 7).bind fun _ => (D_c_Conditions_matches F a11 v7 T103).bind fun v123 => cond (m_c1 .eq v123) (cond (m_c1 .eq v89) (D_c_Reply_fillFrom_170 F a0 v89 (if (0 : Int32) < ((v113 - v117) + (1 : Int32)) then ((v113 - v117) + (1 : Int32)) else (0 : Int32)) T103) (cond (m_c1 .ne (if (0 : Int32) < ((v113 - v117) + (1 : Int32)) then ((v113 - v117) + (1 : Int32)) else (0 : Int32))) (D_c_Reply_fillFrom_170 F a0 v89 (if (0 : Int32) < ((v113 - v117) + (1 : Int32)) then ((v113 - v117) + (1 : Int32)) else (0 : Int32)) T103) ((tpi T103 a0 8 1 (416 : Int32)).bind fun T192 => some T192))) ((tpi T103 a0 8 1 (304 : Int32)).bind fun T196 => some T196)
theorem T_c_Reply_fillFrom {l : Launch} {w : List mM} {F : Nat} {a0 : Nat} {p0 : Option Nat} {p1 : Option Nat} {T : tT} {Tz : tT} (ha0 : okr T.2.1 (some a0)) (hp0 : okr T.2.1 p0) (hp1 : okr T.2.1 p1) (h : RT T w) (h0 : D_c_Reply_fillFrom F a0 p0 p1 T = some Tz) : m_Rb l M_106 (m_ent M_106 [.ref a0, rv p0, rv p1] w) (fun v w' => v = none ∧ RT Tz w' ∧ m_Fm w w') T Tz 2 200 := by
  rw [show m_ent M_106 [.ref a0, rv p0, rv p1] w = (0, [(0, .ref a0), (1, rv p0), (2, rv p1)], [], w) from by first | rfl | (simp only [m_ent, lv_args_r, lv_args_a, lv_args_i, lv_args_l, lv_args_0]; done) | (simp only [m_ent, lv_args_r, lv_args_a, lv_args_i, lv_args_l, lv_args_0]; rfl)]
  generalize hw0 : w = w0 at h ⊢
  have hF : m_Fm w0 w0 := m_Fm.refl
  rw [D_c_Reply_fillFrom] at h0
  refine m_Rb.n0 b_106 (x_aloadr_n (x := p0) d_106_0 rfl) ?_
  obtain ⟨a1, e2, j3⟩ := bS h0
  subst e2
  obtain ⟨_, e4, j5⟩ := bS j3
  obtain ⟨_, g6⟩ := RT.cls h e4
  obtain ⟨v7, e8, j9⟩ := bS j5
  refine m_Rb.callI b_106 (y_cv d_106_1 rfl q_86 (m_isRecv_of rfl g6) (show m_takeI _ _ = some (_, [_], []) from m_takeI_of rfl rfl rfl (Nat.le_of_ble_eq_true rfl)) (by simp only [m_okf, List.all_cons, List.all_nil, Bool.and_true, Bool.and_self, m_okv_i, m_okv_l, m_okv_0, m_okv_n0, m_okv_t, RT.okn h ha0, RT.okv h ha0, RT.okn h hp0, RT.okv h hp0, RT.okv h hp1]) rfl) (T_c_Entry_tag hp0 h e8) hF rfl (fun w10 h10 f10 k10 => ?_) (by decide) (by decide)
  refine m_Rb.n0 b_106 (x_istore_n d_106_4 rfl (show m_put1 _ _ _ = [(3, _), (0, _), (1, _), (2, _)] from (m_p1r (by simp only [List.all_cons, List.all_nil, cat_rv]; rfl)).trans rfl)) ?_
  refine m_Rb.n0 b_106 (x_aload_n d_106_5 rfl) ?_
  refine m_Rb.n0 b_106 (x_aloadr_n (x := p1) d_106_6 rfl) ?_
  obtain ⟨a11, e12, j13⟩ := bS j9
  subst e12
  obtain ⟨v14, e15, j16⟩ := bS j13
  refine m_Rb.tgetI b_106 d_106_7 rfl h10 e15 ?_
  obtain ⟨T17, e18, j19⟩ := bS j16
  refine m_Rb.tputZ b_106 d_106_10 rfl rfl (by decide) h10 f10 e18 (fun w20 h20 f20 k20 => ?_)
  refine m_Rb.n0 b_106 (x_aload_n d_106_13 rfl) ?_
  refine m_Rb.n0 b_106 (x_aload_n d_106_14 rfl) ?_
  obtain ⟨v21, e22, j23⟩ := bS j19
  refine m_Rb.tgetR b_106 d_106_15 rfl h20 e22 (fun o24 => ?_)
  obtain ⟨a25, e26, j27⟩ := bS j23
  subst e26
  obtain ⟨v28, e29, j30⟩ := bS j27
  refine m_Rb.tgetI b_106 d_106_18 rfl h20 e29 ?_
  obtain ⟨T31, e32, j33⟩ := bS j30
  refine m_Rb.tputI b_106 d_106_21 rfl rfl (by decide) h20 f20 e32 (fun w34 h34 f34 k34 => ?_)
  refine m_Rb.n0 b_106 (x_aload_n d_106_24 rfl) ?_
  refine m_Rb.n0 b_106 (x_aload_n d_106_25 rfl) ?_
  obtain ⟨v35, e36, j37⟩ := bS j33
  refine m_Rb.tgetI b_106 d_106_26 rfl h34 e36 ?_
  obtain ⟨T38, e39, j40⟩ := bS j37
  refine m_Rb.tputI b_106 d_106_29 rfl rfl (by decide) h34 f34 e39 (fun w41 h41 f41 k41 => ?_)
  refine m_Rb.n0 b_106 (x_aload_n d_106_32 rfl) ?_
  refine m_Rb.n0 b_106 (x_aload_n d_106_33 rfl) ?_
  obtain ⟨v42, e43, j44⟩ := bS j40
  refine m_Rb.tgetR b_106 d_106_34 rfl h41 e43 (fun o45 => ?_)
  obtain ⟨a46, e47, j48⟩ := bS j44
  subst e47
  obtain ⟨v49, e50, j51⟩ := bS j48
  refine m_Rb.tgetI b_106 d_106_37 rfl h41 e50 ?_
  obtain ⟨T52, e53, j54⟩ := bS j51
  refine m_Rb.tputI b_106 d_106_40 rfl rfl (by decide) h41 f41 e53 (fun w55 h55 f55 k55 => ?_)
  refine m_Rb.n0 b_106 (x_aload_n d_106_43 rfl) ?_
  refine m_Rb.n0 b_106 (x_aload_n d_106_44 rfl) ?_
  obtain ⟨v56, e57, j58⟩ := bS j54
  refine m_Rb.tgetR b_106 d_106_45 rfl h55 e57 (fun o59 => ?_)
  obtain ⟨a60, e61, j62⟩ := bS j58
  subst e61
  obtain ⟨v63, e64, j65⟩ := bS j62
  refine m_Rb.tgetI b_106 d_106_48 rfl h55 e64 ?_
  obtain ⟨T66, e67, j68⟩ := bS j65
  refine m_Rb.tputI b_106 d_106_51 rfl rfl (by decide) h55 f55 e67 (fun w69 h69 f69 k69 => ?_)
  refine m_Rb.n0 b_106 (x_aload_n d_106_54 rfl) ?_
  refine m_Rb.n0 b_106 (x_bipush (z := 31) d_106_55 (by decide)) ?_
  refine m_Rb.n0 b_106 (x_aload_n d_106_57 rfl) ?_
  obtain ⟨v70, e71, j72⟩ := bS j68
  refine m_Rb.tgetI b_106 d_106_58 rfl h69 e71 ?_
  refine m_Rb.n0 b_106 (x_imul d_106_61 rfl) ?_
  refine m_Rb.n0 b_106 (x_bipush (z := 17) d_106_62 (by decide)) ?_
  refine m_Rb.n0 b_106 (x_aload_n d_106_64 rfl) ?_
  obtain ⟨v73, e74, j75⟩ := bS j72
  refine m_Rb.tgetI b_106 d_106_65 rfl h69 e74 ?_
  refine m_Rb.n0 b_106 (x_imul d_106_68 rfl) ?_
  refine m_Rb.n0 b_106 (x_iadd d_106_69 rfl) ?_
  refine m_Rb.n0 b_106 (x_iconst (z := 5) d_106_70 (by decide)) ?_
  refine m_Rb.n0 b_106 (x_aload_n d_106_71 rfl) ?_
  obtain ⟨v76, e77, j78⟩ := bS j75
  refine m_Rb.tgetI b_106 d_106_72 rfl h69 e77 ?_
  refine m_Rb.n0 b_106 (x_imul d_106_75 rfl) ?_
  refine m_Rb.n0 b_106 (x_iadd d_106_76 rfl) ?_
  refine m_Rb.n0 b_106 (x_bipush (z := 13) d_106_77 (by decide)) ?_
  refine m_Rb.n0 b_106 (x_aload_n d_106_79 rfl) ?_
  obtain ⟨v79, e80, j81⟩ := bS j78
  refine m_Rb.tgetI b_106 d_106_80 rfl h69 e80 ?_
  refine m_Rb.n0 b_106 (x_imul d_106_83 rfl) ?_
  refine m_Rb.n0 b_106 (x_iadd d_106_84 rfl) ?_
  obtain ⟨T82, e83, j84⟩ := bS j81
  refine m_Rb.tputI b_106 d_106_85 rfl rfl (by decide) h69 f69 e83 (fun w85 h85 f85 k85 => ?_)
  refine m_Rb.n0 b_106 (x_aload_n d_106_88 rfl) ?_
  refine m_Rb.n0 b_106 (x_iload_n d_106_89 rfl) ?_
  obtain ⟨_, e86, j87⟩ := bS j84
  obtain ⟨_, g88⟩ := RT.cls h85 e86
  obtain ⟨v89, e90, j91⟩ := bS j87
  refine m_Rb.callI b_106 (y_cv d_106_90 rfl q_87 (m_isRecv_of rfl g88) (show m_takeI _ _ = some (_, [_, _], []) from m_takeI_of rfl rfl rfl (Nat.le_of_ble_eq_true rfl)) (by simp only [m_okf, List.all_cons, List.all_nil, Bool.and_true, Bool.and_self, m_okv_i, m_okv_l, m_okv_0, m_okv_n0, m_okv_t, RT.okn h85 (okm (okm (okm (okm (okm (okm ha0 k20) k34) k41) k55) k69) k85), RT.okv h85 (okm (okm (okm (okm (okm (okm ha0 k20) k34) k41) k55) k69) k85), RT.okn h85 (okm (okm (okm (okm (okm (okm hp0 k20) k34) k41) k55) k69) k85), RT.okv h85 (okm (okm (okm (okm (okm (okm hp0 k20) k34) k41) k55) k69) k85), RT.okn h85 (okm (okm (okm (okm (okm (okm hp1 k20) k34) k41) k55) k69) k85), RT.okv h85 (okm (okm (okm (okm (okm (okm hp1 k20) k34) k41) k55) k69) k85)]) rfl) (T_c_Conditions_rangeCounts (okm (okm (okm (okm (okm (okm hp1 k20) k34) k41) k55) k69) k85) h85 e90) f85 rfl (fun w92 h92 f92 k92 => ?_) (by decide) (by decide)
  refine m_Rb.n0 b_106 (x_istore d_106_93 rfl (show m_put1 _ _ _ = [(4, _), (3, _), (0, _), (1, _), (2, _)] from rfl)) ?_
  refine m_Rb.n0 b_106 (x_aload_n d_106_95 rfl) ?_
  refine m_Rb.n0 b_106 (x_aload_n d_106_96 rfl) ?_
  refine m_Rb.n0 b_106 (x_iload d_106_97 rfl) ?_
  refine m_Rb.n0 b_106 (x_aload_n d_106_99 rfl) ?_
  obtain ⟨v93, e94, j95⟩ := bS j91
  refine m_Rb.tgetI b_106 d_106_100 rfl h92 e94 ?_
  obtain ⟨_, e96, j97⟩ := bS j95
  obtain ⟨_, g98⟩ := RT.cls h92 e96
  obtain ⟨v99, e100, j101⟩ := bS j97
  refine m_Rb.callI b_106 (y_cv d_106_103 rfl q_88 (m_isRecv_of rfl g98) (show m_takeI _ _ = some (_, [_, _, _], [_]) from m_takeI_of rfl rfl rfl (Nat.le_of_ble_eq_true rfl)) (by simp only [m_okf, List.all_cons, List.all_nil, Bool.and_true, Bool.and_self, m_okv_i, m_okv_l, m_okv_0, m_okv_n0, m_okv_t, RT.okn h92 (okm (okm (okm (okm (okm (okm ha0 k20) k34) k41) k55) k69) k85), RT.okv h92 (okm (okm (okm (okm (okm (okm ha0 k20) k34) k41) k55) k69) k85), RT.okn h92 (okm (okm (okm (okm (okm (okm hp0 k20) k34) k41) k55) k69) k85), RT.okv h92 (okm (okm (okm (okm (okm (okm hp0 k20) k34) k41) k55) k69) k85), RT.okn h92 (okm (okm (okm (okm (okm (okm hp1 k20) k34) k41) k55) k69) k85), RT.okv h92 (okm (okm (okm (okm (okm (okm hp1 k20) k34) k41) k55) k69) k85)]) rfl) (T_c_Conditions_from (okm (okm (okm (okm (okm (okm hp1 k20) k34) k41) k55) k69) k85) h92 e100) f92 rfl (fun w102 h102 f102 k102 => ?_) (by decide) (by decide)
  obtain ⟨T103, e104, j105⟩ := bS j101
  refine m_Rb.tputI b_106 d_106_106 rfl rfl (by decide) h102 f102 e104 (fun w106 h106 f106 k106 => ?_)
  refine m_Rb.n0 b_106 (x_iconst (z := 0) d_106_109 (by decide)) ?_
  refine m_Rb.n0 b_106 (x_aload_n d_106_110 rfl) ?_
  refine m_Rb.n0 b_106 (x_iload d_106_111 rfl) ?_
  refine m_Rb.n0 b_106 (x_aload_n d_106_113 rfl) ?_
  obtain ⟨v107, e108, j109⟩ := bS j105
  refine m_Rb.tgetI b_106 d_106_114 rfl h106 e108 ?_
  obtain ⟨_, e110, j111⟩ := bS j109
  obtain ⟨_, g112⟩ := RT.cls h106 e110
  obtain ⟨v113, e114, j115⟩ := bS j111
  refine m_Rb.callI b_106 (y_cv d_106_117 rfl q_89 (m_isRecv_of rfl g112) (show m_takeI _ _ = some (_, [_, _, _], [_]) from m_takeI_of rfl rfl rfl (Nat.le_of_ble_eq_true rfl)) (by simp only [m_okf, List.all_cons, List.all_nil, Bool.and_true, Bool.and_self, m_okv_i, m_okv_l, m_okv_0, m_okv_n0, m_okv_t, RT.okn h106 (okm (okm (okm (okm (okm (okm (okm ha0 k20) k34) k41) k55) k69) k85) k106), RT.okv h106 (okm (okm (okm (okm (okm (okm (okm ha0 k20) k34) k41) k55) k69) k85) k106), RT.okn h106 (okm (okm (okm (okm (okm (okm (okm hp0 k20) k34) k41) k55) k69) k85) k106), RT.okv h106 (okm (okm (okm (okm (okm (okm (okm hp0 k20) k34) k41) k55) k69) k85) k106), RT.okn h106 (okm (okm (okm (okm (okm (okm (okm hp1 k20) k34) k41) k55) k69) k85) k106), RT.okv h106 (okm (okm (okm (okm (okm (okm (okm hp1 k20) k34) k41) k55) k69) k85) k106)]) rfl) (T_c_Conditions_to (okm (okm (okm (okm (okm (okm (okm hp1 k20) k34) k41) k55) k69) k85) k106) h106 e114) f106 rfl (fun w116 h116 f116 k116 => ?_) (by decide) (by decide)
  refine m_Rb.n0 b_106 (x_aload_n d_106_120 rfl) ?_
  obtain ⟨v117, e118, j119⟩ := bS j115
  refine m_Rb.tgetI b_106 d_106_121 rfl h116 e118 ?_
  refine m_Rb.n0 b_106 (x_isub d_106_124 rfl) ?_
  refine m_Rb.n0 b_106 (x_iconst (z := 1) d_106_125 (by decide)) ?_
  refine m_Rb.n0 b_106 (x_iadd d_106_126 rfl) ?_
  refine m_Rb.nz b_106 (x_max d_106_127 rfl (catL (Nat.le_of_ble_eq_true rfl)) rfl) ?_ (by decide) (by decide)
  refine m_Rb.n0 b_106 (x_istore d_106_130 rfl (show m_put1 _ _ _ = [(5, _), (4, _), (3, _), (0, _), (1, _), (2, _)] from rfl)) ?_
  refine m_Rb.n0 b_106 (x_aload_n d_106_132 rfl) ?_
  refine m_Rb.n0 b_106 (x_iload_n d_106_133 rfl) ?_
  obtain ⟨_, e120, j121⟩ := bS j119
  obtain ⟨_, g122⟩ := RT.cls h116 e120
  obtain ⟨v123, e124, j125⟩ := bS j121
  refine m_Rb.callI b_106 (y_cv d_106_134 rfl q_107 (m_isRecv_of rfl g122) (show m_takeI _ _ = some (_, [_, _], []) from m_takeI_of rfl rfl rfl (Nat.le_of_ble_eq_true rfl)) (by simp only [m_okf, List.all_cons, List.all_nil, Bool.and_true, Bool.and_self, m_okv_i, m_okv_l, m_okv_0, m_okv_n0, m_okv_t, RT.okn h116 (okm (okm (okm (okm (okm (okm (okm ha0 k20) k34) k41) k55) k69) k85) k106), RT.okv h116 (okm (okm (okm (okm (okm (okm (okm ha0 k20) k34) k41) k55) k69) k85) k106), RT.okn h116 (okm (okm (okm (okm (okm (okm (okm hp0 k20) k34) k41) k55) k69) k85) k106), RT.okv h116 (okm (okm (okm (okm (okm (okm (okm hp0 k20) k34) k41) k55) k69) k85) k106), RT.okn h116 (okm (okm (okm (okm (okm (okm (okm hp1 k20) k34) k41) k55) k69) k85) k106), RT.okv h116 (okm (okm (okm (okm (okm (okm (okm hp1 k20) k34) k41) k55) k69) k85) k106)]) rfl) (T_c_Conditions_matches (okm (okm (okm (okm (okm (okm (okm hp1 k20) k34) k41) k55) k69) k85) k106) h116 e124) f116 rfl (fun w126 h126 f126 k126 => ?_) (by decide) (by decide)
  cases hc148 : m_c1 .eq v123 with
  | true =>
    have j149 := cT hc148 j125
    refine m_Rb.n0 b_106 (x_ift d_106_137 rfl hc148) ?_
    refine m_Rb.n0 b_106 (x_iload d_106_150 rfl) ?_
    cases hc169 : m_c1 .eq v89 with
    | true =>
      have j170 := cT hc169 j149
      refine m_Rb.n0 b_106 (x_ift d_106_152 rfl hc169) ?_
      exact m_Rb.pick [3, 1, 0] rfl (T_c_Reply_fillFrom_170 (okm (okm (okm (okm (okm (okm (okm ha0 k20) k34) k41) k55) k69) k85) k106) h126 f126 j170)
    | false =>
      have j170 := cF hc169 j149
      refine m_Rb.n0 b_106 (x_iff d_106_152 rfl hc169) ?_
      refine m_Rb.n0 b_106 (x_iload d_106_155 rfl) ?_
      cases hc190 : m_c1 .ne (if (0 : Int32) < ((v113 - v117) + (1 : Int32)) then ((v113 - v117) + (1 : Int32)) else (0 : Int32)) with
      | true =>
        have j191 := cT hc190 j170
        refine m_Rb.n0 b_106 (x_ift d_106_157 rfl hc190) ?_
        exact m_Rb.pick [3, 1, 0] rfl (T_c_Reply_fillFrom_170 (okm (okm (okm (okm (okm (okm (okm ha0 k20) k34) k41) k55) k69) k85) k106) h126 f126 j191)
      | false =>
        have j191 := cF hc190 j170
        refine m_Rb.n0 b_106 (x_iff d_106_157 rfl hc190) ?_
        refine m_Rb.n0 b_106 (x_aload_n d_106_160 rfl) ?_
        refine m_Rb.n0 b_106 (x_sipush (z := 416) d_106_161 (by decide)) ?_
        obtain ⟨T192, e193, j194⟩ := bS j191
        refine m_Rb.tputI b_106 d_106_164 rfl rfl (by decide) h126 f126 e193 (fun w195 h195 f195 k195 => ?_)
        refine m_Rb.n0 b_106 (x_goto d_106_167 rfl) ?_
        cases j194
        exact m_Rb.ret b_106 (m_rt_vr d_106_194 rfl) ⟨rfl, h195, f195⟩
  | false =>
    have j149 := cF hc148 j125
    refine m_Rb.n0 b_106 (x_iff d_106_137 rfl hc148) ?_
    refine m_Rb.n0 b_106 (x_aload_n d_106_140 rfl) ?_
    refine m_Rb.n0 b_106 (x_sipush (z := 304) d_106_141 (by decide)) ?_
    obtain ⟨T196, e197, j198⟩ := bS j149
    refine m_Rb.tputI b_106 d_106_144 rfl rfl (by decide) h126 f126 e197 (fun w199 h199 f199 k199 => ?_)
    refine m_Rb.n0 b_106 (x_goto d_106_147 rfl) ?_
    cases j198
    exact m_Rb.ret b_106 (m_rt_vr d_106_194 rfl) ⟨rfl, h199, f199⟩
def D_c_EdgeHouse_serve_14 (F : Nat) (x0 : Nat) (x1 : Option Nat) (x2 : Option Nat) (x3 : Option Nat) (T : tT) : Option (tT) := (x1).bind fun a90 => (tgi T a90 4 0).bind fun v93 => (tcl T x0 0).bind fun _ => (D_c_EdgeHouse_sendFill F x0 v93 x2 x3 T).bind fun T99 => some T99
theorem T_c_EdgeHouse_serve_14 {l : Launch} {w0 : List mM} {F : Nat} {x0 : Nat} {x1 : Option Nat} {x2 : Option Nat} {x3 : Option Nat} {T : tT} {w : List mM} {Tz : tT} (hx0 : okr T.2.1 (some x0)) (hx1 : okr T.2.1 x1) (hx2 : okr T.2.1 x2) (hx3 : okr T.2.1 x3) (h : RT T w) (hF : m_Fm w0 w) (h0 : D_c_EdgeHouse_serve_14 F x0 x1 x2 x3 T = some Tz) : m_Rb l M_102 (14, [(0, .ref x0), (1, rv x1), (2, rv x2), (3, rv x3)], [], w) (fun v w' => v = none ∧ RT Tz w' ∧ m_Fm w0 w') T Tz 15 1500 := by
  rw [D_c_EdgeHouse_serve_14] at h0
  refine m_Rb.n0 b_102 (x_aload_n d_102_14 rfl) ?_
  refine m_Rb.n0 b_102 (x_aloadr_n (x := x1) d_102_15 rfl) ?_
  obtain ⟨a90, e91, j92⟩ := bS h0
  subst e91
  obtain ⟨v93, e94, j95⟩ := bS j92
  refine m_Rb.tgetI b_102 d_102_16 rfl h e94 ?_
  refine m_Rb.n0 b_102 (x_aloadr_n (x := x2) d_102_19 rfl) ?_
  refine m_Rb.n0 b_102 (x_aloadr_n (x := x3) d_102_20 rfl) ?_
  obtain ⟨_, e96, j97⟩ := bS j95
  obtain ⟨_, g98⟩ := RT.cls h e96
  obtain ⟨T99, e100, j101⟩ := bS j97
  refine m_Rb.callV b_102 (y_cv d_102_21 rfl q_103 (m_isRecv_of rfl g98) (show m_takeI _ _ = some (_, [_, _, _, _], []) from m_takeI_of rfl rfl rfl (Nat.le_of_ble_eq_true rfl)) (by simp only [m_okf, List.all_cons, List.all_nil, Bool.and_true, Bool.and_self, m_okv_i, m_okv_l, m_okv_0, m_okv_n0, m_okv_t, RT.okn h hx0, RT.okv h hx0, RT.okn h hx1, RT.okv h hx1, RT.okv h hx2, RT.okv h hx3]) (decide_eq_true (by simp only [lgs_r, lgs_a, lgs_i, lgs_l, lgs_0]; exact Nat.le_of_ble_eq_true rfl))) (T_c_EdgeHouse_sendFill hx0 hx2 hx3 h e100) hF rfl (fun w102 h102 f102 k102 => ?_) (by decide) (by decide)
  cases j101
  exact m_Rb.ret b_102 (m_rt_vr d_102_24 rfl) ⟨rfl, h102, f102⟩
def D_c_EdgeHouse_serve (F : Nat) (a0 : Nat) (p0 : Option Nat) (p1 : Option Nat) (p2 : Option Nat) (p3 : Int32) (T : tT) : Option (tT) := (p1).bind fun a1 => (tgr T a1 6 14).bind fun v4 => nc v4 (D_c_EdgeHouse_serve_14 F a0 p0 (some a1) p2 T) fun a8 => ((tgr T a1 6 13).bind fun v10 => nc v10 (D_c_EdgeHouse_serve_14 F a0 p0 (some a1) p2 T) fun a14 => ((tgr T a1 6 14).bind fun v16 => (v16).bind fun a20 => (tpi T a20 8 7 p3).bind fun T23 => (tgr T23 a1 6 14).bind fun v27 => (tgi T23 a0 0 14).bind fun v31 => (p2).bind fun a34 => (tcl T23 a34 11).bind fun _ => (D_c_Entry_ageAt F a34 v31 T23).bind fun v40 => (v27).bind fun a44 => (tpi T23 a44 8 6 v40).bind fun T47 => (tgr T47 a1 6 14).bind fun v51 => (tgr T47 a1 6 13).bind fun v55 => (v51).bind fun a59 => (tcl T47 a59 8).bind fun _ => (D_c_Reply_fillFrom F a59 (some a34) v55 T47).bind fun T65 => (tgr T65 a1 6 14).bind fun v69 => (tgr T65 a1 6 14).bind fun v73 => (v73).bind fun a77 => (tgi T65 a77 8 1).bind fun v80 => (tcl T65 a0 0).bind fun _ => (D_c_EdgeHouse_close F a0 v69 v80 T65).bind fun T86 => some T86))
theorem T_c_EdgeHouse_serve {l : Launch} {w : List mM} {F : Nat} {a0 : Nat} {p0 : Option Nat} {p1 : Option Nat} {p2 : Option Nat} {p3 : Int32} {T : tT} {Tz : tT} (ha0 : okr T.2.1 (some a0)) (hp0 : okr T.2.1 p0) (hp1 : okr T.2.1 p1) (hp2 : okr T.2.1 p2) (h : RT T w) (h0 : D_c_EdgeHouse_serve F a0 p0 p1 p2 p3 T = some Tz) : m_Rb l M_102 (m_ent M_102 [.ref a0, rv p0, rv p1, rv p2, .int p3] w) (fun v w' => v = none ∧ RT Tz w' ∧ m_Fm w w') T Tz 15 1500 := by
  rw [show m_ent M_102 [.ref a0, rv p0, rv p1, rv p2, .int p3] w = (0, [(0, .ref a0), (1, rv p0), (2, rv p1), (3, rv p2), (4, .int p3)], [], w) from by first | rfl | (simp only [m_ent, lv_args_r, lv_args_a, lv_args_i, lv_args_l, lv_args_0]; done) | (simp only [m_ent, lv_args_r, lv_args_a, lv_args_i, lv_args_l, lv_args_0]; rfl)]
  generalize hw0 : w = w0 at h ⊢
  have hF : m_Fm w0 w0 := m_Fm.refl
  rw [D_c_EdgeHouse_serve] at h0
  refine m_Rb.n0 b_102 (x_aloadr_n (x := p1) d_102_0 rfl) ?_
  obtain ⟨a1, e2, j3⟩ := bS h0
  subst e2
  obtain ⟨v4, e5, j6⟩ := bS j3
  refine m_Rb.tgetR b_102 d_102_1 rfl h e5 (fun o7 => ?_)
  cases v4 with
  | none =>
    have j9 := nN j6
    refine m_Rb.n0 b_102 (x_ifnull0 d_102_4 rfl) ?_
    exact m_Rb.pick [0, 1, 2, 3] rfl (T_c_EdgeHouse_serve_14 ha0 hp0 hp1 hp2 h hF j9)
  | some a8 =>
    have j9 := nS j6
    refine m_Rb.n0 b_102 (x_ifnull1 d_102_4 rfl) ?_
    refine m_Rb.n0 b_102 (x_aload_n d_102_7 rfl) ?_
    obtain ⟨v10, e11, j12⟩ := bS j9
    refine m_Rb.tgetR b_102 d_102_8 rfl h e11 (fun o13 => ?_)
    cases v10 with
    | none =>
      have j15 := nN j12
      refine m_Rb.n0 b_102 (x_ifnonnull0 d_102_11 rfl) ?_
      exact m_Rb.pick [0, 1, 2, 3] rfl (T_c_EdgeHouse_serve_14 ha0 hp0 hp1 hp2 h hF j15)
    | some a14 =>
      have j15 := nS j12
      refine m_Rb.n0 b_102 (x_ifnonnull1 d_102_11 rfl) ?_
      refine m_Rb.n0 b_102 (x_aload_n d_102_25 rfl) ?_
      obtain ⟨v16, e17, j18⟩ := bS j15
      refine m_Rb.tgetR b_102 d_102_26 rfl h e17 (fun o19 => ?_)
      refine m_Rb.n0 b_102 (x_iload d_102_29 rfl) ?_
      obtain ⟨a20, e21, j22⟩ := bS j18
      subst e21
      obtain ⟨T23, e24, j25⟩ := bS j22
      refine m_Rb.tputI b_102 d_102_31 rfl rfl (by decide) h hF e24 (fun w26 h26 f26 k26 => ?_)
      refine m_Rb.n0 b_102 (x_aload_n d_102_34 rfl) ?_
      obtain ⟨v27, e28, j29⟩ := bS j25
      refine m_Rb.tgetR b_102 d_102_35 rfl h26 e28 (fun o30 => ?_)
      refine m_Rb.n0 b_102 (x_aloadr_n (x := p2) d_102_38 rfl) ?_
      refine m_Rb.n0 b_102 (x_aload_n d_102_39 rfl) ?_
      obtain ⟨v31, e32, j33⟩ := bS j29
      refine m_Rb.tgetI b_102 d_102_40 rfl h26 e32 ?_
      obtain ⟨a34, e35, j36⟩ := bS j33
      subst e35
      obtain ⟨_, e37, j38⟩ := bS j36
      obtain ⟨_, g39⟩ := RT.cls h26 e37
      obtain ⟨v40, e41, j42⟩ := bS j38
      refine m_Rb.callI b_102 (y_cv d_102_43 rfl q_83 (m_isRecv_of rfl g39) (show m_takeI _ _ = some (_, [_, _], [_]) from m_takeI_of rfl rfl rfl (Nat.le_of_ble_eq_true rfl)) (by simp only [m_okf, List.all_cons, List.all_nil, Bool.and_true, Bool.and_self, m_okv_i, m_okv_l, m_okv_0, m_okv_n0, m_okv_t, RT.okn h26 (okm ha0 k26), RT.okv h26 (okm ha0 k26), RT.okv h26 (okm hp0 k26), RT.okn h26 (okm hp1 k26), RT.okv h26 (okm hp1 k26), RT.okn h26 (okm hp2 k26), RT.okv h26 (okm hp2 k26), RT.okv h26 o30]) rfl) (T_c_Entry_ageAt (okm hp2 k26) h26 e41) f26 rfl (fun w43 h43 f43 k43 => ?_) (by decide) (by decide)
      obtain ⟨a44, e45, j46⟩ := bS j42
      subst e45
      obtain ⟨T47, e48, j49⟩ := bS j46
      refine m_Rb.tputI b_102 d_102_46 rfl rfl (by decide) h43 f43 e48 (fun w50 h50 f50 k50 => ?_)
      refine m_Rb.n0 b_102 (x_aload_n d_102_49 rfl) ?_
      obtain ⟨v51, e52, j53⟩ := bS j49
      refine m_Rb.tgetR b_102 d_102_50 rfl h50 e52 (fun o54 => ?_)
      refine m_Rb.n0 b_102 (x_aload_n d_102_53 rfl) ?_
      refine m_Rb.n0 b_102 (x_aload_n d_102_54 rfl) ?_
      obtain ⟨v55, e56, j57⟩ := bS j53
      refine m_Rb.tgetR b_102 d_102_55 rfl h50 e56 (fun o58 => ?_)
      obtain ⟨a59, e60, j61⟩ := bS j57
      subst e60
      obtain ⟨_, e62, j63⟩ := bS j61
      obtain ⟨_, g64⟩ := RT.cls h50 e62
      obtain ⟨T65, e66, j67⟩ := bS j63
      refine m_Rb.callV b_102 (y_cv d_102_58 rfl q_106 (m_isRecv_of rfl g64) (show m_takeI _ _ = some (_, [_, _, _], []) from m_takeI_of rfl rfl rfl (Nat.le_of_ble_eq_true rfl)) (by simp only [m_okf, List.all_cons, List.all_nil, Bool.and_true, Bool.and_self, m_okv_i, m_okv_l, m_okv_0, m_okv_n0, m_okv_t, RT.okn h50 (okm (okm ha0 k26) k50), RT.okv h50 (okm (okm ha0 k26) k50), RT.okv h50 (okm (okm hp0 k26) k50), RT.okn h50 (okm (okm hp1 k26) k50), RT.okv h50 (okm (okm hp1 k26) k50), RT.okn h50 (okm (okm hp2 k26) k50), RT.okv h50 (okm (okm hp2 k26) k50), RT.okv h50 o58, RT.okn h50 o54, RT.okv h50 o54]) (decide_eq_true (by simp only [lgs_r, lgs_a, lgs_i, lgs_l, lgs_0]; exact Nat.le_of_ble_eq_true rfl))) (T_c_Reply_fillFrom o54 (okm (okm hp2 k26) k50) o58 h50 e66) f50 rfl (fun w68 h68 f68 k68 => ?_) (by decide) (by decide)
      refine m_Rb.n0 b_102 (x_aload_n d_102_61 rfl) ?_
      refine m_Rb.n0 b_102 (x_aload_n d_102_62 rfl) ?_
      obtain ⟨v69, e70, j71⟩ := bS j67
      refine m_Rb.tgetR b_102 d_102_63 rfl h68 e70 (fun o72 => ?_)
      refine m_Rb.n0 b_102 (x_aload_n d_102_66 rfl) ?_
      obtain ⟨v73, e74, j75⟩ := bS j71
      refine m_Rb.tgetR b_102 d_102_67 rfl h68 e74 (fun o76 => ?_)
      obtain ⟨a77, e78, j79⟩ := bS j75
      subst e78
      obtain ⟨v80, e81, j82⟩ := bS j79
      refine m_Rb.tgetI b_102 d_102_70 rfl h68 e81 ?_
      obtain ⟨_, e83, j84⟩ := bS j82
      obtain ⟨_, g85⟩ := RT.cls h68 e83
      obtain ⟨T86, e87, j88⟩ := bS j84
      refine m_Rb.callV b_102 (y_cv d_102_73 rfl q_70 (m_isRecv_of rfl g85) (show m_takeI _ _ = some (_, [_, _, _], []) from m_takeI_of rfl rfl rfl (Nat.le_of_ble_eq_true rfl)) (by simp only [m_okf, List.all_cons, List.all_nil, Bool.and_true, Bool.and_self, m_okv_i, m_okv_l, m_okv_0, m_okv_n0, m_okv_t, RT.okn h68 (okm (okm (okm ha0 k26) k50) k68), RT.okv h68 (okm (okm (okm ha0 k26) k50) k68), RT.okv h68 (okm (okm (okm hp0 k26) k50) k68), RT.okn h68 (okm (okm (okm hp1 k26) k50) k68), RT.okv h68 (okm (okm (okm hp1 k26) k50) k68), RT.okn h68 (okm (okm (okm hp2 k26) k50) k68), RT.okv h68 (okm (okm (okm hp2 k26) k50) k68), RT.okv h68 o72]) (decide_eq_true (by simp only [lgs_r, lgs_a, lgs_i, lgs_l, lgs_0]; exact Nat.le_of_ble_eq_true rfl))) (T_c_EdgeHouse_close (okm (okm (okm ha0 k26) k50) k68) o72 h68 e87) f68 rfl (fun w89 h89 f89 k89 => ?_) (by decide) (by decide)
      cases j88
      exact m_Rb.ret b_102 (m_rt_vr d_102_76 rfl) ⟨rfl, h89, f89⟩
def D_c_Request_takesStale_23 (F : Nat) (x0 : Nat) (x1 : Option Nat) (x2 : Int32) (T0 : tT) : Option (Int32) := (tgi T0 x0 6 8).bind fun v21 => cond (m_c2 .ne v21 ((-1) : Int32)) (some (0 : Int32)) ((tgi T0 x0 6 9).bind fun v50 => cond (m_c2 .ne v50 ((-1) : Int32)) (some (0 : Int32)) ((x1).bind fun a74 => (tcl T0 a74 13).bind fun _ => (D_c_Told_life F a74 T0).bind fun v80 => (tgi T0 a74 13 5).bind fun v84 => (cond (m_c2 .ge x2 (v80 + v84)) (some (0 : Int32)) (some (1 : Int32))).bind fun v91 => (bret v91).bind fun v94 => some v94))
theorem T_c_Request_takesStale_23 {l : Launch} {w0 : List mM} {F : Nat} {T0 : tT} {x0 : Nat} {x1 : Option Nat} {x2 : Int32} {w : List mM} {yz : Int32} (hx0 : okr T0.2.1 (some x0)) (hx1 : okr T0.2.1 x1) (h : RT T0 w) (hF : m_Fm w0 w) (h0 : D_c_Request_takesStale_23 F x0 x1 x2 T0 = some yz) : m_Rb l M_108 (23, [(0, .ref x0), (1, rv x1), (2, .int x2)], [], w) (fun v w' => v = some (.int yz) ∧ RT T0 w' ∧ m_Fm w0 w') T0 T0 1 100 := by
  rw [D_c_Request_takesStale_23] at h0
  refine m_Rb.n0 b_108 (x_aload_n d_108_23 rfl) ?_
  obtain ⟨v21, e22, j23⟩ := bS h0
  refine m_Rb.tgetI b_108 d_108_24 rfl h e22 ?_
  refine m_Rb.n0 b_108 (x_iconst (z := (-1)) d_108_27 (by decide)) ?_
  cases hc48 : m_c2 .ne v21 ((-1) : Int32) with
  | true =>
    have j49 := cT hc48 j23
    refine m_Rb.n0 b_108 (x_ict d_108_28 rfl hc48) ?_
    refine m_Rb.n0 b_108 (x_iconst (z := 0) d_108_56 (by decide)) ?_
    cases j49
    exact m_Rb.ret b_108 (m_rt_ir d_108_57 rfl m_nb0) ⟨rfl, h, hF⟩
  | false =>
    have j49 := cF hc48 j23
    refine m_Rb.n0 b_108 (x_icf d_108_28 rfl hc48) ?_
    refine m_Rb.n0 b_108 (x_aload_n d_108_31 rfl) ?_
    obtain ⟨v50, e51, j52⟩ := bS j49
    refine m_Rb.tgetI b_108 d_108_32 rfl h e51 ?_
    refine m_Rb.n0 b_108 (x_iconst (z := (-1)) d_108_35 (by decide)) ?_
    cases hc72 : m_c2 .ne v50 ((-1) : Int32) with
    | true =>
      have j73 := cT hc72 j52
      refine m_Rb.n0 b_108 (x_ict d_108_36 rfl hc72) ?_
      refine m_Rb.n0 b_108 (x_iconst (z := 0) d_108_56 (by decide)) ?_
      cases j73
      exact m_Rb.ret b_108 (m_rt_ir d_108_57 rfl m_nb0) ⟨rfl, h, hF⟩
    | false =>
      have j73 := cF hc72 j52
      refine m_Rb.n0 b_108 (x_icf d_108_36 rfl hc72) ?_
      refine m_Rb.n0 b_108 (x_iload_n d_108_39 rfl) ?_
      refine m_Rb.n0 b_108 (x_aloadr_n (x := x1) d_108_40 rfl) ?_
      obtain ⟨a74, e75, j76⟩ := bS j73
      subst e75
      obtain ⟨_, e77, j78⟩ := bS j76
      obtain ⟨_, g79⟩ := RT.cls h e77
      obtain ⟨v80, e81, j82⟩ := bS j78
      refine m_Rb.callI b_108 (y_cv d_108_41 rfl q_91 (m_isRecv_of rfl g79) (show m_takeI _ _ = some (_, [_], [_]) from m_takeI_of rfl rfl rfl (Nat.le_of_ble_eq_true rfl)) (by simp only [m_okf, List.all_cons, List.all_nil, Bool.and_true, Bool.and_self, m_okv_i, m_okv_l, m_okv_0, m_okv_n0, m_okv_t, RT.okn h hx0, RT.okv h hx0, RT.okn h hx1, RT.okv h hx1]) rfl) (T_c_Told_life hx1 h e81) hF rfl (fun w83 h83 f83 k83 => ?_) (by decide) (by decide)
      refine m_Rb.n0 b_108 (x_aload_n d_108_44 rfl) ?_
      obtain ⟨v84, e85, j86⟩ := bS j82
      refine m_Rb.tgetI b_108 d_108_45 rfl h83 e85 ?_
      refine m_Rb.n0 b_108 (x_iadd d_108_48 rfl) ?_
      obtain ⟨v91, e88, j92⟩ := bS j86
      have kk87 : ∀ (xz : Int32) (w1 : List mM), xz = v91 → RT T0 w1 → m_Fm w0 w1 → m_Rb l M_108 (57, [(0, .ref x0), (1, .ref a74), (2, .int x2)], [.int xz], w1) (fun v w' => v = some (.int yz) ∧ RT T0 w' ∧ m_Fm w0 w') T0 T0 1 100 := by
        intro xz w93 ez h93 f93
        rw [ez]
        obtain ⟨v94, e95, j96⟩ := bS j92
        cases j96
        exact m_Rb.retb b_108 d_108_57 rfl e95 ⟨rfl, h93, f93⟩
      cases hc89 : m_c2 .ge x2 (v80 + v84) with
      | true =>
        have j90 := cT hc89 e88
        refine m_Rb.n0 b_108 (x_ict d_108_49 rfl hc89) ?_
        refine m_Rb.n0 b_108 (x_iconst (z := 0) d_108_56 (by decide)) ?_
        exact kk87 _ _ (Option.some.inj j90) h83 f83
      | false =>
        have j90 := cF hc89 e88
        refine m_Rb.n0 b_108 (x_icf d_108_49 rfl hc89) ?_
        refine m_Rb.n0 b_108 (x_iconst (z := 1) d_108_52 (by decide)) ?_
        refine m_Rb.n0 b_108 (x_goto d_108_53 rfl) ?_
        exact kk87 _ _ (Option.some.inj j90) h83 f83
def D_c_Request_takesStale (F : Nat) (a0 : Nat) (p0 : Option Nat) (p1 : Int32) (T0 : tT) : Option (Int32) := (tgi T0 a0 6 10).bind fun v1 => cond (m_c2 .eq v1 ((-1) : Int32)) (D_c_Request_takesStale_23 F a0 p0 p1 T0) ((p0).bind fun a6 => (tcl T0 a6 13).bind fun _ => (D_c_Told_life F a6 T0).bind fun v12 => (tgi T0 a0 6 10).bind fun v16 => cond (m_c2 .ge p1 (v12 + v16)) (D_c_Request_takesStale_23 F a0 (some a6) p1 T0) (some (1 : Int32)))
theorem T_c_Request_takesStale {l : Launch} {w : List mM} {F : Nat} {a0 : Nat} {p0 : Option Nat} {p1 : Int32} {T0 : tT} {yz : Int32} (ha0 : okr T0.2.1 (some a0)) (hp0 : okr T0.2.1 p0) (h : RT T0 w) (h0 : D_c_Request_takesStale F a0 p0 p1 T0 = some yz) : m_Rb l M_108 (m_ent M_108 [.ref a0, rv p0, .int p1] w) (fun v w' => v = some (.int yz) ∧ RT T0 w' ∧ m_Fm w w') T0 T0 1 100 := by
  rw [show m_ent M_108 [.ref a0, rv p0, .int p1] w = (0, [(0, .ref a0), (1, rv p0), (2, .int p1)], [], w) from by first | rfl | (simp only [m_ent, lv_args_r, lv_args_a, lv_args_i, lv_args_l, lv_args_0]; done) | (simp only [m_ent, lv_args_r, lv_args_a, lv_args_i, lv_args_l, lv_args_0]; rfl)]
  generalize hw0 : w = w0 at h ⊢
  have hF : m_Fm w0 w0 := m_Fm.refl
  rw [D_c_Request_takesStale] at h0
  refine m_Rb.n0 b_108 (x_aload_n d_108_0 rfl) ?_
  obtain ⟨v1, e2, j3⟩ := bS h0
  refine m_Rb.tgetI b_108 d_108_1 rfl h e2 ?_
  refine m_Rb.n0 b_108 (x_iconst (z := (-1)) d_108_4 (by decide)) ?_
  cases hc4 : m_c2 .eq v1 ((-1) : Int32) with
  | true =>
    have j5 := cT hc4 j3
    refine m_Rb.n0 b_108 (x_ict d_108_5 rfl hc4) ?_
    exact m_Rb.pick [0, 1, 2] rfl (T_c_Request_takesStale_23 ha0 hp0 h hF j5)
  | false =>
    have j5 := cF hc4 j3
    refine m_Rb.n0 b_108 (x_icf d_108_5 rfl hc4) ?_
    refine m_Rb.n0 b_108 (x_iload_n d_108_8 rfl) ?_
    refine m_Rb.n0 b_108 (x_aloadr_n (x := p0) d_108_9 rfl) ?_
    obtain ⟨a6, e7, j8⟩ := bS j5
    subst e7
    obtain ⟨_, e9, j10⟩ := bS j8
    obtain ⟨_, g11⟩ := RT.cls h e9
    obtain ⟨v12, e13, j14⟩ := bS j10
    refine m_Rb.callI b_108 (y_cv d_108_10 rfl q_91 (m_isRecv_of rfl g11) (show m_takeI _ _ = some (_, [_], [_]) from m_takeI_of rfl rfl rfl (Nat.le_of_ble_eq_true rfl)) (by simp only [m_okf, List.all_cons, List.all_nil, Bool.and_true, Bool.and_self, m_okv_i, m_okv_l, m_okv_0, m_okv_n0, m_okv_t, RT.okn h ha0, RT.okv h ha0, RT.okn h hp0, RT.okv h hp0]) rfl) (T_c_Told_life hp0 h e13) hF rfl (fun w15 h15 f15 k15 => ?_) (by decide) (by decide)
    refine m_Rb.n0 b_108 (x_aload_n d_108_13 rfl) ?_
    obtain ⟨v16, e17, j18⟩ := bS j14
    refine m_Rb.tgetI b_108 d_108_14 rfl h15 e17 ?_
    refine m_Rb.n0 b_108 (x_iadd d_108_17 rfl) ?_
    cases hc19 : m_c2 .ge p1 (v12 + v16) with
    | true =>
      have j20 := cT hc19 j18
      refine m_Rb.n0 b_108 (x_ict d_108_18 rfl hc19) ?_
      exact m_Rb.pick [0, 1, 2] rfl (T_c_Request_takesStale_23 ha0 hp0 h15 f15 j20)
    | false =>
      have j20 := cF hc19 j18
      refine m_Rb.n0 b_108 (x_icf d_108_18 rfl hc19) ?_
      refine m_Rb.n0 b_108 (x_iconst (z := 1) d_108_21 (by decide)) ?_
      cases j20
      exact m_Rb.ret b_108 (m_rt_ir d_108_22 rfl m_nb1) ⟨rfl, h15, f15⟩
def D_c_Node_fetchOf_47 (F : Nat) (rec2 : Nat → Int32 → Int32 → Int32 → tT → Option (Option Nat)) (x0 : Nat) (x1 : Int32) (x2 : Int32) (x3 : Int32) (T0 : tT) : Option (Option Nat) := rec2 x0 x1 x2 (x3 + Int32.ofInt 1) T0
theorem T_c_Node_fetchOf_47 {l : Launch} {w0 : List mM} {F : Nat} {T0 : tT} {rec2 : Nat → Int32 → Int32 → Int32 → tT → Option (Option Nat)} (hr2 : ∀ {x0 : Nat} {x1 : Int32} {x2 : Int32} {x3 : Int32} {w : List mM} {yz : Option Nat}, okr T0.2.1 (some x0) → RT T0 w → m_Fm w0 w → rec2 x0 x1 x2 x3 T0 = some yz → m_Rb l M_109 (2, [(0, .ref x0), (1, .int x1), (2, .int x2), (3, .int x3)], [], w) (fun v w' => v = some (rv yz) ∧ okr T0.2.1 yz ∧ RT T0 w' ∧ m_Fm w0 w') T0 T0 3 300) {x0 : Nat} {x1 : Int32} {x2 : Int32} {x3 : Int32} {w : List mM} {yz : Option Nat} (hx0 : okr T0.2.1 (some x0)) (h : RT T0 w) (hF : m_Fm w0 w) (h0 : D_c_Node_fetchOf_47 F rec2 x0 x1 x2 x3 T0 = some yz) : m_Rb l M_109 (47, [(0, .ref x0), (1, .int x1), (2, .int x2), (3, .int x3)], [], w) (fun v w' => v = some (rv yz) ∧ okr T0.2.1 yz ∧ RT T0 w' ∧ m_Fm w0 w') T0 T0 3 300 := by
  rw [D_c_Node_fetchOf_47] at h0
  refine m_Rb.n0 b_109 (x_iinc d_109_47 rfl rfl rfl (show m_put1 _ _ _ = [(3, _), (0, _), (1, _), (2, _)] from rfl)) ?_
  refine m_Rb.n0 b_109 (x_goto d_109_50 rfl) ?_
  exact m_Rb.pick [1, 2, 3, 0] rfl (hr2 hx0 h hF h0)
def D_c_Node_fetchOf_2 (F : Nat) : Nat → Nat → Int32 → Int32 → Int32 → tT → Option (Option Nat)
  | 0, _, _, _, _, _ => none
  | n + 1, x0, x1, x2, x3, T0 => (tgr T0 x0 4 2).bind fun v1 => (v1).bind fun a5 => (tls T0 a5).bind fun v8 => cond (m_c2 .ge x3 v8) (some none) ((tgr T0 x0 4 2).bind fun v13 => (v13).bind fun a17 => (tlg T0 a17 x3).bind fun b20 => (tcc T0 (some b20) 10).bind fun _ => (tgi T0 b20 10 0).bind fun v26 => cond (m_c2 .ne v26 x1) (D_c_Node_fetchOf_47 F (D_c_Node_fetchOf_2 F n) x0 x1 x2 x3 T0) ((tgi T0 b20 10 1).bind fun v31 => cond (m_c2 .ne v31 x2) (D_c_Node_fetchOf_47 F (D_c_Node_fetchOf_2 F n) x0 x1 x2 x3 T0) (some (some b20))))
theorem T_c_Node_fetchOf_2 {l : Launch} {w0 : List mM} {F : Nat} {T0 : tT} : ∀ (n : Nat) {x0 : Nat} {x1 : Int32} {x2 : Int32} {x3 : Int32} {w : List mM} {yz : Option Nat}, okr T0.2.1 (some x0) → RT T0 w → m_Fm w0 w → D_c_Node_fetchOf_2 F n x0 x1 x2 x3 T0 = some yz → m_Rb l M_109 (2, [(0, .ref x0), (1, .int x1), (2, .int x2), (3, .int x3)], [], w) (fun v w' => v = some (rv yz) ∧ okr T0.2.1 yz ∧ RT T0 w' ∧ m_Fm w0 w') T0 T0 3 300 := by
  intro n
  induction n with
  | zero => intro x0 x1 x2 x3 w yz hx0 h hF h0; cases h0
  | succ n ih =>
    intro x0 x1 x2 x3 w yz hx0 h hF h0
    rw [D_c_Node_fetchOf_2] at h0
    refine m_Rb.n0 b_109 (x_iload_n d_109_2 rfl) ?_
    refine m_Rb.n0 b_109 (x_aload_n d_109_3 rfl) ?_
    obtain ⟨v1, e2, j3⟩ := bS h0
    refine m_Rb.tgetR b_109 d_109_4 rfl h e2 (fun o4 => ?_)
    obtain ⟨a5, e6, j7⟩ := bS j3
    subst e6
    obtain ⟨v8, e9, j10⟩ := bS j7
    refine m_Rb.tlsize b_109 d_109_7 rfl (by simp only [m_okf, List.all_cons, List.all_nil, Bool.and_true, Bool.and_self, m_okv_i, m_okv_l, m_okv_0, m_okv_n0, m_okv_t, RT.okn h hx0, RT.okv h hx0, RT.okn h o4, RT.okv h o4]) (Nat.le_of_ble_eq_true rfl) h e9 ?_ (by decide) (by decide)
    cases hc11 : m_c2 .ge x3 v8 with
    | true =>
      have j12 := cT hc11 j10
      refine m_Rb.n0 b_109 (x_ict d_109_10 rfl hc11) ?_
      refine m_Rb.n0 b_109 (x_null d_109_53) ?_
      have o9 : okr T0.2.1 none := okr_none
      cases j12
      exact m_Rb.ret b_109 (m_rt_rr (x := none) d_109_54 rfl) ⟨rfl, o9, h, hF⟩
    | false =>
      have j12 := cF hc11 j10
      refine m_Rb.n0 b_109 (x_icf d_109_10 rfl hc11) ?_
      refine m_Rb.n0 b_109 (x_aload_n d_109_13 rfl) ?_
      obtain ⟨v13, e14, j15⟩ := bS j12
      refine m_Rb.tgetR b_109 d_109_14 rfl h e14 (fun o16 => ?_)
      refine m_Rb.n0 b_109 (x_iload_n d_109_17 rfl) ?_
      obtain ⟨a17, e18, j19⟩ := bS j15
      subst e18
      obtain ⟨b20, e21, j22⟩ := bS j19
      refine m_Rb.tlget b_109 d_109_18 rfl (by simp only [m_okf, List.all_cons, List.all_nil, Bool.and_true, Bool.and_self, m_okv_i, m_okv_l, m_okv_0, m_okv_n0, m_okv_t, RT.okn h hx0, RT.okv h hx0, RT.okn h o16, RT.okv h o16]) (Nat.le_of_ble_eq_true rfl) h e21 (fun o23 => ?_) (by decide) (by decide)
      obtain ⟨_, e24, j25⟩ := bS j22
      refine m_Rb.tcast (z := (some b20)) b_109 d_109_21 rfl h e24 ?_
      refine m_Rb.n0 b_109 (x_astore d_109_24 rfl (show m_put1 _ _ _ = [(4, _), (0, _), (1, _), (2, _), (3, _)] from rfl)) ?_
      refine m_Rb.n0 b_109 (x_aload d_109_26 rfl) ?_
      obtain ⟨v26, e27, j28⟩ := bS j25
      refine m_Rb.tgetI b_109 d_109_28 rfl h e27 ?_
      refine m_Rb.n0 b_109 (x_iload_n d_109_31 rfl) ?_
      cases hc29 : m_c2 .ne v26 x1 with
      | true =>
        have j30 := cT hc29 j28
        refine m_Rb.n0 b_109 (x_ict d_109_32 rfl hc29) ?_
        exact m_Rb.pick [1, 2, 3, 4] rfl (T_c_Node_fetchOf_47 ih hx0 h hF j30)
      | false =>
        have j30 := cF hc29 j28
        refine m_Rb.n0 b_109 (x_icf d_109_32 rfl hc29) ?_
        refine m_Rb.n0 b_109 (x_aload d_109_35 rfl) ?_
        obtain ⟨v31, e32, j33⟩ := bS j30
        refine m_Rb.tgetI b_109 d_109_37 rfl h e32 ?_
        refine m_Rb.n0 b_109 (x_iload_n d_109_40 rfl) ?_
        cases hc34 : m_c2 .ne v31 x2 with
        | true =>
          have j35 := cT hc34 j33
          refine m_Rb.n0 b_109 (x_ict d_109_41 rfl hc34) ?_
          exact m_Rb.pick [1, 2, 3, 4] rfl (T_c_Node_fetchOf_47 ih hx0 h hF j35)
        | false =>
          have j35 := cF hc34 j33
          refine m_Rb.n0 b_109 (x_icf d_109_41 rfl hc34) ?_
          refine m_Rb.n0 b_109 (x_aload d_109_44 rfl) ?_
          have o9 : okr T0.2.1 (some b20) := o23
          cases j35
          exact m_Rb.ret b_109 (m_rt_rr (x := (some b20)) d_109_46 rfl) ⟨rfl, o9, h, hF⟩
def D_c_Node_fetchOf (F : Nat) (a0 : Nat) (p0 : Int32) (p1 : Int32) (T0 : tT) : Option (Option Nat) := D_c_Node_fetchOf_2 F F a0 p0 p1 (0 : Int32) T0
theorem T_c_Node_fetchOf {l : Launch} {w : List mM} {F : Nat} {a0 : Nat} {p0 : Int32} {p1 : Int32} {T0 : tT} {yz : Option Nat} (ha0 : okr T0.2.1 (some a0)) (h : RT T0 w) (h0 : D_c_Node_fetchOf F a0 p0 p1 T0 = some yz) : m_Rb l M_109 (m_ent M_109 [.ref a0, .int p0, .int p1] w) (fun v w' => v = some (rv yz) ∧ okr T0.2.1 yz ∧ RT T0 w' ∧ m_Fm w w') T0 T0 3 300 := by
  rw [show m_ent M_109 [.ref a0, .int p0, .int p1] w = (0, [(0, .ref a0), (1, .int p0), (2, .int p1)], [], w) from by first | rfl | (simp only [m_ent, lv_args_r, lv_args_a, lv_args_i, lv_args_l, lv_args_0]; done) | (simp only [m_ent, lv_args_r, lv_args_a, lv_args_i, lv_args_l, lv_args_0]; rfl)]
  generalize hw0 : w = w0 at h ⊢
  have hF : m_Fm w0 w0 := m_Fm.refl
  rw [D_c_Node_fetchOf] at h0
  refine m_Rb.n0 b_109 (x_iconst (z := 0) d_109_0 (by decide)) ?_
  refine m_Rb.n0 b_109 (x_istore_n d_109_1 rfl (show m_put1 _ _ _ = [(3, _), (0, _), (1, _), (2, _)] from rfl)) ?_
  exact m_Rb.pick [1, 2, 3, 0] rfl (T_c_Node_fetchOf_2 F ha0 h hF h0)
def D_c_Fetch_init (F : Nat) (a0 : Nat) (p0 : Option Nat) (T : tT) : Option (tT) := (p0).bind fun a1 => (tgi T a1 6 0).bind fun v4 => (tpi T a0 10 0 v4).bind fun T7 => (tgi T7 a1 6 1).bind fun v11 => (tpi T7 a0 10 1 v11).bind fun T14 => (tgi T14 a1 6 2).bind fun v18 => (tpi T14 a0 10 2 v18).bind fun T21 => (tgi T21 a1 6 3).bind fun v25 => (tpi T21 a0 10 3 v25).bind fun T28 => (tgi T28 a1 6 6).bind fun v32 => (tpz T28 a0 10 4 v32).bind fun T35 => (tgi T35 a1 6 4).bind fun v39 => (tpi T35 a0 10 5 v39).bind fun T42 => (tgi T42 a1 6 5).bind fun v46 => (tpi T42 a0 10 6 v46).bind fun T49 => some T49
theorem T_c_Fetch_init {l : Launch} {w : List mM} {F : Nat} {a0 : Nat} {p0 : Option Nat} {T : tT} {Tz : tT} (ha0 : okr T.2.1 (some a0)) (hp0 : okr T.2.1 p0) (h : RT T w) (h0 : D_c_Fetch_init F a0 p0 T = some Tz) : m_Rb l M_110 (m_ent M_110 [.ref a0, rv p0] w) (fun v w' => v = none ∧ RT Tz w' ∧ m_Fm w w') T Tz 1 100 := by
  rw [show m_ent M_110 [.ref a0, rv p0] w = (0, [(0, .ref a0), (1, rv p0)], [], w) from by first | rfl | (simp only [m_ent, lv_args_r, lv_args_a, lv_args_i, lv_args_l, lv_args_0]; done) | (simp only [m_ent, lv_args_r, lv_args_a, lv_args_i, lv_args_l, lv_args_0]; rfl)]
  generalize hw0 : w = w0 at h ⊢
  have hF : m_Fm w0 w0 := m_Fm.refl
  rw [D_c_Fetch_init] at h0
  refine m_Rb.n0 b_110 (x_aload_n d_110_0 rfl) ?_
  refine m_Rb.toinit b_110 d_110_1 rfl (Nat.le_of_ble_eq_true rfl) ?_ (by decide) (by decide)
  refine m_Rb.n0 b_110 (x_aload_n d_110_4 rfl) ?_
  refine m_Rb.n0 b_110 (x_aloadr_n (x := p0) d_110_5 rfl) ?_
  obtain ⟨a1, e2, j3⟩ := bS h0
  subst e2
  obtain ⟨v4, e5, j6⟩ := bS j3
  refine m_Rb.tgetI b_110 d_110_6 rfl h e5 ?_
  obtain ⟨T7, e8, j9⟩ := bS j6
  refine m_Rb.tputI b_110 d_110_9 rfl rfl (by decide) h hF e8 (fun w10 h10 f10 k10 => ?_)
  refine m_Rb.n0 b_110 (x_aload_n d_110_12 rfl) ?_
  refine m_Rb.n0 b_110 (x_aload_n d_110_13 rfl) ?_
  obtain ⟨v11, e12, j13⟩ := bS j9
  refine m_Rb.tgetI b_110 d_110_14 rfl h10 e12 ?_
  obtain ⟨T14, e15, j16⟩ := bS j13
  refine m_Rb.tputI b_110 d_110_17 rfl rfl (by decide) h10 f10 e15 (fun w17 h17 f17 k17 => ?_)
  refine m_Rb.n0 b_110 (x_aload_n d_110_20 rfl) ?_
  refine m_Rb.n0 b_110 (x_aload_n d_110_21 rfl) ?_
  obtain ⟨v18, e19, j20⟩ := bS j16
  refine m_Rb.tgetI b_110 d_110_22 rfl h17 e19 ?_
  obtain ⟨T21, e22, j23⟩ := bS j20
  refine m_Rb.tputI b_110 d_110_25 rfl rfl (by decide) h17 f17 e22 (fun w24 h24 f24 k24 => ?_)
  refine m_Rb.n0 b_110 (x_aload_n d_110_28 rfl) ?_
  refine m_Rb.n0 b_110 (x_aload_n d_110_29 rfl) ?_
  obtain ⟨v25, e26, j27⟩ := bS j23
  refine m_Rb.tgetI b_110 d_110_30 rfl h24 e26 ?_
  obtain ⟨T28, e29, j30⟩ := bS j27
  refine m_Rb.tputI b_110 d_110_33 rfl rfl (by decide) h24 f24 e29 (fun w31 h31 f31 k31 => ?_)
  refine m_Rb.n0 b_110 (x_aload_n d_110_36 rfl) ?_
  refine m_Rb.n0 b_110 (x_aload_n d_110_37 rfl) ?_
  obtain ⟨v32, e33, j34⟩ := bS j30
  refine m_Rb.tgetI b_110 d_110_38 rfl h31 e33 ?_
  obtain ⟨T35, e36, j37⟩ := bS j34
  refine m_Rb.tputZ b_110 d_110_41 rfl rfl (by decide) h31 f31 e36 (fun w38 h38 f38 k38 => ?_)
  refine m_Rb.n0 b_110 (x_aload_n d_110_44 rfl) ?_
  refine m_Rb.n0 b_110 (x_aload_n d_110_45 rfl) ?_
  obtain ⟨v39, e40, j41⟩ := bS j37
  refine m_Rb.tgetI b_110 d_110_46 rfl h38 e40 ?_
  obtain ⟨T42, e43, j44⟩ := bS j41
  refine m_Rb.tputI b_110 d_110_49 rfl rfl (by decide) h38 f38 e43 (fun w45 h45 f45 k45 => ?_)
  refine m_Rb.n0 b_110 (x_aload_n d_110_52 rfl) ?_
  refine m_Rb.n0 b_110 (x_aload_n d_110_53 rfl) ?_
  obtain ⟨v46, e47, j48⟩ := bS j44
  refine m_Rb.tgetI b_110 d_110_54 rfl h45 e47 ?_
  obtain ⟨T49, e50, j51⟩ := bS j48
  refine m_Rb.tputI b_110 d_110_57 rfl rfl (by decide) h45 f45 e50 (fun w52 h52 f52 k52 => ?_)
  cases j51
  exact m_Rb.ret b_110 (m_rt_vr d_110_60 rfl) ⟨rfl, h52, f52⟩
def D_c_EdgeHouse_isEdge (F : Nat) (p0 : Int32) (T0 : tT) : Option (Int32) := (cond (m_c2 .lt p0 (3 : Int32)) (some (0 : Int32)) (cond (m_c2 .gt p0 (6 : Int32)) (some (0 : Int32)) (some (1 : Int32)))).bind fun v7 => (bret v7).bind fun v10 => some v10
theorem T_c_EdgeHouse_isEdge {l : Launch} {w : List mM} {F : Nat} {p0 : Int32} {T0 : tT} {yz : Int32} (h : RT T0 w) (h0 : D_c_EdgeHouse_isEdge F p0 T0 = some yz) : m_Rb l M_112 (m_ent M_112 [.int p0] w) (fun v w' => v = some (.int yz) ∧ RT T0 w' ∧ m_Fm w w') T0 T0 0 0 := by
  rw [show m_ent M_112 [.int p0] w = (0, [(0, .int p0)], [], w) from by first | rfl | (simp only [m_ent, lv_args_r, lv_args_a, lv_args_i, lv_args_l, lv_args_0]; done) | (simp only [m_ent, lv_args_r, lv_args_a, lv_args_i, lv_args_l, lv_args_0]; rfl)]
  generalize hw0 : w = w0 at h ⊢
  have hF : m_Fm w0 w0 := m_Fm.refl
  rw [D_c_EdgeHouse_isEdge] at h0
  refine m_Rb.n0 b_112 (x_iload_n d_112_0 rfl) ?_
  refine m_Rb.n0 b_112 (x_iconst (z := 3) d_112_1 (by decide)) ?_
  obtain ⟨v7, e2, j8⟩ := bS h0
  have kk1 : ∀ (xz : Int32) (w1 : List mM), xz = v7 → RT T0 w1 → m_Fm w0 w1 → m_Rb l M_112 (16, [(0, .int p0)], [.int xz], w1) (fun v w' => v = some (.int yz) ∧ RT T0 w' ∧ m_Fm w0 w') T0 T0 0 0 := by
    intro xz w9 ez h9 f9
    rw [ez]
    obtain ⟨v10, e11, j12⟩ := bS j8
    cases j12
    exact m_Rb.retb b_112 d_112_16 rfl e11 ⟨rfl, h9, f9⟩
  cases hc3 : m_c2 .lt p0 (3 : Int32) with
  | true =>
    have j4 := cT hc3 e2
    refine m_Rb.n0 b_112 (x_ict d_112_2 rfl hc3) ?_
    refine m_Rb.n0 b_112 (x_iconst (z := 0) d_112_15 (by decide)) ?_
    exact kk1 _ _ (Option.some.inj j4) h hF
  | false =>
    have j4 := cF hc3 e2
    refine m_Rb.n0 b_112 (x_icf d_112_2 rfl hc3) ?_
    refine m_Rb.n0 b_112 (x_iload_n d_112_5 rfl) ?_
    refine m_Rb.n0 b_112 (x_bipush (z := 6) d_112_6 (by decide)) ?_
    cases hc5 : m_c2 .gt p0 (6 : Int32) with
    | true =>
      have j6 := cT hc5 j4
      refine m_Rb.n0 b_112 (x_ict d_112_8 rfl hc5) ?_
      refine m_Rb.n0 b_112 (x_iconst (z := 0) d_112_15 (by decide)) ?_
      exact kk1 _ _ (Option.some.inj j6) h hF
    | false =>
      have j6 := cF hc5 j4
      refine m_Rb.n0 b_112 (x_icf d_112_8 rfl hc5) ?_
      refine m_Rb.n0 b_112 (x_iconst (z := 1) d_112_11 (by decide)) ?_
      refine m_Rb.n0 b_112 (x_goto d_112_12 rfl) ?_
      exact kk1 _ _ (Option.some.inj j6) h hF
def D_c_Message_copyFetch (F : Nat) (a0 : Nat) (p0 : Option Nat) (T : tT) : Option (tT) := (p0).bind fun a1 => (tgi T a1 10 0).bind fun v4 => (tpi T a0 9 4 v4).bind fun T7 => (tgi T7 a1 10 1).bind fun v11 => (tpi T7 a0 9 5 v11).bind fun T14 => (tgi T14 a1 10 2).bind fun v18 => (tpi T14 a0 9 6 v18).bind fun T21 => (tgi T21 a1 10 3).bind fun v25 => (tpi T21 a0 9 7 v25).bind fun T28 => (tgi T28 a1 10 5).bind fun v32 => (tpi T28 a0 9 8 v32).bind fun T35 => (tgi T35 a1 10 6).bind fun v39 => (tpi T35 a0 9 9 v39).bind fun T42 => (tgi T42 a1 10 4).bind fun v46 => (tpz T42 a0 9 10 v46).bind fun T49 => (tgi T49 a1 10 9).bind fun v53 => (tpi T49 a0 9 13 v53).bind fun T56 => some T56
theorem T_c_Message_copyFetch {l : Launch} {w : List mM} {F : Nat} {a0 : Nat} {p0 : Option Nat} {T : tT} {Tz : tT} (ha0 : okr T.2.1 (some a0)) (hp0 : okr T.2.1 p0) (h : RT T w) (h0 : D_c_Message_copyFetch F a0 p0 T = some Tz) : m_Rb l M_113 (m_ent M_113 [.ref a0, rv p0] w) (fun v w' => v = none ∧ RT Tz w' ∧ m_Fm w w') T Tz 0 0 := by
  rw [show m_ent M_113 [.ref a0, rv p0] w = (0, [(0, .ref a0), (1, rv p0)], [], w) from by first | rfl | (simp only [m_ent, lv_args_r, lv_args_a, lv_args_i, lv_args_l, lv_args_0]; done) | (simp only [m_ent, lv_args_r, lv_args_a, lv_args_i, lv_args_l, lv_args_0]; rfl)]
  generalize hw0 : w = w0 at h ⊢
  have hF : m_Fm w0 w0 := m_Fm.refl
  rw [D_c_Message_copyFetch] at h0
  refine m_Rb.n0 b_113 (x_aload_n d_113_0 rfl) ?_
  refine m_Rb.n0 b_113 (x_aloadr_n (x := p0) d_113_1 rfl) ?_
  obtain ⟨a1, e2, j3⟩ := bS h0
  subst e2
  obtain ⟨v4, e5, j6⟩ := bS j3
  refine m_Rb.tgetI b_113 d_113_2 rfl h e5 ?_
  obtain ⟨T7, e8, j9⟩ := bS j6
  refine m_Rb.tputI b_113 d_113_5 rfl rfl (by decide) h hF e8 (fun w10 h10 f10 k10 => ?_)
  refine m_Rb.n0 b_113 (x_aload_n d_113_8 rfl) ?_
  refine m_Rb.n0 b_113 (x_aload_n d_113_9 rfl) ?_
  obtain ⟨v11, e12, j13⟩ := bS j9
  refine m_Rb.tgetI b_113 d_113_10 rfl h10 e12 ?_
  obtain ⟨T14, e15, j16⟩ := bS j13
  refine m_Rb.tputI b_113 d_113_13 rfl rfl (by decide) h10 f10 e15 (fun w17 h17 f17 k17 => ?_)
  refine m_Rb.n0 b_113 (x_aload_n d_113_16 rfl) ?_
  refine m_Rb.n0 b_113 (x_aload_n d_113_17 rfl) ?_
  obtain ⟨v18, e19, j20⟩ := bS j16
  refine m_Rb.tgetI b_113 d_113_18 rfl h17 e19 ?_
  obtain ⟨T21, e22, j23⟩ := bS j20
  refine m_Rb.tputI b_113 d_113_21 rfl rfl (by decide) h17 f17 e22 (fun w24 h24 f24 k24 => ?_)
  refine m_Rb.n0 b_113 (x_aload_n d_113_24 rfl) ?_
  refine m_Rb.n0 b_113 (x_aload_n d_113_25 rfl) ?_
  obtain ⟨v25, e26, j27⟩ := bS j23
  refine m_Rb.tgetI b_113 d_113_26 rfl h24 e26 ?_
  obtain ⟨T28, e29, j30⟩ := bS j27
  refine m_Rb.tputI b_113 d_113_29 rfl rfl (by decide) h24 f24 e29 (fun w31 h31 f31 k31 => ?_)
  refine m_Rb.n0 b_113 (x_aload_n d_113_32 rfl) ?_
  refine m_Rb.n0 b_113 (x_aload_n d_113_33 rfl) ?_
  obtain ⟨v32, e33, j34⟩ := bS j30
  refine m_Rb.tgetI b_113 d_113_34 rfl h31 e33 ?_
  obtain ⟨T35, e36, j37⟩ := bS j34
  refine m_Rb.tputI b_113 d_113_37 rfl rfl (by decide) h31 f31 e36 (fun w38 h38 f38 k38 => ?_)
  refine m_Rb.n0 b_113 (x_aload_n d_113_40 rfl) ?_
  refine m_Rb.n0 b_113 (x_aload_n d_113_41 rfl) ?_
  obtain ⟨v39, e40, j41⟩ := bS j37
  refine m_Rb.tgetI b_113 d_113_42 rfl h38 e40 ?_
  obtain ⟨T42, e43, j44⟩ := bS j41
  refine m_Rb.tputI b_113 d_113_45 rfl rfl (by decide) h38 f38 e43 (fun w45 h45 f45 k45 => ?_)
  refine m_Rb.n0 b_113 (x_aload_n d_113_48 rfl) ?_
  refine m_Rb.n0 b_113 (x_aload_n d_113_49 rfl) ?_
  obtain ⟨v46, e47, j48⟩ := bS j44
  refine m_Rb.tgetI b_113 d_113_50 rfl h45 e47 ?_
  obtain ⟨T49, e50, j51⟩ := bS j48
  refine m_Rb.tputZ b_113 d_113_53 rfl rfl (by decide) h45 f45 e50 (fun w52 h52 f52 k52 => ?_)
  refine m_Rb.n0 b_113 (x_aload_n d_113_56 rfl) ?_
  refine m_Rb.n0 b_113 (x_aload_n d_113_57 rfl) ?_
  obtain ⟨v53, e54, j55⟩ := bS j51
  refine m_Rb.tgetI b_113 d_113_58 rfl h52 e54 ?_
  obtain ⟨T56, e57, j58⟩ := bS j55
  refine m_Rb.tputI b_113 d_113_61 rfl rfl (by decide) h52 f52 e57 (fun w59 h59 f59 k59 => ?_)
  cases j58
  exact m_Rb.ret b_113 (m_rt_vr d_113_64 rfl) ⟨rfl, h59, f59⟩
def D_c_Fetch_isHadWith (F : Nat) (a0 : Nat) (p0 : Option Nat) (T0 : tT) : Option (Int32) := (tgi T0 a0 10 0).bind fun v1 => (tgi T0 a0 10 1).bind fun v4 => (p0).bind fun a7 => (tcl T0 a7 11).bind fun _ => (D_c_Entry_isOf F a7 v1 v4 T0).bind fun v13 => cond (m_c1 .eq v13) (some (0 : Int32)) ((tgi T0 a7 11 3).bind fun v19 => (tgr T0 a7 11 2).bind fun v22 => (tgi T0 a0 10 2).bind fun v26 => (tgi T0 a0 10 3).bind fun v29 => (v22).bind fun a32 => (tcl T0 a32 13).bind fun _ => (D_c_Told_whichFor F a32 v26 v29 T0).bind fun v38 => cond (m_c2 .eq v19 v38) ((tgi T0 a7 11 4).bind fun v44 => (tgi T0 a0 10 9).bind fun v47 => (cond (m_c2 .lt v44 v47) (some (0 : Int32)) ((tgr T0 a7 11 2).bind fun v54 => (tgi T0 a0 10 5).bind fun v58 => (tgi T0 a0 10 6).bind fun v61 => (v54).bind fun a64 => (tcl T0 a64 13).bind fun _ => (D_c_Told_blocks F a64 v58 v61 T0).bind fun v70 => (tgi T0 a7 11 7).bind fun v74 => cond (m_c1 .ne (v70 &&& (v74 ^^^ ((-1) : Int32)))) (some (0 : Int32)) (some (1 : Int32)))).bind fun v79 => (bret v79).bind fun v82 => some v82) (some (0 : Int32)))
theorem T_c_Fetch_isHadWith {l : Launch} {w : List mM} {F : Nat} {a0 : Nat} {p0 : Option Nat} {T0 : tT} {yz : Int32} (ha0 : okr T0.2.1 (some a0)) (hp0 : okr T0.2.1 p0) (h : RT T0 w) (h0 : D_c_Fetch_isHadWith F a0 p0 T0 = some yz) : m_Rb l M_115 (m_ent M_115 [.ref a0, rv p0] w) (fun v w' => v = some (.int yz) ∧ RT T0 w' ∧ m_Fm w w') T0 T0 2 200 := by
  rw [show m_ent M_115 [.ref a0, rv p0] w = (0, [(0, .ref a0), (1, rv p0)], [], w) from by first | rfl | (simp only [m_ent, lv_args_r, lv_args_a, lv_args_i, lv_args_l, lv_args_0]; done) | (simp only [m_ent, lv_args_r, lv_args_a, lv_args_i, lv_args_l, lv_args_0]; rfl)]
  generalize hw0 : w = w0 at h ⊢
  have hF : m_Fm w0 w0 := m_Fm.refl
  rw [D_c_Fetch_isHadWith] at h0
  refine m_Rb.n0 b_115 (x_aloadr_n (x := p0) d_115_0 rfl) ?_
  refine m_Rb.n0 b_115 (x_aload_n d_115_1 rfl) ?_
  obtain ⟨v1, e2, j3⟩ := bS h0
  refine m_Rb.tgetI b_115 d_115_2 rfl h e2 ?_
  refine m_Rb.n0 b_115 (x_aload_n d_115_5 rfl) ?_
  obtain ⟨v4, e5, j6⟩ := bS j3
  refine m_Rb.tgetI b_115 d_115_6 rfl h e5 ?_
  obtain ⟨a7, e8, j9⟩ := bS j6
  subst e8
  obtain ⟨_, e10, j11⟩ := bS j9
  obtain ⟨_, g12⟩ := RT.cls h e10
  obtain ⟨v13, e14, j15⟩ := bS j11
  refine m_Rb.callI b_115 (y_cv d_115_9 rfl q_81 (m_isRecv_of rfl g12) (show m_takeI _ _ = some (_, [_, _, _], []) from m_takeI_of rfl rfl rfl (Nat.le_of_ble_eq_true rfl)) (by simp only [m_okf, List.all_cons, List.all_nil, Bool.and_true, Bool.and_self, m_okv_i, m_okv_l, m_okv_0, m_okv_n0, m_okv_t, RT.okn h ha0, RT.okv h ha0, RT.okn h hp0, RT.okv h hp0]) rfl) (T_c_Entry_isOf hp0 h e14) hF rfl (fun w16 h16 f16 k16 => ?_) (by decide) (by decide)
  cases hc17 : m_c1 .eq v13 with
  | true =>
    have j18 := cT hc17 j15
    refine m_Rb.n0 b_115 (x_ift d_115_12 rfl hc17) ?_
    refine m_Rb.n0 b_115 (x_iconst (z := 0) d_115_37 (by decide)) ?_
    cases j18
    exact m_Rb.ret b_115 (m_rt_ir d_115_38 rfl m_nb0) ⟨rfl, h16, f16⟩
  | false =>
    have j18 := cF hc17 j15
    refine m_Rb.n0 b_115 (x_iff d_115_12 rfl hc17) ?_
    refine m_Rb.n0 b_115 (x_aload_n d_115_15 rfl) ?_
    obtain ⟨v19, e20, j21⟩ := bS j18
    refine m_Rb.tgetI b_115 d_115_16 rfl h16 e20 ?_
    refine m_Rb.n0 b_115 (x_aload_n d_115_19 rfl) ?_
    obtain ⟨v22, e23, j24⟩ := bS j21
    refine m_Rb.tgetR b_115 d_115_20 rfl h16 e23 (fun o25 => ?_)
    refine m_Rb.n0 b_115 (x_aload_n d_115_23 rfl) ?_
    obtain ⟨v26, e27, j28⟩ := bS j24
    refine m_Rb.tgetI b_115 d_115_24 rfl h16 e27 ?_
    refine m_Rb.n0 b_115 (x_aload_n d_115_27 rfl) ?_
    obtain ⟨v29, e30, j31⟩ := bS j28
    refine m_Rb.tgetI b_115 d_115_28 rfl h16 e30 ?_
    obtain ⟨a32, e33, j34⟩ := bS j31
    subst e33
    obtain ⟨_, e35, j36⟩ := bS j34
    obtain ⟨_, g37⟩ := RT.cls h16 e35
    obtain ⟨v38, e39, j40⟩ := bS j36
    refine m_Rb.callI b_115 (y_cv d_115_31 rfl q_82 (m_isRecv_of rfl g37) (show m_takeI _ _ = some (_, [_, _, _], [_]) from m_takeI_of rfl rfl rfl (Nat.le_of_ble_eq_true rfl)) (by simp only [m_okf, List.all_cons, List.all_nil, Bool.and_true, Bool.and_self, m_okv_i, m_okv_l, m_okv_0, m_okv_n0, m_okv_t, RT.okn h16 ha0, RT.okv h16 ha0, RT.okn h16 hp0, RT.okv h16 hp0, RT.okn h16 o25, RT.okv h16 o25]) rfl) (T_c_Told_whichFor o25 h16 e39) f16 rfl (fun w41 h41 f41 k41 => ?_) (by decide) (by decide)
    cases hc42 : m_c2 .eq v19 v38 with
    | true =>
      have j43 := cT hc42 j40
      refine m_Rb.n0 b_115 (x_ict d_115_34 rfl hc42) ?_
      refine m_Rb.n0 b_115 (x_aload_n d_115_39 rfl) ?_
      obtain ⟨v44, e45, j46⟩ := bS j43
      refine m_Rb.tgetI b_115 d_115_40 rfl h41 e45 ?_
      refine m_Rb.n0 b_115 (x_aload_n d_115_43 rfl) ?_
      obtain ⟨v47, e48, j49⟩ := bS j46
      refine m_Rb.tgetI b_115 d_115_44 rfl h41 e48 ?_
      obtain ⟨v79, e51, j80⟩ := bS j49
      have kk50 : ∀ (xz : Int32) (w1 : List mM), xz = v79 → RT T0 w1 → m_Fm w0 w1 → m_Rb l M_115 (80, [(0, .ref a0), (1, .ref a7)], [.int xz], w1) (fun v w' => v = some (.int yz) ∧ RT T0 w' ∧ m_Fm w0 w') T0 T0 2 200 := by
        intro xz w81 ez h81 f81
        rw [ez]
        obtain ⟨v82, e83, j84⟩ := bS j80
        cases j84
        exact m_Rb.retb b_115 d_115_80 rfl e83 ⟨rfl, h81, f81⟩
      cases hc52 : m_c2 .lt v44 v47 with
      | true =>
        have j53 := cT hc52 e51
        refine m_Rb.n0 b_115 (x_ict d_115_47 rfl hc52) ?_
        refine m_Rb.n0 b_115 (x_iconst (z := 0) d_115_79 (by decide)) ?_
        exact kk50 _ _ (Option.some.inj j53) h41 f41
      | false =>
        have j53 := cF hc52 e51
        refine m_Rb.n0 b_115 (x_icf d_115_47 rfl hc52) ?_
        refine m_Rb.n0 b_115 (x_aload_n d_115_50 rfl) ?_
        obtain ⟨v54, e55, j56⟩ := bS j53
        refine m_Rb.tgetR b_115 d_115_51 rfl h41 e55 (fun o57 => ?_)
        refine m_Rb.n0 b_115 (x_aload_n d_115_54 rfl) ?_
        obtain ⟨v58, e59, j60⟩ := bS j56
        refine m_Rb.tgetI b_115 d_115_55 rfl h41 e59 ?_
        refine m_Rb.n0 b_115 (x_aload_n d_115_58 rfl) ?_
        obtain ⟨v61, e62, j63⟩ := bS j60
        refine m_Rb.tgetI b_115 d_115_59 rfl h41 e62 ?_
        obtain ⟨a64, e65, j66⟩ := bS j63
        subst e65
        obtain ⟨_, e67, j68⟩ := bS j66
        obtain ⟨_, g69⟩ := RT.cls h41 e67
        obtain ⟨v70, e71, j72⟩ := bS j68
        refine m_Rb.callI b_115 (y_cv d_115_62 rfl q_85 (m_isRecv_of rfl g69) (show m_takeI _ _ = some (_, [_, _, _], []) from m_takeI_of rfl rfl rfl (Nat.le_of_ble_eq_true rfl)) (by simp only [m_okf, List.all_cons, List.all_nil, Bool.and_true, Bool.and_self, m_okv_i, m_okv_l, m_okv_0, m_okv_n0, m_okv_t, RT.okn h41 ha0, RT.okv h41 ha0, RT.okn h41 hp0, RT.okv h41 hp0, RT.okn h41 o57, RT.okv h41 o57]) rfl) (T_c_Told_blocks o57 h41 e71) f41 rfl (fun w73 h73 f73 k73 => ?_) (by decide) (by decide)
        refine m_Rb.n0 b_115 (x_aload_n d_115_65 rfl) ?_
        obtain ⟨v74, e75, j76⟩ := bS j72
        refine m_Rb.tgetI b_115 d_115_66 rfl h73 e75 ?_
        refine m_Rb.n0 b_115 (x_iconst (z := (-1)) d_115_69 (by decide)) ?_
        refine m_Rb.n0 b_115 (x_ixor d_115_70 rfl) ?_
        refine m_Rb.n0 b_115 (x_iand d_115_71 rfl) ?_
        cases hc77 : m_c1 .ne (v70 &&& (v74 ^^^ ((-1) : Int32))) with
        | true =>
          have j78 := cT hc77 j76
          refine m_Rb.n0 b_115 (x_ift d_115_72 rfl hc77) ?_
          refine m_Rb.n0 b_115 (x_iconst (z := 0) d_115_79 (by decide)) ?_
          exact kk50 _ _ (Option.some.inj j78) h73 f73
        | false =>
          have j78 := cF hc77 j76
          refine m_Rb.n0 b_115 (x_iff d_115_72 rfl hc77) ?_
          refine m_Rb.n0 b_115 (x_iconst (z := 1) d_115_75 (by decide)) ?_
          refine m_Rb.n0 b_115 (x_goto d_115_76 rfl) ?_
          exact kk50 _ _ (Option.some.inj j78) h73 f73
    | false =>
      have j43 := cF hc42 j40
      refine m_Rb.n0 b_115 (x_icf d_115_34 rfl hc42) ?_
      refine m_Rb.n0 b_115 (x_iconst (z := 0) d_115_37 (by decide)) ?_
      cases j43
      exact m_Rb.ret b_115 (m_rt_ir d_115_38 rfl m_nb0) ⟨rfl, h41, f41⟩
