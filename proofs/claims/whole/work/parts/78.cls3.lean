/-! The class's methods as guarded functions. Written by wip/tool/decc1.py. -/
theorem q_114 : m_mt[114]? = some M_114 := by rfl
theorem q_111 : m_mt[111]? = some M_111 := by rfl
theorem q_117 : m_mt[117]? = some M_117 := by rfl
theorem q_116 : m_mt[116]? = some M_116 := by rfl
theorem q_119 : m_mt[119]? = some M_119 := by rfl
theorem q_118 : m_mt[118]? = some M_118 := by rfl
theorem q_123 : m_mt[123]? = some M_123 := by rfl
theorem q_124 : m_mt[124]? = some M_124 := by rfl
theorem q_122 : m_mt[122]? = some M_122 := by rfl
theorem q_73 : m_mt[73]? = some M_73 := by rfl
theorem q_16 : m_mt[16]? = some M_16 := by rfl
theorem q_125 : m_mt[125]? = some M_125 := by rfl
theorem q_129 : m_mt[129]? = some M_129 := by rfl
theorem q_130 : m_mt[130]? = some M_130 := by rfl
theorem q_128 : m_mt[128]? = some M_128 := by rfl
theorem q_131 : m_mt[131]? = some M_131 := by rfl
theorem q_133 : m_mt[133]? = some M_133 := by rfl
theorem q_135 : m_mt[135]? = some M_135 := by rfl
theorem q_136 : m_mt[136]? = some M_136 := by rfl
theorem q_134 : m_mt[134]? = some M_134 := by rfl
theorem q_132 : m_mt[132]? = some M_132 := by rfl
theorem q_138 : m_mt[138]? = some M_138 := by rfl
theorem q_139 : m_mt[139]? = some M_139 := by rfl
theorem q_140 : m_mt[140]? = some M_140 := by rfl
theorem q_142 : m_mt[142]? = some M_142 := by rfl
theorem q_143 : m_mt[143]? = some M_143 := by rfl
theorem q_144 : m_mt[144]? = some M_144 := by rfl
theorem q_141 : m_mt[141]? = some M_141 := by rfl
theorem b_114 : m_bOk M_114 := (m_mt_ok M_114 (List.mem_of_getElem? q_114)).body
theorem b_111 : m_bOk M_111 := (m_mt_ok M_111 (List.mem_of_getElem? q_111)).body
theorem b_117 : m_bOk M_117 := (m_mt_ok M_117 (List.mem_of_getElem? q_117)).body
theorem b_116 : m_bOk M_116 := (m_mt_ok M_116 (List.mem_of_getElem? q_116)).body
theorem b_119 : m_bOk M_119 := (m_mt_ok M_119 (List.mem_of_getElem? q_119)).body
theorem b_118 : m_bOk M_118 := (m_mt_ok M_118 (List.mem_of_getElem? q_118)).body
theorem b_123 : m_bOk M_123 := (m_mt_ok M_123 (List.mem_of_getElem? q_123)).body
theorem b_124 : m_bOk M_124 := (m_mt_ok M_124 (List.mem_of_getElem? q_124)).body
theorem b_122 : m_bOk M_122 := (m_mt_ok M_122 (List.mem_of_getElem? q_122)).body
theorem b_73 : m_bOk M_73 := (m_mt_ok M_73 (List.mem_of_getElem? q_73)).body
theorem b_16 : m_bOk M_16 := (m_mt_ok M_16 (List.mem_of_getElem? q_16)).body
theorem b_125 : m_bOk M_125 := (m_mt_ok M_125 (List.mem_of_getElem? q_125)).body
theorem b_129 : m_bOk M_129 := (m_mt_ok M_129 (List.mem_of_getElem? q_129)).body
theorem b_130 : m_bOk M_130 := (m_mt_ok M_130 (List.mem_of_getElem? q_130)).body
theorem b_128 : m_bOk M_128 := (m_mt_ok M_128 (List.mem_of_getElem? q_128)).body
theorem b_131 : m_bOk M_131 := (m_mt_ok M_131 (List.mem_of_getElem? q_131)).body
theorem b_133 : m_bOk M_133 := (m_mt_ok M_133 (List.mem_of_getElem? q_133)).body
theorem b_135 : m_bOk M_135 := (m_mt_ok M_135 (List.mem_of_getElem? q_135)).body
theorem b_136 : m_bOk M_136 := (m_mt_ok M_136 (List.mem_of_getElem? q_136)).body
theorem b_134 : m_bOk M_134 := (m_mt_ok M_134 (List.mem_of_getElem? q_134)).body
theorem b_132 : m_bOk M_132 := (m_mt_ok M_132 (List.mem_of_getElem? q_132)).body
theorem b_138 : m_bOk M_138 := (m_mt_ok M_138 (List.mem_of_getElem? q_138)).body
theorem b_139 : m_bOk M_139 := (m_mt_ok M_139 (List.mem_of_getElem? q_139)).body
theorem b_140 : m_bOk M_140 := (m_mt_ok M_140 (List.mem_of_getElem? q_140)).body
theorem b_142 : m_bOk M_142 := (m_mt_ok M_142 (List.mem_of_getElem? q_142)).body
theorem b_143 : m_bOk M_143 := (m_mt_ok M_143 (List.mem_of_getElem? q_143)).body
theorem b_144 : m_bOk M_144 := (m_mt_ok M_144 (List.mem_of_getElem? q_144)).body
theorem b_141 : m_bOk M_141 := (m_mt_ok M_141 (List.mem_of_getElem? q_141)).body
theorem d_111_0 : m_dn M_111 0 (.iconst 0) 1 1 := by decide +kernel
theorem d_111_1 : m_dn M_111 1 (.istore_n 3) 1 2 := by decide +kernel
theorem d_111_100 : m_dn M_111 100 (.astore 4) 2 102 := by decide +kernel
theorem d_111_102 : m_dn M_111 102 (.aload 4) 2 104 := by decide +kernel
theorem d_111_104 : m_dn M_111 104 (.aload_n 2) 1 105 := by decide +kernel
theorem d_111_105 : m_dn M_111 105 (.invokevirtual 502) 3 108 := by decide +kernel
theorem d_111_108 : m_dn M_111 108 (.aload 4) 2 110 := by decide +kernel
theorem d_111_110 : m_dn M_111 110 (.aload_n 1) 1 111 := by decide +kernel
theorem d_111_111 : m_dn M_111 111 (.getfield 208) 3 114 := by decide +kernel
theorem d_111_114 : m_dn M_111 114 (.aload_n 2) 1 115 := by decide +kernel
theorem d_111_115 : m_dn M_111 115 (.invokevirtual 506) 3 118 := by decide +kernel
theorem d_111_118 : m_dn M_111 118 (.putfield 510) 3 121 := by decide +kernel
theorem d_111_12 : m_dn M_111 12 (.aload_n 0) 1 13 := by decide +kernel
theorem d_111_121 : m_dn M_111 121 (.aload_n 0) 1 122 := by decide +kernel
theorem d_111_122 : m_dn M_111 122 (.aload 4) 2 124 := by decide +kernel
theorem d_111_124 : m_dn M_111 124 (.invokevirtual 169) 3 127 := by decide +kernel
theorem d_111_127 : m_dn M_111 127 (.iconst 1) 1 128 := by decide +kernel
theorem d_111_128 : m_dn M_111 128 (.ireturn) 1 129 := by decide +kernel
theorem d_111_13 : m_dn M_111 13 (.iconst 1) 1 14 := by decide +kernel
theorem d_111_14 : m_dn M_111 14 (.iconst 2) 1 15 := by decide +kernel
theorem d_111_15 : m_dn M_111 15 (.aload_n 2) 1 16 := by decide +kernel
theorem d_111_16 : m_dn M_111 16 (.getfield 359) 3 19 := by decide +kernel
theorem d_111_19 : m_dn M_111 19 (.aload_n 2) 1 20 := by decide +kernel
theorem d_111_2 : m_dn M_111 2 (.aload_n 1) 1 3 := by decide +kernel
theorem d_111_20 : m_dn M_111 20 (.getfield 360) 3 23 := by decide +kernel
theorem d_111_23 : m_dn M_111 23 (.aload_n 1) 1 24 := by decide +kernel
theorem d_111_24 : m_dn M_111 24 (.invokevirtual 123) 3 27 := by decide +kernel
theorem d_111_27 : m_dn M_111 27 (.istore_n 3) 1 28 := by decide +kernel
theorem d_111_28 : m_dn M_111 28 (.iload_n 3) 1 29 := by decide +kernel
theorem d_111_29 : m_dn M_111 29 (.iconst (-1)) 1 30 := by decide +kernel
theorem d_111_3 : m_dn M_111 3 (.getfield 339) 3 6 := by decide +kernel
theorem d_111_30 : m_dn M_111 30 (.if_icmp .ne 5) 3 33 := by decide +kernel
theorem d_111_33 : m_dn M_111 33 (.iconst 0) 1 34 := by decide +kernel
theorem d_111_34 : m_dn M_111 34 (.ireturn) 1 35 := by decide +kernel
theorem d_111_35 : m_dn M_111 35 (.aload_n 1) 1 36 := by decide +kernel
theorem d_111_36 : m_dn M_111 36 (.dup) 1 37 := by decide +kernel
theorem d_111_37 : m_dn M_111 37 (.getfield 494) 3 40 := by decide +kernel
theorem d_111_40 : m_dn M_111 40 (.iconst 1) 1 41 := by decide +kernel
theorem d_111_41 : m_dn M_111 41 (.iadd) 1 42 := by decide +kernel
theorem d_111_42 : m_dn M_111 42 (.putfield 494) 3 45 := by decide +kernel
theorem d_111_45 : m_dn M_111 45 (.aload_n 2) 1 46 := by decide +kernel
theorem d_111_46 : m_dn M_111 46 (.aload_n 1) 1 47 := by decide +kernel
theorem d_111_47 : m_dn M_111 47 (.getfield 494) 3 50 := by decide +kernel
theorem d_111_50 : m_dn M_111 50 (.putfield 497) 3 53 := by decide +kernel
theorem d_111_53 : m_dn M_111 53 (.aload_n 2) 1 54 := by decide +kernel
theorem d_111_54 : m_dn M_111 54 (.iload_n 3) 1 55 := by decide +kernel
theorem d_111_55 : m_dn M_111 55 (.putfield 498) 3 58 := by decide +kernel
theorem d_111_58 : m_dn M_111 58 (.aload_n 2) 1 59 := by decide +kernel
theorem d_111_59 : m_dn M_111 59 (.aload_n 1) 1 60 := by decide +kernel
theorem d_111_6 : m_dn M_111 6 (.invokestatic 491) 3 9 := by decide +kernel
theorem d_111_60 : m_dn M_111 60 (.getfield 202) 3 63 := by decide +kernel
theorem d_111_63 : m_dn M_111 63 (.putfield 396) 3 66 := by decide +kernel
theorem d_111_66 : m_dn M_111 66 (.aload_n 2) 1 67 := by decide +kernel
theorem d_111_67 : m_dn M_111 67 (.aload_n 0) 1 68 := by decide +kernel
theorem d_111_68 : m_dn M_111 68 (.getfield 174) 3 71 := by decide +kernel
theorem d_111_71 : m_dn M_111 71 (.putfield 499) 3 74 := by decide +kernel
theorem d_111_74 : m_dn M_111 74 (.aload_n 1) 1 75 := by decide +kernel
theorem d_111_75 : m_dn M_111 75 (.getfield 184) 3 78 := by decide +kernel
theorem d_111_78 : m_dn M_111 78 (.aload_n 2) 1 79 := by decide +kernel
theorem d_111_79 : m_dn M_111 79 (.invokevirtual 105) 3 82 := by decide +kernel
theorem d_111_82 : m_dn M_111 82 (.pop) 1 83 := by decide +kernel
theorem d_111_83 : m_dn M_111 83 (.new 141) 3 86 := by decide +kernel
theorem d_111_86 : m_dn M_111 86 (.dup) 1 87 := by decide +kernel
theorem d_111_87 : m_dn M_111 87 (.iconst 0) 1 88 := by decide +kernel
theorem d_111_88 : m_dn M_111 88 (.aload_n 1) 1 89 := by decide +kernel
theorem d_111_89 : m_dn M_111 89 (.getfield 339) 3 92 := by decide +kernel
theorem d_111_9 : m_dn M_111 9 (.ifCond .eq 19) 3 12 := by decide +kernel
theorem d_111_92 : m_dn M_111 92 (.iload_n 3) 1 93 := by decide +kernel
theorem d_111_93 : m_dn M_111 93 (.aload_n 2) 1 94 := by decide +kernel
theorem d_111_94 : m_dn M_111 94 (.getfield 497) 3 97 := by decide +kernel
theorem d_111_97 : m_dn M_111 97 (.invokespecial 164) 3 100 := by decide +kernel
theorem d_114_0 : m_dn M_114 0 (.iconst 0) 1 1 := by decide +kernel
theorem d_114_1 : m_dn M_114 1 (.istore_n 2) 1 2 := by decide +kernel
theorem d_114_10 : m_dn M_114 10 (.aload_n 0) 1 11 := by decide +kernel
theorem d_114_11 : m_dn M_114 11 (.iload_n 2) 1 12 := by decide +kernel
theorem d_114_12 : m_dn M_114 12 (.invokevirtual 41) 3 15 := by decide +kernel
theorem d_114_15 : m_dn M_114 15 (.astore_n 3) 1 16 := by decide +kernel
theorem d_114_16 : m_dn M_114 16 (.aload_n 3) 1 17 := by decide +kernel
theorem d_114_17 : m_dn M_114 17 (.ifnull 19) 3 20 := by decide +kernel
theorem d_114_2 : m_dn M_114 2 (.iload_n 2) 1 3 := by decide +kernel
theorem d_114_20 : m_dn M_114 20 (.aload_n 1) 1 21 := by decide +kernel
theorem d_114_21 : m_dn M_114 21 (.aload_n 3) 1 22 := by decide +kernel
theorem d_114_22 : m_dn M_114 22 (.invokevirtual 56) 3 25 := by decide +kernel
theorem d_114_25 : m_dn M_114 25 (.ifCond .eq 11) 3 28 := by decide +kernel
theorem d_114_28 : m_dn M_114 28 (.aload_n 3) 1 29 := by decide +kernel
theorem d_114_29 : m_dn M_114 29 (.getfield 62) 3 32 := by decide +kernel
theorem d_114_3 : m_dn M_114 3 (.aload_n 0) 1 4 := by decide +kernel
theorem d_114_32 : m_dn M_114 32 (.getfield 66) 3 35 := by decide +kernel
theorem d_114_35 : m_dn M_114 35 (.ireturn) 1 36 := by decide +kernel
theorem d_114_36 : m_dn M_114 36 (.iinc 2 1) 3 39 := by decide +kernel
theorem d_114_39 : m_dn M_114 39 (.goto (-37)) 3 42 := by decide +kernel
theorem d_114_4 : m_dn M_114 4 (.invokevirtual 29) 3 7 := by decide +kernel
theorem d_114_42 : m_dn M_114 42 (.iconst 0) 1 43 := by decide +kernel
theorem d_114_43 : m_dn M_114 43 (.ireturn) 1 44 := by decide +kernel
theorem d_114_7 : m_dn M_114 7 (.if_icmp .ge 35) 3 10 := by decide +kernel
theorem d_116_0 : m_dn M_116 0 (.aload_n 2) 1 1 := by decide +kernel
theorem d_116_1 : m_dn M_116 1 (.astore 4) 2 3 := by decide +kernel
theorem d_116_10 : m_dn M_116 10 (.getfield 113) 3 13 := by decide +kernel
theorem d_116_13 : m_dn M_116 13 (.ifnull 16) 3 16 := by decide +kernel
theorem d_116_16 : m_dn M_116 16 (.aload_n 0) 1 17 := by decide +kernel
theorem d_116_17 : m_dn M_116 17 (.aload 4) 2 19 := by decide +kernel
theorem d_116_19 : m_dn M_116 19 (.getfield 113) 3 22 := by decide +kernel
theorem d_116_22 : m_dn M_116 22 (.iload_n 3) 1 23 := by decide +kernel
theorem d_116_23 : m_dn M_116 23 (.invokevirtual 109) 3 26 := by decide +kernel
theorem d_116_26 : m_dn M_116 26 (.goto 14) 3 29 := by decide +kernel
theorem d_116_29 : m_dn M_116 29 (.aload_n 0) 1 30 := by decide +kernel
theorem d_116_3 : m_dn M_116 3 (.aload 4) 2 5 := by decide +kernel
theorem d_116_30 : m_dn M_116 30 (.aload_n 1) 1 31 := by decide +kernel
theorem d_116_31 : m_dn M_116 31 (.getfield 339) 3 34 := by decide +kernel
theorem d_116_34 : m_dn M_116 34 (.aload 4) 2 36 := by decide +kernel
theorem d_116_36 : m_dn M_116 36 (.iload_n 3) 1 37 := by decide +kernel
theorem d_116_37 : m_dn M_116 37 (.invokevirtual 301) 3 40 := by decide +kernel
theorem d_116_40 : m_dn M_116 40 (.aload 4) 2 42 := by decide +kernel
theorem d_116_42 : m_dn M_116 42 (.getfield 196) 3 45 := by decide +kernel
theorem d_116_45 : m_dn M_116 45 (.astore 4) 2 47 := by decide +kernel
theorem d_116_47 : m_dn M_116 47 (.goto (-44)) 3 50 := by decide +kernel
theorem d_116_5 : m_dn M_116 5 (.ifnull 45) 3 8 := by decide +kernel
theorem d_116_50 : m_dn M_116 50 (.return_) 1 51 := by decide +kernel
theorem d_116_8 : m_dn M_116 8 (.aload 4) 2 10 := by decide +kernel
theorem d_117_0 : m_dn M_117 0 (.new 141) 3 3 := by decide +kernel
theorem d_117_10 : m_dn M_117 10 (.aload_n 2) 1 11 := by decide +kernel
theorem d_117_11 : m_dn M_117 11 (.getfield 537) 3 14 := by decide +kernel
theorem d_117_14 : m_dn M_117 14 (.invokespecial 164) 3 17 := by decide +kernel
theorem d_117_17 : m_dn M_117 17 (.astore 4) 2 19 := by decide +kernel
theorem d_117_19 : m_dn M_117 19 (.aload 4) 2 21 := by decide +kernel
theorem d_117_21 : m_dn M_117 21 (.aload_n 2) 1 22 := by decide +kernel
theorem d_117_22 : m_dn M_117 22 (.getfield 119) 3 25 := by decide +kernel
theorem d_117_25 : m_dn M_117 25 (.putfield 167) 3 28 := by decide +kernel
theorem d_117_28 : m_dn M_117 28 (.aload 4) 2 30 := by decide +kernel
theorem d_117_3 : m_dn M_117 3 (.dup) 1 4 := by decide +kernel
theorem d_117_30 : m_dn M_117 30 (.aload_n 2) 1 31 := by decide +kernel
theorem d_117_31 : m_dn M_117 31 (.getfield 120) 3 34 := by decide +kernel
theorem d_117_34 : m_dn M_117 34 (.putfield 168) 3 37 := by decide +kernel
theorem d_117_37 : m_dn M_117 37 (.aload 4) 2 39 := by decide +kernel
theorem d_117_39 : m_dn M_117 39 (.iload_n 3) 1 40 := by decide +kernel
theorem d_117_4 : m_dn M_117 4 (.iconst 1) 1 5 := by decide +kernel
theorem d_117_40 : m_dn M_117 40 (.putfield 346) 3 43 := by decide +kernel
theorem d_117_43 : m_dn M_117 43 (.aload_n 0) 1 44 := by decide +kernel
theorem d_117_44 : m_dn M_117 44 (.aload 4) 2 46 := by decide +kernel
theorem d_117_46 : m_dn M_117 46 (.invokevirtual 169) 3 49 := by decide +kernel
theorem d_117_49 : m_dn M_117 49 (.return_) 1 50 := by decide +kernel
theorem d_117_5 : m_dn M_117 5 (.iload_n 1) 1 6 := by decide +kernel
theorem d_117_6 : m_dn M_117 6 (.aload_n 2) 1 7 := by decide +kernel
theorem d_117_7 : m_dn M_117 7 (.getfield 536) 3 10 := by decide +kernel
theorem d_118_0 : m_dn M_118 0 (.aload_n 1) 1 1 := by decide +kernel
theorem d_118_1 : m_dn M_118 1 (.aload_n 2) 1 2 := by decide +kernel
theorem d_118_12 : m_dn M_118 12 (.astore 4) 2 14 := by decide +kernel
theorem d_118_14 : m_dn M_118 14 (.aload 4) 2 16 := by decide +kernel
theorem d_118_16 : m_dn M_118 16 (.ifnull 11) 3 19 := by decide +kernel
theorem d_118_19 : m_dn M_118 19 (.aload 4) 2 21 := by decide +kernel
theorem d_118_2 : m_dn M_118 2 (.getfield 119) 3 5 := by decide +kernel
theorem d_118_21 : m_dn M_118 21 (.aload_n 2) 1 22 := by decide +kernel
theorem d_118_22 : m_dn M_118 22 (.invokevirtual 471) 3 25 := by decide +kernel
theorem d_118_25 : m_dn M_118 25 (.aconst_null) 1 26 := by decide +kernel
theorem d_118_26 : m_dn M_118 26 (.areturn) 1 27 := by decide +kernel
theorem d_118_27 : m_dn M_118 27 (.aload_n 1) 1 28 := by decide +kernel
theorem d_118_28 : m_dn M_118 28 (.dup) 1 29 := by decide +kernel
theorem d_118_29 : m_dn M_118 29 (.getfield 474) 3 32 := by decide +kernel
theorem d_118_32 : m_dn M_118 32 (.iconst 1) 1 33 := by decide +kernel
theorem d_118_33 : m_dn M_118 33 (.iadd) 1 34 := by decide +kernel
theorem d_118_34 : m_dn M_118 34 (.putfield 474) 3 37 := by decide +kernel
theorem d_118_37 : m_dn M_118 37 (.new 190) 3 40 := by decide +kernel
theorem d_118_40 : m_dn M_118 40 (.dup) 1 41 := by decide +kernel
theorem d_118_41 : m_dn M_118 41 (.aload_n 2) 1 42 := by decide +kernel
theorem d_118_42 : m_dn M_118 42 (.invokespecial 461) 3 45 := by decide +kernel
theorem d_118_45 : m_dn M_118 45 (.astore 5) 2 47 := by decide +kernel
theorem d_118_47 : m_dn M_118 47 (.iload_n 3) 1 48 := by decide +kernel
theorem d_118_48 : m_dn M_118 48 (.ifCond .eq 24) 3 51 := by decide +kernel
theorem d_118_5 : m_dn M_118 5 (.aload_n 2) 1 6 := by decide +kernel
theorem d_118_51 : m_dn M_118 51 (.aload 5) 2 53 := by decide +kernel
theorem d_118_53 : m_dn M_118 53 (.iload_n 3) 1 54 := by decide +kernel
theorem d_118_54 : m_dn M_118 54 (.invokestatic 477) 3 57 := by decide +kernel
theorem d_118_57 : m_dn M_118 57 (.putfield 482) 3 60 := by decide +kernel
theorem d_118_6 : m_dn M_118 6 (.getfield 120) 3 9 := by decide +kernel
theorem d_118_60 : m_dn M_118 60 (.aload 5) 2 62 := by decide +kernel
theorem d_118_62 : m_dn M_118 62 (.bipush 31) 2 64 := by decide +kernel
theorem d_118_64 : m_dn M_118 64 (.iload_n 3) 1 65 := by decide +kernel
theorem d_118_65 : m_dn M_118 65 (.invokestatic 485) 3 68 := by decide +kernel
theorem d_118_68 : m_dn M_118 68 (.isub) 1 69 := by decide +kernel
theorem d_118_69 : m_dn M_118 69 (.putfield 488) 3 72 := by decide +kernel
theorem d_118_72 : m_dn M_118 72 (.aload 5) 2 74 := by decide +kernel
theorem d_118_74 : m_dn M_118 74 (.aload_n 2) 1 75 := by decide +kernel
theorem d_118_75 : m_dn M_118 75 (.invokevirtual 471) 3 78 := by decide +kernel
theorem d_118_78 : m_dn M_118 78 (.aload 5) 2 80 := by decide +kernel
theorem d_118_80 : m_dn M_118 80 (.areturn) 1 81 := by decide +kernel
theorem d_118_9 : m_dn M_118 9 (.invokevirtual 457) 3 12 := by decide +kernel
theorem d_119_0 : m_dn M_119 0 (.aload_n 1) 1 1 := by decide +kernel
theorem d_119_1 : m_dn M_119 1 (.aconst_null) 1 2 := by decide +kernel
theorem d_119_12 : m_dn M_119 12 (.aload_n 0) 1 13 := by decide +kernel
theorem d_119_13 : m_dn M_119 13 (.aload_n 1) 1 14 := by decide +kernel
theorem d_119_14 : m_dn M_119 14 (.putfield 48) 3 17 := by decide +kernel
theorem d_119_17 : m_dn M_119 17 (.goto 11) 3 20 := by decide +kernel
theorem d_119_2 : m_dn M_119 2 (.putfield 41) 3 5 := by decide +kernel
theorem d_119_20 : m_dn M_119 20 (.aload_n 0) 1 21 := by decide +kernel
theorem d_119_21 : m_dn M_119 21 (.getfield 45) 3 24 := by decide +kernel
theorem d_119_24 : m_dn M_119 24 (.aload_n 1) 1 25 := by decide +kernel
theorem d_119_25 : m_dn M_119 25 (.putfield 41) 3 28 := by decide +kernel
theorem d_119_28 : m_dn M_119 28 (.aload_n 0) 1 29 := by decide +kernel
theorem d_119_29 : m_dn M_119 29 (.aload_n 1) 1 30 := by decide +kernel
theorem d_119_30 : m_dn M_119 30 (.putfield 45) 3 33 := by decide +kernel
theorem d_119_33 : m_dn M_119 33 (.aload_n 0) 1 34 := by decide +kernel
theorem d_119_34 : m_dn M_119 34 (.dup) 1 35 := by decide +kernel
theorem d_119_35 : m_dn M_119 35 (.getfield 51) 3 38 := by decide +kernel
theorem d_119_38 : m_dn M_119 38 (.iconst 1) 1 39 := by decide +kernel
theorem d_119_39 : m_dn M_119 39 (.iadd) 1 40 := by decide +kernel
theorem d_119_40 : m_dn M_119 40 (.putfield 51) 3 43 := by decide +kernel
theorem d_119_43 : m_dn M_119 43 (.return_) 1 44 := by decide +kernel
theorem d_119_5 : m_dn M_119 5 (.aload_n 0) 1 6 := by decide +kernel
theorem d_119_6 : m_dn M_119 6 (.getfield 45) 3 9 := by decide +kernel
theorem d_119_9 : m_dn M_119 9 (.ifnonnull 11) 3 12 := by decide +kernel
theorem d_122_0 : m_dn M_122 0 (.aload_n 2) 1 1 := by decide +kernel
theorem d_122_1 : m_dn M_122 1 (.astore_n 3) 1 2 := by decide +kernel
theorem d_122_10 : m_dn M_122 10 (.aload_n 3) 1 11 := by decide +kernel
theorem d_122_100 : m_dn M_122 100 (.goto (-98)) 3 103 := by decide +kernel
theorem d_122_103 : m_dn M_122 103 (.return_) 1 104 := by decide +kernel
theorem d_122_11 : m_dn M_122 11 (.invokevirtual 430) 3 14 := by decide +kernel
theorem d_122_14 : m_dn M_122 14 (.astore 4) 2 16 := by decide +kernel
theorem d_122_16 : m_dn M_122 16 (.aload 4) 2 18 := by decide +kernel
theorem d_122_18 : m_dn M_122 18 (.ifnull 44) 3 21 := by decide +kernel
theorem d_122_2 : m_dn M_122 2 (.aload_n 3) 1 3 := by decide +kernel
theorem d_122_21 : m_dn M_122 21 (.aload 4) 2 23 := by decide +kernel
theorem d_122_23 : m_dn M_122 23 (.aload_n 3) 1 24 := by decide +kernel
theorem d_122_24 : m_dn M_122 24 (.invokevirtual 387) 3 27 := by decide +kernel
theorem d_122_27 : m_dn M_122 27 (.ifCond .eq 35) 3 30 := by decide +kernel
theorem d_122_3 : m_dn M_122 3 (.ifnull 100) 3 6 := by decide +kernel
theorem d_122_30 : m_dn M_122 30 (.aload 4) 2 32 := by decide +kernel
theorem d_122_32 : m_dn M_122 32 (.getfield 408) 3 35 := by decide +kernel
theorem d_122_35 : m_dn M_122 35 (.aload 4) 2 37 := by decide +kernel
theorem d_122_37 : m_dn M_122 37 (.aload_n 0) 1 38 := by decide +kernel
theorem d_122_38 : m_dn M_122 38 (.getfield 174) 3 41 := by decide +kernel
theorem d_122_41 : m_dn M_122 41 (.invokevirtual 434) 3 44 := by decide +kernel
theorem d_122_44 : m_dn M_122 44 (.invokevirtual 516) 3 47 := by decide +kernel
theorem d_122_47 : m_dn M_122 47 (.ifCond .eq 15) 3 50 := by decide +kernel
theorem d_122_50 : m_dn M_122 50 (.aload_n 0) 1 51 := by decide +kernel
theorem d_122_51 : m_dn M_122 51 (.aload_n 1) 1 52 := by decide +kernel
theorem d_122_52 : m_dn M_122 52 (.aload_n 3) 1 53 := by decide +kernel
theorem d_122_53 : m_dn M_122 53 (.aload 4) 2 55 := by decide +kernel
theorem d_122_55 : m_dn M_122 55 (.iconst 2) 1 56 := by decide +kernel
theorem d_122_56 : m_dn M_122 56 (.invokevirtual 391) 3 59 := by decide +kernel
theorem d_122_59 : m_dn M_122 59 (.goto 36) 3 62 := by decide +kernel
theorem d_122_6 : m_dn M_122 6 (.aload_n 1) 1 7 := by decide +kernel
theorem d_122_62 : m_dn M_122 62 (.aload_n 3) 1 63 := by decide +kernel
theorem d_122_63 : m_dn M_122 63 (.getfield 113) 3 66 := by decide +kernel
theorem d_122_66 : m_dn M_122 66 (.ifnull 17) 3 69 := by decide +kernel
theorem d_122_69 : m_dn M_122 69 (.aload_n 0) 1 70 := by decide +kernel
theorem d_122_7 : m_dn M_122 7 (.getfield 208) 3 10 := by decide +kernel
theorem d_122_70 : m_dn M_122 70 (.aload_n 3) 1 71 := by decide +kernel
theorem d_122_71 : m_dn M_122 71 (.getfield 113) 3 74 := by decide +kernel
theorem d_122_74 : m_dn M_122 74 (.sipush 504) 3 77 := by decide +kernel
theorem d_122_77 : m_dn M_122 77 (.invokevirtual 109) 3 80 := by decide +kernel
theorem d_122_80 : m_dn M_122 80 (.goto 15) 3 83 := by decide +kernel
theorem d_122_83 : m_dn M_122 83 (.aload_n 0) 1 84 := by decide +kernel
theorem d_122_84 : m_dn M_122 84 (.aload_n 1) 1 85 := by decide +kernel
theorem d_122_85 : m_dn M_122 85 (.getfield 339) 3 88 := by decide +kernel
theorem d_122_88 : m_dn M_122 88 (.aload_n 3) 1 89 := by decide +kernel
theorem d_122_89 : m_dn M_122 89 (.sipush 504) 3 92 := by decide +kernel
theorem d_122_92 : m_dn M_122 92 (.invokevirtual 301) 3 95 := by decide +kernel
theorem d_122_95 : m_dn M_122 95 (.aload_n 3) 1 96 := by decide +kernel
theorem d_122_96 : m_dn M_122 96 (.getfield 196) 3 99 := by decide +kernel
theorem d_122_99 : m_dn M_122 99 (.astore_n 3) 1 100 := by decide +kernel
theorem d_123_0 : m_dn M_123 0 (.aload_n 0) 1 1 := by decide +kernel
theorem d_123_1 : m_dn M_123 1 (.aload_n 1) 1 2 := by decide +kernel
theorem d_123_12 : m_dn M_123 12 (.aload_n 1) 1 13 := by decide +kernel
theorem d_123_13 : m_dn M_123 13 (.getfield 52) 3 16 := by decide +kernel
theorem d_123_16 : m_dn M_123 16 (.if_icmp .lt 15) 3 19 := by decide +kernel
theorem d_123_19 : m_dn M_123 19 (.aload_n 1) 1 20 := by decide +kernel
theorem d_123_2 : m_dn M_123 2 (.invokevirtual 45) 3 5 := by decide +kernel
theorem d_123_20 : m_dn M_123 20 (.aload_n 0) 1 21 := by decide +kernel
theorem d_123_21 : m_dn M_123 21 (.invokevirtual 55) 3 24 := by decide +kernel
theorem d_123_24 : m_dn M_123 24 (.ifCond .ne 7) 3 27 := by decide +kernel
theorem d_123_27 : m_dn M_123 27 (.iconst 1) 1 28 := by decide +kernel
theorem d_123_28 : m_dn M_123 28 (.goto 4) 3 31 := by decide +kernel
theorem d_123_31 : m_dn M_123 31 (.iconst 0) 1 32 := by decide +kernel
theorem d_123_32 : m_dn M_123 32 (.ireturn) 1 33 := by decide +kernel
theorem d_123_5 : m_dn M_123 5 (.ifCond .eq 26) 3 8 := by decide +kernel
theorem d_123_8 : m_dn M_123 8 (.aload_n 0) 1 9 := by decide +kernel
theorem d_123_9 : m_dn M_123 9 (.getfield 49) 3 12 := by decide +kernel
theorem d_124_0 : m_dn M_124 0 (.iload_n 1) 1 1 := by decide +kernel
theorem d_124_1 : m_dn M_124 1 (.aload_n 0) 1 2 := by decide +kernel
theorem d_124_10 : m_dn M_124 10 (.if_icmp .ge 7) 3 13 := by decide +kernel
theorem d_124_13 : m_dn M_124 13 (.iconst 1) 1 14 := by decide +kernel
theorem d_124_14 : m_dn M_124 14 (.goto 4) 3 17 := by decide +kernel
theorem d_124_17 : m_dn M_124 17 (.iconst 0) 1 18 := by decide +kernel
theorem d_124_18 : m_dn M_124 18 (.ireturn) 1 19 := by decide +kernel
theorem d_124_2 : m_dn M_124 2 (.invokevirtual 17) 3 5 := by decide +kernel
theorem d_124_5 : m_dn M_124 5 (.aload_n 0) 1 6 := by decide +kernel
theorem d_124_6 : m_dn M_124 6 (.getfield 21) 3 9 := by decide +kernel
theorem d_124_9 : m_dn M_124 9 (.iadd) 1 10 := by decide +kernel
theorem d_125_0 : m_dn M_125 0 (.aload_n 0) 1 1 := by decide +kernel
theorem d_125_1 : m_dn M_125 1 (.getfield 10) 3 4 := by decide +kernel
theorem d_125_4 : m_dn M_125 4 (.getfield 134) 3 7 := by decide +kernel
theorem d_125_7 : m_dn M_125 7 (.ireturn) 1 8 := by decide +kernel
theorem d_128_0 : m_dn M_128 0 (.aload_n 1) 1 1 := by decide +kernel
theorem d_128_1 : m_dn M_128 1 (.getfield 282) 3 4 := by decide +kernel
theorem d_128_102 : m_dn M_128 102 (.invokespecial 314) 3 105 := by decide +kernel
theorem d_128_105 : m_dn M_128 105 (.astore 4) 2 107 := by decide +kernel
theorem d_128_107 : m_dn M_128 107 (.aload 4) 2 109 := by decide +kernel
theorem d_128_109 : m_dn M_128 109 (.aload_n 0) 1 110 := by decide +kernel
theorem d_128_110 : m_dn M_128 110 (.getfield 154) 3 113 := by decide +kernel
theorem d_128_113 : m_dn M_128 113 (.putfield 317) 3 116 := by decide +kernel
theorem d_128_116 : m_dn M_128 116 (.aload 4) 2 118 := by decide +kernel
theorem d_128_118 : m_dn M_128 118 (.aload_n 0) 1 119 := by decide +kernel
theorem d_128_119 : m_dn M_128 119 (.getfield 174) 3 122 := by decide +kernel
theorem d_128_12 : m_dn M_128 12 (.aload_n 0) 1 13 := by decide +kernel
theorem d_128_122 : m_dn M_128 122 (.putfield 320) 3 125 := by decide +kernel
theorem d_128_125 : m_dn M_128 125 (.aload 4) 2 127 := by decide +kernel
theorem d_128_127 : m_dn M_128 127 (.aload_n 3) 1 128 := by decide +kernel
theorem d_128_128 : m_dn M_128 128 (.iconst 0) 1 129 := by decide +kernel
theorem d_128_129 : m_dn M_128 129 (.bipush 15) 2 131 := by decide +kernel
theorem d_128_13 : m_dn M_128 13 (.getfield 154) 3 16 := by decide +kernel
theorem d_128_131 : m_dn M_128 131 (.invokevirtual 323) 3 134 := by decide +kernel
theorem d_128_134 : m_dn M_128 134 (.putfield 326) 3 137 := by decide +kernel
theorem d_128_137 : m_dn M_128 137 (.aload_n 0) 1 138 := by decide +kernel
theorem d_128_138 : m_dn M_128 138 (.iconst 0) 1 139 := by decide +kernel
theorem d_128_139 : m_dn M_128 139 (.aload_n 2) 1 140 := by decide +kernel
theorem d_128_140 : m_dn M_128 140 (.aload 4) 2 142 := by decide +kernel
theorem d_128_142 : m_dn M_128 142 (.invokevirtual 328) 3 145 := by decide +kernel
theorem d_128_145 : m_dn M_128 145 (.return_) 1 146 := by decide +kernel
theorem d_128_16 : m_dn M_128 16 (.if_icmp .ne 13) 3 19 := by decide +kernel
theorem d_128_19 : m_dn M_128 19 (.aload_n 0) 1 20 := by decide +kernel
theorem d_128_20 : m_dn M_128 20 (.dup) 1 21 := by decide +kernel
theorem d_128_21 : m_dn M_128 21 (.getfield 157) 3 24 := by decide +kernel
theorem d_128_24 : m_dn M_128 24 (.iconst 1) 1 25 := by decide +kernel
theorem d_128_25 : m_dn M_128 25 (.iadd) 1 26 := by decide +kernel
theorem d_128_26 : m_dn M_128 26 (.putfield 157) 3 29 := by decide +kernel
theorem d_128_29 : m_dn M_128 29 (.return_) 1 30 := by decide +kernel
theorem d_128_30 : m_dn M_128 30 (.new 114) 3 33 := by decide +kernel
theorem d_128_33 : m_dn M_128 33 (.dup) 1 34 := by decide +kernel
theorem d_128_34 : m_dn M_128 34 (.aload_n 1) 1 35 := by decide +kernel
theorem d_128_35 : m_dn M_128 35 (.invokespecial 293) 3 38 := by decide +kernel
theorem d_128_38 : m_dn M_128 38 (.astore_n 2) 1 39 := by decide +kernel
theorem d_128_39 : m_dn M_128 39 (.aload_n 1) 1 40 := by decide +kernel
theorem d_128_4 : m_dn M_128 4 (.iconst 3) 1 5 := by decide +kernel
theorem d_128_40 : m_dn M_128 40 (.getfield 167) 3 43 := by decide +kernel
theorem d_128_43 : m_dn M_128 43 (.invokestatic 80) 3 46 := by decide +kernel
theorem d_128_46 : m_dn M_128 46 (.ifCond .eq 15) 3 49 := by decide +kernel
theorem d_128_49 : m_dn M_128 49 (.aload_n 0) 1 50 := by decide +kernel
theorem d_128_5 : m_dn M_128 5 (.if_icmp .ne 25) 3 8 := by decide +kernel
theorem d_128_50 : m_dn M_128 50 (.getfield 18) 3 53 := by decide +kernel
theorem d_128_53 : m_dn M_128 53 (.aload_n 1) 1 54 := by decide +kernel
theorem d_128_54 : m_dn M_128 54 (.getfield 167) 3 57 := by decide +kernel
theorem d_128_57 : m_dn M_128 57 (.aaload) 1 58 := by decide +kernel
theorem d_128_58 : m_dn M_128 58 (.goto 4) 3 61 := by decide +kernel
theorem d_128_61 : m_dn M_128 61 (.aconst_null) 1 62 := by decide +kernel
theorem d_128_62 : m_dn M_128 62 (.astore_n 3) 1 63 := by decide +kernel
theorem d_128_63 : m_dn M_128 63 (.aload_n 3) 1 64 := by decide +kernel
theorem d_128_64 : m_dn M_128 64 (.ifnonnull 13) 3 67 := by decide +kernel
theorem d_128_67 : m_dn M_128 67 (.aload_n 0) 1 68 := by decide +kernel
theorem d_128_68 : m_dn M_128 68 (.iconst 0) 1 69 := by decide +kernel
theorem d_128_69 : m_dn M_128 69 (.aload_n 2) 1 70 := by decide +kernel
theorem d_128_70 : m_dn M_128 70 (.sipush 404) 3 73 := by decide +kernel
theorem d_128_73 : m_dn M_128 73 (.invokevirtual 301) 3 76 := by decide +kernel
theorem d_128_76 : m_dn M_128 76 (.return_) 1 77 := by decide +kernel
theorem d_128_77 : m_dn M_128 77 (.new 258) 3 80 := by decide +kernel
theorem d_128_8 : m_dn M_128 8 (.aload_n 1) 1 9 := by decide +kernel
theorem d_128_80 : m_dn M_128 80 (.dup) 1 81 := by decide +kernel
theorem d_128_81 : m_dn M_128 81 (.aload_n 2) 1 82 := by decide +kernel
theorem d_128_82 : m_dn M_128 82 (.getfield 119) 3 85 := by decide +kernel
theorem d_128_85 : m_dn M_128 85 (.aload_n 2) 1 86 := by decide +kernel
theorem d_128_86 : m_dn M_128 86 (.getfield 120) 3 89 := by decide +kernel
theorem d_128_89 : m_dn M_128 89 (.aload_n 3) 1 90 := by decide +kernel
theorem d_128_9 : m_dn M_128 9 (.getfield 298) 3 12 := by decide +kernel
theorem d_128_90 : m_dn M_128 90 (.aload_n 3) 1 91 := by decide +kernel
theorem d_128_91 : m_dn M_128 91 (.aload_n 2) 1 92 := by decide +kernel
theorem d_128_92 : m_dn M_128 92 (.getfield 305) 3 95 := by decide +kernel
theorem d_128_95 : m_dn M_128 95 (.aload_n 2) 1 96 := by decide +kernel
theorem d_128_96 : m_dn M_128 96 (.getfield 308) 3 99 := by decide +kernel
theorem d_128_99 : m_dn M_128 99 (.invokevirtual 311) 3 102 := by decide +kernel
theorem d_129_0 : m_dn M_129 0 (.aload_n 0) 1 1 := by decide +kernel
theorem d_129_1 : m_dn M_129 1 (.invokespecial 3) 3 4 := by decide +kernel
theorem d_129_10 : m_dn M_129 10 (.aload_n 0) 1 11 := by decide +kernel
theorem d_129_102 : m_dn M_129 102 (.putfield 67) 3 105 := by decide +kernel
theorem d_129_105 : m_dn M_129 105 (.aload_n 0) 1 106 := by decide +kernel
theorem d_129_106 : m_dn M_129 106 (.aload_n 1) 1 107 := by decide +kernel
theorem d_129_107 : m_dn M_129 107 (.getfield 68) 3 110 := by decide +kernel
theorem d_129_11 : m_dn M_129 11 (.iconst (-1)) 1 12 := by decide +kernel
theorem d_129_110 : m_dn M_129 110 (.putfield 71) 3 113 := by decide +kernel
theorem d_129_113 : m_dn M_129 113 (.return_) 1 114 := by decide +kernel
theorem d_129_12 : m_dn M_129 12 (.putfield 15) 3 15 := by decide +kernel
theorem d_129_15 : m_dn M_129 15 (.aload_n 0) 1 16 := by decide +kernel
theorem d_129_16 : m_dn M_129 16 (.iconst (-1)) 1 17 := by decide +kernel
theorem d_129_17 : m_dn M_129 17 (.putfield 18) 3 20 := by decide +kernel
theorem d_129_20 : m_dn M_129 20 (.aload_n 0) 1 21 := by decide +kernel
theorem d_129_21 : m_dn M_129 21 (.iconst (-1)) 1 22 := by decide +kernel
theorem d_129_22 : m_dn M_129 22 (.putfield 21) 3 25 := by decide +kernel
theorem d_129_25 : m_dn M_129 25 (.aload_n 0) 1 26 := by decide +kernel
theorem d_129_26 : m_dn M_129 26 (.aload_n 1) 1 27 := by decide +kernel
theorem d_129_27 : m_dn M_129 27 (.getfield 24) 3 30 := by decide +kernel
theorem d_129_30 : m_dn M_129 30 (.putfield 29) 3 33 := by decide +kernel
theorem d_129_33 : m_dn M_129 33 (.aload_n 0) 1 34 := by decide +kernel
theorem d_129_34 : m_dn M_129 34 (.aload_n 1) 1 35 := by decide +kernel
theorem d_129_35 : m_dn M_129 35 (.getfield 30) 3 38 := by decide +kernel
theorem d_129_38 : m_dn M_129 38 (.putfield 33) 3 41 := by decide +kernel
theorem d_129_4 : m_dn M_129 4 (.aload_n 0) 1 5 := by decide +kernel
theorem d_129_41 : m_dn M_129 41 (.aload_n 0) 1 42 := by decide +kernel
theorem d_129_42 : m_dn M_129 42 (.aload_n 1) 1 43 := by decide +kernel
theorem d_129_43 : m_dn M_129 43 (.getfield 34) 3 46 := by decide +kernel
theorem d_129_46 : m_dn M_129 46 (.putfield 37) 3 49 := by decide +kernel
theorem d_129_49 : m_dn M_129 49 (.aload_n 0) 1 50 := by decide +kernel
theorem d_129_5 : m_dn M_129 5 (.bipush 15) 2 7 := by decide +kernel
theorem d_129_50 : m_dn M_129 50 (.aload_n 1) 1 51 := by decide +kernel
theorem d_129_51 : m_dn M_129 51 (.getfield 38) 3 54 := by decide +kernel
theorem d_129_54 : m_dn M_129 54 (.putfield 41) 3 57 := by decide +kernel
theorem d_129_57 : m_dn M_129 57 (.aload_n 0) 1 58 := by decide +kernel
theorem d_129_58 : m_dn M_129 58 (.aload_n 1) 1 59 := by decide +kernel
theorem d_129_59 : m_dn M_129 59 (.getfield 42) 3 62 := by decide +kernel
theorem d_129_62 : m_dn M_129 62 (.putfield 45) 3 65 := by decide +kernel
theorem d_129_65 : m_dn M_129 65 (.aload_n 0) 1 66 := by decide +kernel
theorem d_129_66 : m_dn M_129 66 (.aload_n 1) 1 67 := by decide +kernel
theorem d_129_67 : m_dn M_129 67 (.getfield 46) 3 70 := by decide +kernel
theorem d_129_7 : m_dn M_129 7 (.putfield 9) 3 10 := by decide +kernel
theorem d_129_70 : m_dn M_129 70 (.putfield 9) 3 73 := by decide +kernel
theorem d_129_73 : m_dn M_129 73 (.aload_n 0) 1 74 := by decide +kernel
theorem d_129_74 : m_dn M_129 74 (.aload_n 1) 1 75 := by decide +kernel
theorem d_129_75 : m_dn M_129 75 (.getfield 47) 3 78 := by decide +kernel
theorem d_129_78 : m_dn M_129 78 (.putfield 51) 3 81 := by decide +kernel
theorem d_129_81 : m_dn M_129 81 (.aload_n 0) 1 82 := by decide +kernel
theorem d_129_82 : m_dn M_129 82 (.aload_n 1) 1 83 := by decide +kernel
theorem d_129_83 : m_dn M_129 83 (.getfield 52) 3 86 := by decide +kernel
theorem d_129_86 : m_dn M_129 86 (.putfield 55) 3 89 := by decide +kernel
theorem d_129_89 : m_dn M_129 89 (.aload_n 0) 1 90 := by decide +kernel
theorem d_129_90 : m_dn M_129 90 (.aload_n 1) 1 91 := by decide +kernel
theorem d_129_91 : m_dn M_129 91 (.getfield 58) 3 94 := by decide +kernel
theorem d_129_94 : m_dn M_129 94 (.putfield 61) 3 97 := by decide +kernel
theorem d_129_97 : m_dn M_129 97 (.aload_n 0) 1 98 := by decide +kernel
theorem d_129_98 : m_dn M_129 98 (.aload_n 1) 1 99 := by decide +kernel
theorem d_129_99 : m_dn M_129 99 (.getfield 64) 3 102 := by decide +kernel
theorem d_130_0 : m_dn M_130 0 (.aload_n 0) 1 1 := by decide +kernel
theorem d_130_1 : m_dn M_130 1 (.invokespecial 3) 3 4 := by decide +kernel
theorem d_130_10 : m_dn M_130 10 (.iload_n 2) 1 11 := by decide +kernel
theorem d_130_11 : m_dn M_130 11 (.putfield 15) 3 14 := by decide +kernel
theorem d_130_14 : m_dn M_130 14 (.aload_n 0) 1 15 := by decide +kernel
theorem d_130_15 : m_dn M_130 15 (.aload_n 3) 1 16 := by decide +kernel
theorem d_130_16 : m_dn M_130 16 (.putfield 18) 3 19 := by decide +kernel
theorem d_130_19 : m_dn M_130 19 (.aload_n 0) 1 20 := by decide +kernel
theorem d_130_20 : m_dn M_130 20 (.iload 4) 2 22 := by decide +kernel
theorem d_130_22 : m_dn M_130 22 (.putfield 22) 3 25 := by decide +kernel
theorem d_130_25 : m_dn M_130 25 (.return_) 1 26 := by decide +kernel
theorem d_130_4 : m_dn M_130 4 (.aload_n 0) 1 5 := by decide +kernel
theorem d_130_5 : m_dn M_130 5 (.iload_n 1) 1 6 := by decide +kernel
theorem d_130_6 : m_dn M_130 6 (.putfield 9) 3 9 := by decide +kernel
theorem d_130_9 : m_dn M_130 9 (.aload_n 0) 1 10 := by decide +kernel
theorem d_131_0 : m_dn M_131 0 (.iload_n 0) 1 1 := by decide +kernel
theorem d_131_1 : m_dn M_131 1 (.iconst 1) 1 2 := by decide +kernel
theorem d_131_11 : m_dn M_131 11 (.iconst 1) 1 12 := by decide +kernel
theorem d_131_12 : m_dn M_131 12 (.goto 4) 3 15 := by decide +kernel
theorem d_131_15 : m_dn M_131 15 (.iconst 0) 1 16 := by decide +kernel
theorem d_131_16 : m_dn M_131 16 (.ireturn) 1 17 := by decide +kernel
theorem d_131_2 : m_dn M_131 2 (.if_icmp .lt 13) 3 5 := by decide +kernel
theorem d_131_5 : m_dn M_131 5 (.iload_n 0) 1 6 := by decide +kernel
theorem d_131_6 : m_dn M_131 6 (.bipush 6) 2 8 := by decide +kernel
theorem d_131_8 : m_dn M_131 8 (.if_icmp .gt 7) 3 11 := by decide +kernel
theorem d_132_0 : m_dn M_132 0 (.aload_n 1) 1 1 := by decide +kernel
theorem d_132_1 : m_dn M_132 1 (.aload_n 2) 1 2 := by decide +kernel
theorem d_132_12 : m_dn M_132 12 (.aload_n 2) 1 13 := by decide +kernel
theorem d_132_13 : m_dn M_132 13 (.getfield 168) 3 16 := by decide +kernel
theorem d_132_16 : m_dn M_132 16 (.aload_n 2) 1 17 := by decide +kernel
theorem d_132_17 : m_dn M_132 17 (.getfield 167) 3 20 := by decide +kernel
theorem d_132_2 : m_dn M_132 2 (.getfield 298) 3 5 := by decide +kernel
theorem d_132_20 : m_dn M_132 20 (.invokevirtual 335) 3 23 := by decide +kernel
theorem d_132_23 : m_dn M_132 23 (.aload_n 0) 1 24 := by decide +kernel
theorem d_132_24 : m_dn M_132 24 (.new 141) 3 27 := by decide +kernel
theorem d_132_27 : m_dn M_132 27 (.dup) 1 28 := by decide +kernel
theorem d_132_28 : m_dn M_132 28 (.iconst 3) 1 29 := by decide +kernel
theorem d_132_29 : m_dn M_132 29 (.aload_n 1) 1 30 := by decide +kernel
theorem d_132_30 : m_dn M_132 30 (.getfield 339) 3 33 := by decide +kernel
theorem d_132_33 : m_dn M_132 33 (.iconst 0) 1 34 := by decide +kernel
theorem d_132_34 : m_dn M_132 34 (.aload_n 2) 1 35 := by decide +kernel
theorem d_132_35 : m_dn M_132 35 (.getfield 298) 3 38 := by decide +kernel
theorem d_132_38 : m_dn M_132 38 (.invokespecial 164) 3 41 := by decide +kernel
theorem d_132_41 : m_dn M_132 41 (.invokevirtual 169) 3 44 := by decide +kernel
theorem d_132_44 : m_dn M_132 44 (.return_) 1 45 := by decide +kernel
theorem d_132_5 : m_dn M_132 5 (.invokevirtual 332) 3 8 := by decide +kernel
theorem d_132_8 : m_dn M_132 8 (.aload_n 1) 1 9 := by decide +kernel
theorem d_132_9 : m_dn M_132 9 (.getfield 208) 3 12 := by decide +kernel
theorem d_133_0 : m_dn M_133 0 (.iload_n 1) 1 1 := by decide +kernel
theorem d_133_1 : m_dn M_133 1 (.iconst 1) 1 2 := by decide +kernel
theorem d_133_10 : m_dn M_133 10 (.arraylength) 1 11 := by decide +kernel
theorem d_133_11 : m_dn M_133 11 (.if_icmp .ge 10) 3 14 := by decide +kernel
theorem d_133_14 : m_dn M_133 14 (.aload_n 0) 1 15 := by decide +kernel
theorem d_133_15 : m_dn M_133 15 (.getfield 25) 3 18 := by decide +kernel
theorem d_133_18 : m_dn M_133 18 (.iload_n 1) 1 19 := by decide +kernel
theorem d_133_19 : m_dn M_133 19 (.iconst 1) 1 20 := by decide +kernel
theorem d_133_2 : m_dn M_133 2 (.if_icmp .lt 19) 3 5 := by decide +kernel
theorem d_133_20 : m_dn M_133 20 (.bastore) 1 21 := by decide +kernel
theorem d_133_21 : m_dn M_133 21 (.aload_n 0) 1 22 := by decide +kernel
theorem d_133_22 : m_dn M_133 22 (.aload_n 0) 1 23 := by decide +kernel
theorem d_133_23 : m_dn M_133 23 (.getfield 66) 3 26 := by decide +kernel
theorem d_133_26 : m_dn M_133 26 (.iload_n 1) 1 27 := by decide +kernel
theorem d_133_27 : m_dn M_133 27 (.invokestatic 69) 3 30 := by decide +kernel
theorem d_133_30 : m_dn M_133 30 (.putfield 66) 3 33 := by decide +kernel
theorem d_133_33 : m_dn M_133 33 (.return_) 1 34 := by decide +kernel
theorem d_133_5 : m_dn M_133 5 (.iload_n 1) 1 6 := by decide +kernel
theorem d_133_6 : m_dn M_133 6 (.aload_n 0) 1 7 := by decide +kernel
theorem d_133_7 : m_dn M_133 7 (.getfield 25) 3 10 := by decide +kernel
theorem d_134_0 : m_dn M_134 0 (.aload_n 0) 1 1 := by decide +kernel
theorem d_134_1 : m_dn M_134 1 (.invokevirtual 29) 3 4 := by decide +kernel
theorem d_134_11 : m_dn M_134 11 (.aload_n 0) 1 12 := by decide +kernel
theorem d_134_12 : m_dn M_134 12 (.iload_n 3) 1 13 := by decide +kernel
theorem d_134_13 : m_dn M_134 13 (.invokevirtual 41) 3 16 := by decide +kernel
theorem d_134_16 : m_dn M_134 16 (.astore 4) 2 18 := by decide +kernel
theorem d_134_18 : m_dn M_134 18 (.aload 4) 2 20 := by decide +kernel
theorem d_134_20 : m_dn M_134 20 (.ifnull 21) 3 23 := by decide +kernel
theorem d_134_23 : m_dn M_134 23 (.aload 4) 2 25 := by decide +kernel
theorem d_134_25 : m_dn M_134 25 (.getfield 62) 3 28 := by decide +kernel
theorem d_134_28 : m_dn M_134 28 (.iload_n 1) 1 29 := by decide +kernel
theorem d_134_29 : m_dn M_134 29 (.iload_n 2) 1 30 := by decide +kernel
theorem d_134_30 : m_dn M_134 30 (.invokevirtual 92) 3 33 := by decide +kernel
theorem d_134_33 : m_dn M_134 33 (.ifCond .eq 8) 3 36 := by decide +kernel
theorem d_134_36 : m_dn M_134 36 (.aload_n 0) 1 37 := by decide +kernel
theorem d_134_37 : m_dn M_134 37 (.iload_n 3) 1 38 := by decide +kernel
theorem d_134_38 : m_dn M_134 38 (.invokevirtual 79) 3 41 := by decide +kernel
theorem d_134_4 : m_dn M_134 4 (.iconst 1) 1 5 := by decide +kernel
theorem d_134_41 : m_dn M_134 41 (.iinc 3 (-1)) 3 44 := by decide +kernel
theorem d_134_44 : m_dn M_134 44 (.goto (-37)) 3 47 := by decide +kernel
theorem d_134_47 : m_dn M_134 47 (.return_) 1 48 := by decide +kernel
theorem d_134_5 : m_dn M_134 5 (.isub) 1 6 := by decide +kernel
theorem d_134_6 : m_dn M_134 6 (.istore_n 3) 1 7 := by decide +kernel
theorem d_134_7 : m_dn M_134 7 (.iload_n 3) 1 8 := by decide +kernel
theorem d_134_8 : m_dn M_134 8 (.ifCond .lt 39) 3 11 := by decide +kernel
theorem d_135_0 : m_dn M_135 0 (.iload_n 1) 1 1 := by decide +kernel
theorem d_135_1 : m_dn M_135 1 (.ifCond .ne 19) 3 4 := by decide +kernel
theorem d_135_12 : m_dn M_135 12 (.iconst 1) 1 13 := by decide +kernel
theorem d_135_13 : m_dn M_135 13 (.goto 23) 3 16 := by decide +kernel
theorem d_135_16 : m_dn M_135 16 (.iconst 0) 1 17 := by decide +kernel
theorem d_135_17 : m_dn M_135 17 (.goto 19) 3 20 := by decide +kernel
theorem d_135_20 : m_dn M_135 20 (.aload_n 0) 1 21 := by decide +kernel
theorem d_135_21 : m_dn M_135 21 (.getfield 39) 3 24 := by decide +kernel
theorem d_135_24 : m_dn M_135 24 (.iconst 1) 1 25 := by decide +kernel
theorem d_135_25 : m_dn M_135 25 (.iload_n 2) 1 26 := by decide +kernel
theorem d_135_26 : m_dn M_135 26 (.ishl) 1 27 := by decide +kernel
theorem d_135_27 : m_dn M_135 27 (.iand) 1 28 := by decide +kernel
theorem d_135_28 : m_dn M_135 28 (.ifCond .eq 7) 3 31 := by decide +kernel
theorem d_135_31 : m_dn M_135 31 (.iconst 1) 1 32 := by decide +kernel
theorem d_135_32 : m_dn M_135 32 (.goto 4) 3 35 := by decide +kernel
theorem d_135_35 : m_dn M_135 35 (.iconst 0) 1 36 := by decide +kernel
theorem d_135_36 : m_dn M_135 36 (.ireturn) 1 37 := by decide +kernel
theorem d_135_4 : m_dn M_135 4 (.aload_n 0) 1 5 := by decide +kernel
theorem d_135_5 : m_dn M_135 5 (.getfield 36) 3 8 := by decide +kernel
theorem d_135_8 : m_dn M_135 8 (.iload_n 2) 1 9 := by decide +kernel
theorem d_135_9 : m_dn M_135 9 (.if_icmp .ne 7) 3 12 := by decide +kernel
theorem d_136_0 : m_dn M_136 0 (.iload_n 1) 1 1 := by decide +kernel
theorem d_136_1 : m_dn M_136 1 (.ifCond .lt 26) 3 4 := by decide +kernel
theorem d_136_12 : m_dn M_136 12 (.if_icmp .ge 15) 3 15 := by decide +kernel
theorem d_136_15 : m_dn M_136 15 (.aload_n 0) 1 16 := by decide +kernel
theorem d_136_16 : m_dn M_136 16 (.getfield 12) 3 19 := by decide +kernel
theorem d_136_19 : m_dn M_136 19 (.iload_n 1) 1 20 := by decide +kernel
theorem d_136_20 : m_dn M_136 20 (.invokevirtual 38) 3 23 := by decide +kernel
theorem d_136_23 : m_dn M_136 23 (.pop) 1 24 := by decide +kernel
theorem d_136_24 : m_dn M_136 24 (.goto 39) 3 27 := by decide +kernel
theorem d_136_27 : m_dn M_136 27 (.iload_n 1) 1 28 := by decide +kernel
theorem d_136_28 : m_dn M_136 28 (.aload_n 0) 1 29 := by decide +kernel
theorem d_136_29 : m_dn M_136 29 (.getfield 12) 3 32 := by decide +kernel
theorem d_136_32 : m_dn M_136 32 (.invokevirtual 25) 3 35 := by decide +kernel
theorem d_136_35 : m_dn M_136 35 (.if_icmp .lt 28) 3 38 := by decide +kernel
theorem d_136_38 : m_dn M_136 38 (.iload_n 1) 1 39 := by decide +kernel
theorem d_136_39 : m_dn M_136 39 (.aload_n 0) 1 40 := by decide +kernel
theorem d_136_4 : m_dn M_136 4 (.iload_n 1) 1 5 := by decide +kernel
theorem d_136_40 : m_dn M_136 40 (.invokevirtual 29) 3 43 := by decide +kernel
theorem d_136_43 : m_dn M_136 43 (.if_icmp .ge 20) 3 46 := by decide +kernel
theorem d_136_46 : m_dn M_136 46 (.aload_n 0) 1 47 := by decide +kernel
theorem d_136_47 : m_dn M_136 47 (.getfield 18) 3 50 := by decide +kernel
theorem d_136_5 : m_dn M_136 5 (.aload_n 0) 1 6 := by decide +kernel
theorem d_136_50 : m_dn M_136 50 (.iload_n 1) 1 51 := by decide +kernel
theorem d_136_51 : m_dn M_136 51 (.aload_n 0) 1 52 := by decide +kernel
theorem d_136_52 : m_dn M_136 52 (.getfield 12) 3 55 := by decide +kernel
theorem d_136_55 : m_dn M_136 55 (.invokevirtual 25) 3 58 := by decide +kernel
theorem d_136_58 : m_dn M_136 58 (.isub) 1 59 := by decide +kernel
theorem d_136_59 : m_dn M_136 59 (.invokevirtual 38) 3 62 := by decide +kernel
theorem d_136_6 : m_dn M_136 6 (.getfield 12) 3 9 := by decide +kernel
theorem d_136_62 : m_dn M_136 62 (.pop) 1 63 := by decide +kernel
theorem d_136_63 : m_dn M_136 63 (.return_) 1 64 := by decide +kernel
theorem d_136_9 : m_dn M_136 9 (.invokevirtual 25) 3 12 := by decide +kernel
theorem d_138_0 : m_dn M_138 0 (.iconst 0) 1 1 := by decide +kernel
theorem d_138_1 : m_dn M_138 1 (.istore_n 2) 1 2 := by decide +kernel
theorem d_138_10 : m_dn M_138 10 (.if_icmp .ge 39) 3 13 := by decide +kernel
theorem d_138_13 : m_dn M_138 13 (.aload_n 0) 1 14 := by decide +kernel
theorem d_138_14 : m_dn M_138 14 (.getfield 21) 3 17 := by decide +kernel
theorem d_138_17 : m_dn M_138 17 (.iload_n 2) 1 18 := by decide +kernel
theorem d_138_18 : m_dn M_138 18 (.invokevirtual 48) 3 21 := by decide +kernel
theorem d_138_2 : m_dn M_138 2 (.iload_n 2) 1 3 := by decide +kernel
theorem d_138_21 : m_dn M_138 21 (.checkcast 52) 3 24 := by decide +kernel
theorem d_138_24 : m_dn M_138 24 (.getfield 60) 3 27 := by decide +kernel
theorem d_138_27 : m_dn M_138 27 (.iload_n 1) 1 28 := by decide +kernel
theorem d_138_28 : m_dn M_138 28 (.if_icmp .ne 15) 3 31 := by decide +kernel
theorem d_138_3 : m_dn M_138 3 (.aload_n 0) 1 4 := by decide +kernel
theorem d_138_31 : m_dn M_138 31 (.aload_n 0) 1 32 := by decide +kernel
theorem d_138_32 : m_dn M_138 32 (.getfield 21) 3 35 := by decide +kernel
theorem d_138_35 : m_dn M_138 35 (.iload_n 2) 1 36 := by decide +kernel
theorem d_138_36 : m_dn M_138 36 (.invokevirtual 63) 3 39 := by decide +kernel
theorem d_138_39 : m_dn M_138 39 (.checkcast 52) 3 42 := by decide +kernel
theorem d_138_4 : m_dn M_138 4 (.getfield 21) 3 7 := by decide +kernel
theorem d_138_42 : m_dn M_138 42 (.areturn) 1 43 := by decide +kernel
theorem d_138_43 : m_dn M_138 43 (.iinc 2 1) 3 46 := by decide +kernel
theorem d_138_46 : m_dn M_138 46 (.goto (-44)) 3 49 := by decide +kernel
theorem d_138_49 : m_dn M_138 49 (.aconst_null) 1 50 := by decide +kernel
theorem d_138_50 : m_dn M_138 50 (.areturn) 1 51 := by decide +kernel
theorem d_138_7 : m_dn M_138 7 (.invokevirtual 44) 3 10 := by decide +kernel
theorem d_139_0 : m_dn M_139 0 (.iload_n 1) 1 1 := by decide +kernel
theorem d_139_1 : m_dn M_139 1 (.iconst 1) 1 2 := by decide +kernel
theorem d_139_10 : m_dn M_139 10 (.aload_n 0) 1 11 := by decide +kernel
theorem d_139_11 : m_dn M_139 11 (.getfield 29) 3 14 := by decide +kernel
theorem d_139_14 : m_dn M_139 14 (.iload_n 1) 1 15 := by decide +kernel
theorem d_139_15 : m_dn M_139 15 (.iconst 0) 1 16 := by decide +kernel
theorem d_139_16 : m_dn M_139 16 (.iastore) 1 17 := by decide +kernel
theorem d_139_17 : m_dn M_139 17 (.aload_n 0) 1 18 := by decide +kernel
theorem d_139_18 : m_dn M_139 18 (.getfield 33) 3 21 := by decide +kernel
theorem d_139_2 : m_dn M_139 2 (.if_icmp .lt 22) 3 5 := by decide +kernel
theorem d_139_21 : m_dn M_139 21 (.iload_n 1) 1 22 := by decide +kernel
theorem d_139_22 : m_dn M_139 22 (.iconst 0) 1 23 := by decide +kernel
theorem d_139_23 : m_dn M_139 23 (.iastore) 1 24 := by decide +kernel
theorem d_139_24 : m_dn M_139 24 (.return_) 1 25 := by decide +kernel
theorem d_139_5 : m_dn M_139 5 (.iload_n 1) 1 6 := by decide +kernel
theorem d_139_6 : m_dn M_139 6 (.iconst 2) 1 7 := by decide +kernel
theorem d_139_7 : m_dn M_139 7 (.if_icmp .gt 17) 3 10 := by decide +kernel
theorem d_140_0 : m_dn M_140 0 (.aload_n 0) 1 1 := by decide +kernel
theorem d_140_1 : m_dn M_140 1 (.invokevirtual 29) 3 4 := by decide +kernel
theorem d_140_11 : m_dn M_140 11 (.aload_n 0) 1 12 := by decide +kernel
theorem d_140_12 : m_dn M_140 12 (.iload_n 3) 1 13 := by decide +kernel
theorem d_140_13 : m_dn M_140 13 (.invokevirtual 41) 3 16 := by decide +kernel
theorem d_140_16 : m_dn M_140 16 (.astore 4) 2 18 := by decide +kernel
theorem d_140_18 : m_dn M_140 18 (.aload 4) 2 20 := by decide +kernel
theorem d_140_20 : m_dn M_140 20 (.ifnull 18) 3 23 := by decide +kernel
theorem d_140_23 : m_dn M_140 23 (.aload 4) 2 25 := by decide +kernel
theorem d_140_25 : m_dn M_140 25 (.iload_n 1) 1 26 := by decide +kernel
theorem d_140_26 : m_dn M_140 26 (.iload_n 2) 1 27 := by decide +kernel
theorem d_140_27 : m_dn M_140 27 (.invokevirtual 45) 3 30 := by decide +kernel
theorem d_140_30 : m_dn M_140 30 (.ifCond .eq 8) 3 33 := by decide +kernel
theorem d_140_33 : m_dn M_140 33 (.aload_n 0) 1 34 := by decide +kernel
theorem d_140_34 : m_dn M_140 34 (.iload_n 3) 1 35 := by decide +kernel
theorem d_140_35 : m_dn M_140 35 (.invokevirtual 79) 3 38 := by decide +kernel
theorem d_140_38 : m_dn M_140 38 (.iinc 3 (-1)) 3 41 := by decide +kernel
theorem d_140_4 : m_dn M_140 4 (.iconst 1) 1 5 := by decide +kernel
theorem d_140_41 : m_dn M_140 41 (.goto (-34)) 3 44 := by decide +kernel
theorem d_140_44 : m_dn M_140 44 (.return_) 1 45 := by decide +kernel
theorem d_140_5 : m_dn M_140 5 (.isub) 1 6 := by decide +kernel
theorem d_140_6 : m_dn M_140 6 (.istore_n 3) 1 7 := by decide +kernel
theorem d_140_7 : m_dn M_140 7 (.iload_n 3) 1 8 := by decide +kernel
theorem d_140_8 : m_dn M_140 8 (.ifCond .lt 36) 3 11 := by decide +kernel
theorem d_141_0 : m_dn M_141 0 (.aload_n 3) 1 1 := by decide +kernel
theorem d_141_1 : m_dn M_141 1 (.getfield 395) 3 4 := by decide +kernel
theorem d_141_101 : m_dn M_141 101 (.iload 4) 2 103 := by decide +kernel
theorem d_141_103 : m_dn M_141 103 (.invokevirtual 249) 3 106 := by decide +kernel
theorem d_141_106 : m_dn M_141 106 (.astore 5) 2 108 := by decide +kernel
theorem d_141_108 : m_dn M_141 108 (.aload 5) 2 110 := by decide +kernel
theorem d_141_11 : m_dn M_141 11 (.iconst 1) 1 12 := by decide +kernel
theorem d_141_110 : m_dn M_141 110 (.ifnull 21) 3 113 := by decide +kernel
theorem d_141_113 : m_dn M_141 113 (.aload 5) 2 115 := by decide +kernel
theorem d_141_115 : m_dn M_141 115 (.getfield 408) 3 118 := by decide +kernel
theorem d_141_118 : m_dn M_141 118 (.getfield 91) 3 121 := by decide +kernel
theorem d_141_12 : m_dn M_141 12 (.ireturn) 1 13 := by decide +kernel
theorem d_141_121 : m_dn M_141 121 (.aload_n 3) 1 122 := by decide +kernel
theorem d_141_122 : m_dn M_141 122 (.getfield 355) 3 125 := by decide +kernel
theorem d_141_125 : m_dn M_141 125 (.getfield 91) 3 128 := by decide +kernel
theorem d_141_128 : m_dn M_141 128 (.if_icmp .eq 7) 3 131 := by decide +kernel
theorem d_141_13 : m_dn M_141 13 (.aload_n 3) 1 14 := by decide +kernel
theorem d_141_131 : m_dn M_141 131 (.iconst 1) 1 132 := by decide +kernel
theorem d_141_132 : m_dn M_141 132 (.goto 4) 3 135 := by decide +kernel
theorem d_141_135 : m_dn M_141 135 (.iconst 0) 1 136 := by decide +kernel
theorem d_141_136 : m_dn M_141 136 (.ireturn) 1 137 := by decide +kernel
theorem d_141_14 : m_dn M_141 14 (.getfield 395) 3 17 := by decide +kernel
theorem d_141_17 : m_dn M_141 17 (.iconst 1) 1 18 := by decide +kernel
theorem d_141_18 : m_dn M_141 18 (.iadd) 1 19 := by decide +kernel
theorem d_141_19 : m_dn M_141 19 (.istore 4) 2 21 := by decide +kernel
theorem d_141_21 : m_dn M_141 21 (.iload 4) 2 23 := by decide +kernel
theorem d_141_23 : m_dn M_141 23 (.aload_n 0) 1 24 := by decide +kernel
theorem d_141_24 : m_dn M_141 24 (.getfield 154) 3 27 := by decide +kernel
theorem d_141_27 : m_dn M_141 27 (.if_icmp .gt 33) 3 30 := by decide +kernel
theorem d_141_30 : m_dn M_141 30 (.aload_n 1) 1 31 := by decide +kernel
theorem d_141_31 : m_dn M_141 31 (.iload 4) 2 33 := by decide +kernel
theorem d_141_33 : m_dn M_141 33 (.invokevirtual 399) 3 36 := by decide +kernel
theorem d_141_36 : m_dn M_141 36 (.ifCond .eq 18) 3 39 := by decide +kernel
theorem d_141_39 : m_dn M_141 39 (.aload_n 0) 1 40 := by decide +kernel
theorem d_141_4 : m_dn M_141 4 (.aload_n 2) 1 5 := by decide +kernel
theorem d_141_40 : m_dn M_141 40 (.iload 4) 2 42 := by decide +kernel
theorem d_141_42 : m_dn M_141 42 (.aload_n 3) 1 43 := by decide +kernel
theorem d_141_43 : m_dn M_141 43 (.getfield 355) 3 46 := by decide +kernel
theorem d_141_46 : m_dn M_141 46 (.invokevirtual 402) 3 49 := by decide +kernel
theorem d_141_49 : m_dn M_141 49 (.ifCond .eq 5) 3 52 := by decide +kernel
theorem d_141_5 : m_dn M_141 5 (.getfield 396) 3 8 := by decide +kernel
theorem d_141_52 : m_dn M_141 52 (.iconst 1) 1 53 := by decide +kernel
theorem d_141_53 : m_dn M_141 53 (.ireturn) 1 54 := by decide +kernel
theorem d_141_54 : m_dn M_141 54 (.iinc 4 1) 3 57 := by decide +kernel
theorem d_141_57 : m_dn M_141 57 (.goto (-36)) 3 60 := by decide +kernel
theorem d_141_60 : m_dn M_141 60 (.aload_n 3) 1 61 := by decide +kernel
theorem d_141_61 : m_dn M_141 61 (.getfield 346) 3 64 := by decide +kernel
theorem d_141_64 : m_dn M_141 64 (.sipush 304) 3 67 := by decide +kernel
theorem d_141_67 : m_dn M_141 67 (.if_icmp .eq 5) 3 70 := by decide +kernel
theorem d_141_70 : m_dn M_141 70 (.iconst 0) 1 71 := by decide +kernel
theorem d_141_71 : m_dn M_141 71 (.ireturn) 1 72 := by decide +kernel
theorem d_141_72 : m_dn M_141 72 (.aload_n 3) 1 73 := by decide +kernel
theorem d_141_73 : m_dn M_141 73 (.getfield 355) 3 76 := by decide +kernel
theorem d_141_76 : m_dn M_141 76 (.aload_n 2) 1 77 := by decide +kernel
theorem d_141_77 : m_dn M_141 77 (.getfield 406) 3 80 := by decide +kernel
theorem d_141_8 : m_dn M_141 8 (.if_icmp .ge 5) 3 11 := by decide +kernel
theorem d_141_80 : m_dn M_141 80 (.aload_n 2) 1 81 := by decide +kernel
theorem d_141_81 : m_dn M_141 81 (.getfield 407) 3 84 := by decide +kernel
theorem d_141_84 : m_dn M_141 84 (.invokevirtual 311) 3 87 := by decide +kernel
theorem d_141_87 : m_dn M_141 87 (.istore 4) 2 89 := by decide +kernel
theorem d_141_89 : m_dn M_141 89 (.aload_n 1) 1 90 := by decide +kernel
theorem d_141_90 : m_dn M_141 90 (.getfield 208) 3 93 := by decide +kernel
theorem d_141_93 : m_dn M_141 93 (.aload_n 2) 1 94 := by decide +kernel
theorem d_141_94 : m_dn M_141 94 (.getfield 359) 3 97 := by decide +kernel
theorem d_141_97 : m_dn M_141 97 (.aload_n 2) 1 98 := by decide +kernel
theorem d_141_98 : m_dn M_141 98 (.getfield 360) 3 101 := by decide +kernel
theorem d_142_0 : m_dn M_142 0 (.iload_n 1) 1 1 := by decide +kernel
theorem d_142_1 : m_dn M_142 1 (.iconst 1) 1 2 := by decide +kernel
theorem d_142_10 : m_dn M_142 10 (.arraylength) 1 11 := by decide +kernel
theorem d_142_11 : m_dn M_142 11 (.if_icmp .ge 16) 3 14 := by decide +kernel
theorem d_142_14 : m_dn M_142 14 (.aload_n 0) 1 15 := by decide +kernel
theorem d_142_15 : m_dn M_142 15 (.getfield 25) 3 18 := by decide +kernel
theorem d_142_18 : m_dn M_142 18 (.iload_n 1) 1 19 := by decide +kernel
theorem d_142_19 : m_dn M_142 19 (.baload) 1 20 := by decide +kernel
theorem d_142_2 : m_dn M_142 2 (.if_icmp .lt 25) 3 5 := by decide +kernel
theorem d_142_20 : m_dn M_142 20 (.ifCond .eq 7) 3 23 := by decide +kernel
theorem d_142_23 : m_dn M_142 23 (.iconst 1) 1 24 := by decide +kernel
theorem d_142_24 : m_dn M_142 24 (.goto 4) 3 27 := by decide +kernel
theorem d_142_27 : m_dn M_142 27 (.iconst 0) 1 28 := by decide +kernel
theorem d_142_28 : m_dn M_142 28 (.ireturn) 1 29 := by decide +kernel
theorem d_142_5 : m_dn M_142 5 (.iload_n 1) 1 6 := by decide +kernel
theorem d_142_6 : m_dn M_142 6 (.aload_n 0) 1 7 := by decide +kernel
theorem d_142_7 : m_dn M_142 7 (.getfield 25) 3 10 := by decide +kernel
theorem d_143_0 : m_dn M_143 0 (.iload_n 1) 1 1 := by decide +kernel
theorem d_143_1 : m_dn M_143 1 (.iconst 1) 1 2 := by decide +kernel
theorem d_143_11 : m_dn M_143 11 (.iconst 0) 1 12 := by decide +kernel
theorem d_143_12 : m_dn M_143 12 (.ireturn) 1 13 := by decide +kernel
theorem d_143_13 : m_dn M_143 13 (.aload_n 2) 1 14 := by decide +kernel
theorem d_143_14 : m_dn M_143 14 (.aload_n 0) 1 15 := by decide +kernel
theorem d_143_15 : m_dn M_143 15 (.getfield 35) 3 18 := by decide +kernel
theorem d_143_18 : m_dn M_143 18 (.iload_n 1) 1 19 := by decide +kernel
theorem d_143_19 : m_dn M_143 19 (.iaload) 1 20 := by decide +kernel
theorem d_143_2 : m_dn M_143 2 (.if_icmp .lt 9) 3 5 := by decide +kernel
theorem d_143_20 : m_dn M_143 20 (.aload_n 0) 1 21 := by decide +kernel
theorem d_143_21 : m_dn M_143 21 (.getfield 38) 3 24 := by decide +kernel
theorem d_143_24 : m_dn M_143 24 (.iload_n 1) 1 25 := by decide +kernel
theorem d_143_25 : m_dn M_143 25 (.iaload) 1 26 := by decide +kernel
theorem d_143_26 : m_dn M_143 26 (.invokevirtual 409) 3 29 := by decide +kernel
theorem d_143_29 : m_dn M_143 29 (.ireturn) 1 30 := by decide +kernel
theorem d_143_5 : m_dn M_143 5 (.iload_n 1) 1 6 := by decide +kernel
theorem d_143_6 : m_dn M_143 6 (.bipush 60) 2 8 := by decide +kernel
theorem d_143_8 : m_dn M_143 8 (.if_icmp .le 5) 3 11 := by decide +kernel
theorem d_144_0 : m_dn M_144 0 (.iconst 0) 1 1 := by decide +kernel
theorem d_144_1 : m_dn M_144 1 (.istore 4) 2 3 := by decide +kernel
theorem d_144_12 : m_dn M_144 12 (.aload_n 0) 1 13 := by decide +kernel
theorem d_144_13 : m_dn M_144 13 (.iload 4) 2 15 := by decide +kernel
theorem d_144_15 : m_dn M_144 15 (.invokevirtual 41) 3 18 := by decide +kernel
theorem d_144_18 : m_dn M_144 18 (.astore 5) 2 20 := by decide +kernel
theorem d_144_20 : m_dn M_144 20 (.aload 5) 2 22 := by decide +kernel
theorem d_144_22 : m_dn M_144 22 (.ifnull 25) 3 25 := by decide +kernel
theorem d_144_25 : m_dn M_144 25 (.aload 5) 2 27 := by decide +kernel
theorem d_144_27 : m_dn M_144 27 (.iload_n 1) 1 28 := by decide +kernel
theorem d_144_28 : m_dn M_144 28 (.iload_n 2) 1 29 := by decide +kernel
theorem d_144_29 : m_dn M_144 29 (.invokevirtual 45) 3 32 := by decide +kernel
theorem d_144_3 : m_dn M_144 3 (.iload 4) 2 5 := by decide +kernel
theorem d_144_32 : m_dn M_144 32 (.ifCond .eq 15) 3 35 := by decide +kernel
theorem d_144_35 : m_dn M_144 35 (.aload 5) 2 37 := by decide +kernel
theorem d_144_37 : m_dn M_144 37 (.getfield 49) 3 40 := by decide +kernel
theorem d_144_40 : m_dn M_144 40 (.iload_n 3) 1 41 := by decide +kernel
theorem d_144_41 : m_dn M_144 41 (.if_icmp .ne 6) 3 44 := by decide +kernel
theorem d_144_44 : m_dn M_144 44 (.aload 5) 2 46 := by decide +kernel
theorem d_144_46 : m_dn M_144 46 (.areturn) 1 47 := by decide +kernel
theorem d_144_47 : m_dn M_144 47 (.iinc 4 1) 3 50 := by decide +kernel
theorem d_144_5 : m_dn M_144 5 (.aload_n 0) 1 6 := by decide +kernel
theorem d_144_50 : m_dn M_144 50 (.goto (-47)) 3 53 := by decide +kernel
theorem d_144_53 : m_dn M_144 53 (.aconst_null) 1 54 := by decide +kernel
theorem d_144_54 : m_dn M_144 54 (.areturn) 1 55 := by decide +kernel
theorem d_144_6 : m_dn M_144 6 (.invokevirtual 29) 3 9 := by decide +kernel
theorem d_144_9 : m_dn M_144 9 (.if_icmp .ge 44) 3 12 := by decide +kernel
theorem d_16_0 : m_dn M_16 0 (.aload_n 0) 1 1 := by decide +kernel
theorem d_16_1 : m_dn M_16 1 (.getfield 48) 3 4 := by decide +kernel
theorem d_16_100 : m_dn M_16 100 (.iload_n 1) 1 101 := by decide +kernel
theorem d_16_101 : m_dn M_16 101 (.ireturn) 1 102 := by decide +kernel
theorem d_16_102 : m_dn M_16 102 (.aload_n 3) 1 103 := by decide +kernel
theorem d_16_103 : m_dn M_16 103 (.iload 4) 2 105 := by decide +kernel
theorem d_16_105 : m_dn M_16 105 (.putfield 127) 3 108 := by decide +kernel
theorem d_16_108 : m_dn M_16 108 (.aload_n 0) 1 109 := by decide +kernel
theorem d_16_109 : m_dn M_16 109 (.aload_n 0) 1 110 := by decide +kernel
theorem d_16_110 : m_dn M_16 110 (.getfield 28) 3 113 := by decide +kernel
theorem d_16_113 : m_dn M_16 113 (.iload 4) 2 115 := by decide +kernel
theorem d_16_115 : m_dn M_16 115 (.aaload) 1 116 := by decide +kernel
theorem d_16_116 : m_dn M_16 116 (.aload_n 2) 1 117 := by decide +kernel
theorem d_16_117 : m_dn M_16 117 (.invokevirtual 130) 3 120 := by decide +kernel
theorem d_16_12 : m_dn M_16 12 (.if_icmp .lt 5) 3 15 := by decide +kernel
theorem d_16_120 : m_dn M_16 120 (.iload_n 1) 1 121 := by decide +kernel
theorem d_16_121 : m_dn M_16 121 (.ireturn) 1 122 := by decide +kernel
theorem d_16_15 : m_dn M_16 15 (.iconst (-1)) 1 16 := by decide +kernel
theorem d_16_16 : m_dn M_16 16 (.ireturn) 1 17 := by decide +kernel
theorem d_16_17 : m_dn M_16 17 (.aload_n 0) 1 18 := by decide +kernel
theorem d_16_18 : m_dn M_16 18 (.getfield 10) 3 21 := by decide +kernel
theorem d_16_21 : m_dn M_16 21 (.invokevirtual 98) 3 24 := by decide +kernel
theorem d_16_24 : m_dn M_16 24 (.astore_n 2) 1 25 := by decide +kernel
theorem d_16_25 : m_dn M_16 25 (.aload_n 0) 1 26 := by decide +kernel
theorem d_16_26 : m_dn M_16 26 (.getfield 10) 3 29 := by decide +kernel
theorem d_16_29 : m_dn M_16 29 (.invokevirtual 73) 3 32 := by decide +kernel
theorem d_16_32 : m_dn M_16 32 (.new 102) 3 35 := by decide +kernel
theorem d_16_35 : m_dn M_16 35 (.dup) 1 36 := by decide +kernel
theorem d_16_36 : m_dn M_16 36 (.invokespecial 104) 3 39 := by decide +kernel
theorem d_16_39 : m_dn M_16 39 (.astore_n 3) 1 40 := by decide +kernel
theorem d_16_4 : m_dn M_16 4 (.invokevirtual 94) 3 7 := by decide +kernel
theorem d_16_40 : m_dn M_16 40 (.aload_n 0) 1 41 := by decide +kernel
theorem d_16_41 : m_dn M_16 41 (.getfield 48) 3 44 := by decide +kernel
theorem d_16_44 : m_dn M_16 44 (.aload_n 3) 1 45 := by decide +kernel
theorem d_16_45 : m_dn M_16 45 (.invokevirtual 105) 3 48 := by decide +kernel
theorem d_16_48 : m_dn M_16 48 (.pop) 1 49 := by decide +kernel
theorem d_16_49 : m_dn M_16 49 (.aload_n 2) 1 50 := by decide +kernel
theorem d_16_50 : m_dn M_16 50 (.ifnonnull 13) 3 53 := by decide +kernel
theorem d_16_53 : m_dn M_16 53 (.aload_n 0) 1 54 := by decide +kernel
theorem d_16_54 : m_dn M_16 54 (.aload_n 3) 1 55 := by decide +kernel
theorem d_16_55 : m_dn M_16 55 (.sipush 400) 3 58 := by decide +kernel
theorem d_16_58 : m_dn M_16 58 (.invokevirtual 109) 3 61 := by decide +kernel
theorem d_16_61 : m_dn M_16 61 (.iload_n 1) 1 62 := by decide +kernel
theorem d_16_62 : m_dn M_16 62 (.ireturn) 1 63 := by decide +kernel
theorem d_16_63 : m_dn M_16 63 (.aload_n 2) 1 64 := by decide +kernel
theorem d_16_64 : m_dn M_16 64 (.aload_n 3) 1 65 := by decide +kernel
theorem d_16_65 : m_dn M_16 65 (.putfield 113) 3 68 := by decide +kernel
theorem d_16_68 : m_dn M_16 68 (.aload_n 0) 1 69 := by decide +kernel
theorem d_16_69 : m_dn M_16 69 (.iconst 3) 1 70 := by decide +kernel
theorem d_16_7 : m_dn M_16 7 (.istore_n 1) 1 8 := by decide +kernel
theorem d_16_70 : m_dn M_16 70 (.bipush 6) 2 72 := by decide +kernel
theorem d_16_72 : m_dn M_16 72 (.aload_n 2) 1 73 := by decide +kernel
theorem d_16_73 : m_dn M_16 73 (.getfield 119) 3 76 := by decide +kernel
theorem d_16_76 : m_dn M_16 76 (.aload_n 2) 1 77 := by decide +kernel
theorem d_16_77 : m_dn M_16 77 (.getfield 120) 3 80 := by decide +kernel
theorem d_16_8 : m_dn M_16 8 (.iload_n 1) 1 9 := by decide +kernel
theorem d_16_80 : m_dn M_16 80 (.aconst_null) 1 81 := by decide +kernel
theorem d_16_81 : m_dn M_16 81 (.invokevirtual 123) 3 84 := by decide +kernel
theorem d_16_84 : m_dn M_16 84 (.istore 4) 2 86 := by decide +kernel
theorem d_16_86 : m_dn M_16 86 (.iload 4) 2 88 := by decide +kernel
theorem d_16_88 : m_dn M_16 88 (.iconst (-1)) 1 89 := by decide +kernel
theorem d_16_89 : m_dn M_16 89 (.if_icmp .ne 13) 3 92 := by decide +kernel
theorem d_16_9 : m_dn M_16 9 (.sipush 300) 3 12 := by decide +kernel
theorem d_16_92 : m_dn M_16 92 (.aload_n 0) 1 93 := by decide +kernel
theorem d_16_93 : m_dn M_16 93 (.aload_n 3) 1 94 := by decide +kernel
theorem d_16_94 : m_dn M_16 94 (.sipush 503) 3 97 := by decide +kernel
theorem d_16_97 : m_dn M_16 97 (.invokevirtual 109) 3 100 := by decide +kernel
theorem d_73_0 : m_dn M_73 0 (.aload_n 1) 1 1 := by decide +kernel
theorem d_73_1 : m_dn M_73 1 (.getfield 208) 3 4 := by decide +kernel
theorem d_73_10 : m_dn M_73 10 (.ifnonnull 7) 3 13 := by decide +kernel
theorem d_73_102 : m_dn M_73 102 (.iload 6) 2 104 := by decide +kernel
theorem d_73_104 : m_dn M_73 104 (.ifCond .ne 32) 3 107 := by decide +kernel
theorem d_73_107 : m_dn M_73 107 (.aload_n 1) 1 108 := by decide +kernel
theorem d_73_108 : m_dn M_73 108 (.dup) 1 109 := by decide +kernel
theorem d_73_109 : m_dn M_73 109 (.getfield 448) 3 112 := by decide +kernel
theorem d_73_112 : m_dn M_73 112 (.iconst 1) 1 113 := by decide +kernel
theorem d_73_113 : m_dn M_73 113 (.iadd) 1 114 := by decide +kernel
theorem d_73_114 : m_dn M_73 114 (.putfield 448) 3 117 := by decide +kernel
theorem d_73_117 : m_dn M_73 117 (.aload_n 1) 1 118 := by decide +kernel
theorem d_73_118 : m_dn M_73 118 (.getfield 208) 3 121 := by decide +kernel
theorem d_73_121 : m_dn M_73 121 (.aload_n 3) 1 122 := by decide +kernel
theorem d_73_122 : m_dn M_73 122 (.invokevirtual 451) 3 125 := by decide +kernel
theorem d_73_125 : m_dn M_73 125 (.aload_n 0) 1 126 := by decide +kernel
theorem d_73_126 : m_dn M_73 126 (.aload_n 1) 1 127 := by decide +kernel
theorem d_73_127 : m_dn M_73 127 (.aload_n 2) 1 128 := by decide +kernel
theorem d_73_128 : m_dn M_73 128 (.aload_n 3) 1 129 := by decide +kernel
theorem d_73_129 : m_dn M_73 129 (.iconst 1) 1 130 := by decide +kernel
theorem d_73_13 : m_dn M_73 13 (.iconst 0) 1 14 := by decide +kernel
theorem d_73_130 : m_dn M_73 130 (.invokevirtual 391) 3 133 := by decide +kernel
theorem d_73_133 : m_dn M_73 133 (.goto 132) 3 136 := by decide +kernel
theorem d_73_136 : m_dn M_73 136 (.iload 5) 2 138 := by decide +kernel
theorem d_73_138 : m_dn M_73 138 (.ifCond .eq 61) 3 141 := by decide +kernel
theorem d_73_14 : m_dn M_73 14 (.goto 11) 3 17 := by decide +kernel
theorem d_73_141 : m_dn M_73 141 (.iload 6) 2 143 := by decide +kernel
theorem d_73_143 : m_dn M_73 143 (.ifCond .ne 56) 3 146 := by decide +kernel
theorem d_73_146 : m_dn M_73 146 (.aload_n 2) 1 147 := by decide +kernel
theorem d_73_147 : m_dn M_73 147 (.aload_n 3) 1 148 := by decide +kernel
theorem d_73_148 : m_dn M_73 148 (.getfield 408) 3 151 := by decide +kernel
theorem d_73_151 : m_dn M_73 151 (.iload 4) 2 153 := by decide +kernel
theorem d_73_153 : m_dn M_73 153 (.invokevirtual 454) 3 156 := by decide +kernel
theorem d_73_156 : m_dn M_73 156 (.ifCond .eq 43) 3 159 := by decide +kernel
theorem d_73_159 : m_dn M_73 159 (.aload_n 0) 1 160 := by decide +kernel
theorem d_73_160 : m_dn M_73 160 (.aload_n 1) 1 161 := by decide +kernel
theorem d_73_161 : m_dn M_73 161 (.aload_n 2) 1 162 := by decide +kernel
theorem d_73_162 : m_dn M_73 162 (.aload_n 3) 1 163 := by decide +kernel
theorem d_73_163 : m_dn M_73 163 (.iconst 2) 1 164 := by decide +kernel
theorem d_73_164 : m_dn M_73 164 (.invokevirtual 391) 3 167 := by decide +kernel
theorem d_73_167 : m_dn M_73 167 (.aload_n 1) 1 168 := by decide +kernel
theorem d_73_168 : m_dn M_73 168 (.aload_n 2) 1 169 := by decide +kernel
theorem d_73_169 : m_dn M_73 169 (.getfield 119) 3 172 := by decide +kernel
theorem d_73_17 : m_dn M_73 17 (.aload_n 3) 1 18 := by decide +kernel
theorem d_73_172 : m_dn M_73 172 (.aload_n 2) 1 173 := by decide +kernel
theorem d_73_173 : m_dn M_73 173 (.getfield 120) 3 176 := by decide +kernel
theorem d_73_176 : m_dn M_73 176 (.invokevirtual 457) 3 179 := by decide +kernel
theorem d_73_179 : m_dn M_73 179 (.ifnonnull 86) 3 182 := by decide +kernel
theorem d_73_18 : m_dn M_73 18 (.aload_n 0) 1 19 := by decide +kernel
theorem d_73_182 : m_dn M_73 182 (.aload_n 0) 1 183 := by decide +kernel
theorem d_73_183 : m_dn M_73 183 (.aload_n 1) 1 184 := by decide +kernel
theorem d_73_184 : m_dn M_73 184 (.new 190) 3 187 := by decide +kernel
theorem d_73_187 : m_dn M_73 187 (.dup) 1 188 := by decide +kernel
theorem d_73_188 : m_dn M_73 188 (.aload_n 2) 1 189 := by decide +kernel
theorem d_73_189 : m_dn M_73 189 (.invokespecial 461) 3 192 := by decide +kernel
theorem d_73_19 : m_dn M_73 19 (.getfield 174) 3 22 := by decide +kernel
theorem d_73_192 : m_dn M_73 192 (.invokevirtual 372) 3 195 := by decide +kernel
theorem d_73_195 : m_dn M_73 195 (.pop) 1 196 := by decide +kernel
theorem d_73_196 : m_dn M_73 196 (.goto 69) 3 199 := by decide +kernel
theorem d_73_199 : m_dn M_73 199 (.aload_n 2) 1 200 := by decide +kernel
theorem d_73_200 : m_dn M_73 200 (.getfield 464) 3 203 := by decide +kernel
theorem d_73_203 : m_dn M_73 203 (.ifCond .eq 15) 3 206 := by decide +kernel
theorem d_73_206 : m_dn M_73 206 (.aload_n 0) 1 207 := by decide +kernel
theorem d_73_207 : m_dn M_73 207 (.aload_n 1) 1 208 := by decide +kernel
theorem d_73_208 : m_dn M_73 208 (.aload_n 2) 1 209 := by decide +kernel
theorem d_73_209 : m_dn M_73 209 (.sipush 504) 3 212 := by decide +kernel
theorem d_73_212 : m_dn M_73 212 (.invokevirtual 364) 3 215 := by decide +kernel
theorem d_73_215 : m_dn M_73 215 (.goto 50) 3 218 := by decide +kernel
theorem d_73_218 : m_dn M_73 218 (.aload_n 0) 1 219 := by decide +kernel
theorem d_73_219 : m_dn M_73 219 (.aload_n 1) 1 220 := by decide +kernel
theorem d_73_22 : m_dn M_73 22 (.invokevirtual 434) 3 25 := by decide +kernel
theorem d_73_220 : m_dn M_73 220 (.aload_n 2) 1 221 := by decide +kernel
theorem d_73_221 : m_dn M_73 221 (.iload 7) 2 223 := by decide +kernel
theorem d_73_223 : m_dn M_73 223 (.ifCond .eq 15) 3 226 := by decide +kernel
theorem d_73_226 : m_dn M_73 226 (.aload_n 2) 1 227 := by decide +kernel
theorem d_73_227 : m_dn M_73 227 (.getfield 295) 3 230 := by decide +kernel
theorem d_73_230 : m_dn M_73 230 (.ifCond .ne 8) 3 233 := by decide +kernel
theorem d_73_233 : m_dn M_73 233 (.iload 6) 2 235 := by decide +kernel
theorem d_73_235 : m_dn M_73 235 (.goto 4) 3 238 := by decide +kernel
theorem d_73_238 : m_dn M_73 238 (.iconst 0) 1 239 := by decide +kernel
theorem d_73_239 : m_dn M_73 239 (.invokevirtual 467) 3 242 := by decide +kernel
theorem d_73_242 : m_dn M_73 242 (.astore 8) 2 244 := by decide +kernel
theorem d_73_244 : m_dn M_73 244 (.aload 8) 2 246 := by decide +kernel
theorem d_73_246 : m_dn M_73 246 (.ifnull 19) 3 249 := by decide +kernel
theorem d_73_249 : m_dn M_73 249 (.aload_n 0) 1 250 := by decide +kernel
theorem d_73_25 : m_dn M_73 25 (.istore 4) 2 27 := by decide +kernel
theorem d_73_250 : m_dn M_73 250 (.aload_n 1) 1 251 := by decide +kernel
theorem d_73_251 : m_dn M_73 251 (.aload 8) 2 253 := by decide +kernel
theorem d_73_253 : m_dn M_73 253 (.invokevirtual 372) 3 256 := by decide +kernel
theorem d_73_256 : m_dn M_73 256 (.ifCond .ne 9) 3 259 := by decide +kernel
theorem d_73_259 : m_dn M_73 259 (.aload_n 0) 1 260 := by decide +kernel
theorem d_73_260 : m_dn M_73 260 (.aload_n 1) 1 261 := by decide +kernel
theorem d_73_261 : m_dn M_73 261 (.aload_n 2) 1 262 := by decide +kernel
theorem d_73_262 : m_dn M_73 262 (.invokevirtual 349) 3 265 := by decide +kernel
theorem d_73_265 : m_dn M_73 265 (.return_) 1 266 := by decide +kernel
theorem d_73_27 : m_dn M_73 27 (.aload_n 3) 1 28 := by decide +kernel
theorem d_73_28 : m_dn M_73 28 (.ifnull 25) 3 31 := by decide +kernel
theorem d_73_31 : m_dn M_73 31 (.aload_n 2) 1 32 := by decide +kernel
theorem d_73_32 : m_dn M_73 32 (.getfield 437) 3 35 := by decide +kernel
theorem d_73_35 : m_dn M_73 35 (.ifCond .ne 18) 3 38 := by decide +kernel
theorem d_73_38 : m_dn M_73 38 (.aload_n 3) 1 39 := by decide +kernel
theorem d_73_39 : m_dn M_73 39 (.getfield 317) 3 42 := by decide +kernel
theorem d_73_4 : m_dn M_73 4 (.aload_n 2) 1 5 := by decide +kernel
theorem d_73_42 : m_dn M_73 42 (.aload_n 2) 1 43 := by decide +kernel
theorem d_73_43 : m_dn M_73 43 (.getfield 440) 3 46 := by decide +kernel
theorem d_73_46 : m_dn M_73 46 (.if_icmp .lt 7) 3 49 := by decide +kernel
theorem d_73_49 : m_dn M_73 49 (.iconst 1) 1 50 := by decide +kernel
theorem d_73_5 : m_dn M_73 5 (.invokevirtual 430) 3 8 := by decide +kernel
theorem d_73_50 : m_dn M_73 50 (.goto 4) 3 53 := by decide +kernel
theorem d_73_53 : m_dn M_73 53 (.iconst 0) 1 54 := by decide +kernel
theorem d_73_54 : m_dn M_73 54 (.istore 5) 2 56 := by decide +kernel
theorem d_73_56 : m_dn M_73 56 (.iload 5) 2 58 := by decide +kernel
theorem d_73_58 : m_dn M_73 58 (.ifCond .eq 11) 3 61 := by decide +kernel
theorem d_73_61 : m_dn M_73 61 (.aload_n 2) 1 62 := by decide +kernel
theorem d_73_62 : m_dn M_73 62 (.aload_n 3) 1 63 := by decide +kernel
theorem d_73_63 : m_dn M_73 63 (.invokevirtual 441) 3 66 := by decide +kernel
theorem d_73_66 : m_dn M_73 66 (.goto 4) 3 69 := by decide +kernel
theorem d_73_69 : m_dn M_73 69 (.iconst 0) 1 70 := by decide +kernel
theorem d_73_70 : m_dn M_73 70 (.istore 6) 2 72 := by decide +kernel
theorem d_73_72 : m_dn M_73 72 (.iload 5) 2 74 := by decide +kernel
theorem d_73_74 : m_dn M_73 74 (.ifCond .eq 20) 3 77 := by decide +kernel
theorem d_73_77 : m_dn M_73 77 (.aload_n 2) 1 78 := by decide +kernel
theorem d_73_78 : m_dn M_73 78 (.aload_n 3) 1 79 := by decide +kernel
theorem d_73_79 : m_dn M_73 79 (.getfield 408) 3 82 := by decide +kernel
theorem d_73_8 : m_dn M_73 8 (.astore_n 3) 1 9 := by decide +kernel
theorem d_73_82 : m_dn M_73 82 (.iload 4) 2 84 := by decide +kernel
theorem d_73_84 : m_dn M_73 84 (.invokevirtual 444) 3 87 := by decide +kernel
theorem d_73_87 : m_dn M_73 87 (.ifCond .eq 7) 3 90 := by decide +kernel
theorem d_73_9 : m_dn M_73 9 (.aload_n 3) 1 10 := by decide +kernel
theorem d_73_90 : m_dn M_73 90 (.iconst 1) 1 91 := by decide +kernel
theorem d_73_91 : m_dn M_73 91 (.goto 4) 3 94 := by decide +kernel
theorem d_73_94 : m_dn M_73 94 (.iconst 0) 1 95 := by decide +kernel
theorem d_73_95 : m_dn M_73 95 (.istore 7) 2 97 := by decide +kernel
theorem d_73_97 : m_dn M_73 97 (.iload 7) 2 99 := by decide +kernel
theorem d_73_99 : m_dn M_73 99 (.ifCond .eq 37) 3 102 := by decide +kernel
def D_c_Store_versionHad_36 (F : Nat) (rec2 : Nat → Option Nat → Int32 → tT → Option (Int32)) (x0 : Nat) (x1 : Option Nat) (x2 : Int32) (T0 : tT) : Option (Int32) := rec2 x0 x1 (x2 + Int32.ofInt 1) T0
theorem T_c_Store_versionHad_36 {l : Launch} {w0 : List mM} {F : Nat} {T0 : tT} {rec2 : Nat → Option Nat → Int32 → tT → Option (Int32)} (hr2 : ∀ {x0 : Nat} {x1 : Option Nat} {x2 : Int32} {w : List mM} {yz : Int32}, okr T0.2.1 (some x0) → okr T0.2.1 x1 → RT T0 w → m_Fm w0 w → rec2 x0 x1 x2 T0 = some yz → m_Rb l M_114 (2, [(0, .ref x0), (1, rv x1), (2, .int x2)], [], w) (fun v w' => v = some (.int yz) ∧ RT T0 w' ∧ m_Fm w0 w') T0 T0 4 400) {x0 : Nat} {x1 : Option Nat} {x2 : Int32} {w : List mM} {yz : Int32} (hx0 : okr T0.2.1 (some x0)) (hx1 : okr T0.2.1 x1) (h : RT T0 w) (hF : m_Fm w0 w) (h0 : D_c_Store_versionHad_36 F rec2 x0 x1 x2 T0 = some yz) : m_Rb l M_114 (36, [(0, .ref x0), (1, rv x1), (2, .int x2)], [], w) (fun v w' => v = some (.int yz) ∧ RT T0 w' ∧ m_Fm w0 w') T0 T0 4 400 := by
  rw [D_c_Store_versionHad_36] at h0
  refine m_Rb.n0 b_114 (x_iinc d_114_36 rfl rfl rfl (show m_put1 _ _ _ = [(2, _), (0, _), (1, _)] from (m_p1r (by simp only [List.all_cons, List.all_nil, cat_rv]; rfl)).trans rfl)) ?_
  refine m_Rb.n0 b_114 (x_goto d_114_39 rfl) ?_
  exact m_Rb.pick [1, 2, 0] rfl (hr2 hx0 hx1 h hF h0)
def D_c_Store_versionHad_2 (F : Nat) : Nat → Nat → Option Nat → Int32 → tT → Option (Int32)
  | 0, _, _, _, _ => none
  | n + 1, x0, x1, x2, T0 => (tcl T0 x0 5).bind fun _ => (D_c_Store_count F x0 T0).bind fun v4 => cond (m_c2 .ge x2 v4) (some (0 : Int32)) ((tcl T0 x0 5).bind fun _ => (D_c_Store_at F x0 x2 T0).bind fun v13 => nc v13 (D_c_Store_versionHad_36 F (D_c_Store_versionHad_2 F n) x0 x1 x2 T0) fun a17 => ((x1).bind fun a19 => (tcl T0 a19 10).bind fun _ => (D_c_Fetch_isHadWith F a19 (some a17) T0).bind fun v25 => cond (m_c1 .eq v25) (D_c_Store_versionHad_36 F (D_c_Store_versionHad_2 F n) x0 (some a19) x2 T0) ((tgr T0 a17 11 2).bind fun v31 => (v31).bind fun a35 => (tgi T0 a35 13 1).bind fun v38 => some v38)))
theorem T_c_Store_versionHad_2 {l : Launch} {w0 : List mM} {F : Nat} {T0 : tT} : ∀ (n : Nat) {x0 : Nat} {x1 : Option Nat} {x2 : Int32} {w : List mM} {yz : Int32}, okr T0.2.1 (some x0) → okr T0.2.1 x1 → RT T0 w → m_Fm w0 w → D_c_Store_versionHad_2 F n x0 x1 x2 T0 = some yz → m_Rb l M_114 (2, [(0, .ref x0), (1, rv x1), (2, .int x2)], [], w) (fun v w' => v = some (.int yz) ∧ RT T0 w' ∧ m_Fm w0 w') T0 T0 4 400 := by
  intro n
  induction n with
  | zero => intro x0 x1 x2 w yz hx0 hx1 h hF h0; cases h0
  | succ n ih =>
    intro x0 x1 x2 w yz hx0 hx1 h hF h0
    rw [D_c_Store_versionHad_2] at h0
    refine m_Rb.n0 b_114 (x_iload_n d_114_2 rfl) ?_
    refine m_Rb.n0 b_114 (x_aload_n d_114_3 rfl) ?_
    obtain ⟨_, e1, j2⟩ := bS h0
    obtain ⟨_, g3⟩ := RT.cls h e1
    obtain ⟨v4, e5, j6⟩ := bS j2
    refine m_Rb.callI b_114 (y_cv d_114_4 rfl q_75 (m_isRecv_of rfl g3) (show m_takeI _ _ = some (_, [_], [_]) from m_takeI_of rfl rfl rfl (Nat.le_of_ble_eq_true rfl)) (by simp only [m_okf, List.all_cons, List.all_nil, Bool.and_true, Bool.and_self, m_okv_i, m_okv_l, m_okv_0, m_okv_n0, m_okv_t, RT.okn h hx0, RT.okv h hx0, RT.okv h hx1]) rfl) (T_c_Store_count hx0 h e5) hF rfl (fun w7 h7 f7 k7 => ?_) (by decide) (by decide)
    cases hc8 : m_c2 .ge x2 v4 with
    | true =>
      have j9 := cT hc8 j6
      refine m_Rb.n0 b_114 (x_ict d_114_7 rfl hc8) ?_
      refine m_Rb.n0 b_114 (x_iconst (z := 0) d_114_42 (by decide)) ?_
      cases j9
      exact m_Rb.ret b_114 (m_rt_ir d_114_43 rfl rfl) ⟨rfl, h7, f7⟩
    | false =>
      have j9 := cF hc8 j6
      refine m_Rb.n0 b_114 (x_icf d_114_7 rfl hc8) ?_
      refine m_Rb.n0 b_114 (x_aload_n d_114_10 rfl) ?_
      refine m_Rb.n0 b_114 (x_iload_n d_114_11 rfl) ?_
      obtain ⟨_, e10, j11⟩ := bS j9
      obtain ⟨_, g12⟩ := RT.cls h7 e10
      obtain ⟨v13, e14, j15⟩ := bS j11
      refine m_Rb.callR b_114 (y_cv d_114_12 rfl q_76 (m_isRecv_of rfl g12) (show m_takeI _ _ = some (_, [_, _], []) from m_takeI_of rfl rfl rfl (Nat.le_of_ble_eq_true rfl)) (by simp only [m_okf, List.all_cons, List.all_nil, Bool.and_true, Bool.and_self, m_okv_i, m_okv_l, m_okv_0, m_okv_n0, m_okv_t, RT.okn h7 hx0, RT.okv h7 hx0, RT.okv h7 hx1]) rfl) (T_c_Store_at hx0 h7 e14) f7 rfl (fun w16 o16 h16 f16 k16 => ?_) (by decide) (by decide)
      refine m_Rb.n0 b_114 (x_astorer_n (x := v13) d_114_15 rfl (show m_put1 _ _ _ = [(3, _), (0, _), (1, _), (2, _)] from rfl)) ?_
      refine m_Rb.n0 b_114 (x_aloadr_n (x := v13) d_114_16 rfl) ?_
      cases v13 with
      | none =>
        have j18 := nN j15
        refine m_Rb.n0 b_114 (x_ifnull0 d_114_17 rfl) ?_
        exact m_Rb.pick [1, 2, 3] rfl (T_c_Store_versionHad_36 ih hx0 hx1 h16 f16 j18)
      | some a17 =>
        have j18 := nS j15
        refine m_Rb.n0 b_114 (x_ifnull1 d_114_17 rfl) ?_
        refine m_Rb.n0 b_114 (x_aloadr_n (x := x1) d_114_20 rfl) ?_
        refine m_Rb.n0 b_114 (x_aload_n d_114_21 rfl) ?_
        obtain ⟨a19, e20, j21⟩ := bS j18
        subst e20
        obtain ⟨_, e22, j23⟩ := bS j21
        obtain ⟨_, g24⟩ := RT.cls h16 e22
        obtain ⟨v25, e26, j27⟩ := bS j23
        refine m_Rb.callI b_114 (y_cv d_114_22 rfl q_115 (m_isRecv_of rfl g24) (show m_takeI _ _ = some (_, [_, _], []) from m_takeI_of rfl rfl rfl (Nat.le_of_ble_eq_true rfl)) (by simp only [m_okf, List.all_cons, List.all_nil, Bool.and_true, Bool.and_self, m_okv_i, m_okv_l, m_okv_0, m_okv_n0, m_okv_t, RT.okn h16 o16, RT.okv h16 o16, RT.okn h16 hx0, RT.okv h16 hx0, RT.okn h16 hx1, RT.okv h16 hx1]) rfl) (T_c_Fetch_isHadWith hx1 o16 h16 e26) f16 rfl (fun w28 h28 f28 k28 => ?_) (by decide) (by decide)
        cases hc29 : m_c1 .eq v25 with
        | true =>
          have j30 := cT hc29 j27
          refine m_Rb.n0 b_114 (x_ift d_114_25 rfl hc29) ?_
          exact m_Rb.pick [1, 2, 3] rfl (T_c_Store_versionHad_36 ih hx0 hx1 h28 f28 j30)
        | false =>
          have j30 := cF hc29 j27
          refine m_Rb.n0 b_114 (x_iff d_114_25 rfl hc29) ?_
          refine m_Rb.n0 b_114 (x_aload_n d_114_28 rfl) ?_
          obtain ⟨v31, e32, j33⟩ := bS j30
          refine m_Rb.tgetR b_114 d_114_29 rfl h28 e32 (fun o34 => ?_)
          obtain ⟨a35, e36, j37⟩ := bS j33
          subst e36
          obtain ⟨v38, e39, j40⟩ := bS j37
          refine m_Rb.tgetI b_114 d_114_32 rfl h28 e39 ?_
          cases j40
          exact m_Rb.ret b_114 (m_rt_ir d_114_35 rfl rfl) ⟨rfl, h28, f28⟩
def D_c_Store_versionHad (F : Nat) (a0 : Nat) (p0 : Option Nat) (T0 : tT) : Option (Int32) := D_c_Store_versionHad_2 F F a0 p0 (0 : Int32) T0
theorem T_c_Store_versionHad {l : Launch} {w : List mM} {F : Nat} {a0 : Nat} {p0 : Option Nat} {T0 : tT} {yz : Int32} (ha0 : okr T0.2.1 (some a0)) (hp0 : okr T0.2.1 p0) (h : RT T0 w) (h0 : D_c_Store_versionHad F a0 p0 T0 = some yz) : m_Rb l M_114 (m_ent M_114 [.ref a0, rv p0] w) (fun v w' => v = some (.int yz) ∧ RT T0 w' ∧ m_Fm w w') T0 T0 4 400 := by
  rw [show m_ent M_114 [.ref a0, rv p0] w = (0, [(0, .ref a0), (1, rv p0)], [], w) from by first | rfl | (simp only [m_ent, lv_args_r, lv_args_a, lv_args_i, lv_args_l, lv_args_0]; done) | (simp only [m_ent, lv_args_r, lv_args_a, lv_args_i, lv_args_l, lv_args_0]; rfl)]
  generalize hw0 : w = w0 at h ⊢
  have hF : m_Fm w0 w0 := m_Fm.refl
  rw [D_c_Store_versionHad] at h0
  refine m_Rb.n0 b_114 (x_iconst (z := 0) d_114_0 (by decide)) ?_
  refine m_Rb.n0 b_114 (x_istore_n d_114_1 rfl (show m_put1 _ _ _ = [(2, _), (0, _), (1, _)] from (m_p1r (by simp only [List.all_cons, List.all_nil, cat_rv]; rfl)).trans rfl)) ?_
  exact m_Rb.pick [1, 2, 0] rfl (T_c_Store_versionHad_2 F ha0 hp0 h hF h0)
def D_c_EdgeHouse_sendFetch_28 (F : Nat) (x0 : Nat) (x1 : Option Nat) (x2 : Option Nat) (x3 : Int32) (T : tT) : Option (Int32 × tT) := cond (m_c2 .ne x3 ((-1) : Int32)) ((x1).bind fun a35 => (tgi T a35 4 10).bind fun v38 => (tpi T a35 4 10 (v38 + (1 : Int32))).bind fun T41 => (tgi T41 a35 4 10).bind fun v45 => (x2).bind fun a48 => (tpi T41 a48 10 7 v45).bind fun T51 => (tpi T51 a48 10 8 x3).bind fun T55 => (tgi T55 a35 4 7).bind fun v59 => (tpi T55 a48 10 9 v59).bind fun T62 => (tgi T62 x0 0 14).bind fun v66 => (tpi T62 a48 10 10 v66).bind fun T69 => (tgr T69 a35 4 2).bind fun v73 => (v73).bind fun a77 => (tla T69 a77 a48).bind fun T80 => bd2 (tnw T80 9) fun a84 T85 => (tgi T85 a35 4 0).bind fun v89 => (tgi T85 a48 10 7).bind fun v92 => (D_c_Message_init F a84 (0 : Int32) v89 x3 v92 T85).bind fun T95 => (tcl T95 a84 9).bind fun _ => (D_c_Message_copyFetch F a84 (some a48) T95).bind fun T102 => (tgr T102 a35 4 1).bind fun v106 => (v106).bind fun a110 => (tcl T102 a110 5).bind fun _ => (D_c_Store_versionHad F a110 (some a48) T102).bind fun v116 => (tpi T102 a84 9 11 v116).bind fun T120 => (tcl T120 x0 0).bind fun _ => (D_c_EdgeHouse_send F x0 (some a84) T120).bind fun T127 => some ((1 : Int32), T127)) (some ((0 : Int32), T))
theorem T_c_EdgeHouse_sendFetch_28 {l : Launch} {w0 : List mM} {F : Nat} {x0 : Nat} {x1 : Option Nat} {x2 : Option Nat} {x3 : Int32} {T : tT} {w : List mM} {yz : Int32} {Tz : tT} (hx0 : okr T.2.1 (some x0)) (hx1 : okr T.2.1 x1) (hx2 : okr T.2.1 x2) (h : RT T w) (hF : m_Fm w0 w) (h0 : D_c_EdgeHouse_sendFetch_28 F x0 x1 x2 x3 T = some (yz, Tz)) : m_Rb l M_111 (28, [(0, .ref x0), (1, rv x1), (2, rv x2), (3, .int x3)], [], w) (fun v w' => v = some (.int yz) ∧ RT Tz w' ∧ m_Fm w0 w') T Tz 14 1400 := by
  rw [D_c_EdgeHouse_sendFetch_28] at h0
  refine m_Rb.n0 b_111 (x_iload_n d_111_28 rfl) ?_
  refine m_Rb.n0 b_111 (x_iconst (z := (-1)) d_111_29 (by decide)) ?_
  cases hc33 : m_c2 .ne x3 ((-1) : Int32) with
  | true =>
    have j34 := cT hc33 h0
    refine m_Rb.n0 b_111 (x_ict d_111_30 rfl hc33) ?_
    refine m_Rb.n0 b_111 (x_aloadr_n (x := x1) d_111_35 rfl) ?_
    refine m_Rb.n0 b_111 (x_dup d_111_36 (cat_rv x1)) ?_
    obtain ⟨a35, e36, j37⟩ := bS j34
    subst e36
    obtain ⟨v38, e39, j40⟩ := bS j37
    refine m_Rb.tgetI b_111 d_111_37 rfl h e39 ?_
    refine m_Rb.n0 b_111 (x_iconst (z := 1) d_111_40 (by decide)) ?_
    refine m_Rb.n0 b_111 (x_iadd d_111_41 rfl) ?_
    obtain ⟨T41, e42, j43⟩ := bS j40
    refine m_Rb.tputI b_111 d_111_42 rfl rfl (by decide) h hF e42 (fun w44 h44 f44 k44 => ?_)
    refine m_Rb.n0 b_111 (x_aloadr_n (x := x2) d_111_45 rfl) ?_
    refine m_Rb.n0 b_111 (x_aload_n d_111_46 rfl) ?_
    obtain ⟨v45, e46, j47⟩ := bS j43
    refine m_Rb.tgetI b_111 d_111_47 rfl h44 e46 ?_
    obtain ⟨a48, e49, j50⟩ := bS j47
    subst e49
    obtain ⟨T51, e52, j53⟩ := bS j50
    refine m_Rb.tputI b_111 d_111_50 rfl rfl (by decide) h44 f44 e52 (fun w54 h54 f54 k54 => ?_)
    refine m_Rb.n0 b_111 (x_aload_n d_111_53 rfl) ?_
    refine m_Rb.n0 b_111 (x_iload_n d_111_54 rfl) ?_
    obtain ⟨T55, e56, j57⟩ := bS j53
    refine m_Rb.tputI b_111 d_111_55 rfl rfl (by decide) h54 f54 e56 (fun w58 h58 f58 k58 => ?_)
    refine m_Rb.n0 b_111 (x_aload_n d_111_58 rfl) ?_
    refine m_Rb.n0 b_111 (x_aload_n d_111_59 rfl) ?_
    obtain ⟨v59, e60, j61⟩ := bS j57
    refine m_Rb.tgetI b_111 d_111_60 rfl h58 e60 ?_
    obtain ⟨T62, e63, j64⟩ := bS j61
    refine m_Rb.tputI b_111 d_111_63 rfl rfl (by decide) h58 f58 e63 (fun w65 h65 f65 k65 => ?_)
    refine m_Rb.n0 b_111 (x_aload_n d_111_66 rfl) ?_
    refine m_Rb.n0 b_111 (x_aload_n d_111_67 rfl) ?_
    obtain ⟨v66, e67, j68⟩ := bS j64
    refine m_Rb.tgetI b_111 d_111_68 rfl h65 e67 ?_
    obtain ⟨T69, e70, j71⟩ := bS j68
    refine m_Rb.tputI b_111 d_111_71 rfl rfl (by decide) h65 f65 e70 (fun w72 h72 f72 k72 => ?_)
    refine m_Rb.n0 b_111 (x_aload_n d_111_74 rfl) ?_
    obtain ⟨v73, e74, j75⟩ := bS j71
    refine m_Rb.tgetR b_111 d_111_75 rfl h72 e74 (fun o76 => ?_)
    refine m_Rb.n0 b_111 (x_aload_n d_111_78 rfl) ?_
    obtain ⟨a77, e78, j79⟩ := bS j75
    subst e78
    obtain ⟨T80, e81, j82⟩ := bS j79
    refine m_Rb.tladd b_111 d_111_79 rfl (by simp only [m_okf, List.all_cons, List.all_nil, Bool.and_true, Bool.and_self, m_okv_i, m_okv_l, m_okv_0, m_okv_n0, m_okv_t, RT.okn h72 (okm (okm (okm (okm (okm hx0 k44) k54) k58) k65) k72), RT.okv h72 (okm (okm (okm (okm (okm hx0 k44) k54) k58) k65) k72), RT.okn h72 (okm (okm (okm (okm (okm hx1 k44) k54) k58) k65) k72), RT.okv h72 (okm (okm (okm (okm (okm hx1 k44) k54) k58) k65) k72), RT.okn h72 (okm (okm (okm (okm (okm hx2 k44) k54) k58) k65) k72), RT.okv h72 (okm (okm (okm (okm (okm hx2 k44) k54) k58) k65) k72), RT.okn h72 o76, RT.okv h72 o76]) (Nat.le_of_ble_eq_true rfl) h72 f72 e81 (fun w83 h83 f83 k83 => ?_) (by decide) (by decide)
    refine m_Rb.n0 b_111 (x_pop d_111_82 rfl) ?_
    obtain ⟨a84, T85, e86, j87⟩ := bS2 j82
    refine m_Rb.tnew b_111 d_111_83 rfl (by simp only [m_okf, List.all_cons, List.all_nil, Bool.and_true, Bool.and_self, m_okv_i, m_okv_l, m_okv_0, m_okv_n0, m_okv_t, RT.okn h83 (okm (okm (okm (okm (okm (okm hx0 k44) k54) k58) k65) k72) k83), RT.okv h83 (okm (okm (okm (okm (okm (okm hx0 k44) k54) k58) k65) k72) k83), RT.okn h83 (okm (okm (okm (okm (okm (okm hx1 k44) k54) k58) k65) k72) k83), RT.okv h83 (okm (okm (okm (okm (okm (okm hx1 k44) k54) k58) k65) k72) k83), RT.okn h83 (okm (okm (okm (okm (okm (okm hx2 k44) k54) k58) k65) k72) k83), RT.okv h83 (okm (okm (okm (okm (okm (okm hx2 k44) k54) k58) k65) k72) k83)]) h83 f83 e86 (fun w88 o88 h88 f88 k88 => ?_)
    refine m_Rb.n0 b_111 (x_dup d_111_86 rfl) ?_
    refine m_Rb.n0 b_111 (x_iconst (z := 0) d_111_87 (by decide)) ?_
    refine m_Rb.n0 b_111 (x_aload_n d_111_88 rfl) ?_
    obtain ⟨v89, e90, j91⟩ := bS j87
    refine m_Rb.tgetI b_111 d_111_89 rfl h88 e90 ?_
    refine m_Rb.n0 b_111 (x_iload_n d_111_92 rfl) ?_
    refine m_Rb.n0 b_111 (x_aload_n d_111_93 rfl) ?_
    obtain ⟨v92, e93, j94⟩ := bS j91
    refine m_Rb.tgetI b_111 d_111_94 rfl h88 e93 ?_
    obtain ⟨T95, e96, j97⟩ := bS j94
    refine m_Rb.callV b_111 (x_ci d_111_97 rfl (by decide) q_104 (show m_takeI _ _ = some (_, [_, _, _, _, _], [_]) from m_takeI_of rfl rfl rfl (Nat.le_of_ble_eq_true rfl)) (by simp only [m_okf, List.all_cons, List.all_nil, Bool.and_true, Bool.and_self, m_okv_i, m_okv_l, m_okv_0, m_okv_n0, m_okv_t, RT.okn h88 (okm (okm (okm (okm (okm (okm (okm hx0 k44) k54) k58) k65) k72) k83) k88), RT.okv h88 (okm (okm (okm (okm (okm (okm (okm hx0 k44) k54) k58) k65) k72) k83) k88), RT.okn h88 (okm (okm (okm (okm (okm (okm (okm hx1 k44) k54) k58) k65) k72) k83) k88), RT.okv h88 (okm (okm (okm (okm (okm (okm (okm hx1 k44) k54) k58) k65) k72) k83) k88), RT.okn h88 (okm (okm (okm (okm (okm (okm (okm hx2 k44) k54) k58) k65) k72) k83) k88), RT.okv h88 (okm (okm (okm (okm (okm (okm (okm hx2 k44) k54) k58) k65) k72) k83) k88), RT.okn h88 o88, RT.okv h88 o88]) rfl) (T_c_Message_init o88 h88 e96) f88 rfl (fun w98 h98 f98 k98 => ?_) (by decide) (by decide)
    refine m_Rb.n0 b_111 (x_astore d_111_100 rfl (show m_put1 _ _ _ = [(4, _), (0, _), (1, _), (2, _), (3, _)] from rfl)) ?_
    refine m_Rb.n0 b_111 (x_aload d_111_102 rfl) ?_
    refine m_Rb.n0 b_111 (x_aload_n d_111_104 rfl) ?_
    obtain ⟨_, e99, j100⟩ := bS j97
    obtain ⟨_, g101⟩ := RT.cls h98 e99
    obtain ⟨T102, e103, j104⟩ := bS j100
    refine m_Rb.callV b_111 (y_cv d_111_105 rfl q_113 (m_isRecv_of rfl g101) (show m_takeI _ _ = some (_, [_, _], []) from m_takeI_of rfl rfl rfl (Nat.le_of_ble_eq_true rfl)) (by simp only [m_okf, List.all_cons, List.all_nil, Bool.and_true, Bool.and_self, m_okv_i, m_okv_l, m_okv_0, m_okv_n0, m_okv_t, RT.okn h98 (okm o88 k98), RT.okv h98 (okm o88 k98), RT.okn h98 (okm (okm (okm (okm (okm (okm (okm (okm hx0 k44) k54) k58) k65) k72) k83) k88) k98), RT.okv h98 (okm (okm (okm (okm (okm (okm (okm (okm hx0 k44) k54) k58) k65) k72) k83) k88) k98), RT.okn h98 (okm (okm (okm (okm (okm (okm (okm (okm hx1 k44) k54) k58) k65) k72) k83) k88) k98), RT.okv h98 (okm (okm (okm (okm (okm (okm (okm (okm hx1 k44) k54) k58) k65) k72) k83) k88) k98), RT.okn h98 (okm (okm (okm (okm (okm (okm (okm (okm hx2 k44) k54) k58) k65) k72) k83) k88) k98), RT.okv h98 (okm (okm (okm (okm (okm (okm (okm (okm hx2 k44) k54) k58) k65) k72) k83) k88) k98)]) rfl) (T_c_Message_copyFetch (okm o88 k98) (okm (okm (okm (okm (okm (okm (okm (okm hx2 k44) k54) k58) k65) k72) k83) k88) k98) h98 e103) f98 rfl (fun w105 h105 f105 k105 => ?_) (by decide) (by decide)
    refine m_Rb.n0 b_111 (x_aload d_111_108 rfl) ?_
    refine m_Rb.n0 b_111 (x_aload_n d_111_110 rfl) ?_
    obtain ⟨v106, e107, j108⟩ := bS j104
    refine m_Rb.tgetR b_111 d_111_111 rfl h105 e107 (fun o109 => ?_)
    refine m_Rb.n0 b_111 (x_aload_n d_111_114 rfl) ?_
    obtain ⟨a110, e111, j112⟩ := bS j108
    subst e111
    obtain ⟨_, e113, j114⟩ := bS j112
    obtain ⟨_, g115⟩ := RT.cls h105 e113
    obtain ⟨v116, e117, j118⟩ := bS j114
    refine m_Rb.callI b_111 (y_cv d_111_115 rfl q_114 (m_isRecv_of rfl g115) (show m_takeI _ _ = some (_, [_, _], [_]) from m_takeI_of rfl rfl rfl (Nat.le_of_ble_eq_true rfl)) (by simp only [m_okf, List.all_cons, List.all_nil, Bool.and_true, Bool.and_self, m_okv_i, m_okv_l, m_okv_0, m_okv_n0, m_okv_t, RT.okn h105 (okm (okm o88 k98) k105), RT.okv h105 (okm (okm o88 k98) k105), RT.okn h105 (okm (okm (okm (okm (okm (okm (okm (okm (okm hx0 k44) k54) k58) k65) k72) k83) k88) k98) k105), RT.okv h105 (okm (okm (okm (okm (okm (okm (okm (okm (okm hx0 k44) k54) k58) k65) k72) k83) k88) k98) k105), RT.okn h105 (okm (okm (okm (okm (okm (okm (okm (okm (okm hx1 k44) k54) k58) k65) k72) k83) k88) k98) k105), RT.okv h105 (okm (okm (okm (okm (okm (okm (okm (okm (okm hx1 k44) k54) k58) k65) k72) k83) k88) k98) k105), RT.okn h105 (okm (okm (okm (okm (okm (okm (okm (okm (okm hx2 k44) k54) k58) k65) k72) k83) k88) k98) k105), RT.okv h105 (okm (okm (okm (okm (okm (okm (okm (okm (okm hx2 k44) k54) k58) k65) k72) k83) k88) k98) k105), RT.okn h105 o109, RT.okv h105 o109]) rfl) (T_c_Store_versionHad o109 (okm (okm (okm (okm (okm (okm (okm (okm (okm hx2 k44) k54) k58) k65) k72) k83) k88) k98) k105) h105 e117) f105 rfl (fun w119 h119 f119 k119 => ?_) (by decide) (by decide)
    obtain ⟨T120, e121, j122⟩ := bS j118
    refine m_Rb.tputI b_111 d_111_118 rfl rfl (by decide) h119 f119 e121 (fun w123 h123 f123 k123 => ?_)
    refine m_Rb.n0 b_111 (x_aload_n d_111_121 rfl) ?_
    refine m_Rb.n0 b_111 (x_aload d_111_122 rfl) ?_
    obtain ⟨_, e124, j125⟩ := bS j122
    obtain ⟨_, g126⟩ := RT.cls h123 e124
    obtain ⟨T127, e128, j129⟩ := bS j125
    refine m_Rb.callV b_111 (y_cv d_111_124 rfl q_105 (m_isRecv_of rfl g126) (show m_takeI _ _ = some (_, [_, _], []) from m_takeI_of rfl rfl rfl (Nat.le_of_ble_eq_true rfl)) (by simp only [m_okf, List.all_cons, List.all_nil, Bool.and_true, Bool.and_self, m_okv_i, m_okv_l, m_okv_0, m_okv_n0, m_okv_t, RT.okn h123 (okm (okm (okm o88 k98) k105) k123), RT.okv h123 (okm (okm (okm o88 k98) k105) k123), RT.okn h123 (okm (okm (okm (okm (okm (okm (okm (okm (okm (okm hx0 k44) k54) k58) k65) k72) k83) k88) k98) k105) k123), RT.okv h123 (okm (okm (okm (okm (okm (okm (okm (okm (okm (okm hx0 k44) k54) k58) k65) k72) k83) k88) k98) k105) k123), RT.okn h123 (okm (okm (okm (okm (okm (okm (okm (okm (okm (okm hx1 k44) k54) k58) k65) k72) k83) k88) k98) k105) k123), RT.okv h123 (okm (okm (okm (okm (okm (okm (okm (okm (okm (okm hx1 k44) k54) k58) k65) k72) k83) k88) k98) k105) k123), RT.okn h123 (okm (okm (okm (okm (okm (okm (okm (okm (okm (okm hx2 k44) k54) k58) k65) k72) k83) k88) k98) k105) k123), RT.okv h123 (okm (okm (okm (okm (okm (okm (okm (okm (okm (okm hx2 k44) k54) k58) k65) k72) k83) k88) k98) k105) k123)]) rfl) (T_c_EdgeHouse_send (okm (okm (okm (okm (okm (okm (okm (okm (okm (okm hx0 k44) k54) k58) k65) k72) k83) k88) k98) k105) k123) (okm (okm (okm o88 k98) k105) k123) h123 e128) f123 rfl (fun w130 h130 f130 k130 => ?_) (by decide) (by decide)
    refine m_Rb.n0 b_111 (x_iconst (z := 1) d_111_127 (by decide)) ?_
    cases j129
    exact m_Rb.ret b_111 (m_rt_ir d_111_128 rfl m_nb1) ⟨rfl, h130, f130⟩
  | false =>
    have j34 := cF hc33 h0
    refine m_Rb.n0 b_111 (x_icf d_111_30 rfl hc33) ?_
    refine m_Rb.n0 b_111 (x_iconst (z := 0) d_111_33 (by decide)) ?_
    cases j34
    exact m_Rb.ret b_111 (m_rt_ir d_111_34 rfl m_nb0) ⟨rfl, h, hF⟩
def D_c_EdgeHouse_sendFetch (F : Nat) (a0 : Nat) (p0 : Option Nat) (p1 : Option Nat) (T : tT) : Option (Int32 × tT) := (p0).bind fun a1 => (tgi T a1 4 0).bind fun v4 => (D_c_EdgeHouse_isEdge F v4 T).bind fun v7 => cond (m_c1 .eq v7) (D_c_EdgeHouse_sendFetch_28 F a0 (some a1) p1 (0 : Int32) T) ((p1).bind fun a17 => (tgi T a17 10 0).bind fun v20 => (tgi T a17 10 1).bind fun v23 => (tcl T a0 0).bind fun _ => (D_c_EdgeHouse_ringNode F a0 (1 : Int32) (2 : Int32) v20 v23 (some a1) T).bind fun v29 => D_c_EdgeHouse_sendFetch_28 F a0 (some a1) (some a17) v29 T)
theorem T_c_EdgeHouse_sendFetch {l : Launch} {w : List mM} {F : Nat} {a0 : Nat} {p0 : Option Nat} {p1 : Option Nat} {T : tT} {yz : Int32} {Tz : tT} (ha0 : okr T.2.1 (some a0)) (hp0 : okr T.2.1 p0) (hp1 : okr T.2.1 p1) (h : RT T w) (h0 : D_c_EdgeHouse_sendFetch F a0 p0 p1 T = some (yz, Tz)) : m_Rb l M_111 (m_ent M_111 [.ref a0, rv p0, rv p1] w) (fun v w' => v = some (.int yz) ∧ RT Tz w' ∧ m_Fm w w') T Tz 14 1400 := by
  rw [show m_ent M_111 [.ref a0, rv p0, rv p1] w = (0, [(0, .ref a0), (1, rv p0), (2, rv p1)], [], w) from by first | rfl | (simp only [m_ent, lv_args_r, lv_args_a, lv_args_i, lv_args_l, lv_args_0]; done) | (simp only [m_ent, lv_args_r, lv_args_a, lv_args_i, lv_args_l, lv_args_0]; rfl)]
  generalize hw0 : w = w0 at h ⊢
  have hF : m_Fm w0 w0 := m_Fm.refl
  rw [D_c_EdgeHouse_sendFetch] at h0
  refine m_Rb.n0 b_111 (x_iconst (z := 0) d_111_0 (by decide)) ?_
  refine m_Rb.n0 b_111 (x_istore_n d_111_1 rfl (show m_put1 _ _ _ = [(3, _), (0, _), (1, _), (2, _)] from (m_p1r (by simp only [List.all_cons, List.all_nil, cat_rv]; rfl)).trans rfl)) ?_
  refine m_Rb.n0 b_111 (x_aloadr_n (x := p0) d_111_2 rfl) ?_
  obtain ⟨a1, e2, j3⟩ := bS h0
  subst e2
  obtain ⟨v4, e5, j6⟩ := bS j3
  refine m_Rb.tgetI b_111 d_111_3 rfl h e5 ?_
  obtain ⟨v7, e8, j9⟩ := bS j6
  refine m_Rb.callI b_111 (y_cs d_111_6 rfl q_112 (show m_takeS _ _ = some (_, [_], []) from m_takeS_of (Nat.le_of_ble_eq_true rfl) rfl rfl (Nat.le_of_ble_eq_true rfl)) (by simp only [m_okf, List.all_cons, List.all_nil, Bool.and_true, Bool.and_self, m_okv_i, m_okv_l, m_okv_0, m_okv_n0, m_okv_t, RT.okn h ha0, RT.okv h ha0, RT.okn h hp0, RT.okv h hp0, RT.okv h hp1]) rfl) (T_c_EdgeHouse_isEdge h e8) hF rfl (fun w10 h10 f10 k10 => ?_) (by decide) (by decide)
  cases hc15 : m_c1 .eq v7 with
  | true =>
    have j16 := cT hc15 j9
    refine m_Rb.n0 b_111 (x_ift d_111_9 rfl hc15) ?_
    exact m_Rb.pick [1, 2, 3, 0] rfl (T_c_EdgeHouse_sendFetch_28 ha0 hp0 hp1 h10 f10 j16)
  | false =>
    have j16 := cF hc15 j9
    refine m_Rb.n0 b_111 (x_iff d_111_9 rfl hc15) ?_
    refine m_Rb.n0 b_111 (x_aload_n d_111_12 rfl) ?_
    refine m_Rb.n0 b_111 (x_iconst (z := 1) d_111_13 (by decide)) ?_
    refine m_Rb.n0 b_111 (x_iconst (z := 2) d_111_14 (by decide)) ?_
    refine m_Rb.n0 b_111 (x_aloadr_n (x := p1) d_111_15 rfl) ?_
    obtain ⟨a17, e18, j19⟩ := bS j16
    subst e18
    obtain ⟨v20, e21, j22⟩ := bS j19
    refine m_Rb.tgetI b_111 d_111_16 rfl h10 e21 ?_
    refine m_Rb.n0 b_111 (x_aload_n d_111_19 rfl) ?_
    obtain ⟨v23, e24, j25⟩ := bS j22
    refine m_Rb.tgetI b_111 d_111_20 rfl h10 e24 ?_
    refine m_Rb.n0 b_111 (x_aload_n d_111_23 rfl) ?_
    obtain ⟨_, e26, j27⟩ := bS j25
    obtain ⟨_, g28⟩ := RT.cls h10 e26
    obtain ⟨v29, e30, j31⟩ := bS j27
    refine m_Rb.callI b_111 (y_cv d_111_24 rfl q_71 (m_isRecv_of rfl g28) (show m_takeI _ _ = some (_, [_, _, _, _, _, _], []) from m_takeI_of rfl rfl rfl (Nat.le_of_ble_eq_true rfl)) (by simp only [m_okf, List.all_cons, List.all_nil, Bool.and_true, Bool.and_self, m_okv_i, m_okv_l, m_okv_0, m_okv_n0, m_okv_t, RT.okn h10 ha0, RT.okv h10 ha0, RT.okn h10 hp0, RT.okv h10 hp0, RT.okn h10 hp1, RT.okv h10 hp1]) rfl) (T_c_EdgeHouse_ringNode ha0 hp0 h10 e30) f10 rfl (fun w32 h32 f32 k32 => ?_) (by decide) (by decide)
    refine m_Rb.n0 b_111 (x_istore_n d_111_27 rfl (show m_put1 _ _ _ = [(3, _), (0, _), (1, _), (2, _)] from rfl)) ?_
    exact m_Rb.pick [1, 2, 3, 0] rfl (T_c_EdgeHouse_sendFetch_28 ha0 hp0 hp1 h32 f32 j31)
def D_c_EdgeHouse_sendStatus (F : Nat) (a0 : Nat) (p0 : Int32) (p1 : Option Nat) (p2 : Int32) (T : tT) : Option (tT) := bd2 (tnw T 9) fun a1 T2 => (p1).bind fun a6 => (tgi T2 a6 6 15).bind fun v9 => (tgi T2 a6 6 16).bind fun v12 => (D_c_Message_init F a1 (1 : Int32) p0 v9 v12 T2).bind fun T15 => (tgi T15 a6 6 0).bind fun v19 => (tpi T15 a1 9 4 v19).bind fun T22 => (tgi T22 a6 6 1).bind fun v26 => (tpi T22 a1 9 5 v26).bind fun T29 => (tpi T29 a1 9 12 p2).bind fun T33 => (tcl T33 a0 0).bind fun _ => (D_c_EdgeHouse_send F a0 (some a1) T33).bind fun T40 => some T40
theorem T_c_EdgeHouse_sendStatus {l : Launch} {w : List mM} {F : Nat} {a0 : Nat} {p0 : Int32} {p1 : Option Nat} {p2 : Int32} {T : tT} {Tz : tT} (ha0 : okr T.2.1 (some a0)) (hp1 : okr T.2.1 p1) (h : RT T w) (h0 : D_c_EdgeHouse_sendStatus F a0 p0 p1 p2 T = some Tz) : m_Rb l M_117 (m_ent M_117 [.ref a0, .int p0, rv p1, .int p2] w) (fun v w' => v = none ∧ RT Tz w' ∧ m_Fm w w') T Tz 14 1400 := by
  rw [show m_ent M_117 [.ref a0, .int p0, rv p1, .int p2] w = (0, [(0, .ref a0), (1, .int p0), (2, rv p1), (3, .int p2)], [], w) from by first | rfl | (simp only [m_ent, lv_args_r, lv_args_a, lv_args_i, lv_args_l, lv_args_0]; done) | (simp only [m_ent, lv_args_r, lv_args_a, lv_args_i, lv_args_l, lv_args_0]; rfl)]
  generalize hw0 : w = w0 at h ⊢
  have hF : m_Fm w0 w0 := m_Fm.refl
  rw [D_c_EdgeHouse_sendStatus] at h0
  obtain ⟨a1, T2, e3, j4⟩ := bS2 h0
  refine m_Rb.tnew b_117 d_117_0 rfl (by simp only [m_okf, List.all_cons, List.all_nil, Bool.and_true, Bool.and_self, m_okv_i, m_okv_l, m_okv_0, m_okv_n0, m_okv_t, RT.okn h ha0, RT.okv h ha0, RT.okv h hp1]) h hF e3 (fun w5 o5 h5 f5 k5 => ?_)
  refine m_Rb.n0 b_117 (x_dup d_117_3 rfl) ?_
  refine m_Rb.n0 b_117 (x_iconst (z := 1) d_117_4 (by decide)) ?_
  refine m_Rb.n0 b_117 (x_iload_n d_117_5 rfl) ?_
  refine m_Rb.n0 b_117 (x_aloadr_n (x := p1) d_117_6 rfl) ?_
  obtain ⟨a6, e7, j8⟩ := bS j4
  subst e7
  obtain ⟨v9, e10, j11⟩ := bS j8
  refine m_Rb.tgetI b_117 d_117_7 rfl h5 e10 ?_
  refine m_Rb.n0 b_117 (x_aload_n d_117_10 rfl) ?_
  obtain ⟨v12, e13, j14⟩ := bS j11
  refine m_Rb.tgetI b_117 d_117_11 rfl h5 e13 ?_
  obtain ⟨T15, e16, j17⟩ := bS j14
  refine m_Rb.callV b_117 (x_ci d_117_14 rfl (by decide) q_104 (show m_takeI _ _ = some (_, [_, _, _, _, _], [_]) from m_takeI_of rfl rfl rfl (Nat.le_of_ble_eq_true rfl)) (by simp only [m_okf, List.all_cons, List.all_nil, Bool.and_true, Bool.and_self, m_okv_i, m_okv_l, m_okv_0, m_okv_n0, m_okv_t, RT.okn h5 (okm ha0 k5), RT.okv h5 (okm ha0 k5), RT.okn h5 (okm hp1 k5), RT.okv h5 (okm hp1 k5), RT.okn h5 o5, RT.okv h5 o5]) rfl) (T_c_Message_init o5 h5 e16) f5 rfl (fun w18 h18 f18 k18 => ?_) (by decide) (by decide)
  refine m_Rb.n0 b_117 (x_astore d_117_17 rfl (show m_put1 _ _ _ = [(4, _), (0, _), (1, _), (2, _), (3, _)] from rfl)) ?_
  refine m_Rb.n0 b_117 (x_aload d_117_19 rfl) ?_
  refine m_Rb.n0 b_117 (x_aload_n d_117_21 rfl) ?_
  obtain ⟨v19, e20, j21⟩ := bS j17
  refine m_Rb.tgetI b_117 d_117_22 rfl h18 e20 ?_
  obtain ⟨T22, e23, j24⟩ := bS j21
  refine m_Rb.tputI b_117 d_117_25 rfl rfl (by decide) h18 f18 e23 (fun w25 h25 f25 k25 => ?_)
  refine m_Rb.n0 b_117 (x_aload d_117_28 rfl) ?_
  refine m_Rb.n0 b_117 (x_aload_n d_117_30 rfl) ?_
  obtain ⟨v26, e27, j28⟩ := bS j24
  refine m_Rb.tgetI b_117 d_117_31 rfl h25 e27 ?_
  obtain ⟨T29, e30, j31⟩ := bS j28
  refine m_Rb.tputI b_117 d_117_34 rfl rfl (by decide) h25 f25 e30 (fun w32 h32 f32 k32 => ?_)
  refine m_Rb.n0 b_117 (x_aload d_117_37 rfl) ?_
  refine m_Rb.n0 b_117 (x_iload_n d_117_39 rfl) ?_
  obtain ⟨T33, e34, j35⟩ := bS j31
  refine m_Rb.tputI b_117 d_117_40 rfl rfl (by decide) h32 f32 e34 (fun w36 h36 f36 k36 => ?_)
  refine m_Rb.n0 b_117 (x_aload_n d_117_43 rfl) ?_
  refine m_Rb.n0 b_117 (x_aload d_117_44 rfl) ?_
  obtain ⟨_, e37, j38⟩ := bS j35
  obtain ⟨_, g39⟩ := RT.cls h36 e37
  obtain ⟨T40, e41, j42⟩ := bS j38
  refine m_Rb.callV b_117 (y_cv d_117_46 rfl q_105 (m_isRecv_of rfl g39) (show m_takeI _ _ = some (_, [_, _], []) from m_takeI_of rfl rfl rfl (Nat.le_of_ble_eq_true rfl)) (by simp only [m_okf, List.all_cons, List.all_nil, Bool.and_true, Bool.and_self, m_okv_i, m_okv_l, m_okv_0, m_okv_n0, m_okv_t, RT.okn h36 (okm (okm (okm (okm o5 k18) k25) k32) k36), RT.okv h36 (okm (okm (okm (okm o5 k18) k25) k32) k36), RT.okn h36 (okm (okm (okm (okm (okm ha0 k5) k18) k25) k32) k36), RT.okv h36 (okm (okm (okm (okm (okm ha0 k5) k18) k25) k32) k36), RT.okn h36 (okm (okm (okm (okm (okm hp1 k5) k18) k25) k32) k36), RT.okv h36 (okm (okm (okm (okm (okm hp1 k5) k18) k25) k32) k36)]) rfl) (T_c_EdgeHouse_send (okm (okm (okm (okm (okm ha0 k5) k18) k25) k32) k36) (okm (okm (okm (okm o5 k18) k25) k32) k36) h36 e41) f36 rfl (fun w43 h43 f43 k43 => ?_) (by decide) (by decide)
  cases j42
  exact m_Rb.ret b_117 (m_rt_vr d_117_49 rfl) ⟨rfl, h43, f43⟩
def D_c_EdgeHouse_endAll_40 (F : Nat) (rec3 : Nat → Option Nat → Int32 → Option Nat → tT → Option (tT)) (x0 : Nat) (x1 : Option Nat) (x3 : Int32) (x4 : Option Nat) (T : tT) : Option (tT) := (x4).bind fun a33 => (tgr T a33 6 18).bind fun v36 => rec3 x0 x1 x3 v36 T
theorem T_c_EdgeHouse_endAll_40 {l : Launch} {w0 : List mM} {F : Nat} {rec3 : Nat → Option Nat → Int32 → Option Nat → tT → Option (tT)} (hr3 : ∀ {x0 : Nat} {x1 : Option Nat} {x3 : Int32} {x4 : Option Nat} {T : tT} {w : List mM} {Tz : tT}, okr T.2.1 (some x0) → okr T.2.1 x1 → okr T.2.1 x4 → RT T w → m_Fm w0 w → rec3 x0 x1 x3 x4 T = some Tz → m_Rb l M_116 (3, [(0, .ref x0), (1, rv x1), (3, .int x3), (4, rv x4)], [], w) (fun v w' => v = none ∧ RT Tz w' ∧ m_Fm w0 w') T Tz 15 1500) {x0 : Nat} {x1 : Option Nat} {x3 : Int32} {x4 : Option Nat} {T : tT} {w : List mM} {Tz : tT} (hx0 : okr T.2.1 (some x0)) (hx1 : okr T.2.1 x1) (hx4 : okr T.2.1 x4) (h : RT T w) (hF : m_Fm w0 w) (h0 : D_c_EdgeHouse_endAll_40 F rec3 x0 x1 x3 x4 T = some Tz) : m_Rb l M_116 (40, [(0, .ref x0), (1, rv x1), (3, .int x3), (4, rv x4)], [], w) (fun v w' => v = none ∧ RT Tz w' ∧ m_Fm w0 w') T Tz 15 1500 := by
  rw [D_c_EdgeHouse_endAll_40] at h0
  refine m_Rb.n0 b_116 (x_aloadr (x := x4) d_116_40 rfl) ?_
  obtain ⟨a33, e34, j35⟩ := bS h0
  subst e34
  obtain ⟨v36, e37, j38⟩ := bS j35
  refine m_Rb.tgetR b_116 d_116_42 rfl h e37 (fun o39 => ?_)
  refine m_Rb.n0 b_116 (x_astorer (x := v36) d_116_45 rfl (show m_put1 _ _ _ = [(4, _), (0, _), (1, _), (3, _)] from rfl)) ?_
  refine m_Rb.n0 b_116 (x_goto d_116_47 rfl) ?_
  exact m_Rb.pick [1, 2, 3, 0] rfl (hr3 hx0 hx1 o39 h hF j38)
def D_c_EdgeHouse_endAll_3 (F : Nat) : Nat → Nat → Option Nat → Int32 → Option Nat → tT → Option (tT)
  | 0, _, _, _, _, _ => none
  | n + 1, x0, x1, x3, x4, T => nc x4 (some T) fun a1 => ((tgr T a1 6 14).bind fun v3 => nc v3 ((x1).bind fun a9 => (tgi T a9 4 0).bind fun v12 => (tcl T x0 0).bind fun _ => (D_c_EdgeHouse_sendStatus F x0 v12 (some a1) x3 T).bind fun T18 => D_c_EdgeHouse_endAll_40 F (D_c_EdgeHouse_endAll_3 F n) x0 (some a9) x3 (some a1) T18) fun a7 => ((tgr T a1 6 14).bind fun v22 => (tcl T x0 0).bind fun _ => (D_c_EdgeHouse_close F x0 v22 x3 T).bind fun T29 => D_c_EdgeHouse_endAll_40 F (D_c_EdgeHouse_endAll_3 F n) x0 x1 x3 (some a1) T29))
theorem T_c_EdgeHouse_endAll_3 {l : Launch} {w0 : List mM} {F : Nat} : ∀ (n : Nat) {x0 : Nat} {x1 : Option Nat} {x3 : Int32} {x4 : Option Nat} {T : tT} {w : List mM} {Tz : tT}, okr T.2.1 (some x0) → okr T.2.1 x1 → okr T.2.1 x4 → RT T w → m_Fm w0 w → D_c_EdgeHouse_endAll_3 F n x0 x1 x3 x4 T = some Tz → m_Rb l M_116 (3, [(0, .ref x0), (1, rv x1), (3, .int x3), (4, rv x4)], [], w) (fun v w' => v = none ∧ RT Tz w' ∧ m_Fm w0 w') T Tz 15 1500 := by
  intro n
  induction n with
  | zero => intro x0 x1 x3 x4 T w Tz hx0 hx1 hx4 h hF h0; cases h0
  | succ n ih =>
    intro x0 x1 x3 x4 T w Tz hx0 hx1 hx4 h hF h0
    rw [D_c_EdgeHouse_endAll_3] at h0
    refine m_Rb.n0 b_116 (x_aloadr (x := x4) d_116_3 rfl) ?_
    cases x4 with
    | none =>
      have j2 := nN h0
      refine m_Rb.n0 b_116 (x_ifnull0 d_116_5 rfl) ?_
      cases j2
      exact m_Rb.ret b_116 (m_rt_vr d_116_50 rfl) ⟨rfl, h, hF⟩
    | some a1 =>
      have j2 := nS h0
      refine m_Rb.n0 b_116 (x_ifnull1 d_116_5 rfl) ?_
      refine m_Rb.n0 b_116 (x_aload d_116_8 rfl) ?_
      obtain ⟨v3, e4, j5⟩ := bS j2
      refine m_Rb.tgetR b_116 d_116_10 rfl h e4 (fun o6 => ?_)
      cases v3 with
      | none =>
        have j8 := nN j5
        refine m_Rb.n0 b_116 (x_ifnull0 d_116_13 rfl) ?_
        refine m_Rb.n0 b_116 (x_aload_n d_116_29 rfl) ?_
        refine m_Rb.n0 b_116 (x_aloadr_n (x := x1) d_116_30 rfl) ?_
        obtain ⟨a9, e10, j11⟩ := bS j8
        subst e10
        obtain ⟨v12, e13, j14⟩ := bS j11
        refine m_Rb.tgetI b_116 d_116_31 rfl h e13 ?_
        refine m_Rb.n0 b_116 (x_aload d_116_34 rfl) ?_
        refine m_Rb.n0 b_116 (x_iload_n d_116_36 rfl) ?_
        obtain ⟨_, e15, j16⟩ := bS j14
        obtain ⟨_, g17⟩ := RT.cls h e15
        obtain ⟨T18, e19, j20⟩ := bS j16
        refine m_Rb.callV b_116 (y_cv d_116_37 rfl q_117 (m_isRecv_of rfl g17) (show m_takeI _ _ = some (_, [_, _, _, _], []) from m_takeI_of rfl rfl rfl (Nat.le_of_ble_eq_true rfl)) (by simp only [m_okf, List.all_cons, List.all_nil, Bool.and_true, Bool.and_self, m_okv_i, m_okv_l, m_okv_0, m_okv_n0, m_okv_t, RT.okn h hx0, RT.okv h hx0, RT.okn h hx1, RT.okv h hx1, RT.okn h hx4, RT.okv h hx4]) rfl) (T_c_EdgeHouse_sendStatus hx0 hx4 h e19) hF rfl (fun w21 h21 f21 k21 => ?_) (by decide) (by decide)
        exact m_Rb.pick [0, 1, 2, 3] rfl (T_c_EdgeHouse_endAll_40 ih (okm hx0 k21) (okm hx1 k21) (okm hx4 k21) h21 f21 j20)
      | some a7 =>
        have j8 := nS j5
        refine m_Rb.n0 b_116 (x_ifnull1 d_116_13 rfl) ?_
        refine m_Rb.n0 b_116 (x_aload_n d_116_16 rfl) ?_
        refine m_Rb.n0 b_116 (x_aload d_116_17 rfl) ?_
        obtain ⟨v22, e23, j24⟩ := bS j8
        refine m_Rb.tgetR b_116 d_116_19 rfl h e23 (fun o25 => ?_)
        refine m_Rb.n0 b_116 (x_iload_n d_116_22 rfl) ?_
        obtain ⟨_, e26, j27⟩ := bS j24
        obtain ⟨_, g28⟩ := RT.cls h e26
        obtain ⟨T29, e30, j31⟩ := bS j27
        refine m_Rb.callV b_116 (y_cv d_116_23 rfl q_70 (m_isRecv_of rfl g28) (show m_takeI _ _ = some (_, [_, _, _], []) from m_takeI_of rfl rfl rfl (Nat.le_of_ble_eq_true rfl)) (by simp only [m_okf, List.all_cons, List.all_nil, Bool.and_true, Bool.and_self, m_okv_i, m_okv_l, m_okv_0, m_okv_n0, m_okv_t, RT.okn h hx0, RT.okv h hx0, RT.okv h hx1, RT.okn h hx4, RT.okv h hx4, RT.okv h o25]) (decide_eq_true (by simp only [lgs_r, lgs_a, lgs_i, lgs_l, lgs_0]; exact Nat.le_of_ble_eq_true rfl))) (T_c_EdgeHouse_close hx0 o25 h e30) hF rfl (fun w32 h32 f32 k32 => ?_) (by decide) (by decide)
        refine m_Rb.n0 b_116 (x_goto d_116_26 rfl) ?_
        exact m_Rb.pick [0, 1, 2, 3] rfl (T_c_EdgeHouse_endAll_40 ih (okm hx0 k32) (okm hx1 k32) (okm hx4 k32) h32 f32 j31)
def D_c_EdgeHouse_endAll (F : Nat) (a0 : Nat) (p0 : Option Nat) (p1 : Option Nat) (p2 : Int32) (T : tT) : Option (tT) := D_c_EdgeHouse_endAll_3 F F a0 p0 p2 p1 T
theorem T_c_EdgeHouse_endAll {l : Launch} {w : List mM} {F : Nat} {a0 : Nat} {p0 : Option Nat} {p1 : Option Nat} {p2 : Int32} {T : tT} {Tz : tT} (ha0 : okr T.2.1 (some a0)) (hp0 : okr T.2.1 p0) (hp1 : okr T.2.1 p1) (h : RT T w) (h0 : D_c_EdgeHouse_endAll F a0 p0 p1 p2 T = some Tz) : m_Rb l M_116 (m_ent M_116 [.ref a0, rv p0, rv p1, .int p2] w) (fun v w' => v = none ∧ RT Tz w' ∧ m_Fm w w') T Tz 15 1500 := by
  rw [show m_ent M_116 [.ref a0, rv p0, rv p1, .int p2] w = (0, [(0, .ref a0), (1, rv p0), (2, rv p1), (3, .int p2)], [], w) from by first | rfl | (simp only [m_ent, lv_args_r, lv_args_a, lv_args_i, lv_args_l, lv_args_0]; done) | (simp only [m_ent, lv_args_r, lv_args_a, lv_args_i, lv_args_l, lv_args_0]; rfl)]
  generalize hw0 : w = w0 at h ⊢
  have hF : m_Fm w0 w0 := m_Fm.refl
  rw [D_c_EdgeHouse_endAll] at h0
  refine m_Rb.n0 b_116 (x_aloadr_n (x := p1) d_116_0 rfl) ?_
  refine m_Rb.n0 b_116 (x_astorer (x := p1) d_116_1 rfl (show m_put1 _ _ _ = [(4, _), (0, _), (1, _), (2, _), (3, _)] from rfl)) ?_
  exact m_Rb.pick [1, 2, 4, 0] rfl (T_c_EdgeHouse_endAll_3 F ha0 hp0 hp1 h hF h0)
def D_c_Fetch_join_28 (F : Nat) (x0 : Nat) (x1 : Option Nat) (T : tT) : Option (tT) := (tpr T x0 10 13 x1).bind fun T29 => (tgi T29 x0 10 11).bind fun v33 => (tpi T29 x0 10 11 (v33 + (1 : Int32))).bind fun T36 => some T36
theorem T_c_Fetch_join_28 {l : Launch} {w0 : List mM} {F : Nat} {x0 : Nat} {x1 : Option Nat} {T : tT} {w : List mM} {Tz : tT} (hx0 : okr T.2.1 (some x0)) (hx1 : okr T.2.1 x1) (h : RT T w) (hF : m_Fm w0 w) (h0 : D_c_Fetch_join_28 F x0 x1 T = some Tz) : m_Rb l M_119 (28, [(0, .ref x0), (1, rv x1)], [], w) (fun v w' => v = none ∧ RT Tz w' ∧ m_Fm w0 w') T Tz 0 0 := by
  rw [D_c_Fetch_join_28] at h0
  refine m_Rb.n0 b_119 (x_aload_n d_119_28 rfl) ?_
  refine m_Rb.n0 b_119 (x_aloadr_n (x := x1) d_119_29 rfl) ?_
  obtain ⟨T29, e30, j31⟩ := bS h0
  refine m_Rb.tputR (z := x1) b_119 d_119_30 rfl rfl (by decide) h hF e30 hx1 (fun w32 h32 f32 k32 => ?_)
  refine m_Rb.n0 b_119 (x_aload_n d_119_33 rfl) ?_
  refine m_Rb.n0 b_119 (x_dup d_119_34 rfl) ?_
  obtain ⟨v33, e34, j35⟩ := bS j31
  refine m_Rb.tgetI b_119 d_119_35 rfl h32 e34 ?_
  refine m_Rb.n0 b_119 (x_iconst (z := 1) d_119_38 (by decide)) ?_
  refine m_Rb.n0 b_119 (x_iadd d_119_39 rfl) ?_
  obtain ⟨T36, e37, j38⟩ := bS j35
  refine m_Rb.tputI b_119 d_119_40 rfl rfl (by decide) h32 f32 e37 (fun w39 h39 f39 k39 => ?_)
  cases j38
  exact m_Rb.ret b_119 (m_rt_vr d_119_43 rfl) ⟨rfl, h39, f39⟩
def D_c_Fetch_join (F : Nat) (a0 : Nat) (p0 : Option Nat) (T : tT) : Option (tT) := (p0).bind fun a1 => (tpr T a1 6 18 none).bind fun T4 => (tgr T4 a0 10 13).bind fun v8 => nc v8 ((tpr T4 a0 10 12 (some a1)).bind fun T14 => D_c_Fetch_join_28 F a0 (some a1) T14) fun a12 => ((tgr T4 a0 10 13).bind fun v18 => (v18).bind fun a22 => (tpr T4 a22 6 18 (some a1)).bind fun T25 => D_c_Fetch_join_28 F a0 (some a1) T25)
theorem T_c_Fetch_join {l : Launch} {w : List mM} {F : Nat} {a0 : Nat} {p0 : Option Nat} {T : tT} {Tz : tT} (ha0 : okr T.2.1 (some a0)) (hp0 : okr T.2.1 p0) (h : RT T w) (h0 : D_c_Fetch_join F a0 p0 T = some Tz) : m_Rb l M_119 (m_ent M_119 [.ref a0, rv p0] w) (fun v w' => v = none ∧ RT Tz w' ∧ m_Fm w w') T Tz 0 0 := by
  rw [show m_ent M_119 [.ref a0, rv p0] w = (0, [(0, .ref a0), (1, rv p0)], [], w) from by first | rfl | (simp only [m_ent, lv_args_r, lv_args_a, lv_args_i, lv_args_l, lv_args_0]; done) | (simp only [m_ent, lv_args_r, lv_args_a, lv_args_i, lv_args_l, lv_args_0]; rfl)]
  generalize hw0 : w = w0 at h ⊢
  have hF : m_Fm w0 w0 := m_Fm.refl
  rw [D_c_Fetch_join] at h0
  refine m_Rb.n0 b_119 (x_aloadr_n (x := p0) d_119_0 rfl) ?_
  refine m_Rb.n0 b_119 (x_null d_119_1) ?_
  obtain ⟨a1, e2, j3⟩ := bS h0
  subst e2
  obtain ⟨T4, e5, j6⟩ := bS j3
  refine m_Rb.tputR (z := none) b_119 d_119_2 rfl rfl (by decide) h hF e5 okr_none (fun w7 h7 f7 k7 => ?_)
  refine m_Rb.n0 b_119 (x_aload_n d_119_5 rfl) ?_
  obtain ⟨v8, e9, j10⟩ := bS j6
  refine m_Rb.tgetR b_119 d_119_6 rfl h7 e9 (fun o11 => ?_)
  cases v8 with
  | none =>
    have j13 := nN j10
    refine m_Rb.n0 b_119 (x_ifnonnull0 d_119_9 rfl) ?_
    refine m_Rb.n0 b_119 (x_aload_n d_119_12 rfl) ?_
    refine m_Rb.n0 b_119 (x_aload_n d_119_13 rfl) ?_
    obtain ⟨T14, e15, j16⟩ := bS j13
    refine m_Rb.tputR (z := (some a1)) b_119 d_119_14 rfl rfl (by decide) h7 f7 e15 (okm hp0 k7) (fun w17 h17 f17 k17 => ?_)
    refine m_Rb.n0 b_119 (x_goto d_119_17 rfl) ?_
    exact m_Rb.pick [0, 1] rfl (T_c_Fetch_join_28 (okm (okm ha0 k7) k17) (okm (okm hp0 k7) k17) h17 f17 j16)
  | some a12 =>
    have j13 := nS j10
    refine m_Rb.n0 b_119 (x_ifnonnull1 d_119_9 rfl) ?_
    refine m_Rb.n0 b_119 (x_aload_n d_119_20 rfl) ?_
    obtain ⟨v18, e19, j20⟩ := bS j13
    refine m_Rb.tgetR b_119 d_119_21 rfl h7 e19 (fun o21 => ?_)
    refine m_Rb.n0 b_119 (x_aload_n d_119_24 rfl) ?_
    obtain ⟨a22, e23, j24⟩ := bS j20
    subst e23
    obtain ⟨T25, e26, j27⟩ := bS j24
    refine m_Rb.tputR (z := (some a1)) b_119 d_119_25 rfl rfl (by decide) h7 f7 e26 (okm hp0 k7) (fun w28 h28 f28 k28 => ?_)
    exact m_Rb.pick [0, 1] rfl (T_c_Fetch_join_28 (okm (okm ha0 k7) k28) (okm (okm hp0 k7) k28) h28 f28 j27)
def D_c_Integer_numberOfTrailingZeros_74 (F : Nat) (x0 : Int32) (x1 : Int32) (T0 : tT) : Option (Int32) := some (x1 + ((x0 : Int32).toUInt32 >>> (((1 : Int32) : Int32).toUInt32 &&& Int32.toUInt32 31)).toInt32)
theorem T_c_Integer_numberOfTrailingZeros_74 {l : Launch} {w0 : List mM} {F : Nat} {T0 : tT} {x0 : Int32} {x1 : Int32} {w : List mM} {yz : Int32} (h : RT T0 w) (hF : m_Fm w0 w) (h0 : D_c_Integer_numberOfTrailingZeros_74 F x0 x1 T0 = some yz) : m_Rb l M_120 (74, [(0, .int x0), (1, .int x1)], [], w) (fun v w' => v = some (.int yz) ∧ RT T0 w' ∧ m_Fm w0 w') T0 T0 0 0 := by
  rw [D_c_Integer_numberOfTrailingZeros_74] at h0
  refine m_Rb.n0 b_120 (x_iload_n d_120_74 rfl) ?_
  refine m_Rb.n0 b_120 (x_iload_n d_120_75 rfl) ?_
  refine m_Rb.n0 b_120 (x_iconst (z := 1) d_120_76 (by decide)) ?_
  refine m_Rb.n0 b_120 (x_iushr d_120_77 rfl) ?_
  refine m_Rb.n0 b_120 (x_iadd d_120_78 rfl) ?_
  cases h0
  exact m_Rb.ret b_120 (m_rt_ir d_120_79 rfl rfl) ⟨rfl, h, hF⟩
def D_c_Integer_numberOfTrailingZeros_62 (F : Nat) (x0 : Int32) (x1 : Int32) (T0 : tT) : Option (Int32) := cond (m_c2 .le x0 (4 : Int32)) (D_c_Integer_numberOfTrailingZeros_74 F x0 x1 T0) (D_c_Integer_numberOfTrailingZeros_74 F ((x0 : Int32).toUInt32 >>> (((2 : Int32) : Int32).toUInt32 &&& Int32.toUInt32 31)).toInt32 (x1 + Int32.ofInt 2) T0)
theorem T_c_Integer_numberOfTrailingZeros_62 {l : Launch} {w0 : List mM} {F : Nat} {T0 : tT} {x0 : Int32} {x1 : Int32} {w : List mM} {yz : Int32} (h : RT T0 w) (hF : m_Fm w0 w) (h0 : D_c_Integer_numberOfTrailingZeros_62 F x0 x1 T0 = some yz) : m_Rb l M_120 (62, [(0, .int x0), (1, .int x1)], [], w) (fun v w' => v = some (.int yz) ∧ RT T0 w' ∧ m_Fm w0 w') T0 T0 0 0 := by
  rw [D_c_Integer_numberOfTrailingZeros_62] at h0
  refine m_Rb.n0 b_120 (x_iload_n d_120_62 rfl) ?_
  refine m_Rb.n0 b_120 (x_iconst (z := 4) d_120_63 (by decide)) ?_
  cases hc25 : m_c2 .le x0 (4 : Int32) with
  | true =>
    have j26 := cT hc25 h0
    refine m_Rb.n0 b_120 (x_ict d_120_64 rfl hc25) ?_
    exact m_Rb.pick [0, 1] rfl (T_c_Integer_numberOfTrailingZeros_74 h hF j26)
  | false =>
    have j26 := cF hc25 h0
    refine m_Rb.n0 b_120 (x_icf d_120_64 rfl hc25) ?_
    refine m_Rb.n0 b_120 (x_iinc d_120_67 rfl rfl rfl (show m_put1 _ _ _ = [(1, _), (0, _)] from rfl)) ?_
    refine m_Rb.n0 b_120 (x_iload_n d_120_70 rfl) ?_
    refine m_Rb.n0 b_120 (x_iconst (z := 2) d_120_71 (by decide)) ?_
    refine m_Rb.n0 b_120 (x_iushr d_120_72 rfl) ?_
    refine m_Rb.n0 b_120 (x_istore_n d_120_73 rfl (show m_put1 _ _ _ = [(0, _), (1, _)] from rfl)) ?_
    exact m_Rb.pick [0, 1] rfl (T_c_Integer_numberOfTrailingZeros_74 h hF j26)
def D_c_Integer_numberOfTrailingZeros_49 (F : Nat) (x0 : Int32) (x1 : Int32) (T0 : tT) : Option (Int32) := cond (m_c2 .le x0 (16 : Int32)) (D_c_Integer_numberOfTrailingZeros_62 F x0 x1 T0) (D_c_Integer_numberOfTrailingZeros_62 F ((x0 : Int32).toUInt32 >>> (((4 : Int32) : Int32).toUInt32 &&& Int32.toUInt32 31)).toInt32 (x1 + Int32.ofInt 4) T0)
theorem T_c_Integer_numberOfTrailingZeros_49 {l : Launch} {w0 : List mM} {F : Nat} {T0 : tT} {x0 : Int32} {x1 : Int32} {w : List mM} {yz : Int32} (h : RT T0 w) (hF : m_Fm w0 w) (h0 : D_c_Integer_numberOfTrailingZeros_49 F x0 x1 T0 = some yz) : m_Rb l M_120 (49, [(0, .int x0), (1, .int x1)], [], w) (fun v w' => v = some (.int yz) ∧ RT T0 w' ∧ m_Fm w0 w') T0 T0 0 0 := by
  rw [D_c_Integer_numberOfTrailingZeros_49] at h0
  refine m_Rb.n0 b_120 (x_iload_n d_120_49 rfl) ?_
  refine m_Rb.n0 b_120 (x_bipush (z := 16) d_120_50 (by decide)) ?_
  cases hc19 : m_c2 .le x0 (16 : Int32) with
  | true =>
    have j20 := cT hc19 h0
    refine m_Rb.n0 b_120 (x_ict d_120_52 rfl hc19) ?_
    exact m_Rb.pick [0, 1] rfl (T_c_Integer_numberOfTrailingZeros_62 h hF j20)
  | false =>
    have j20 := cF hc19 h0
    refine m_Rb.n0 b_120 (x_icf d_120_52 rfl hc19) ?_
    refine m_Rb.n0 b_120 (x_iinc d_120_55 rfl rfl rfl (show m_put1 _ _ _ = [(1, _), (0, _)] from rfl)) ?_
    refine m_Rb.n0 b_120 (x_iload_n d_120_58 rfl) ?_
    refine m_Rb.n0 b_120 (x_iconst (z := 4) d_120_59 (by decide)) ?_
    refine m_Rb.n0 b_120 (x_iushr d_120_60 rfl) ?_
    refine m_Rb.n0 b_120 (x_istore_n d_120_61 rfl (show m_put1 _ _ _ = [(0, _), (1, _)] from rfl)) ?_
    exact m_Rb.pick [0, 1] rfl (T_c_Integer_numberOfTrailingZeros_62 h hF j20)
def D_c_Integer_numberOfTrailingZeros_34 (F : Nat) (x0 : Int32) (x1 : Int32) (T0 : tT) : Option (Int32) := cond (m_c2 .le x0 (256 : Int32)) (D_c_Integer_numberOfTrailingZeros_49 F x0 x1 T0) (D_c_Integer_numberOfTrailingZeros_49 F ((x0 : Int32).toUInt32 >>> (((8 : Int32) : Int32).toUInt32 &&& Int32.toUInt32 31)).toInt32 (x1 + Int32.ofInt 8) T0)
theorem T_c_Integer_numberOfTrailingZeros_34 {l : Launch} {w0 : List mM} {F : Nat} {T0 : tT} {x0 : Int32} {x1 : Int32} {w : List mM} {yz : Int32} (h : RT T0 w) (hF : m_Fm w0 w) (h0 : D_c_Integer_numberOfTrailingZeros_34 F x0 x1 T0 = some yz) : m_Rb l M_120 (34, [(0, .int x0), (1, .int x1)], [], w) (fun v w' => v = some (.int yz) ∧ RT T0 w' ∧ m_Fm w0 w') T0 T0 0 0 := by
  rw [D_c_Integer_numberOfTrailingZeros_34] at h0
  refine m_Rb.n0 b_120 (x_iload_n d_120_34 rfl) ?_
  refine m_Rb.n0 b_120 (x_sipush (z := 256) d_120_35 (by decide)) ?_
  cases hc13 : m_c2 .le x0 (256 : Int32) with
  | true =>
    have j14 := cT hc13 h0
    refine m_Rb.n0 b_120 (x_ict d_120_38 rfl hc13) ?_
    exact m_Rb.pick [0, 1] rfl (T_c_Integer_numberOfTrailingZeros_49 h hF j14)
  | false =>
    have j14 := cF hc13 h0
    refine m_Rb.n0 b_120 (x_icf d_120_38 rfl hc13) ?_
    refine m_Rb.n0 b_120 (x_iinc d_120_41 rfl rfl rfl (show m_put1 _ _ _ = [(1, _), (0, _)] from rfl)) ?_
    refine m_Rb.n0 b_120 (x_iload_n d_120_44 rfl) ?_
    refine m_Rb.n0 b_120 (x_bipush (z := 8) d_120_45 (by decide)) ?_
    refine m_Rb.n0 b_120 (x_iushr d_120_47 rfl) ?_
    refine m_Rb.n0 b_120 (x_istore_n d_120_48 rfl (show m_put1 _ _ _ = [(0, _), (1, _)] from rfl)) ?_
    exact m_Rb.pick [0, 1] rfl (T_c_Integer_numberOfTrailingZeros_49 h hF j14)
def D_c_Integer_numberOfTrailingZeros (F : Nat) (p0 : Int32) (T0 : tT) : Option (Int32) := cond (m_c1 .gt ((p0 ^^^ ((-1) : Int32)) &&& (p0 - (1 : Int32)))) (cond (m_c2 .le ((p0 ^^^ ((-1) : Int32)) &&& (p0 - (1 : Int32))) (65536 : Int32)) (D_c_Integer_numberOfTrailingZeros_34 F ((p0 ^^^ ((-1) : Int32)) &&& (p0 - (1 : Int32))) (1 : Int32) T0) (D_c_Integer_numberOfTrailingZeros_34 F ((((p0 ^^^ ((-1) : Int32)) &&& (p0 - (1 : Int32))) : Int32).toUInt32 >>> (((16 : Int32) : Int32).toUInt32 &&& Int32.toUInt32 31)).toInt32 ((1 : Int32) + Int32.ofInt 16) T0)) (some (((p0 ^^^ ((-1) : Int32)) &&& (p0 - (1 : Int32))) &&& (32 : Int32)))
theorem T_c_Integer_numberOfTrailingZeros {l : Launch} {w : List mM} {F : Nat} {p0 : Int32} {T0 : tT} {yz : Int32} (h : RT T0 w) (h0 : D_c_Integer_numberOfTrailingZeros F p0 T0 = some yz) : m_Rb l M_120 (m_ent M_120 [.int p0] w) (fun v w' => v = some (.int yz) ∧ RT T0 w' ∧ m_Fm w w') T0 T0 0 0 := by
  rw [show m_ent M_120 [.int p0] w = (0, [(0, .int p0)], [], w) from by first | rfl | (simp only [m_ent, lv_args_r, lv_args_a, lv_args_i, lv_args_l, lv_args_0]; done) | (simp only [m_ent, lv_args_r, lv_args_a, lv_args_i, lv_args_l, lv_args_0]; rfl)]
  generalize hw0 : w = w0 at h ⊢
  have hF : m_Fm w0 w0 := m_Fm.refl
  rw [D_c_Integer_numberOfTrailingZeros] at h0
  refine m_Rb.n0 b_120 (x_iload_n d_120_0 rfl) ?_
  refine m_Rb.n0 b_120 (x_iconst (z := (-1)) d_120_1 (by decide)) ?_
  refine m_Rb.n0 b_120 (x_ixor d_120_2 rfl) ?_
  refine m_Rb.n0 b_120 (x_iload_n d_120_3 rfl) ?_
  refine m_Rb.n0 b_120 (x_iconst (z := 1) d_120_4 (by decide)) ?_
  refine m_Rb.n0 b_120 (x_isub d_120_5 rfl) ?_
  refine m_Rb.n0 b_120 (x_iand d_120_6 rfl) ?_
  refine m_Rb.n0 b_120 (x_istore_n d_120_7 rfl (show m_put1 _ _ _ = [(0, _)] from rfl)) ?_
  refine m_Rb.n0 b_120 (x_iload_n d_120_8 rfl) ?_
  cases hc1 : m_c1 .gt ((p0 ^^^ ((-1) : Int32)) &&& (p0 - (1 : Int32))) with
  | true =>
    have j2 := cT hc1 h0
    refine m_Rb.n0 b_120 (x_ift d_120_9 rfl hc1) ?_
    refine m_Rb.n0 b_120 (x_iconst (z := 1) d_120_17 (by decide)) ?_
    refine m_Rb.n0 b_120 (x_istore_n d_120_18 rfl (show m_put1 _ _ _ = [(1, _), (0, _)] from rfl)) ?_
    refine m_Rb.n0 b_120 (x_iload_n d_120_19 rfl) ?_
    refine m_Rb.n0 b_120 (x_ldcw (v := .int 65536) d_120_20 rfl) ?_
    cases hc7 : m_c2 .le ((p0 ^^^ ((-1) : Int32)) &&& (p0 - (1 : Int32))) (65536 : Int32) with
    | true =>
      have j8 := cT hc7 j2
      refine m_Rb.n0 b_120 (x_ict d_120_23 rfl hc7) ?_
      exact m_Rb.pick [1, 0] rfl (T_c_Integer_numberOfTrailingZeros_34 h hF j8)
    | false =>
      have j8 := cF hc7 j2
      refine m_Rb.n0 b_120 (x_icf d_120_23 rfl hc7) ?_
      refine m_Rb.n0 b_120 (x_iinc d_120_26 rfl rfl rfl (show m_put1 _ _ _ = [(1, _), (0, _)] from rfl)) ?_
      refine m_Rb.n0 b_120 (x_iload_n d_120_29 rfl) ?_
      refine m_Rb.n0 b_120 (x_bipush (z := 16) d_120_30 (by decide)) ?_
      refine m_Rb.n0 b_120 (x_iushr d_120_32 rfl) ?_
      refine m_Rb.n0 b_120 (x_istore_n d_120_33 rfl (show m_put1 _ _ _ = [(0, _), (1, _)] from rfl)) ?_
      exact m_Rb.pick [0, 1] rfl (T_c_Integer_numberOfTrailingZeros_34 h hF j8)
  | false =>
    have j2 := cF hc1 h0
    refine m_Rb.n0 b_120 (x_iff d_120_9 rfl hc1) ?_
    refine m_Rb.n0 b_120 (x_iload_n d_120_12 rfl) ?_
    refine m_Rb.n0 b_120 (x_bipush (z := 32) d_120_13 (by decide)) ?_
    refine m_Rb.n0 b_120 (x_iand d_120_15 rfl) ?_
    cases j2
    exact m_Rb.ret b_120 (m_rt_ir d_120_16 rfl rfl) ⟨rfl, h, hF⟩
def D_c_Integer_numberOfLeadingZeros_73 (F : Nat) (x0 : Int32) (x1 : Int32) (T0 : tT) : Option (Int32) := some (x1 - ((x0 : Int32).toUInt32 >>> (((1 : Int32) : Int32).toUInt32 &&& Int32.toUInt32 31)).toInt32)
theorem T_c_Integer_numberOfLeadingZeros_73 {l : Launch} {w0 : List mM} {F : Nat} {T0 : tT} {x0 : Int32} {x1 : Int32} {w : List mM} {yz : Int32} (h : RT T0 w) (hF : m_Fm w0 w) (h0 : D_c_Integer_numberOfLeadingZeros_73 F x0 x1 T0 = some yz) : m_Rb l M_121 (73, [(0, .int x0), (1, .int x1)], [], w) (fun v w' => v = some (.int yz) ∧ RT T0 w' ∧ m_Fm w0 w') T0 T0 0 0 := by
  rw [D_c_Integer_numberOfLeadingZeros_73] at h0
  refine m_Rb.n0 b_121 (x_iload_n d_121_73 rfl) ?_
  refine m_Rb.n0 b_121 (x_iload_n d_121_74 rfl) ?_
  refine m_Rb.n0 b_121 (x_iconst (z := 1) d_121_75 (by decide)) ?_
  refine m_Rb.n0 b_121 (x_iushr d_121_76 rfl) ?_
  refine m_Rb.n0 b_121 (x_isub d_121_77 rfl) ?_
  cases h0
  exact m_Rb.ret b_121 (m_rt_ir d_121_78 rfl rfl) ⟨rfl, h, hF⟩
def D_c_Integer_numberOfLeadingZeros_61 (F : Nat) (x0 : Int32) (x1 : Int32) (T0 : tT) : Option (Int32) := cond (m_c2 .lt x0 (4 : Int32)) (D_c_Integer_numberOfLeadingZeros_73 F x0 x1 T0) (D_c_Integer_numberOfLeadingZeros_73 F ((x0 : Int32).toUInt32 >>> (((2 : Int32) : Int32).toUInt32 &&& Int32.toUInt32 31)).toInt32 (x1 + Int32.ofInt (-2)) T0)
theorem T_c_Integer_numberOfLeadingZeros_61 {l : Launch} {w0 : List mM} {F : Nat} {T0 : tT} {x0 : Int32} {x1 : Int32} {w : List mM} {yz : Int32} (h : RT T0 w) (hF : m_Fm w0 w) (h0 : D_c_Integer_numberOfLeadingZeros_61 F x0 x1 T0 = some yz) : m_Rb l M_121 (61, [(0, .int x0), (1, .int x1)], [], w) (fun v w' => v = some (.int yz) ∧ RT T0 w' ∧ m_Fm w0 w') T0 T0 0 0 := by
  rw [D_c_Integer_numberOfLeadingZeros_61] at h0
  refine m_Rb.n0 b_121 (x_iload_n d_121_61 rfl) ?_
  refine m_Rb.n0 b_121 (x_iconst (z := 4) d_121_62 (by decide)) ?_
  cases hc32 : m_c2 .lt x0 (4 : Int32) with
  | true =>
    have j33 := cT hc32 h0
    refine m_Rb.n0 b_121 (x_ict d_121_63 rfl hc32) ?_
    exact m_Rb.pick [0, 1] rfl (T_c_Integer_numberOfLeadingZeros_73 h hF j33)
  | false =>
    have j33 := cF hc32 h0
    refine m_Rb.n0 b_121 (x_icf d_121_63 rfl hc32) ?_
    refine m_Rb.n0 b_121 (x_iinc d_121_66 rfl rfl rfl (show m_put1 _ _ _ = [(1, _), (0, _)] from rfl)) ?_
    refine m_Rb.n0 b_121 (x_iload_n d_121_69 rfl) ?_
    refine m_Rb.n0 b_121 (x_iconst (z := 2) d_121_70 (by decide)) ?_
    refine m_Rb.n0 b_121 (x_iushr d_121_71 rfl) ?_
    refine m_Rb.n0 b_121 (x_istore_n d_121_72 rfl (show m_put1 _ _ _ = [(0, _), (1, _)] from rfl)) ?_
    exact m_Rb.pick [0, 1] rfl (T_c_Integer_numberOfLeadingZeros_73 h hF j33)
def D_c_Integer_numberOfLeadingZeros_48 (F : Nat) (x0 : Int32) (x1 : Int32) (T0 : tT) : Option (Int32) := cond (m_c2 .lt x0 (16 : Int32)) (D_c_Integer_numberOfLeadingZeros_61 F x0 x1 T0) (D_c_Integer_numberOfLeadingZeros_61 F ((x0 : Int32).toUInt32 >>> (((4 : Int32) : Int32).toUInt32 &&& Int32.toUInt32 31)).toInt32 (x1 + Int32.ofInt (-4)) T0)
theorem T_c_Integer_numberOfLeadingZeros_48 {l : Launch} {w0 : List mM} {F : Nat} {T0 : tT} {x0 : Int32} {x1 : Int32} {w : List mM} {yz : Int32} (h : RT T0 w) (hF : m_Fm w0 w) (h0 : D_c_Integer_numberOfLeadingZeros_48 F x0 x1 T0 = some yz) : m_Rb l M_121 (48, [(0, .int x0), (1, .int x1)], [], w) (fun v w' => v = some (.int yz) ∧ RT T0 w' ∧ m_Fm w0 w') T0 T0 0 0 := by
  rw [D_c_Integer_numberOfLeadingZeros_48] at h0
  refine m_Rb.n0 b_121 (x_iload_n d_121_48 rfl) ?_
  refine m_Rb.n0 b_121 (x_bipush (z := 16) d_121_49 (by decide)) ?_
  cases hc26 : m_c2 .lt x0 (16 : Int32) with
  | true =>
    have j27 := cT hc26 h0
    refine m_Rb.n0 b_121 (x_ict d_121_51 rfl hc26) ?_
    exact m_Rb.pick [0, 1] rfl (T_c_Integer_numberOfLeadingZeros_61 h hF j27)
  | false =>
    have j27 := cF hc26 h0
    refine m_Rb.n0 b_121 (x_icf d_121_51 rfl hc26) ?_
    refine m_Rb.n0 b_121 (x_iinc d_121_54 rfl rfl rfl (show m_put1 _ _ _ = [(1, _), (0, _)] from rfl)) ?_
    refine m_Rb.n0 b_121 (x_iload_n d_121_57 rfl) ?_
    refine m_Rb.n0 b_121 (x_iconst (z := 4) d_121_58 (by decide)) ?_
    refine m_Rb.n0 b_121 (x_iushr d_121_59 rfl) ?_
    refine m_Rb.n0 b_121 (x_istore_n d_121_60 rfl (show m_put1 _ _ _ = [(0, _), (1, _)] from rfl)) ?_
    exact m_Rb.pick [0, 1] rfl (T_c_Integer_numberOfLeadingZeros_61 h hF j27)
def D_c_Integer_numberOfLeadingZeros_33 (F : Nat) (x0 : Int32) (x1 : Int32) (T0 : tT) : Option (Int32) := cond (m_c2 .lt x0 (256 : Int32)) (D_c_Integer_numberOfLeadingZeros_48 F x0 x1 T0) (D_c_Integer_numberOfLeadingZeros_48 F ((x0 : Int32).toUInt32 >>> (((8 : Int32) : Int32).toUInt32 &&& Int32.toUInt32 31)).toInt32 (x1 + Int32.ofInt (-8)) T0)
theorem T_c_Integer_numberOfLeadingZeros_33 {l : Launch} {w0 : List mM} {F : Nat} {T0 : tT} {x0 : Int32} {x1 : Int32} {w : List mM} {yz : Int32} (h : RT T0 w) (hF : m_Fm w0 w) (h0 : D_c_Integer_numberOfLeadingZeros_33 F x0 x1 T0 = some yz) : m_Rb l M_121 (33, [(0, .int x0), (1, .int x1)], [], w) (fun v w' => v = some (.int yz) ∧ RT T0 w' ∧ m_Fm w0 w') T0 T0 0 0 := by
  rw [D_c_Integer_numberOfLeadingZeros_33] at h0
  refine m_Rb.n0 b_121 (x_iload_n d_121_33 rfl) ?_
  refine m_Rb.n0 b_121 (x_sipush (z := 256) d_121_34 (by decide)) ?_
  cases hc20 : m_c2 .lt x0 (256 : Int32) with
  | true =>
    have j21 := cT hc20 h0
    refine m_Rb.n0 b_121 (x_ict d_121_37 rfl hc20) ?_
    exact m_Rb.pick [0, 1] rfl (T_c_Integer_numberOfLeadingZeros_48 h hF j21)
  | false =>
    have j21 := cF hc20 h0
    refine m_Rb.n0 b_121 (x_icf d_121_37 rfl hc20) ?_
    refine m_Rb.n0 b_121 (x_iinc d_121_40 rfl rfl rfl (show m_put1 _ _ _ = [(1, _), (0, _)] from rfl)) ?_
    refine m_Rb.n0 b_121 (x_iload_n d_121_43 rfl) ?_
    refine m_Rb.n0 b_121 (x_bipush (z := 8) d_121_44 (by decide)) ?_
    refine m_Rb.n0 b_121 (x_iushr d_121_46 rfl) ?_
    refine m_Rb.n0 b_121 (x_istore_n d_121_47 rfl (show m_put1 _ _ _ = [(0, _), (1, _)] from rfl)) ?_
    exact m_Rb.pick [0, 1] rfl (T_c_Integer_numberOfLeadingZeros_48 h hF j21)
def D_c_Integer_numberOfLeadingZeros (F : Nat) (p0 : Int32) (T0 : tT) : Option (Int32) := cond (m_c1 .gt p0) (cond (m_c2 .lt p0 (65536 : Int32)) (D_c_Integer_numberOfLeadingZeros_33 F p0 (31 : Int32) T0) (D_c_Integer_numberOfLeadingZeros_33 F ((p0 : Int32).toUInt32 >>> (((16 : Int32) : Int32).toUInt32 &&& Int32.toUInt32 31)).toInt32 ((31 : Int32) + Int32.ofInt (-16)) T0)) ((cond (m_c1 .ne p0) (some (0 : Int32)) (some (32 : Int32))).bind fun v13 => some v13)
theorem T_c_Integer_numberOfLeadingZeros {l : Launch} {w : List mM} {F : Nat} {p0 : Int32} {T0 : tT} {yz : Int32} (h : RT T0 w) (h0 : D_c_Integer_numberOfLeadingZeros F p0 T0 = some yz) : m_Rb l M_121 (m_ent M_121 [.int p0] w) (fun v w' => v = some (.int yz) ∧ RT T0 w' ∧ m_Fm w w') T0 T0 0 0 := by
  rw [show m_ent M_121 [.int p0] w = (0, [(0, .int p0)], [], w) from by first | rfl | (simp only [m_ent, lv_args_r, lv_args_a, lv_args_i, lv_args_l, lv_args_0]; done) | (simp only [m_ent, lv_args_r, lv_args_a, lv_args_i, lv_args_l, lv_args_0]; rfl)]
  generalize hw0 : w = w0 at h ⊢
  have hF : m_Fm w0 w0 := m_Fm.refl
  rw [D_c_Integer_numberOfLeadingZeros] at h0
  refine m_Rb.n0 b_121 (x_iload_n d_121_0 rfl) ?_
  cases hc1 : m_c1 .gt p0 with
  | true =>
    have j2 := cT hc1 h0
    refine m_Rb.n0 b_121 (x_ift d_121_1 rfl hc1) ?_
    refine m_Rb.n0 b_121 (x_bipush (z := 31) d_121_15 (by decide)) ?_
    refine m_Rb.n0 b_121 (x_istore_n d_121_17 rfl (show m_put1 _ _ _ = [(1, _), (0, _)] from rfl)) ?_
    refine m_Rb.n0 b_121 (x_iload_n d_121_18 rfl) ?_
    refine m_Rb.n0 b_121 (x_ldcw (v := .int 65536) d_121_19 rfl) ?_
    cases hc7 : m_c2 .lt p0 (65536 : Int32) with
    | true =>
      have j8 := cT hc7 j2
      refine m_Rb.n0 b_121 (x_ict d_121_22 rfl hc7) ?_
      exact m_Rb.pick [1, 0] rfl (T_c_Integer_numberOfLeadingZeros_33 h hF j8)
    | false =>
      have j8 := cF hc7 j2
      refine m_Rb.n0 b_121 (x_icf d_121_22 rfl hc7) ?_
      refine m_Rb.n0 b_121 (x_iinc d_121_25 rfl rfl rfl (show m_put1 _ _ _ = [(1, _), (0, _)] from rfl)) ?_
      refine m_Rb.n0 b_121 (x_iload_n d_121_28 rfl) ?_
      refine m_Rb.n0 b_121 (x_bipush (z := 16) d_121_29 (by decide)) ?_
      refine m_Rb.n0 b_121 (x_iushr d_121_31 rfl) ?_
      refine m_Rb.n0 b_121 (x_istore_n d_121_32 rfl (show m_put1 _ _ _ = [(0, _), (1, _)] from rfl)) ?_
      exact m_Rb.pick [0, 1] rfl (T_c_Integer_numberOfLeadingZeros_33 h hF j8)
  | false =>
    have j2 := cF hc1 h0
    refine m_Rb.n0 b_121 (x_iff d_121_1 rfl hc1) ?_
    refine m_Rb.n0 b_121 (x_iload_n d_121_4 rfl) ?_
    obtain ⟨v13, e10, j14⟩ := bS j2
    have kk9 : ∀ (xz : Int32) (w1 : List mM), xz = v13 → RT T0 w1 → m_Fm w0 w1 → m_Rb l M_121 (14, [(0, .int p0)], [.int xz], w1) (fun v w' => v = some (.int yz) ∧ RT T0 w' ∧ m_Fm w0 w') T0 T0 0 0 := by
      intro xz w15 ez h15 f15
      rw [ez]
      cases j14
      exact m_Rb.ret b_121 (m_rt_ir d_121_14 rfl rfl) ⟨rfl, h15, f15⟩
    cases hc11 : m_c1 .ne p0 with
    | true =>
      have j12 := cT hc11 e10
      refine m_Rb.n0 b_121 (x_ift d_121_5 rfl hc11) ?_
      refine m_Rb.n0 b_121 (x_iconst (z := 0) d_121_13 (by decide)) ?_
      exact kk9 _ _ (Option.some.inj j12) h hF
    | false =>
      have j12 := cF hc11 e10
      refine m_Rb.n0 b_121 (x_iff d_121_5 rfl hc11) ?_
      refine m_Rb.n0 b_121 (x_bipush (z := 32) d_121_8 (by decide)) ?_
      refine m_Rb.n0 b_121 (x_goto d_121_10 rfl) ?_
      exact kk9 _ _ (Option.some.inj j12) h hF
def D_c_EdgeHouse_letWait_72 (F : Nat) (x0 : Nat) (x2 : Option Nat) (x5 : Option Nat) (T : tT) : Option (Option Nat × tT) := (x5).bind fun a67 => (tcl T a67 10).bind fun _ => (D_c_Fetch_join F a67 x2 T).bind fun T73 => some ((some a67), T73)
theorem T_c_EdgeHouse_letWait_72 {l : Launch} {w0 : List mM} {F : Nat} {x0 : Nat} {x2 : Option Nat} {x5 : Option Nat} {T : tT} {w : List mM} {yz : Option Nat} {Tz : tT} (hx0 : okr T.2.1 (some x0)) (hx2 : okr T.2.1 x2) (hx5 : okr T.2.1 x5) (h : RT T w) (hF : m_Fm w0 w) (h0 : D_c_EdgeHouse_letWait_72 F x0 x2 x5 T = some (yz, Tz)) : m_Rb l M_118 (72, [(0, .ref x0), (2, rv x2), (5, rv x5)], [], w) (fun v w' => v = some (rv yz) ∧ okr Tz.2.1 yz ∧ RT Tz w' ∧ m_Fm w0 w') T Tz 4 400 := by
  rw [D_c_EdgeHouse_letWait_72] at h0
  refine m_Rb.n0 b_118 (x_aloadr (x := x5) d_118_72 rfl) ?_
  refine m_Rb.n0 b_118 (x_aloadr_n (x := x2) d_118_74 rfl) ?_
  obtain ⟨a67, e68, j69⟩ := bS h0
  subst e68
  obtain ⟨_, e70, j71⟩ := bS j69
  obtain ⟨_, g72⟩ := RT.cls h e70
  obtain ⟨T73, e74, j75⟩ := bS j71
  refine m_Rb.callV b_118 (y_cv d_118_75 rfl q_119 (m_isRecv_of rfl g72) (show m_takeI _ _ = some (_, [_, _], []) from m_takeI_of rfl rfl rfl (Nat.le_of_ble_eq_true rfl)) (by simp only [m_okf, List.all_cons, List.all_nil, Bool.and_true, Bool.and_self, m_okv_i, m_okv_l, m_okv_0, m_okv_n0, m_okv_t, RT.okn h hx0, RT.okv h hx0, RT.okv h hx2, RT.okn h hx5, RT.okv h hx5]) (decide_eq_true (by simp only [lgs_r, lgs_a, lgs_i, lgs_l, lgs_0]; exact Nat.le_of_ble_eq_true rfl))) (T_c_Fetch_join hx5 hx2 h e74) hF rfl (fun w76 h76 f76 k76 => ?_) (by decide) (by decide)
  refine m_Rb.n0 b_118 (x_aload d_118_78 rfl) ?_
  have o9 : okr T73.2.1 (some a67) := (okm hx5 k76)
  cases j75
  exact m_Rb.ret b_118 (m_rt_rr (x := (some a67)) d_118_80 rfl) ⟨rfl, o9, h76, f76⟩
def D_c_EdgeHouse_letWait (F : Nat) (a0 : Nat) (p0 : Option Nat) (p1 : Option Nat) (p2 : Int32) (T : tT) : Option (Option Nat × tT) := (p1).bind fun a1 => (tgi T a1 6 0).bind fun v4 => (tgi T a1 6 1).bind fun v7 => (p0).bind fun a10 => (tcl T a10 4).bind fun _ => (D_c_Node_fetchOf F a10 v4 v7 T).bind fun v16 => nc v16 ((tgi T a10 4 9).bind fun v22 => (tpi T a10 4 9 (v22 + (1 : Int32))).bind fun T25 => bd2 (tnw T25 10) fun a29 T30 => (D_c_Fetch_init F a29 (some a1) T30).bind fun T34 => cond (m_c1 .eq p2) (D_c_EdgeHouse_letWait_72 F a0 (some a1) (some a29) T34) ((D_c_Integer_numberOfTrailingZeros F p2 T34).bind fun v44 => (tpi T34 a29 10 5 v44).bind fun T48 => (D_c_Integer_numberOfLeadingZeros F p2 T48).bind fun v52 => (tpi T48 a29 10 6 ((31 : Int32) - v52)).bind fun T56 => D_c_EdgeHouse_letWait_72 F a0 (some a1) (some a29) T56)) fun a20 => ((tcl T a20 10).bind fun _ => (D_c_Fetch_join F a20 (some a1) T).bind fun T63 => some (none, T63))
theorem T_c_EdgeHouse_letWait {l : Launch} {w : List mM} {F : Nat} {a0 : Nat} {p0 : Option Nat} {p1 : Option Nat} {p2 : Int32} {T : tT} {yz : Option Nat} {Tz : tT} (ha0 : okr T.2.1 (some a0)) (hp0 : okr T.2.1 p0) (hp1 : okr T.2.1 p1) (h : RT T w) (h0 : D_c_EdgeHouse_letWait F a0 p0 p1 p2 T = some (yz, Tz)) : m_Rb l M_118 (m_ent M_118 [.ref a0, rv p0, rv p1, .int p2] w) (fun v w' => v = some (rv yz) ∧ okr Tz.2.1 yz ∧ RT Tz w' ∧ m_Fm w w') T Tz 4 400 := by
  rw [show m_ent M_118 [.ref a0, rv p0, rv p1, .int p2] w = (0, [(0, .ref a0), (1, rv p0), (2, rv p1), (3, .int p2)], [], w) from by first | rfl | (simp only [m_ent, lv_args_r, lv_args_a, lv_args_i, lv_args_l, lv_args_0]; done) | (simp only [m_ent, lv_args_r, lv_args_a, lv_args_i, lv_args_l, lv_args_0]; rfl)]
  generalize hw0 : w = w0 at h ⊢
  have hF : m_Fm w0 w0 := m_Fm.refl
  rw [D_c_EdgeHouse_letWait] at h0
  refine m_Rb.n0 b_118 (x_aloadr_n (x := p0) d_118_0 rfl) ?_
  refine m_Rb.n0 b_118 (x_aloadr_n (x := p1) d_118_1 rfl) ?_
  obtain ⟨a1, e2, j3⟩ := bS h0
  subst e2
  obtain ⟨v4, e5, j6⟩ := bS j3
  refine m_Rb.tgetI b_118 d_118_2 rfl h e5 ?_
  refine m_Rb.n0 b_118 (x_aload_n d_118_5 rfl) ?_
  obtain ⟨v7, e8, j9⟩ := bS j6
  refine m_Rb.tgetI b_118 d_118_6 rfl h e8 ?_
  obtain ⟨a10, e11, j12⟩ := bS j9
  subst e11
  obtain ⟨_, e13, j14⟩ := bS j12
  obtain ⟨_, g15⟩ := RT.cls h e13
  obtain ⟨v16, e17, j18⟩ := bS j14
  refine m_Rb.callR b_118 (y_cv d_118_9 rfl q_109 (m_isRecv_of rfl g15) (show m_takeI _ _ = some (_, [_, _, _], []) from m_takeI_of rfl rfl rfl (Nat.le_of_ble_eq_true rfl)) (by simp only [m_okf, List.all_cons, List.all_nil, Bool.and_true, Bool.and_self, m_okv_i, m_okv_l, m_okv_0, m_okv_n0, m_okv_t, RT.okn h ha0, RT.okv h ha0, RT.okn h hp0, RT.okv h hp0, RT.okn h hp1, RT.okv h hp1]) rfl) (T_c_Node_fetchOf hp0 h e17) hF rfl (fun w19 o19 h19 f19 k19 => ?_) (by decide) (by decide)
  refine m_Rb.n0 b_118 (x_astorer (x := v16) d_118_12 rfl (show m_put1 _ _ _ = [(4, _), (0, _), (1, _), (2, _), (3, _)] from rfl)) ?_
  refine m_Rb.n0 b_118 (x_aloadr (x := v16) d_118_14 rfl) ?_
  cases v16 with
  | none =>
    have j21 := nN j18
    refine m_Rb.n0 b_118 (x_ifnull0 d_118_16 rfl) ?_
    refine m_Rb.n0 b_118 (x_aload_n d_118_27 rfl) ?_
    refine m_Rb.n0 b_118 (x_dup d_118_28 rfl) ?_
    obtain ⟨v22, e23, j24⟩ := bS j21
    refine m_Rb.tgetI b_118 d_118_29 rfl h19 e23 ?_
    refine m_Rb.n0 b_118 (x_iconst (z := 1) d_118_32 (by decide)) ?_
    refine m_Rb.n0 b_118 (x_iadd d_118_33 rfl) ?_
    obtain ⟨T25, e26, j27⟩ := bS j24
    refine m_Rb.tputI b_118 d_118_34 rfl rfl (by decide) h19 f19 e26 (fun w28 h28 f28 k28 => ?_)
    obtain ⟨a29, T30, e31, j32⟩ := bS2 j27
    refine m_Rb.tnew b_118 d_118_37 rfl (by simp only [m_okf, List.all_cons, List.all_nil, Bool.and_true, Bool.and_self, m_okv_i, m_okv_l, m_okv_0, m_okv_n0, m_okv_t, RT.okn h28 (okm ha0 k28), RT.okv h28 (okm ha0 k28), RT.okn h28 (okm hp0 k28), RT.okv h28 (okm hp0 k28), RT.okn h28 (okm hp1 k28), RT.okv h28 (okm hp1 k28)]) h28 f28 e31 (fun w33 o33 h33 f33 k33 => ?_)
    refine m_Rb.n0 b_118 (x_dup d_118_40 rfl) ?_
    refine m_Rb.n0 b_118 (x_aload_n d_118_41 rfl) ?_
    obtain ⟨T34, e35, j36⟩ := bS j32
    refine m_Rb.callV b_118 (x_ci d_118_42 rfl (by decide) q_110 (show m_takeI _ _ = some (_, [_, _], [_]) from m_takeI_of rfl rfl rfl (Nat.le_of_ble_eq_true rfl)) (by simp only [m_okf, List.all_cons, List.all_nil, Bool.and_true, Bool.and_self, m_okv_i, m_okv_l, m_okv_0, m_okv_n0, m_okv_t, RT.okn h33 (okm (okm ha0 k28) k33), RT.okv h33 (okm (okm ha0 k28) k33), RT.okn h33 (okm (okm hp0 k28) k33), RT.okv h33 (okm (okm hp0 k28) k33), RT.okn h33 (okm (okm hp1 k28) k33), RT.okv h33 (okm (okm hp1 k28) k33), RT.okn h33 o33, RT.okv h33 o33]) rfl) (T_c_Fetch_init o33 (okm (okm hp1 k28) k33) h33 e35) f33 rfl (fun w37 h37 f37 k37 => ?_) (by decide) (by decide)
    refine m_Rb.n0 b_118 (x_astore d_118_45 rfl (show m_put1 _ _ _ = [(5, _), (4, _), (0, _), (1, _), (2, _), (3, _)] from (m_p1r (by simp only [List.all_cons, List.all_nil, cat_rv]; rfl)).trans rfl)) ?_
    refine m_Rb.n0 b_118 (x_iload_n d_118_47 rfl) ?_
    cases hc42 : m_c1 .eq p2 with
    | true =>
      have j43 := cT hc42 j36
      refine m_Rb.n0 b_118 (x_ift d_118_48 rfl hc42) ?_
      exact m_Rb.pick [2, 4, 0] rfl (T_c_EdgeHouse_letWait_72 (okm (okm (okm ha0 k28) k33) k37) (okm (okm (okm hp1 k28) k33) k37) (okm o33 k37) h37 f37 j43)
    | false =>
      have j43 := cF hc42 j36
      refine m_Rb.n0 b_118 (x_iff d_118_48 rfl hc42) ?_
      refine m_Rb.n0 b_118 (x_aload d_118_51 rfl) ?_
      refine m_Rb.n0 b_118 (x_iload_n d_118_53 rfl) ?_
      obtain ⟨v44, e45, j46⟩ := bS j43
      refine m_Rb.callI b_118 (y_cs d_118_54 rfl q_120 (show m_takeS _ _ = some (_, [_], [_]) from m_takeS_of (Nat.le_of_ble_eq_true rfl) rfl rfl (Nat.le_of_ble_eq_true rfl)) (by simp only [m_okf, List.all_cons, List.all_nil, Bool.and_true, Bool.and_self, m_okv_i, m_okv_l, m_okv_0, m_okv_n0, m_okv_t, RT.okn h37 (okm o33 k37), RT.okv h37 (okm o33 k37), RT.okn h37 (okm (okm (okm ha0 k28) k33) k37), RT.okv h37 (okm (okm (okm ha0 k28) k33) k37), RT.okn h37 (okm (okm (okm hp0 k28) k33) k37), RT.okv h37 (okm (okm (okm hp0 k28) k33) k37), RT.okn h37 (okm (okm (okm hp1 k28) k33) k37), RT.okv h37 (okm (okm (okm hp1 k28) k33) k37)]) rfl) (T_c_Integer_numberOfTrailingZeros h37 e45) f37 rfl (fun w47 h47 f47 k47 => ?_) (by decide) (by decide)
      obtain ⟨T48, e49, j50⟩ := bS j46
      refine m_Rb.tputI b_118 d_118_57 rfl rfl (by decide) h47 f47 e49 (fun w51 h51 f51 k51 => ?_)
      refine m_Rb.n0 b_118 (x_aload d_118_60 rfl) ?_
      refine m_Rb.n0 b_118 (x_bipush (z := 31) d_118_62 (by decide)) ?_
      refine m_Rb.n0 b_118 (x_iload_n d_118_64 rfl) ?_
      obtain ⟨v52, e53, j54⟩ := bS j50
      refine m_Rb.callI b_118 (y_cs d_118_65 rfl q_121 (show m_takeS _ _ = some (_, [_], [_, _]) from m_takeS_of (Nat.le_of_ble_eq_true rfl) rfl rfl (Nat.le_of_ble_eq_true rfl)) (by simp only [m_okf, List.all_cons, List.all_nil, Bool.and_true, Bool.and_self, m_okv_i, m_okv_l, m_okv_0, m_okv_n0, m_okv_t, RT.okn h51 (okm (okm o33 k37) k51), RT.okv h51 (okm (okm o33 k37) k51), RT.okn h51 (okm (okm (okm (okm ha0 k28) k33) k37) k51), RT.okv h51 (okm (okm (okm (okm ha0 k28) k33) k37) k51), RT.okn h51 (okm (okm (okm (okm hp0 k28) k33) k37) k51), RT.okv h51 (okm (okm (okm (okm hp0 k28) k33) k37) k51), RT.okn h51 (okm (okm (okm (okm hp1 k28) k33) k37) k51), RT.okv h51 (okm (okm (okm (okm hp1 k28) k33) k37) k51)]) rfl) (T_c_Integer_numberOfLeadingZeros h51 e53) f51 rfl (fun w55 h55 f55 k55 => ?_) (by decide) (by decide)
      refine m_Rb.n0 b_118 (x_isub d_118_68 rfl) ?_
      obtain ⟨T56, e57, j58⟩ := bS j54
      refine m_Rb.tputI b_118 d_118_69 rfl rfl (by decide) h55 f55 e57 (fun w59 h59 f59 k59 => ?_)
      exact m_Rb.pick [2, 4, 0] rfl (T_c_EdgeHouse_letWait_72 (okm (okm (okm (okm (okm ha0 k28) k33) k37) k51) k59) (okm (okm (okm (okm (okm hp1 k28) k33) k37) k51) k59) (okm (okm (okm o33 k37) k51) k59) h59 f59 j58)
  | some a20 =>
    have j21 := nS j18
    refine m_Rb.n0 b_118 (x_ifnull1 d_118_16 rfl) ?_
    refine m_Rb.n0 b_118 (x_aload d_118_19 rfl) ?_
    refine m_Rb.n0 b_118 (x_aload_n d_118_21 rfl) ?_
    obtain ⟨_, e60, j61⟩ := bS j21
    obtain ⟨_, g62⟩ := RT.cls h19 e60
    obtain ⟨T63, e64, j65⟩ := bS j61
    refine m_Rb.callV b_118 (y_cv d_118_22 rfl q_119 (m_isRecv_of rfl g62) (show m_takeI _ _ = some (_, [_, _], []) from m_takeI_of rfl rfl rfl (Nat.le_of_ble_eq_true rfl)) (by simp only [m_okf, List.all_cons, List.all_nil, Bool.and_true, Bool.and_self, m_okv_i, m_okv_l, m_okv_0, m_okv_n0, m_okv_t, RT.okn h19 o19, RT.okv h19 o19, RT.okn h19 ha0, RT.okv h19 ha0, RT.okn h19 hp0, RT.okv h19 hp0, RT.okn h19 hp1, RT.okv h19 hp1]) rfl) (T_c_Fetch_join o19 hp1 h19 e64) f19 rfl (fun w66 h66 f66 k66 => ?_) (by decide) (by decide)
    refine m_Rb.n0 b_118 (x_null d_118_25) ?_
    have o9 : okr T63.2.1 none := okr_none
    cases j65
    exact m_Rb.ret b_118 (m_rt_rr (x := none) d_118_26 rfl) ⟨rfl, o9, h66, f66⟩
def D_c_Entry_isEnoughFor (F : Nat) (a0 : Nat) (p0 : Option Nat) (T0 : tT) : Option (Int32) := (tcl T0 a0 11).bind fun _ => (D_c_Entry_suits F a0 p0 T0).bind fun v4 => cond (m_c1 .eq v4) (some (0 : Int32)) ((tgi T0 a0 11 4).bind fun v25 => (p0).bind fun a28 => (tgi T0 a28 6 11).bind fun v31 => (cond (m_c2 .lt v25 v31) (some (0 : Int32)) ((tcl T0 a28 6).bind fun _ => (D_c_Request_missingIn F a28 (some a0) T0).bind fun v41 => cond (m_c1 .ne v41) (some (0 : Int32)) (some (1 : Int32)))).bind fun v47 => (bret v47).bind fun v50 => some v50)
theorem T_c_Entry_isEnoughFor {l : Launch} {w : List mM} {F : Nat} {a0 : Nat} {p0 : Option Nat} {T0 : tT} {yz : Int32} (ha0 : okr T0.2.1 (some a0)) (hp0 : okr T0.2.1 p0) (h : RT T0 w) (h0 : D_c_Entry_isEnoughFor F a0 p0 T0 = some yz) : m_Rb l M_123 (m_ent M_123 [.ref a0, rv p0] w) (fun v w' => v = some (.int yz) ∧ RT T0 w' ∧ m_Fm w w') T0 T0 3 300 := by
  rw [show m_ent M_123 [.ref a0, rv p0] w = (0, [(0, .ref a0), (1, rv p0)], [], w) from by first | rfl | (simp only [m_ent, lv_args_r, lv_args_a, lv_args_i, lv_args_l, lv_args_0]; done) | (simp only [m_ent, lv_args_r, lv_args_a, lv_args_i, lv_args_l, lv_args_0]; rfl)]
  generalize hw0 : w = w0 at h ⊢
  have hF : m_Fm w0 w0 := m_Fm.refl
  rw [D_c_Entry_isEnoughFor] at h0
  refine m_Rb.n0 b_123 (x_aload_n d_123_0 rfl) ?_
  refine m_Rb.n0 b_123 (x_aloadr_n (x := p0) d_123_1 rfl) ?_
  obtain ⟨_, e1, j2⟩ := bS h0
  obtain ⟨_, g3⟩ := RT.cls h e1
  obtain ⟨v4, e5, j6⟩ := bS j2
  refine m_Rb.callI b_123 (y_cv d_123_2 rfl q_80 (m_isRecv_of rfl g3) (show m_takeI _ _ = some (_, [_, _], []) from m_takeI_of rfl rfl rfl (Nat.le_of_ble_eq_true rfl)) (by simp only [m_okf, List.all_cons, List.all_nil, Bool.and_true, Bool.and_self, m_okv_i, m_okv_l, m_okv_0, m_okv_n0, m_okv_t, RT.okn h ha0, RT.okv h ha0, RT.okv h hp0]) (decide_eq_true (by simp only [lgs_r, lgs_a, lgs_i, lgs_l, lgs_0]; exact Nat.le_of_ble_eq_true rfl))) (T_c_Entry_suits ha0 hp0 h e5) hF rfl (fun w7 h7 f7 k7 => ?_) (by decide) (by decide)
  cases hc23 : m_c1 .eq v4 with
  | true =>
    have j24 := cT hc23 j6
    refine m_Rb.n0 b_123 (x_ift d_123_5 rfl hc23) ?_
    refine m_Rb.n0 b_123 (x_iconst (z := 0) d_123_31 (by decide)) ?_
    cases j24
    exact m_Rb.ret b_123 (m_rt_ir d_123_32 rfl m_nb0) ⟨rfl, h7, f7⟩
  | false =>
    have j24 := cF hc23 j6
    refine m_Rb.n0 b_123 (x_iff d_123_5 rfl hc23) ?_
    refine m_Rb.n0 b_123 (x_aload_n d_123_8 rfl) ?_
    obtain ⟨v25, e26, j27⟩ := bS j24
    refine m_Rb.tgetI b_123 d_123_9 rfl h7 e26 ?_
    refine m_Rb.n0 b_123 (x_aloadr_n (x := p0) d_123_12 rfl) ?_
    obtain ⟨a28, e29, j30⟩ := bS j27
    subst e29
    obtain ⟨v31, e32, j33⟩ := bS j30
    refine m_Rb.tgetI b_123 d_123_13 rfl h7 e32 ?_
    obtain ⟨v47, e35, j48⟩ := bS j33
    have kk34 : ∀ (xz : Int32) (w1 : List mM), xz = v47 → RT T0 w1 → m_Fm w0 w1 → m_Rb l M_123 (32, [(0, .ref a0), (1, .ref a28)], [.int xz], w1) (fun v w' => v = some (.int yz) ∧ RT T0 w' ∧ m_Fm w0 w') T0 T0 3 300 := by
      intro xz w49 ez h49 f49
      rw [ez]
      obtain ⟨v50, e51, j52⟩ := bS j48
      cases j52
      exact m_Rb.retb b_123 d_123_32 rfl e51 ⟨rfl, h49, f49⟩
    cases hc36 : m_c2 .lt v25 v31 with
    | true =>
      have j37 := cT hc36 e35
      refine m_Rb.n0 b_123 (x_ict d_123_16 rfl hc36) ?_
      refine m_Rb.n0 b_123 (x_iconst (z := 0) d_123_31 (by decide)) ?_
      exact kk34 _ _ (Option.some.inj j37) h7 f7
    | false =>
      have j37 := cF hc36 e35
      refine m_Rb.n0 b_123 (x_icf d_123_16 rfl hc36) ?_
      refine m_Rb.n0 b_123 (x_aload_n d_123_19 rfl) ?_
      refine m_Rb.n0 b_123 (x_aload_n d_123_20 rfl) ?_
      obtain ⟨_, e38, j39⟩ := bS j37
      obtain ⟨_, g40⟩ := RT.cls h7 e38
      obtain ⟨v41, e42, j43⟩ := bS j39
      refine m_Rb.callI b_123 (y_cv d_123_21 rfl q_84 (m_isRecv_of rfl g40) (show m_takeI _ _ = some (_, [_, _], []) from m_takeI_of rfl rfl rfl (Nat.le_of_ble_eq_true rfl)) (by simp only [m_okf, List.all_cons, List.all_nil, Bool.and_true, Bool.and_self, m_okv_i, m_okv_l, m_okv_0, m_okv_n0, m_okv_t, RT.okn h7 ha0, RT.okv h7 ha0, RT.okn h7 hp0, RT.okv h7 hp0]) rfl) (T_c_Request_missingIn hp0 ha0 h7 e42) f7 rfl (fun w44 h44 f44 k44 => ?_) (by decide) (by decide)
      cases hc45 : m_c1 .ne v41 with
      | true =>
        have j46 := cT hc45 j43
        refine m_Rb.n0 b_123 (x_ift d_123_24 rfl hc45) ?_
        refine m_Rb.n0 b_123 (x_iconst (z := 0) d_123_31 (by decide)) ?_
        exact kk34 _ _ (Option.some.inj j46) h44 f44
      | false =>
        have j46 := cF hc45 j43
        refine m_Rb.n0 b_123 (x_iff d_123_24 rfl hc45) ?_
        refine m_Rb.n0 b_123 (x_iconst (z := 1) d_123_27 (by decide)) ?_
        refine m_Rb.n0 b_123 (x_goto d_123_28 rfl) ?_
        exact kk34 _ _ (Option.some.inj j46) h44 f44
def D_c_Told_helpsOnError (F : Nat) (a0 : Nat) (p0 : Int32) (T0 : tT) : Option (Int32) := (tcl T0 a0 13).bind fun _ => (D_c_Told_life F a0 T0).bind fun v4 => (tgi T0 a0 13 4).bind fun v8 => (cond (m_c2 .ge p0 (v4 + v8)) (some (0 : Int32)) (some (1 : Int32))).bind fun v15 => (bret v15).bind fun v18 => some v18
theorem T_c_Told_helpsOnError {l : Launch} {w : List mM} {F : Nat} {a0 : Nat} {p0 : Int32} {T0 : tT} {yz : Int32} (ha0 : okr T0.2.1 (some a0)) (h : RT T0 w) (h0 : D_c_Told_helpsOnError F a0 p0 T0 = some yz) : m_Rb l M_124 (m_ent M_124 [.ref a0, .int p0] w) (fun v w' => v = some (.int yz) ∧ RT T0 w' ∧ m_Fm w w') T0 T0 1 100 := by
  rw [show m_ent M_124 [.ref a0, .int p0] w = (0, [(0, .ref a0), (1, .int p0)], [], w) from by first | rfl | (simp only [m_ent, lv_args_r, lv_args_a, lv_args_i, lv_args_l, lv_args_0]; done) | (simp only [m_ent, lv_args_r, lv_args_a, lv_args_i, lv_args_l, lv_args_0]; rfl)]
  generalize hw0 : w = w0 at h ⊢
  have hF : m_Fm w0 w0 := m_Fm.refl
  rw [D_c_Told_helpsOnError] at h0
  refine m_Rb.n0 b_124 (x_iload_n d_124_0 rfl) ?_
  refine m_Rb.n0 b_124 (x_aload_n d_124_1 rfl) ?_
  obtain ⟨_, e1, j2⟩ := bS h0
  obtain ⟨_, g3⟩ := RT.cls h e1
  obtain ⟨v4, e5, j6⟩ := bS j2
  refine m_Rb.callI b_124 (y_cv d_124_2 rfl q_91 (m_isRecv_of rfl g3) (show m_takeI _ _ = some (_, [_], [_]) from m_takeI_of rfl rfl rfl (Nat.le_of_ble_eq_true rfl)) (by simp only [m_okf, List.all_cons, List.all_nil, Bool.and_true, Bool.and_self, m_okv_i, m_okv_l, m_okv_0, m_okv_n0, m_okv_t, RT.okn h ha0, RT.okv h ha0]) rfl) (T_c_Told_life ha0 h e5) hF rfl (fun w7 h7 f7 k7 => ?_) (by decide) (by decide)
  refine m_Rb.n0 b_124 (x_aload_n d_124_5 rfl) ?_
  obtain ⟨v8, e9, j10⟩ := bS j6
  refine m_Rb.tgetI b_124 d_124_6 rfl h7 e9 ?_
  refine m_Rb.n0 b_124 (x_iadd d_124_9 rfl) ?_
  obtain ⟨v15, e12, j16⟩ := bS j10
  have kk11 : ∀ (xz : Int32) (w1 : List mM), xz = v15 → RT T0 w1 → m_Fm w0 w1 → m_Rb l M_124 (18, [(0, .ref a0), (1, .int p0)], [.int xz], w1) (fun v w' => v = some (.int yz) ∧ RT T0 w' ∧ m_Fm w0 w') T0 T0 1 100 := by
    intro xz w17 ez h17 f17
    rw [ez]
    obtain ⟨v18, e19, j20⟩ := bS j16
    cases j20
    exact m_Rb.retb b_124 d_124_18 rfl e19 ⟨rfl, h17, f17⟩
  cases hc13 : m_c2 .ge p0 (v4 + v8) with
  | true =>
    have j14 := cT hc13 e12
    refine m_Rb.n0 b_124 (x_ict d_124_10 rfl hc13) ?_
    refine m_Rb.n0 b_124 (x_iconst (z := 0) d_124_17 (by decide)) ?_
    exact kk11 _ _ (Option.some.inj j14) h7 f7
  | false =>
    have j14 := cF hc13 e12
    refine m_Rb.n0 b_124 (x_icf d_124_10 rfl hc13) ?_
    refine m_Rb.n0 b_124 (x_iconst (z := 1) d_124_13 (by decide)) ?_
    refine m_Rb.n0 b_124 (x_goto d_124_14 rfl) ?_
    exact kk11 _ _ (Option.some.inj j14) h7 f7
def D_c_EdgeHouse_failAll_95 (F : Nat) (rec2 : Nat → Option Nat → Option Nat → tT → Option (tT)) (x0 : Nat) (x1 : Option Nat) (x3 : Option Nat) (T : tT) : Option (tT) := (x3).bind fun a80 => (tgr T a80 6 18).bind fun v83 => rec2 x0 x1 v83 T
theorem T_c_EdgeHouse_failAll_95 {l : Launch} {w0 : List mM} {F : Nat} {rec2 : Nat → Option Nat → Option Nat → tT → Option (tT)} (hr2 : ∀ {x0 : Nat} {x1 : Option Nat} {x3 : Option Nat} {T : tT} {w : List mM} {Tz : tT}, okr T.2.1 (some x0) → okr T.2.1 x1 → okr T.2.1 x3 → RT T w → m_Fm w0 w → rec2 x0 x1 x3 T = some Tz → m_Rb l M_122 (2, [(0, .ref x0), (1, rv x1), (3, rv x3)], [], w) (fun v w' => v = none ∧ RT Tz w' ∧ m_Fm w0 w') T Tz 16 1600) {x0 : Nat} {x1 : Option Nat} {x3 : Option Nat} {T : tT} {w : List mM} {Tz : tT} (hx0 : okr T.2.1 (some x0)) (hx1 : okr T.2.1 x1) (hx3 : okr T.2.1 x3) (h : RT T w) (hF : m_Fm w0 w) (h0 : D_c_EdgeHouse_failAll_95 F rec2 x0 x1 x3 T = some Tz) : m_Rb l M_122 (95, [(0, .ref x0), (1, rv x1), (3, rv x3)], [], w) (fun v w' => v = none ∧ RT Tz w' ∧ m_Fm w0 w') T Tz 16 1600 := by
  rw [D_c_EdgeHouse_failAll_95] at h0
  refine m_Rb.n0 b_122 (x_aloadr_n (x := x3) d_122_95 rfl) ?_
  obtain ⟨a80, e81, j82⟩ := bS h0
  subst e81
  obtain ⟨v83, e84, j85⟩ := bS j82
  refine m_Rb.tgetR b_122 d_122_96 rfl h e84 (fun o86 => ?_)
  refine m_Rb.n0 b_122 (x_astorer_n (x := v83) d_122_99 rfl (show m_put1 _ _ _ = [(3, _), (0, _), (1, _)] from rfl)) ?_
  refine m_Rb.n0 b_122 (x_goto d_122_100 rfl) ?_
  exact m_Rb.pick [1, 2, 0] rfl (hr2 hx0 hx1 o86 h hF j85)
def D_c_EdgeHouse_failAll_62 (F : Nat) (rec2 : Nat → Option Nat → Option Nat → tT → Option (tT)) (x0 : Nat) (x1 : Option Nat) (x3 : Option Nat) (T : tT) : Option (tT) := (x3).bind fun a87 => (tgr T a87 6 14).bind fun v90 => nc v90 ((x1).bind fun a96 => (tgi T a96 4 0).bind fun v99 => (tcl T x0 0).bind fun _ => (D_c_EdgeHouse_sendStatus F x0 v99 (some a87) (504 : Int32) T).bind fun T105 => D_c_EdgeHouse_failAll_95 F rec2 x0 (some a96) (some a87) T105) fun a94 => ((tgr T a87 6 14).bind fun v109 => (tcl T x0 0).bind fun _ => (D_c_EdgeHouse_close F x0 v109 (504 : Int32) T).bind fun T116 => D_c_EdgeHouse_failAll_95 F rec2 x0 x1 (some a87) T116)
theorem T_c_EdgeHouse_failAll_62 {l : Launch} {w0 : List mM} {F : Nat} {rec2 : Nat → Option Nat → Option Nat → tT → Option (tT)} (hr2 : ∀ {x0 : Nat} {x1 : Option Nat} {x3 : Option Nat} {T : tT} {w : List mM} {Tz : tT}, okr T.2.1 (some x0) → okr T.2.1 x1 → okr T.2.1 x3 → RT T w → m_Fm w0 w → rec2 x0 x1 x3 T = some Tz → m_Rb l M_122 (2, [(0, .ref x0), (1, rv x1), (3, rv x3)], [], w) (fun v w' => v = none ∧ RT Tz w' ∧ m_Fm w0 w') T Tz 16 1600) {x0 : Nat} {x1 : Option Nat} {x3 : Option Nat} {T : tT} {w : List mM} {Tz : tT} (hx0 : okr T.2.1 (some x0)) (hx1 : okr T.2.1 x1) (hx3 : okr T.2.1 x3) (h : RT T w) (hF : m_Fm w0 w) (h0 : D_c_EdgeHouse_failAll_62 F rec2 x0 x1 x3 T = some Tz) : m_Rb l M_122 (62, [(0, .ref x0), (1, rv x1), (3, rv x3)], [], w) (fun v w' => v = none ∧ RT Tz w' ∧ m_Fm w0 w') T Tz 16 1600 := by
  rw [D_c_EdgeHouse_failAll_62] at h0
  refine m_Rb.n0 b_122 (x_aloadr_n (x := x3) d_122_62 rfl) ?_
  obtain ⟨a87, e88, j89⟩ := bS h0
  subst e88
  obtain ⟨v90, e91, j92⟩ := bS j89
  refine m_Rb.tgetR b_122 d_122_63 rfl h e91 (fun o93 => ?_)
  cases v90 with
  | none =>
    have j95 := nN j92
    refine m_Rb.n0 b_122 (x_ifnull0 d_122_66 rfl) ?_
    refine m_Rb.n0 b_122 (x_aload_n d_122_83 rfl) ?_
    refine m_Rb.n0 b_122 (x_aloadr_n (x := x1) d_122_84 rfl) ?_
    obtain ⟨a96, e97, j98⟩ := bS j95
    subst e97
    obtain ⟨v99, e100, j101⟩ := bS j98
    refine m_Rb.tgetI b_122 d_122_85 rfl h e100 ?_
    refine m_Rb.n0 b_122 (x_aload_n d_122_88 rfl) ?_
    refine m_Rb.n0 b_122 (x_sipush (z := 504) d_122_89 (by decide)) ?_
    obtain ⟨_, e102, j103⟩ := bS j101
    obtain ⟨_, g104⟩ := RT.cls h e102
    obtain ⟨T105, e106, j107⟩ := bS j103
    refine m_Rb.callV b_122 (y_cv d_122_92 rfl q_117 (m_isRecv_of rfl g104) (show m_takeI _ _ = some (_, [_, _, _, _], []) from m_takeI_of rfl rfl rfl (Nat.le_of_ble_eq_true rfl)) (by simp only [m_okf, List.all_cons, List.all_nil, Bool.and_true, Bool.and_self, m_okv_i, m_okv_l, m_okv_0, m_okv_n0, m_okv_t, RT.okn h hx0, RT.okv h hx0, RT.okn h hx1, RT.okv h hx1, RT.okn h hx3, RT.okv h hx3]) rfl) (T_c_EdgeHouse_sendStatus hx0 hx3 h e106) hF rfl (fun w108 h108 f108 k108 => ?_) (by decide) (by decide)
    exact m_Rb.pick [0, 1, 2] rfl (T_c_EdgeHouse_failAll_95 hr2 (okm hx0 k108) (okm hx1 k108) (okm hx3 k108) h108 f108 j107)
  | some a94 =>
    have j95 := nS j92
    refine m_Rb.n0 b_122 (x_ifnull1 d_122_66 rfl) ?_
    refine m_Rb.n0 b_122 (x_aload_n d_122_69 rfl) ?_
    refine m_Rb.n0 b_122 (x_aload_n d_122_70 rfl) ?_
    obtain ⟨v109, e110, j111⟩ := bS j95
    refine m_Rb.tgetR b_122 d_122_71 rfl h e110 (fun o112 => ?_)
    refine m_Rb.n0 b_122 (x_sipush (z := 504) d_122_74 (by decide)) ?_
    obtain ⟨_, e113, j114⟩ := bS j111
    obtain ⟨_, g115⟩ := RT.cls h e113
    obtain ⟨T116, e117, j118⟩ := bS j114
    refine m_Rb.callV b_122 (y_cv d_122_77 rfl q_70 (m_isRecv_of rfl g115) (show m_takeI _ _ = some (_, [_, _, _], []) from m_takeI_of rfl rfl rfl (Nat.le_of_ble_eq_true rfl)) (by simp only [m_okf, List.all_cons, List.all_nil, Bool.and_true, Bool.and_self, m_okv_i, m_okv_l, m_okv_0, m_okv_n0, m_okv_t, RT.okn h hx0, RT.okv h hx0, RT.okv h hx1, RT.okn h hx3, RT.okv h hx3, RT.okv h o112]) (decide_eq_true (by simp only [lgs_r, lgs_a, lgs_i, lgs_l, lgs_0]; exact Nat.le_of_ble_eq_true rfl))) (T_c_EdgeHouse_close hx0 o112 h e117) hF rfl (fun w119 h119 f119 k119 => ?_) (by decide) (by decide)
    refine m_Rb.n0 b_122 (x_goto d_122_80 rfl) ?_
    exact m_Rb.pick [0, 1, 2] rfl (T_c_EdgeHouse_failAll_95 hr2 (okm hx0 k119) (okm hx1 k119) (okm hx3 k119) h119 f119 j118)
def D_c_EdgeHouse_failAll_2 (F : Nat) : Nat → Nat → Option Nat → Option Nat → tT → Option (tT)
  | 0, _, _, _, _ => none
  | n + 1, x0, x1, x3, T => nc x3 (some T) fun a1 => ((x1).bind fun a3 => (tgr T a3 4 1).bind fun v6 => (v6).bind fun a10 => (tcl T a10 5).bind fun _ => (D_c_Store_suiting F a10 (some a1) T).bind fun v16 => nc v16 (D_c_EdgeHouse_failAll_62 F (D_c_EdgeHouse_failAll_2 F n) x0 (some a3) (some a1) T) fun a20 => ((tcl T a20 11).bind fun _ => (D_c_Entry_isEnoughFor F a20 (some a1) T).bind fun v25 => cond (m_c1 .eq v25) (D_c_EdgeHouse_failAll_62 F (D_c_EdgeHouse_failAll_2 F n) x0 (some a3) (some a1) T) ((tgr T a20 11 2).bind fun v39 => (tgi T x0 0 14).bind fun v43 => (tcl T a20 11).bind fun _ => (D_c_Entry_ageAt F a20 v43 T).bind fun v49 => (v39).bind fun a53 => (tcl T a53 13).bind fun _ => (D_c_Told_helpsOnError F a53 v49 T).bind fun v59 => cond (m_c1 .eq v59) (D_c_EdgeHouse_failAll_62 F (D_c_EdgeHouse_failAll_2 F n) x0 (some a3) (some a1) T) ((tcl T x0 0).bind fun _ => (D_c_EdgeHouse_serve F x0 (some a3) (some a1) (some a20) (2 : Int32) T).bind fun T76 => D_c_EdgeHouse_failAll_95 F (D_c_EdgeHouse_failAll_2 F n) x0 (some a3) (some a1) T76))))
theorem T_c_EdgeHouse_failAll_2 {l : Launch} {w0 : List mM} {F : Nat} : ∀ (n : Nat) {x0 : Nat} {x1 : Option Nat} {x3 : Option Nat} {T : tT} {w : List mM} {Tz : tT}, okr T.2.1 (some x0) → okr T.2.1 x1 → okr T.2.1 x3 → RT T w → m_Fm w0 w → D_c_EdgeHouse_failAll_2 F n x0 x1 x3 T = some Tz → m_Rb l M_122 (2, [(0, .ref x0), (1, rv x1), (3, rv x3)], [], w) (fun v w' => v = none ∧ RT Tz w' ∧ m_Fm w0 w') T Tz 16 1600 := by
  intro n
  induction n with
  | zero => intro x0 x1 x3 T w Tz hx0 hx1 hx3 h hF h0; cases h0
  | succ n ih =>
    intro x0 x1 x3 T w Tz hx0 hx1 hx3 h hF h0
    rw [D_c_EdgeHouse_failAll_2] at h0
    refine m_Rb.n0 b_122 (x_aloadr_n (x := x3) d_122_2 rfl) ?_
    cases x3 with
    | none =>
      have j2 := nN h0
      refine m_Rb.n0 b_122 (x_ifnull0 d_122_3 rfl) ?_
      cases j2
      exact m_Rb.ret b_122 (m_rt_vr d_122_103 rfl) ⟨rfl, h, hF⟩
    | some a1 =>
      have j2 := nS h0
      refine m_Rb.n0 b_122 (x_ifnull1 d_122_3 rfl) ?_
      refine m_Rb.n0 b_122 (x_aloadr_n (x := x1) d_122_6 rfl) ?_
      obtain ⟨a3, e4, j5⟩ := bS j2
      subst e4
      obtain ⟨v6, e7, j8⟩ := bS j5
      refine m_Rb.tgetR b_122 d_122_7 rfl h e7 (fun o9 => ?_)
      refine m_Rb.n0 b_122 (x_aload_n d_122_10 rfl) ?_
      obtain ⟨a10, e11, j12⟩ := bS j8
      subst e11
      obtain ⟨_, e13, j14⟩ := bS j12
      obtain ⟨_, g15⟩ := RT.cls h e13
      obtain ⟨v16, e17, j18⟩ := bS j14
      refine m_Rb.callR b_122 (y_cv d_122_11 rfl q_74 (m_isRecv_of rfl g15) (show m_takeI _ _ = some (_, [_, _], []) from m_takeI_of rfl rfl rfl (Nat.le_of_ble_eq_true rfl)) (by simp only [m_okf, List.all_cons, List.all_nil, Bool.and_true, Bool.and_self, m_okv_i, m_okv_l, m_okv_0, m_okv_n0, m_okv_t, RT.okn h hx0, RT.okv h hx0, RT.okn h hx1, RT.okv h hx1, RT.okn h hx3, RT.okv h hx3, RT.okn h o9, RT.okv h o9]) rfl) (T_c_Store_suiting o9 hx3 h e17) hF rfl (fun w19 o19 h19 f19 k19 => ?_) (by decide) (by decide)
      refine m_Rb.n0 b_122 (x_astorer (x := v16) d_122_14 rfl (show m_put1 _ _ _ = [(4, _), (0, _), (1, _), (3, _)] from rfl)) ?_
      refine m_Rb.n0 b_122 (x_aloadr (x := v16) d_122_16 rfl) ?_
      cases v16 with
      | none =>
        have j21 := nN j18
        refine m_Rb.n0 b_122 (x_ifnull0 d_122_18 rfl) ?_
        exact m_Rb.pick [1, 2, 3] rfl (T_c_EdgeHouse_failAll_62 ih hx0 hx1 hx3 h19 f19 j21)
      | some a20 =>
        have j21 := nS j18
        refine m_Rb.n0 b_122 (x_ifnull1 d_122_18 rfl) ?_
        refine m_Rb.n0 b_122 (x_aload d_122_21 rfl) ?_
        refine m_Rb.n0 b_122 (x_aload_n d_122_23 rfl) ?_
        obtain ⟨_, e22, j23⟩ := bS j21
        obtain ⟨_, g24⟩ := RT.cls h19 e22
        obtain ⟨v25, e26, j27⟩ := bS j23
        refine m_Rb.callI b_122 (y_cv d_122_24 rfl q_123 (m_isRecv_of rfl g24) (show m_takeI _ _ = some (_, [_, _], []) from m_takeI_of rfl rfl rfl (Nat.le_of_ble_eq_true rfl)) (by simp only [m_okf, List.all_cons, List.all_nil, Bool.and_true, Bool.and_self, m_okv_i, m_okv_l, m_okv_0, m_okv_n0, m_okv_t, RT.okn h19 o19, RT.okv h19 o19, RT.okn h19 hx0, RT.okv h19 hx0, RT.okn h19 hx1, RT.okv h19 hx1, RT.okn h19 hx3, RT.okv h19 hx3]) rfl) (T_c_Entry_isEnoughFor o19 hx3 h19 e26) f19 rfl (fun w28 h28 f28 k28 => ?_) (by decide) (by decide)
        cases hc37 : m_c1 .eq v25 with
        | true =>
          have j38 := cT hc37 j27
          refine m_Rb.n0 b_122 (x_ift d_122_27 rfl hc37) ?_
          exact m_Rb.pick [1, 2, 3] rfl (T_c_EdgeHouse_failAll_62 ih hx0 hx1 hx3 h28 f28 j38)
        | false =>
          have j38 := cF hc37 j27
          refine m_Rb.n0 b_122 (x_iff d_122_27 rfl hc37) ?_
          refine m_Rb.n0 b_122 (x_aload d_122_30 rfl) ?_
          obtain ⟨v39, e40, j41⟩ := bS j38
          refine m_Rb.tgetR b_122 d_122_32 rfl h28 e40 (fun o42 => ?_)
          refine m_Rb.n0 b_122 (x_aload d_122_35 rfl) ?_
          refine m_Rb.n0 b_122 (x_aload_n d_122_37 rfl) ?_
          obtain ⟨v43, e44, j45⟩ := bS j41
          refine m_Rb.tgetI b_122 d_122_38 rfl h28 e44 ?_
          obtain ⟨_, e46, j47⟩ := bS j45
          obtain ⟨_, g48⟩ := RT.cls h28 e46
          obtain ⟨v49, e50, j51⟩ := bS j47
          refine m_Rb.callI b_122 (y_cv d_122_41 rfl q_83 (m_isRecv_of rfl g48) (show m_takeI _ _ = some (_, [_, _], [_]) from m_takeI_of rfl rfl rfl (Nat.le_of_ble_eq_true rfl)) (by simp only [m_okf, List.all_cons, List.all_nil, Bool.and_true, Bool.and_self, m_okv_i, m_okv_l, m_okv_0, m_okv_n0, m_okv_t, RT.okn h28 o19, RT.okv h28 o19, RT.okn h28 hx0, RT.okv h28 hx0, RT.okn h28 hx1, RT.okv h28 hx1, RT.okn h28 hx3, RT.okv h28 hx3, RT.okv h28 o42]) rfl) (T_c_Entry_ageAt o19 h28 e50) f28 rfl (fun w52 h52 f52 k52 => ?_) (by decide) (by decide)
          obtain ⟨a53, e54, j55⟩ := bS j51
          subst e54
          obtain ⟨_, e56, j57⟩ := bS j55
          obtain ⟨_, g58⟩ := RT.cls h52 e56
          obtain ⟨v59, e60, j61⟩ := bS j57
          refine m_Rb.callI b_122 (y_cv d_122_44 rfl q_124 (m_isRecv_of rfl g58) (show m_takeI _ _ = some (_, [_, _], []) from m_takeI_of rfl rfl rfl (Nat.le_of_ble_eq_true rfl)) (by simp only [m_okf, List.all_cons, List.all_nil, Bool.and_true, Bool.and_self, m_okv_i, m_okv_l, m_okv_0, m_okv_n0, m_okv_t, RT.okn h52 o19, RT.okv h52 o19, RT.okn h52 hx0, RT.okv h52 hx0, RT.okn h52 hx1, RT.okv h52 hx1, RT.okn h52 hx3, RT.okv h52 hx3, RT.okn h52 o42, RT.okv h52 o42]) rfl) (T_c_Told_helpsOnError o42 h52 e60) f52 rfl (fun w62 h62 f62 k62 => ?_) (by decide) (by decide)
          cases hc71 : m_c1 .eq v59 with
          | true =>
            have j72 := cT hc71 j61
            refine m_Rb.n0 b_122 (x_ift d_122_47 rfl hc71) ?_
            exact m_Rb.pick [1, 2, 3] rfl (T_c_EdgeHouse_failAll_62 ih hx0 hx1 hx3 h62 f62 j72)
          | false =>
            have j72 := cF hc71 j61
            refine m_Rb.n0 b_122 (x_iff d_122_47 rfl hc71) ?_
            refine m_Rb.n0 b_122 (x_aload_n d_122_50 rfl) ?_
            refine m_Rb.n0 b_122 (x_aload_n d_122_51 rfl) ?_
            refine m_Rb.n0 b_122 (x_aload_n d_122_52 rfl) ?_
            refine m_Rb.n0 b_122 (x_aload d_122_53 rfl) ?_
            refine m_Rb.n0 b_122 (x_iconst (z := 2) d_122_55 (by decide)) ?_
            obtain ⟨_, e73, j74⟩ := bS j72
            obtain ⟨_, g75⟩ := RT.cls h62 e73
            obtain ⟨T76, e77, j78⟩ := bS j74
            refine m_Rb.callV b_122 (y_cv d_122_56 rfl q_102 (m_isRecv_of rfl g75) (show m_takeI _ _ = some (_, [_, _, _, _, _], []) from m_takeI_of rfl rfl rfl (Nat.le_of_ble_eq_true rfl)) (by simp only [m_okf, List.all_cons, List.all_nil, Bool.and_true, Bool.and_self, m_okv_i, m_okv_l, m_okv_0, m_okv_n0, m_okv_t, RT.okn h62 o19, RT.okv h62 o19, RT.okn h62 hx0, RT.okv h62 hx0, RT.okn h62 hx1, RT.okv h62 hx1, RT.okn h62 hx3, RT.okv h62 hx3]) rfl) (T_c_EdgeHouse_serve hx0 hx1 hx3 o19 h62 e77) f62 rfl (fun w79 h79 f79 k79 => ?_) (by decide) (by decide)
            refine m_Rb.n0 b_122 (x_goto d_122_59 rfl) ?_
            exact m_Rb.pick [1, 2, 3] rfl (T_c_EdgeHouse_failAll_95 ih (okm hx0 k79) (okm hx1 k79) (okm hx3 k79) h79 f79 j78)
def D_c_EdgeHouse_failAll (F : Nat) (a0 : Nat) (p0 : Option Nat) (p1 : Option Nat) (T : tT) : Option (tT) := D_c_EdgeHouse_failAll_2 F F a0 p0 p1 T
theorem T_c_EdgeHouse_failAll {l : Launch} {w : List mM} {F : Nat} {a0 : Nat} {p0 : Option Nat} {p1 : Option Nat} {T : tT} {Tz : tT} (ha0 : okr T.2.1 (some a0)) (hp0 : okr T.2.1 p0) (hp1 : okr T.2.1 p1) (h : RT T w) (h0 : D_c_EdgeHouse_failAll F a0 p0 p1 T = some Tz) : m_Rb l M_122 (m_ent M_122 [.ref a0, rv p0, rv p1] w) (fun v w' => v = none ∧ RT Tz w' ∧ m_Fm w w') T Tz 16 1600 := by
  rw [show m_ent M_122 [.ref a0, rv p0, rv p1] w = (0, [(0, .ref a0), (1, rv p0), (2, rv p1)], [], w) from by first | rfl | (simp only [m_ent, lv_args_r, lv_args_a, lv_args_i, lv_args_l, lv_args_0]; done) | (simp only [m_ent, lv_args_r, lv_args_a, lv_args_i, lv_args_l, lv_args_0]; rfl)]
  generalize hw0 : w = w0 at h ⊢
  have hF : m_Fm w0 w0 := m_Fm.refl
  rw [D_c_EdgeHouse_failAll] at h0
  refine m_Rb.n0 b_122 (x_aloadr_n (x := p1) d_122_0 rfl) ?_
  refine m_Rb.n0 b_122 (x_astorer_n (x := p1) d_122_1 rfl (show m_put1 _ _ _ = [(3, _), (0, _), (1, _), (2, _)] from (m_p1r (by simp only [List.all_cons, List.all_nil, cat_rv]; rfl)).trans rfl)) ?_
  exact m_Rb.pick [1, 2, 0] rfl (T_c_EdgeHouse_failAll_2 F ha0 hp0 hp1 h hF h0)
def D_c_EdgeHouse_look_199 (F : Nat) (x0 : Nat) (x1 : Option Nat) (x2 : Option Nat) (x6 : Int32) (x7 : Int32) (T : tT) : Option (tT) := (x2).bind fun a342 => (tgi T a342 6 7).bind fun v345 => cond (m_c1 .eq v345) ((cond (m_c1 .eq x7) (some (0 : Int32)) ((tgi T a342 6 12).bind fun v378 => cond (m_c1 .ne v378) (some (0 : Int32)) (some x6))).bind fun v383 => (tcl T x0 0).bind fun _ => bd2 (D_c_EdgeHouse_letWait F x0 x1 (some a342) v383 T) fun v389 T390 => nc v389 (some T390) fun a394 => ((tcl T390 x0 0).bind fun _ => bd2 (D_c_EdgeHouse_sendFetch F x0 x1 (some a394) T390) fun v399 T400 => cond (m_c1 .ne v399) (some T400) ((tcl T400 x0 0).bind fun _ => (D_c_EdgeHouse_failAll F x0 x1 (some a342) T400).bind fun T413 => some T413))) ((tcl T x0 0).bind fun _ => (D_c_EdgeHouse_endAll F x0 x1 (some a342) (504 : Int32) T).bind fun T420 => some T420)
theorem T_c_EdgeHouse_look_199 {l : Launch} {w0 : List mM} {F : Nat} {x0 : Nat} {x1 : Option Nat} {x2 : Option Nat} {x6 : Int32} {x7 : Int32} {T : tT} {w : List mM} {Tz : tT} (hx0 : okr T.2.1 (some x0)) (hx1 : okr T.2.1 x1) (hx2 : okr T.2.1 x2) (h : RT T w) (hF : m_Fm w0 w) (h0 : D_c_EdgeHouse_look_199 F x0 x1 x2 x6 x7 T = some Tz) : m_Rb l M_73 (199, [(0, .ref x0), (1, rv x1), (2, rv x2), (6, .int x6), (7, .int x7)], [], w) (fun v w' => v = none ∧ RT Tz w' ∧ m_Fm w0 w') T Tz 17 1700 := by
  rw [D_c_EdgeHouse_look_199] at h0
  refine m_Rb.n0 b_73 (x_aloadr_n (x := x2) d_73_199 rfl) ?_
  obtain ⟨a342, e343, j344⟩ := bS h0
  subst e343
  obtain ⟨v345, e346, j347⟩ := bS j344
  refine m_Rb.tgetI b_73 d_73_200 rfl h e346 ?_
  cases hc372 : m_c1 .eq v345 with
  | true =>
    have j373 := cT hc372 j347
    refine m_Rb.n0 b_73 (x_ift d_73_203 rfl hc372) ?_
    refine m_Rb.n0 b_73 (x_aload_n d_73_218 rfl) ?_
    refine m_Rb.n0 b_73 (x_aloadr_n (x := x1) d_73_219 rfl) ?_
    refine m_Rb.n0 b_73 (x_aload_n d_73_220 rfl) ?_
    refine m_Rb.n0 b_73 (x_iload d_73_221 rfl) ?_
    obtain ⟨v383, e375, j384⟩ := bS j373
    have kk374 : ∀ (xz : Int32) (w1 : List mM), xz = v383 → RT T w1 → m_Fm w0 w1 → m_Rb l M_73 (239, [(0, .ref x0), (1, rv x1), (2, .ref a342), (6, .int x6), (7, .int x7)], [.int xz, .ref a342, rv x1, .ref x0], w1) (fun v w' => v = none ∧ RT Tz w' ∧ m_Fm w0 w') T Tz 17 1700 := by
      intro xz w385 ez h385 f385
      rw [ez]
      obtain ⟨_, e386, j387⟩ := bS j384
      obtain ⟨_, g388⟩ := RT.cls h385 e386
      obtain ⟨v389, T390, e391, j392⟩ := bS2 j387
      refine m_Rb.callR b_73 (y_cv d_73_239 rfl q_118 (m_isRecv_of rfl g388) (show m_takeI _ _ = some (_, [_, _, _, _], []) from m_takeI_of rfl rfl rfl (Nat.le_of_ble_eq_true rfl)) (by simp only [m_okf, List.all_cons, List.all_nil, Bool.and_true, Bool.and_self, m_okv_i, m_okv_l, m_okv_0, m_okv_n0, m_okv_t, RT.okn h385 hx0, RT.okv h385 hx0, RT.okv h385 hx1, RT.okn h385 hx2, RT.okv h385 hx2]) (decide_eq_true (by simp only [lgs_r, lgs_a, lgs_i, lgs_l, lgs_0]; exact Nat.le_of_ble_eq_true rfl))) (T_c_EdgeHouse_letWait hx0 hx1 hx2 h385 e391) f385 rfl (fun w393 o393 h393 f393 k393 => ?_) (by decide) (by decide)
      refine m_Rb.n0 b_73 (x_astorer (x := v389) d_73_242 rfl (show m_put1 _ _ _ = [(8, _), (0, _), (1, _), (2, _), (6, _), (7, _)] from rfl)) ?_
      refine m_Rb.n0 b_73 (x_aloadr (x := v389) d_73_244 rfl) ?_
      cases v389 with
      | none =>
        have j395 := nN j392
        refine m_Rb.n0 b_73 (x_ifnull0 d_73_246 rfl) ?_
        cases j395
        exact m_Rb.ret b_73 (m_rt_vr d_73_265 rfl) ⟨rfl, h393, f393⟩
      | some a394 =>
        have j395 := nS j392
        refine m_Rb.n0 b_73 (x_ifnull1 d_73_246 rfl) ?_
        refine m_Rb.n0 b_73 (x_aload_n d_73_249 rfl) ?_
        refine m_Rb.n0 b_73 (x_aloadr_n (x := x1) d_73_250 rfl) ?_
        refine m_Rb.n0 b_73 (x_aload d_73_251 rfl) ?_
        obtain ⟨_, e396, j397⟩ := bS j395
        obtain ⟨_, g398⟩ := RT.cls h393 e396
        obtain ⟨v399, T400, e401, j402⟩ := bS2 j397
        refine m_Rb.callI b_73 (y_cv d_73_253 rfl q_111 (m_isRecv_of rfl g398) (show m_takeI _ _ = some (_, [_, _, _], []) from m_takeI_of rfl rfl rfl (Nat.le_of_ble_eq_true rfl)) (by simp only [m_okf, List.all_cons, List.all_nil, Bool.and_true, Bool.and_self, m_okv_i, m_okv_l, m_okv_0, m_okv_n0, m_okv_t, RT.okn h393 o393, RT.okv h393 o393, RT.okn h393 (okm hx0 k393), RT.okv h393 (okm hx0 k393), RT.okv h393 (okm hx1 k393), RT.okn h393 (okm hx2 k393), RT.okv h393 (okm hx2 k393)]) (decide_eq_true (by simp only [lgs_r, lgs_a, lgs_i, lgs_l, lgs_0]; exact Nat.le_of_ble_eq_true rfl))) (T_c_EdgeHouse_sendFetch (okm hx0 k393) (okm hx1 k393) o393 h393 e401) f393 rfl (fun w403 h403 f403 k403 => ?_) (by decide) (by decide)
        cases hc408 : m_c1 .ne v399 with
        | true =>
          have j409 := cT hc408 j402
          refine m_Rb.n0 b_73 (x_ift d_73_256 rfl hc408) ?_
          cases j409
          exact m_Rb.ret b_73 (m_rt_vr d_73_265 rfl) ⟨rfl, h403, f403⟩
        | false =>
          have j409 := cF hc408 j402
          refine m_Rb.n0 b_73 (x_iff d_73_256 rfl hc408) ?_
          refine m_Rb.n0 b_73 (x_aload_n d_73_259 rfl) ?_
          refine m_Rb.n0 b_73 (x_aloadr_n (x := x1) d_73_260 rfl) ?_
          refine m_Rb.n0 b_73 (x_aload_n d_73_261 rfl) ?_
          obtain ⟨_, e410, j411⟩ := bS j409
          obtain ⟨_, g412⟩ := RT.cls h403 e410
          obtain ⟨T413, e414, j415⟩ := bS j411
          refine m_Rb.callV b_73 (y_cv d_73_262 rfl q_122 (m_isRecv_of rfl g412) (show m_takeI _ _ = some (_, [_, _, _], []) from m_takeI_of rfl rfl rfl (Nat.le_of_ble_eq_true rfl)) (by simp only [m_okf, List.all_cons, List.all_nil, Bool.and_true, Bool.and_self, m_okv_i, m_okv_l, m_okv_0, m_okv_n0, m_okv_t, RT.okn h403 (okm o393 k403), RT.okv h403 (okm o393 k403), RT.okn h403 (okm (okm hx0 k393) k403), RT.okv h403 (okm (okm hx0 k393) k403), RT.okv h403 (okm (okm hx1 k393) k403), RT.okn h403 (okm (okm hx2 k393) k403), RT.okv h403 (okm (okm hx2 k393) k403)]) (decide_eq_true (by simp only [lgs_r, lgs_a, lgs_i, lgs_l, lgs_0]; exact Nat.le_of_ble_eq_true rfl))) (T_c_EdgeHouse_failAll (okm (okm hx0 k393) k403) (okm (okm hx1 k393) k403) (okm (okm hx2 k393) k403) h403 e414) f403 rfl (fun w416 h416 f416 k416 => ?_) (by decide) (by decide)
          cases j415
          exact m_Rb.ret b_73 (m_rt_vr d_73_265 rfl) ⟨rfl, h416, f416⟩
    cases hc376 : m_c1 .eq x7 with
    | true =>
      have j377 := cT hc376 e375
      refine m_Rb.n0 b_73 (x_ift d_73_223 rfl hc376) ?_
      refine m_Rb.n0 b_73 (x_iconst (z := 0) d_73_238 (by decide)) ?_
      exact kk374 _ _ (Option.some.inj j377) h hF
    | false =>
      have j377 := cF hc376 e375
      refine m_Rb.n0 b_73 (x_iff d_73_223 rfl hc376) ?_
      refine m_Rb.n0 b_73 (x_aload_n d_73_226 rfl) ?_
      obtain ⟨v378, e379, j380⟩ := bS j377
      refine m_Rb.tgetI b_73 d_73_227 rfl h e379 ?_
      cases hc381 : m_c1 .ne v378 with
      | true =>
        have j382 := cT hc381 j380
        refine m_Rb.n0 b_73 (x_ift d_73_230 rfl hc381) ?_
        refine m_Rb.n0 b_73 (x_iconst (z := 0) d_73_238 (by decide)) ?_
        exact kk374 _ _ (Option.some.inj j382) h hF
      | false =>
        have j382 := cF hc381 j380
        refine m_Rb.n0 b_73 (x_iff d_73_230 rfl hc381) ?_
        refine m_Rb.n0 b_73 (x_iload d_73_233 rfl) ?_
        refine m_Rb.n0 b_73 (x_goto d_73_235 rfl) ?_
        exact kk374 _ _ (Option.some.inj j382) h hF
  | false =>
    have j373 := cF hc372 j347
    refine m_Rb.n0 b_73 (x_iff d_73_203 rfl hc372) ?_
    refine m_Rb.n0 b_73 (x_aload_n d_73_206 rfl) ?_
    refine m_Rb.n0 b_73 (x_aloadr_n (x := x1) d_73_207 rfl) ?_
    refine m_Rb.n0 b_73 (x_aload_n d_73_208 rfl) ?_
    refine m_Rb.n0 b_73 (x_sipush (z := 504) d_73_209 (by decide)) ?_
    obtain ⟨_, e417, j418⟩ := bS j373
    obtain ⟨_, g419⟩ := RT.cls h e417
    obtain ⟨T420, e421, j422⟩ := bS j418
    refine m_Rb.callV b_73 (y_cv d_73_212 rfl q_116 (m_isRecv_of rfl g419) (show m_takeI _ _ = some (_, [_, _, _, _], []) from m_takeI_of rfl rfl rfl (Nat.le_of_ble_eq_true rfl)) (by simp only [m_okf, List.all_cons, List.all_nil, Bool.and_true, Bool.and_self, m_okv_i, m_okv_l, m_okv_0, m_okv_n0, m_okv_t, RT.okn h hx0, RT.okv h hx0, RT.okv h hx1, RT.okn h hx2, RT.okv h hx2]) (decide_eq_true (by simp only [lgs_r, lgs_a, lgs_i, lgs_l, lgs_0]; exact Nat.le_of_ble_eq_true rfl))) (T_c_EdgeHouse_endAll hx0 hx1 hx2 h e421) hF rfl (fun w423 h423 f423 k423 => ?_) (by decide) (by decide)
    refine m_Rb.n0 b_73 (x_goto d_73_215 rfl) ?_
    cases j422
    exact m_Rb.ret b_73 (m_rt_vr d_73_265 rfl) ⟨rfl, h423, f423⟩
def D_c_EdgeHouse_look_136 (F : Nat) (x0 : Nat) (x1 : Option Nat) (x2 : Option Nat) (x3 : Option Nat) (x4 : Int32) (x5 : Int32) (x6 : Int32) (x7 : Int32) (T : tT) : Option (tT) := cond (m_c1 .eq x5) (D_c_EdgeHouse_look_199 F x0 x1 x2 x6 x7 T) (cond (m_c1 .ne x6) (D_c_EdgeHouse_look_199 F x0 x1 x2 x6 x7 T) ((x3).bind fun a252 => (tgr T a252 11 2).bind fun v255 => (x2).bind fun a259 => (tcl T a259 6).bind fun _ => (D_c_Request_takesStale F a259 v255 x4 T).bind fun v265 => cond (m_c1 .eq v265) (D_c_EdgeHouse_look_199 F x0 x1 (some a259) x6 x7 T) ((tcl T x0 0).bind fun _ => (D_c_EdgeHouse_serve F x0 x1 (some a259) (some a252) (2 : Int32) T).bind fun T303 => (tgi T303 a259 6 0).bind fun v307 => (tgi T303 a259 6 1).bind fun v310 => (x1).bind fun a313 => (tcl T303 a313 4).bind fun _ => (D_c_Node_fetchOf F a313 v307 v310 T303).bind fun v319 => nc v319 (bd2 (tnw T303 10) fun a325 T326 => (D_c_Fetch_init F a325 (some a259) T326).bind fun T330 => (tcl T330 x0 0).bind fun _ => bd2 (D_c_EdgeHouse_sendFetch F x0 (some a313) (some a325) T330) fun v337 T338 => some T338) fun a323 => (some T303))))
theorem T_c_EdgeHouse_look_136 {l : Launch} {w0 : List mM} {F : Nat} {x0 : Nat} {x1 : Option Nat} {x2 : Option Nat} {x3 : Option Nat} {x4 : Int32} {x5 : Int32} {x6 : Int32} {x7 : Int32} {T : tT} {w : List mM} {Tz : tT} (hx0 : okr T.2.1 (some x0)) (hx1 : okr T.2.1 x1) (hx2 : okr T.2.1 x2) (hx3 : okr T.2.1 x3) (h : RT T w) (hF : m_Fm w0 w) (h0 : D_c_EdgeHouse_look_136 F x0 x1 x2 x3 x4 x5 x6 x7 T = some Tz) : m_Rb l M_73 (136, [(0, .ref x0), (1, rv x1), (2, rv x2), (3, rv x3), (4, .int x4), (5, .int x5), (6, .int x6), (7, .int x7)], [], w) (fun v w' => v = none ∧ RT Tz w' ∧ m_Fm w0 w') T Tz 17 1700 := by
  rw [D_c_EdgeHouse_look_136] at h0
  refine m_Rb.n0 b_73 (x_iload d_73_136 rfl) ?_
  cases hc216 : m_c1 .eq x5 with
  | true =>
    have j217 := cT hc216 h0
    refine m_Rb.n0 b_73 (x_ift d_73_138 rfl hc216) ?_
    exact m_Rb.pick [0, 1, 2, 6, 7] rfl (T_c_EdgeHouse_look_199 hx0 hx1 hx2 h hF j217)
  | false =>
    have j217 := cF hc216 h0
    refine m_Rb.n0 b_73 (x_iff d_73_138 rfl hc216) ?_
    refine m_Rb.n0 b_73 (x_iload d_73_141 rfl) ?_
    cases hc250 : m_c1 .ne x6 with
    | true =>
      have j251 := cT hc250 j217
      refine m_Rb.n0 b_73 (x_ift d_73_143 rfl hc250) ?_
      exact m_Rb.pick [0, 1, 2, 6, 7] rfl (T_c_EdgeHouse_look_199 hx0 hx1 hx2 h hF j251)
    | false =>
      have j251 := cF hc250 j217
      refine m_Rb.n0 b_73 (x_iff d_73_143 rfl hc250) ?_
      refine m_Rb.n0 b_73 (x_aloadr_n (x := x2) d_73_146 rfl) ?_
      refine m_Rb.n0 b_73 (x_aloadr_n (x := x3) d_73_147 rfl) ?_
      obtain ⟨a252, e253, j254⟩ := bS j251
      subst e253
      obtain ⟨v255, e256, j257⟩ := bS j254
      refine m_Rb.tgetR b_73 d_73_148 rfl h e256 (fun o258 => ?_)
      refine m_Rb.n0 b_73 (x_iload d_73_151 rfl) ?_
      obtain ⟨a259, e260, j261⟩ := bS j257
      subst e260
      obtain ⟨_, e262, j263⟩ := bS j261
      obtain ⟨_, g264⟩ := RT.cls h e262
      obtain ⟨v265, e266, j267⟩ := bS j263
      refine m_Rb.callI b_73 (y_cv d_73_153 rfl q_108 (m_isRecv_of rfl g264) (show m_takeI _ _ = some (_, [_, _, _], []) from m_takeI_of rfl rfl rfl (Nat.le_of_ble_eq_true rfl)) (by simp only [m_okf, List.all_cons, List.all_nil, Bool.and_true, Bool.and_self, m_okv_i, m_okv_l, m_okv_0, m_okv_n0, m_okv_t, RT.okn h hx0, RT.okv h hx0, RT.okv h hx1, RT.okn h hx2, RT.okv h hx2, RT.okn h hx3, RT.okv h hx3, RT.okv h o258]) (decide_eq_true (by simp only [lgs_r, lgs_a, lgs_i, lgs_l, lgs_0]; exact Nat.le_of_ble_eq_true rfl))) (T_c_Request_takesStale hx2 o258 h e266) hF rfl (fun w268 h268 f268 k268 => ?_) (by decide) (by decide)
      cases hc298 : m_c1 .eq v265 with
      | true =>
        have j299 := cT hc298 j267
        refine m_Rb.n0 b_73 (x_ift d_73_156 rfl hc298) ?_
        exact m_Rb.pick [0, 1, 2, 6, 7] rfl (T_c_EdgeHouse_look_199 hx0 hx1 hx2 h268 f268 j299)
      | false =>
        have j299 := cF hc298 j267
        refine m_Rb.n0 b_73 (x_iff d_73_156 rfl hc298) ?_
        refine m_Rb.n0 b_73 (x_aload_n d_73_159 rfl) ?_
        refine m_Rb.n0 b_73 (x_aloadr_n (x := x1) d_73_160 rfl) ?_
        refine m_Rb.n0 b_73 (x_aload_n d_73_161 rfl) ?_
        refine m_Rb.n0 b_73 (x_aload_n d_73_162 rfl) ?_
        refine m_Rb.n0 b_73 (x_iconst (z := 2) d_73_163 (by decide)) ?_
        obtain ⟨_, e300, j301⟩ := bS j299
        obtain ⟨_, g302⟩ := RT.cls h268 e300
        obtain ⟨T303, e304, j305⟩ := bS j301
        refine m_Rb.callV b_73 (y_cv d_73_164 rfl q_102 (m_isRecv_of rfl g302) (show m_takeI _ _ = some (_, [_, _, _, _, _], []) from m_takeI_of rfl rfl rfl (Nat.le_of_ble_eq_true rfl)) (by simp only [m_okf, List.all_cons, List.all_nil, Bool.and_true, Bool.and_self, m_okv_i, m_okv_l, m_okv_0, m_okv_n0, m_okv_t, RT.okn h268 hx0, RT.okv h268 hx0, RT.okv h268 hx1, RT.okn h268 hx2, RT.okv h268 hx2, RT.okn h268 hx3, RT.okv h268 hx3]) (decide_eq_true (by simp only [lgs_r, lgs_a, lgs_i, lgs_l, lgs_0]; exact Nat.le_of_ble_eq_true rfl))) (T_c_EdgeHouse_serve hx0 hx1 hx2 hx3 h268 e304) f268 rfl (fun w306 h306 f306 k306 => ?_) (by decide) (by decide)
        refine m_Rb.n0 b_73 (x_aloadr_n (x := x1) d_73_167 rfl) ?_
        refine m_Rb.n0 b_73 (x_aload_n d_73_168 rfl) ?_
        obtain ⟨v307, e308, j309⟩ := bS j305
        refine m_Rb.tgetI b_73 d_73_169 rfl h306 e308 ?_
        refine m_Rb.n0 b_73 (x_aload_n d_73_172 rfl) ?_
        obtain ⟨v310, e311, j312⟩ := bS j309
        refine m_Rb.tgetI b_73 d_73_173 rfl h306 e311 ?_
        obtain ⟨a313, e314, j315⟩ := bS j312
        subst e314
        obtain ⟨_, e316, j317⟩ := bS j315
        obtain ⟨_, g318⟩ := RT.cls h306 e316
        obtain ⟨v319, e320, j321⟩ := bS j317
        refine m_Rb.callR b_73 (y_cv d_73_176 rfl q_109 (m_isRecv_of rfl g318) (show m_takeI _ _ = some (_, [_, _, _], []) from m_takeI_of rfl rfl rfl (Nat.le_of_ble_eq_true rfl)) (by simp only [m_okf, List.all_cons, List.all_nil, Bool.and_true, Bool.and_self, m_okv_i, m_okv_l, m_okv_0, m_okv_n0, m_okv_t, RT.okn h306 (okm hx0 k306), RT.okv h306 (okm hx0 k306), RT.okn h306 (okm hx1 k306), RT.okv h306 (okm hx1 k306), RT.okn h306 (okm hx2 k306), RT.okv h306 (okm hx2 k306), RT.okn h306 (okm hx3 k306), RT.okv h306 (okm hx3 k306)]) rfl) (T_c_Node_fetchOf (okm hx1 k306) h306 e320) f306 rfl (fun w322 o322 h322 f322 k322 => ?_) (by decide) (by decide)
        cases v319 with
        | none =>
          have j324 := nN j321
          refine m_Rb.n0 b_73 (x_ifnonnull0 d_73_179 rfl) ?_
          refine m_Rb.n0 b_73 (x_aload_n d_73_182 rfl) ?_
          refine m_Rb.n0 b_73 (x_aload_n d_73_183 rfl) ?_
          obtain ⟨a325, T326, e327, j328⟩ := bS2 j324
          refine m_Rb.tnew b_73 d_73_184 rfl (by simp only [m_okf, List.all_cons, List.all_nil, Bool.and_true, Bool.and_self, m_okv_i, m_okv_l, m_okv_0, m_okv_n0, m_okv_t, RT.okn h322 (okm hx0 k306), RT.okv h322 (okm hx0 k306), RT.okn h322 (okm hx1 k306), RT.okv h322 (okm hx1 k306), RT.okn h322 (okm hx2 k306), RT.okv h322 (okm hx2 k306), RT.okn h322 (okm hx3 k306), RT.okv h322 (okm hx3 k306)]) h322 f322 e327 (fun w329 o329 h329 f329 k329 => ?_)
          refine m_Rb.n0 b_73 (x_dup d_73_187 rfl) ?_
          refine m_Rb.n0 b_73 (x_aload_n d_73_188 rfl) ?_
          obtain ⟨T330, e331, j332⟩ := bS j328
          refine m_Rb.callV b_73 (x_ci d_73_189 rfl (by decide) q_110 (show m_takeI _ _ = some (_, [_, _], [_, _, _]) from m_takeI_of rfl rfl rfl (Nat.le_of_ble_eq_true rfl)) (by simp only [m_okf, List.all_cons, List.all_nil, Bool.and_true, Bool.and_self, m_okv_i, m_okv_l, m_okv_0, m_okv_n0, m_okv_t, RT.okn h329 (okm (okm hx0 k306) k329), RT.okv h329 (okm (okm hx0 k306) k329), RT.okn h329 (okm (okm hx1 k306) k329), RT.okv h329 (okm (okm hx1 k306) k329), RT.okn h329 (okm (okm hx2 k306) k329), RT.okv h329 (okm (okm hx2 k306) k329), RT.okn h329 (okm (okm hx3 k306) k329), RT.okv h329 (okm (okm hx3 k306) k329), RT.okn h329 o329, RT.okv h329 o329]) rfl) (T_c_Fetch_init o329 (okm (okm hx2 k306) k329) h329 e331) f329 rfl (fun w333 h333 f333 k333 => ?_) (by decide) (by decide)
          obtain ⟨_, e334, j335⟩ := bS j332
          obtain ⟨_, g336⟩ := RT.cls h333 e334
          obtain ⟨v337, T338, e339, j340⟩ := bS2 j335
          refine m_Rb.callI b_73 (y_cv d_73_192 rfl q_111 (m_isRecv_of rfl g336) (show m_takeI _ _ = some (_, [_, _, _], []) from m_takeI_of rfl rfl rfl (Nat.le_of_ble_eq_true rfl)) (by simp only [m_okf, List.all_cons, List.all_nil, Bool.and_true, Bool.and_self, m_okv_i, m_okv_l, m_okv_0, m_okv_n0, m_okv_t, RT.okn h333 (okm (okm (okm hx0 k306) k329) k333), RT.okv h333 (okm (okm (okm hx0 k306) k329) k333), RT.okn h333 (okm (okm (okm hx1 k306) k329) k333), RT.okv h333 (okm (okm (okm hx1 k306) k329) k333), RT.okn h333 (okm (okm (okm hx2 k306) k329) k333), RT.okv h333 (okm (okm (okm hx2 k306) k329) k333), RT.okn h333 (okm (okm (okm hx3 k306) k329) k333), RT.okv h333 (okm (okm (okm hx3 k306) k329) k333), RT.okn h333 (okm o329 k333), RT.okv h333 (okm o329 k333)]) rfl) (T_c_EdgeHouse_sendFetch (okm (okm (okm hx0 k306) k329) k333) (okm (okm (okm hx1 k306) k329) k333) (okm o329 k333) h333 e339) f333 rfl (fun w341 h341 f341 k341 => ?_) (by decide) (by decide)
          refine m_Rb.n0 b_73 (x_pop d_73_195 rfl) ?_
          refine m_Rb.n0 b_73 (x_goto d_73_196 rfl) ?_
          cases j340
          exact m_Rb.ret b_73 (m_rt_vr d_73_265 rfl) ⟨rfl, h341, f341⟩
        | some a323 =>
          have j324 := nS j321
          refine m_Rb.n0 b_73 (x_ifnonnull1 d_73_179 rfl) ?_
          cases j324
          exact m_Rb.ret b_73 (m_rt_vr d_73_265 rfl) ⟨rfl, h322, f322⟩
def D_c_EdgeHouse_look_95 (F : Nat) (x0 : Nat) (x1 : Option Nat) (x2 : Option Nat) (x3 : Option Nat) (x4 : Int32) (x5 : Int32) (x6 : Int32) (y0 : Int32) (T : tT) : Option (tT) := cond (m_c1 .eq y0) (D_c_EdgeHouse_look_136 F x0 x1 x2 x3 x4 x5 x6 y0 T) (cond (m_c1 .ne x6) (D_c_EdgeHouse_look_136 F x0 x1 x2 x3 x4 x5 x6 y0 T) ((x1).bind fun a668 => (tgi T a668 4 8).bind fun v671 => (tpi T a668 4 8 (v671 + (1 : Int32))).bind fun T674 => (tgr T674 a668 4 1).bind fun v678 => (v678).bind fun a682 => (tcl T674 a682 5).bind fun _ => (D_c_Store_use F a682 x3 T674).bind fun T688 => (tcl T688 x0 0).bind fun _ => (D_c_EdgeHouse_serve F x0 (some a668) x2 x3 (1 : Int32) T688).bind fun T695 => some T695))
theorem T_c_EdgeHouse_look_95 {l : Launch} {w0 : List mM} {F : Nat} {x0 : Nat} {x1 : Option Nat} {x2 : Option Nat} {x3 : Option Nat} {x4 : Int32} {x5 : Int32} {x6 : Int32} {y0 : Int32} {T : tT} {w : List mM} {Tz : tT} (hx0 : okr T.2.1 (some x0)) (hx1 : okr T.2.1 x1) (hx2 : okr T.2.1 x2) (hx3 : okr T.2.1 x3) (h : RT T w) (hF : m_Fm w0 w) (h0 : D_c_EdgeHouse_look_95 F x0 x1 x2 x3 x4 x5 x6 y0 T = some Tz) : m_Rb l M_73 (95, [(0, .ref x0), (1, rv x1), (2, rv x2), (3, rv x3), (4, .int x4), (5, .int x5), (6, .int x6)], [.int y0], w) (fun v w' => v = none ∧ RT Tz w' ∧ m_Fm w0 w') T Tz 17 1700 := by
  rw [D_c_EdgeHouse_look_95] at h0
  refine m_Rb.n0 b_73 (x_istore d_73_95 rfl (show m_put1 _ _ _ = [(7, _), (0, _), (1, _), (2, _), (3, _), (4, _), (5, _), (6, _)] from rfl)) ?_
  refine m_Rb.n0 b_73 (x_iload d_73_97 rfl) ?_
  cases hc630 : m_c1 .eq y0 with
  | true =>
    have j631 := cT hc630 h0
    refine m_Rb.n0 b_73 (x_ift d_73_99 rfl hc630) ?_
    exact m_Rb.pick [1, 2, 3, 4, 5, 6, 7, 0] rfl (T_c_EdgeHouse_look_136 hx0 hx1 hx2 hx3 h hF j631)
  | false =>
    have j631 := cF hc630 h0
    refine m_Rb.n0 b_73 (x_iff d_73_99 rfl hc630) ?_
    refine m_Rb.n0 b_73 (x_iload d_73_102 rfl) ?_
    cases hc666 : m_c1 .ne x6 with
    | true =>
      have j667 := cT hc666 j631
      refine m_Rb.n0 b_73 (x_ift d_73_104 rfl hc666) ?_
      exact m_Rb.pick [1, 2, 3, 4, 5, 6, 7, 0] rfl (T_c_EdgeHouse_look_136 hx0 hx1 hx2 hx3 h hF j667)
    | false =>
      have j667 := cF hc666 j631
      refine m_Rb.n0 b_73 (x_iff d_73_104 rfl hc666) ?_
      refine m_Rb.n0 b_73 (x_aloadr_n (x := x1) d_73_107 rfl) ?_
      refine m_Rb.n0 b_73 (x_dup d_73_108 (cat_rv x1)) ?_
      obtain ⟨a668, e669, j670⟩ := bS j667
      subst e669
      obtain ⟨v671, e672, j673⟩ := bS j670
      refine m_Rb.tgetI b_73 d_73_109 rfl h e672 ?_
      refine m_Rb.n0 b_73 (x_iconst (z := 1) d_73_112 (by decide)) ?_
      refine m_Rb.n0 b_73 (x_iadd d_73_113 rfl) ?_
      obtain ⟨T674, e675, j676⟩ := bS j673
      refine m_Rb.tputI b_73 d_73_114 rfl rfl (by decide) h hF e675 (fun w677 h677 f677 k677 => ?_)
      refine m_Rb.n0 b_73 (x_aload_n d_73_117 rfl) ?_
      obtain ⟨v678, e679, j680⟩ := bS j676
      refine m_Rb.tgetR b_73 d_73_118 rfl h677 e679 (fun o681 => ?_)
      refine m_Rb.n0 b_73 (x_aloadr_n (x := x3) d_73_121 rfl) ?_
      obtain ⟨a682, e683, j684⟩ := bS j680
      subst e683
      obtain ⟨_, e685, j686⟩ := bS j684
      obtain ⟨_, g687⟩ := RT.cls h677 e685
      obtain ⟨T688, e689, j690⟩ := bS j686
      refine m_Rb.callV b_73 (y_cv d_73_122 rfl q_92 (m_isRecv_of rfl g687) (show m_takeI _ _ = some (_, [_, _], []) from m_takeI_of rfl rfl rfl (Nat.le_of_ble_eq_true rfl)) (by simp only [m_okf, List.all_cons, List.all_nil, Bool.and_true, Bool.and_self, m_okv_i, m_okv_l, m_okv_0, m_okv_n0, m_okv_t, RT.okn h677 (okm hx0 k677), RT.okv h677 (okm hx0 k677), RT.okn h677 (okm hx1 k677), RT.okv h677 (okm hx1 k677), RT.okv h677 (okm hx2 k677), RT.okv h677 (okm hx3 k677), RT.okn h677 o681, RT.okv h677 o681]) (decide_eq_true (by simp only [lgs_r, lgs_a, lgs_i, lgs_l, lgs_0]; exact Nat.le_of_ble_eq_true rfl))) (T_c_Store_use o681 (okm hx3 k677) h677 e689) f677 rfl (fun w691 h691 f691 k691 => ?_) (by decide) (by decide)
      refine m_Rb.n0 b_73 (x_aload_n d_73_125 rfl) ?_
      refine m_Rb.n0 b_73 (x_aload_n d_73_126 rfl) ?_
      refine m_Rb.n0 b_73 (x_aloadr_n (x := x2) d_73_127 rfl) ?_
      refine m_Rb.n0 b_73 (x_aloadr_n (x := x3) d_73_128 rfl) ?_
      refine m_Rb.n0 b_73 (x_iconst (z := 1) d_73_129 (by decide)) ?_
      obtain ⟨_, e692, j693⟩ := bS j690
      obtain ⟨_, g694⟩ := RT.cls h691 e692
      obtain ⟨T695, e696, j697⟩ := bS j693
      refine m_Rb.callV b_73 (y_cv d_73_130 rfl q_102 (m_isRecv_of rfl g694) (show m_takeI _ _ = some (_, [_, _, _, _, _], []) from m_takeI_of rfl rfl rfl (Nat.le_of_ble_eq_true rfl)) (by simp only [m_okf, List.all_cons, List.all_nil, Bool.and_true, Bool.and_self, m_okv_i, m_okv_l, m_okv_0, m_okv_n0, m_okv_t, RT.okn h691 (okm (okm hx0 k677) k691), RT.okv h691 (okm (okm hx0 k677) k691), RT.okn h691 (okm (okm hx1 k677) k691), RT.okv h691 (okm (okm hx1 k677) k691), RT.okv h691 (okm (okm hx2 k677) k691), RT.okv h691 (okm (okm hx3 k677) k691)]) (decide_eq_true (by simp only [lgs_r, lgs_a, lgs_i, lgs_l, lgs_0]; exact Nat.le_of_ble_eq_true rfl))) (T_c_EdgeHouse_serve (okm (okm hx0 k677) k691) (okm (okm hx1 k677) k691) (okm (okm hx2 k677) k691) (okm (okm hx3 k677) k691) h691 e696) f691 rfl (fun w698 h698 f698 k698 => ?_) (by decide) (by decide)
      refine m_Rb.n0 b_73 (x_goto d_73_133 rfl) ?_
      cases j697
      exact m_Rb.ret b_73 (m_rt_vr d_73_265 rfl) ⟨rfl, h698, f698⟩
def D_c_EdgeHouse_look_94 (F : Nat) (x0 : Nat) (x1 : Option Nat) (x2 : Option Nat) (x3 : Option Nat) (x4 : Int32) (x5 : Int32) (x6 : Int32) (T : tT) : Option (tT) := D_c_EdgeHouse_look_95 F x0 x1 x2 x3 x4 x5 x6 (0 : Int32) T
theorem T_c_EdgeHouse_look_94 {l : Launch} {w0 : List mM} {F : Nat} {x0 : Nat} {x1 : Option Nat} {x2 : Option Nat} {x3 : Option Nat} {x4 : Int32} {x5 : Int32} {x6 : Int32} {T : tT} {w : List mM} {Tz : tT} (hx0 : okr T.2.1 (some x0)) (hx1 : okr T.2.1 x1) (hx2 : okr T.2.1 x2) (hx3 : okr T.2.1 x3) (h : RT T w) (hF : m_Fm w0 w) (h0 : D_c_EdgeHouse_look_94 F x0 x1 x2 x3 x4 x5 x6 T = some Tz) : m_Rb l M_73 (94, [(0, .ref x0), (1, rv x1), (2, rv x2), (3, rv x3), (4, .int x4), (5, .int x5), (6, .int x6)], [], w) (fun v w' => v = none ∧ RT Tz w' ∧ m_Fm w0 w') T Tz 17 1700 := by
  rw [D_c_EdgeHouse_look_94] at h0
  refine m_Rb.n0 b_73 (x_iconst (z := 0) d_73_94 (by decide)) ?_
  exact m_Rb.pick [0, 1, 2, 3, 4, 5, 6] rfl (T_c_EdgeHouse_look_95 hx0 hx1 hx2 hx3 h hF h0)
def D_c_EdgeHouse_look_70 (F : Nat) (x0 : Nat) (x1 : Option Nat) (x2 : Option Nat) (x3 : Option Nat) (x4 : Int32) (x5 : Int32) (y0 : Int32) (T : tT) : Option (tT) := cond (m_c1 .eq x5) (D_c_EdgeHouse_look_94 F x0 x1 x2 x3 x4 x5 y0 T) ((x3).bind fun a475 => (tgr T a475 11 2).bind fun v478 => (x2).bind fun a482 => (tcl T a482 6).bind fun _ => (D_c_Request_takesFresh F a482 v478 x4 T).bind fun v488 => (cond (m_c1 .eq v488) (some (0 : Int32)) (some (1 : Int32))).bind fun v496 => cond (m_c1 .eq v496) (D_c_EdgeHouse_look_136 F x0 x1 (some a482) (some a475) x4 x5 y0 v496 T) (cond (m_c1 .ne y0) (D_c_EdgeHouse_look_136 F x0 x1 (some a482) (some a475) x4 x5 y0 v496 T) ((x1).bind fun a565 => (tgi T a565 4 8).bind fun v568 => (tpi T a565 4 8 (v568 + (1 : Int32))).bind fun T571 => (tgr T571 a565 4 1).bind fun v575 => (v575).bind fun a579 => (tcl T571 a579 5).bind fun _ => (D_c_Store_use F a579 (some a475) T571).bind fun T585 => (tcl T585 x0 0).bind fun _ => (D_c_EdgeHouse_serve F x0 (some a565) (some a482) (some a475) (1 : Int32) T585).bind fun T592 => some T592)))
theorem T_c_EdgeHouse_look_70 {l : Launch} {w0 : List mM} {F : Nat} {x0 : Nat} {x1 : Option Nat} {x2 : Option Nat} {x3 : Option Nat} {x4 : Int32} {x5 : Int32} {y0 : Int32} {T : tT} {w : List mM} {Tz : tT} (hx0 : okr T.2.1 (some x0)) (hx1 : okr T.2.1 x1) (hx2 : okr T.2.1 x2) (hx3 : okr T.2.1 x3) (h : RT T w) (hF : m_Fm w0 w) (h0 : D_c_EdgeHouse_look_70 F x0 x1 x2 x3 x4 x5 y0 T = some Tz) : m_Rb l M_73 (70, [(0, .ref x0), (1, rv x1), (2, rv x2), (3, rv x3), (4, .int x4), (5, .int x5)], [.int y0], w) (fun v w' => v = none ∧ RT Tz w' ∧ m_Fm w0 w') T Tz 17 1700 := by
  rw [D_c_EdgeHouse_look_70] at h0
  refine m_Rb.n0 b_73 (x_istore d_73_70 rfl (show m_put1 _ _ _ = [(6, _), (0, _), (1, _), (2, _), (3, _), (4, _), (5, _)] from rfl)) ?_
  refine m_Rb.n0 b_73 (x_iload d_73_72 rfl) ?_
  cases hc473 : m_c1 .eq x5 with
  | true =>
    have j474 := cT hc473 h0
    refine m_Rb.n0 b_73 (x_ift d_73_74 rfl hc473) ?_
    exact m_Rb.pick [1, 2, 3, 4, 5, 6, 0] rfl (T_c_EdgeHouse_look_94 hx0 hx1 hx2 hx3 h hF j474)
  | false =>
    have j474 := cF hc473 h0
    refine m_Rb.n0 b_73 (x_iff d_73_74 rfl hc473) ?_
    refine m_Rb.n0 b_73 (x_aloadr_n (x := x2) d_73_77 rfl) ?_
    refine m_Rb.n0 b_73 (x_aloadr_n (x := x3) d_73_78 rfl) ?_
    obtain ⟨a475, e476, j477⟩ := bS j474
    subst e476
    obtain ⟨v478, e479, j480⟩ := bS j477
    refine m_Rb.tgetR b_73 d_73_79 rfl h e479 (fun o481 => ?_)
    refine m_Rb.n0 b_73 (x_iload d_73_82 rfl) ?_
    obtain ⟨a482, e483, j484⟩ := bS j480
    subst e483
    obtain ⟨_, e485, j486⟩ := bS j484
    obtain ⟨_, g487⟩ := RT.cls h e485
    obtain ⟨v488, e489, j490⟩ := bS j486
    refine m_Rb.callI b_73 (y_cv d_73_84 rfl q_90 (m_isRecv_of rfl g487) (show m_takeI _ _ = some (_, [_, _, _], []) from m_takeI_of rfl rfl rfl (Nat.le_of_ble_eq_true rfl)) (by simp only [m_okf, List.all_cons, List.all_nil, Bool.and_true, Bool.and_self, m_okv_i, m_okv_l, m_okv_0, m_okv_n0, m_okv_t, RT.okn h hx0, RT.okv h hx0, RT.okv h hx1, RT.okn h hx2, RT.okv h hx2, RT.okn h hx3, RT.okv h hx3, RT.okv h o481]) (decide_eq_true (by simp only [lgs_r, lgs_a, lgs_i, lgs_l, lgs_0]; exact Nat.le_of_ble_eq_true rfl))) (T_c_Request_takesFresh hx2 o481 h e489) hF rfl (fun w491 h491 f491 k491 => ?_) (by decide) (by decide)
    obtain ⟨v496, e493, j497⟩ := bS j490
    have kk492 : ∀ (xz : Int32) (w1 : List mM), xz = v496 → RT T w1 → m_Fm w0 w1 → m_Rb l M_73 (95, [(6, .int y0), (0, .ref x0), (1, rv x1), (2, .ref a482), (3, .ref a475), (4, .int x4), (5, .int x5)], [.int xz], w1) (fun v w' => v = none ∧ RT Tz w' ∧ m_Fm w0 w') T Tz 17 1700 := by
      intro xz w498 ez h498 f498
      rw [ez]
      refine m_Rb.n0 b_73 (x_istore d_73_95 rfl (show m_put1 _ _ _ = [(7, _), (6, _), (0, _), (1, _), (2, _), (3, _), (4, _), (5, _)] from rfl)) ?_
      refine m_Rb.n0 b_73 (x_iload d_73_97 rfl) ?_
      cases hc530 : m_c1 .eq v496 with
      | true =>
        have j531 := cT hc530 j497
        refine m_Rb.n0 b_73 (x_ift d_73_99 rfl hc530) ?_
        exact m_Rb.pick [2, 3, 4, 5, 6, 7, 1, 0] rfl (T_c_EdgeHouse_look_136 hx0 hx1 hx2 hx3 h498 f498 j531)
      | false =>
        have j531 := cF hc530 j497
        refine m_Rb.n0 b_73 (x_iff d_73_99 rfl hc530) ?_
        refine m_Rb.n0 b_73 (x_iload d_73_102 rfl) ?_
        cases hc563 : m_c1 .ne y0 with
        | true =>
          have j564 := cT hc563 j531
          refine m_Rb.n0 b_73 (x_ift d_73_104 rfl hc563) ?_
          exact m_Rb.pick [2, 3, 4, 5, 6, 7, 1, 0] rfl (T_c_EdgeHouse_look_136 hx0 hx1 hx2 hx3 h498 f498 j564)
        | false =>
          have j564 := cF hc563 j531
          refine m_Rb.n0 b_73 (x_iff d_73_104 rfl hc563) ?_
          refine m_Rb.n0 b_73 (x_aloadr_n (x := x1) d_73_107 rfl) ?_
          refine m_Rb.n0 b_73 (x_dup d_73_108 (cat_rv x1)) ?_
          obtain ⟨a565, e566, j567⟩ := bS j564
          subst e566
          obtain ⟨v568, e569, j570⟩ := bS j567
          refine m_Rb.tgetI b_73 d_73_109 rfl h498 e569 ?_
          refine m_Rb.n0 b_73 (x_iconst (z := 1) d_73_112 (by decide)) ?_
          refine m_Rb.n0 b_73 (x_iadd d_73_113 rfl) ?_
          obtain ⟨T571, e572, j573⟩ := bS j570
          refine m_Rb.tputI b_73 d_73_114 rfl rfl (by decide) h498 f498 e572 (fun w574 h574 f574 k574 => ?_)
          refine m_Rb.n0 b_73 (x_aload_n d_73_117 rfl) ?_
          obtain ⟨v575, e576, j577⟩ := bS j573
          refine m_Rb.tgetR b_73 d_73_118 rfl h574 e576 (fun o578 => ?_)
          refine m_Rb.n0 b_73 (x_aload_n d_73_121 rfl) ?_
          obtain ⟨a579, e580, j581⟩ := bS j577
          subst e580
          obtain ⟨_, e582, j583⟩ := bS j581
          obtain ⟨_, g584⟩ := RT.cls h574 e582
          obtain ⟨T585, e586, j587⟩ := bS j583
          refine m_Rb.callV b_73 (y_cv d_73_122 rfl q_92 (m_isRecv_of rfl g584) (show m_takeI _ _ = some (_, [_, _], []) from m_takeI_of rfl rfl rfl (Nat.le_of_ble_eq_true rfl)) (by simp only [m_okf, List.all_cons, List.all_nil, Bool.and_true, Bool.and_self, m_okv_i, m_okv_l, m_okv_0, m_okv_n0, m_okv_t, RT.okn h574 (okm hx0 k574), RT.okv h574 (okm hx0 k574), RT.okn h574 (okm hx1 k574), RT.okv h574 (okm hx1 k574), RT.okn h574 (okm hx2 k574), RT.okv h574 (okm hx2 k574), RT.okn h574 (okm hx3 k574), RT.okv h574 (okm hx3 k574), RT.okn h574 o578, RT.okv h574 o578]) rfl) (T_c_Store_use o578 (okm hx3 k574) h574 e586) f574 rfl (fun w588 h588 f588 k588 => ?_) (by decide) (by decide)
          refine m_Rb.n0 b_73 (x_aload_n d_73_125 rfl) ?_
          refine m_Rb.n0 b_73 (x_aload_n d_73_126 rfl) ?_
          refine m_Rb.n0 b_73 (x_aload_n d_73_127 rfl) ?_
          refine m_Rb.n0 b_73 (x_aload_n d_73_128 rfl) ?_
          refine m_Rb.n0 b_73 (x_iconst (z := 1) d_73_129 (by decide)) ?_
          obtain ⟨_, e589, j590⟩ := bS j587
          obtain ⟨_, g591⟩ := RT.cls h588 e589
          obtain ⟨T592, e593, j594⟩ := bS j590
          refine m_Rb.callV b_73 (y_cv d_73_130 rfl q_102 (m_isRecv_of rfl g591) (show m_takeI _ _ = some (_, [_, _, _, _, _], []) from m_takeI_of rfl rfl rfl (Nat.le_of_ble_eq_true rfl)) (by simp only [m_okf, List.all_cons, List.all_nil, Bool.and_true, Bool.and_self, m_okv_i, m_okv_l, m_okv_0, m_okv_n0, m_okv_t, RT.okn h588 (okm (okm hx0 k574) k588), RT.okv h588 (okm (okm hx0 k574) k588), RT.okn h588 (okm (okm hx1 k574) k588), RT.okv h588 (okm (okm hx1 k574) k588), RT.okn h588 (okm (okm hx2 k574) k588), RT.okv h588 (okm (okm hx2 k574) k588), RT.okn h588 (okm (okm hx3 k574) k588), RT.okv h588 (okm (okm hx3 k574) k588)]) rfl) (T_c_EdgeHouse_serve (okm (okm hx0 k574) k588) (okm (okm hx1 k574) k588) (okm (okm hx2 k574) k588) (okm (okm hx3 k574) k588) h588 e593) f588 rfl (fun w595 h595 f595 k595 => ?_) (by decide) (by decide)
          refine m_Rb.n0 b_73 (x_goto d_73_133 rfl) ?_
          cases j594
          exact m_Rb.ret b_73 (m_rt_vr d_73_265 rfl) ⟨rfl, h595, f595⟩
    cases hc494 : m_c1 .eq v488 with
    | true =>
      have j495 := cT hc494 e493
      refine m_Rb.n0 b_73 (x_ift d_73_87 rfl hc494) ?_
      refine m_Rb.n0 b_73 (x_iconst (z := 0) d_73_94 (by decide)) ?_
      exact kk492 _ _ (Option.some.inj j495) h491 f491
    | false =>
      have j495 := cF hc494 e493
      refine m_Rb.n0 b_73 (x_iff d_73_87 rfl hc494) ?_
      refine m_Rb.n0 b_73 (x_iconst (z := 1) d_73_90 (by decide)) ?_
      refine m_Rb.n0 b_73 (x_goto d_73_91 rfl) ?_
      exact kk492 _ _ (Option.some.inj j495) h491 f491
def D_c_EdgeHouse_look_54 (F : Nat) (x0 : Nat) (x1 : Option Nat) (x2 : Option Nat) (x3 : Option Nat) (x4 : Int32) (y0 : Int32) (T : tT) : Option (tT) := cond (m_c1 .eq y0) (D_c_EdgeHouse_look_70 F x0 x1 x2 x3 x4 y0 (0 : Int32) T) ((x2).bind fun a440 => (tcl T a440 6).bind fun _ => (D_c_Request_missingIn F a440 x3 T).bind fun v446 => D_c_EdgeHouse_look_70 F x0 x1 (some a440) x3 x4 y0 v446 T)
theorem T_c_EdgeHouse_look_54 {l : Launch} {w0 : List mM} {F : Nat} {x0 : Nat} {x1 : Option Nat} {x2 : Option Nat} {x3 : Option Nat} {x4 : Int32} {y0 : Int32} {T : tT} {w : List mM} {Tz : tT} (hx0 : okr T.2.1 (some x0)) (hx1 : okr T.2.1 x1) (hx2 : okr T.2.1 x2) (hx3 : okr T.2.1 x3) (h : RT T w) (hF : m_Fm w0 w) (h0 : D_c_EdgeHouse_look_54 F x0 x1 x2 x3 x4 y0 T = some Tz) : m_Rb l M_73 (54, [(0, .ref x0), (1, rv x1), (2, rv x2), (3, rv x3), (4, .int x4)], [.int y0], w) (fun v w' => v = none ∧ RT Tz w' ∧ m_Fm w0 w') T Tz 17 1700 := by
  rw [D_c_EdgeHouse_look_54] at h0
  refine m_Rb.n0 b_73 (x_istore d_73_54 rfl (show m_put1 _ _ _ = [(5, _), (0, _), (1, _), (2, _), (3, _), (4, _)] from rfl)) ?_
  refine m_Rb.n0 b_73 (x_iload d_73_56 rfl) ?_
  cases hc438 : m_c1 .eq y0 with
  | true =>
    have j439 := cT hc438 h0
    refine m_Rb.n0 b_73 (x_ift d_73_58 rfl hc438) ?_
    refine m_Rb.n0 b_73 (x_iconst (z := 0) d_73_69 (by decide)) ?_
    exact m_Rb.pick [1, 2, 3, 4, 5, 0] rfl (T_c_EdgeHouse_look_70 hx0 hx1 hx2 hx3 h hF j439)
  | false =>
    have j439 := cF hc438 h0
    refine m_Rb.n0 b_73 (x_iff d_73_58 rfl hc438) ?_
    refine m_Rb.n0 b_73 (x_aloadr_n (x := x2) d_73_61 rfl) ?_
    refine m_Rb.n0 b_73 (x_aloadr_n (x := x3) d_73_62 rfl) ?_
    obtain ⟨a440, e441, j442⟩ := bS j439
    subst e441
    obtain ⟨_, e443, j444⟩ := bS j442
    obtain ⟨_, g445⟩ := RT.cls h e443
    obtain ⟨v446, e447, j448⟩ := bS j444
    refine m_Rb.callI b_73 (y_cv d_73_63 rfl q_84 (m_isRecv_of rfl g445) (show m_takeI _ _ = some (_, [_, _], []) from m_takeI_of rfl rfl rfl (Nat.le_of_ble_eq_true rfl)) (by simp only [m_okf, List.all_cons, List.all_nil, Bool.and_true, Bool.and_self, m_okv_i, m_okv_l, m_okv_0, m_okv_n0, m_okv_t, RT.okn h hx0, RT.okv h hx0, RT.okv h hx1, RT.okn h hx2, RT.okv h hx2, RT.okv h hx3]) (decide_eq_true (by simp only [lgs_r, lgs_a, lgs_i, lgs_l, lgs_0]; exact Nat.le_of_ble_eq_true rfl))) (T_c_Request_missingIn hx2 hx3 h e447) hF rfl (fun w449 h449 f449 k449 => ?_) (by decide) (by decide)
    refine m_Rb.n0 b_73 (x_goto d_73_66 rfl) ?_
    exact m_Rb.pick [1, 2, 3, 4, 5, 0] rfl (T_c_EdgeHouse_look_70 hx0 hx1 hx2 hx3 h449 f449 j448)
def D_c_EdgeHouse_look_53 (F : Nat) (x0 : Nat) (x1 : Option Nat) (x2 : Option Nat) (x3 : Option Nat) (x4 : Int32) (T : tT) : Option (tT) := D_c_EdgeHouse_look_54 F x0 x1 x2 x3 x4 (0 : Int32) T
theorem T_c_EdgeHouse_look_53 {l : Launch} {w0 : List mM} {F : Nat} {x0 : Nat} {x1 : Option Nat} {x2 : Option Nat} {x3 : Option Nat} {x4 : Int32} {T : tT} {w : List mM} {Tz : tT} (hx0 : okr T.2.1 (some x0)) (hx1 : okr T.2.1 x1) (hx2 : okr T.2.1 x2) (hx3 : okr T.2.1 x3) (h : RT T w) (hF : m_Fm w0 w) (h0 : D_c_EdgeHouse_look_53 F x0 x1 x2 x3 x4 T = some Tz) : m_Rb l M_73 (53, [(0, .ref x0), (1, rv x1), (2, rv x2), (3, rv x3), (4, .int x4)], [], w) (fun v w' => v = none ∧ RT Tz w' ∧ m_Fm w0 w') T Tz 17 1700 := by
  rw [D_c_EdgeHouse_look_53] at h0
  refine m_Rb.n0 b_73 (x_iconst (z := 0) d_73_53 (by decide)) ?_
  exact m_Rb.pick [0, 1, 2, 3, 4] rfl (T_c_EdgeHouse_look_54 hx0 hx1 hx2 hx3 h hF h0)
def D_c_EdgeHouse_look_25 (F : Nat) (x0 : Nat) (x1 : Option Nat) (x2 : Option Nat) (x3 : Option Nat) (y0 : Int32) (T : tT) : Option (tT) := nc x3 (D_c_EdgeHouse_look_53 F x0 x1 x2 none y0 T) fun a30 => ((x2).bind fun a32 => (tgi T a32 6 6).bind fun v35 => (cond (m_c1 .ne v35) (some (0 : Int32)) ((tgi T a30 11 4).bind fun v42 => (tgi T a32 6 11).bind fun v45 => cond (m_c2 .lt v42 v45) (some (0 : Int32)) (some (1 : Int32)))).bind fun v50 => (cond (m_c1 .eq v50) (some (0 : Int32)) ((tcl T a32 6).bind fun _ => (D_c_Request_missingIn F a32 (some a30) T).bind fun v60 => some v60)).bind fun v64 => (cond (m_c1 .eq v50) (some (0 : Int32)) ((tgr T a30 11 2).bind fun v71 => (tcl T a32 6).bind fun _ => (D_c_Request_takesFresh F a32 v71 y0 T).bind fun v78 => cond (m_c1 .eq v78) (some (0 : Int32)) (some (1 : Int32)))).bind fun v84 => cond (m_c1 .eq v84) (D_c_EdgeHouse_look_136 F x0 x1 (some a32) (some a30) y0 v50 v64 v84 T) (cond (m_c1 .ne v64) (D_c_EdgeHouse_look_136 F x0 x1 (some a32) (some a30) y0 v50 v64 v84 T) ((x1).bind fun a153 => (tgi T a153 4 8).bind fun v156 => (tpi T a153 4 8 (v156 + (1 : Int32))).bind fun T159 => (tgr T159 a153 4 1).bind fun v163 => (v163).bind fun a167 => (tcl T159 a167 5).bind fun _ => (D_c_Store_use F a167 (some a30) T159).bind fun T173 => (tcl T173 x0 0).bind fun _ => (D_c_EdgeHouse_serve F x0 (some a153) (some a32) (some a30) (1 : Int32) T173).bind fun T180 => some T180)))
theorem T_c_EdgeHouse_look_25 {l : Launch} {w0 : List mM} {F : Nat} {x0 : Nat} {x1 : Option Nat} {x2 : Option Nat} {x3 : Option Nat} {y0 : Int32} {T : tT} {w : List mM} {Tz : tT} (hx0 : okr T.2.1 (some x0)) (hx1 : okr T.2.1 x1) (hx2 : okr T.2.1 x2) (hx3 : okr T.2.1 x3) (h : RT T w) (hF : m_Fm w0 w) (h0 : D_c_EdgeHouse_look_25 F x0 x1 x2 x3 y0 T = some Tz) : m_Rb l M_73 (25, [(0, .ref x0), (1, rv x1), (2, rv x2), (3, rv x3)], [.int y0], w) (fun v w' => v = none ∧ RT Tz w' ∧ m_Fm w0 w') T Tz 17 1700 := by
  rw [D_c_EdgeHouse_look_25] at h0
  refine m_Rb.n0 b_73 (x_istore d_73_25 rfl (show m_put1 _ _ _ = [(4, _), (0, _), (1, _), (2, _), (3, _)] from (m_p1r (by simp only [List.all_cons, List.all_nil, cat_rv]; rfl)).trans rfl)) ?_
  refine m_Rb.n0 b_73 (x_aloadr_n (x := x3) d_73_27 rfl) ?_
  cases x3 with
  | none =>
    have j31 := nN h0
    refine m_Rb.n0 b_73 (x_ifnull0 d_73_28 rfl) ?_
    exact m_Rb.pick [1, 2, 3, 4, 0] rfl (T_c_EdgeHouse_look_53 hx0 hx1 hx2 okr_none h hF j31)
  | some a30 =>
    have j31 := nS h0
    refine m_Rb.n0 b_73 (x_ifnull1 d_73_28 rfl) ?_
    refine m_Rb.n0 b_73 (x_aloadr_n (x := x2) d_73_31 rfl) ?_
    obtain ⟨a32, e33, j34⟩ := bS j31
    subst e33
    obtain ⟨v35, e36, j37⟩ := bS j34
    refine m_Rb.tgetI b_73 d_73_32 rfl h e36 ?_
    obtain ⟨v50, e39, j51⟩ := bS j37
    have kk38 : ∀ (xz : Int32) (w1 : List mM), xz = v50 → RT T w1 → m_Fm w0 w1 → m_Rb l M_73 (54, [(4, .int y0), (0, .ref x0), (1, rv x1), (2, .ref a32), (3, .ref a30)], [.int xz], w1) (fun v w' => v = none ∧ RT Tz w' ∧ m_Fm w0 w') T Tz 17 1700 := by
      intro xz w52 ez h52 f52
      rw [ez]
      refine m_Rb.n0 b_73 (x_istore d_73_54 rfl (show m_put1 _ _ _ = [(5, _), (4, _), (0, _), (1, _), (2, _), (3, _)] from rfl)) ?_
      refine m_Rb.n0 b_73 (x_iload d_73_56 rfl) ?_
      obtain ⟨v64, e54, j65⟩ := bS j51
      have kk53 : ∀ (xz : Int32) (w1 : List mM), xz = v64 → RT T w1 → m_Fm w0 w1 → m_Rb l M_73 (70, [(5, .int v50), (4, .int y0), (0, .ref x0), (1, rv x1), (2, .ref a32), (3, .ref a30)], [.int xz], w1) (fun v w' => v = none ∧ RT Tz w' ∧ m_Fm w0 w') T Tz 17 1700 := by
        intro xz w66 ez h66 f66
        rw [ez]
        refine m_Rb.n0 b_73 (x_istore d_73_70 rfl (show m_put1 _ _ _ = [(6, _), (5, _), (4, _), (0, _), (1, _), (2, _), (3, _)] from rfl)) ?_
        refine m_Rb.n0 b_73 (x_iload d_73_72 rfl) ?_
        obtain ⟨v84, e68, j85⟩ := bS j65
        have kk67 : ∀ (xz : Int32) (w1 : List mM), xz = v84 → RT T w1 → m_Fm w0 w1 → m_Rb l M_73 (95, [(6, .int v64), (5, .int v50), (4, .int y0), (0, .ref x0), (1, rv x1), (2, .ref a32), (3, .ref a30)], [.int xz], w1) (fun v w' => v = none ∧ RT Tz w' ∧ m_Fm w0 w') T Tz 17 1700 := by
          intro xz w86 ez h86 f86
          rw [ez]
          refine m_Rb.n0 b_73 (x_istore d_73_95 rfl (show m_put1 _ _ _ = [(7, _), (6, _), (5, _), (4, _), (0, _), (1, _), (2, _), (3, _)] from rfl)) ?_
          refine m_Rb.n0 b_73 (x_iload d_73_97 rfl) ?_
          cases hc118 : m_c1 .eq v84 with
          | true =>
            have j119 := cT hc118 j85
            refine m_Rb.n0 b_73 (x_ift d_73_99 rfl hc118) ?_
            exact m_Rb.pick [4, 5, 6, 7, 3, 2, 1, 0] rfl (T_c_EdgeHouse_look_136 hx0 hx1 hx2 hx3 h86 f86 j119)
          | false =>
            have j119 := cF hc118 j85
            refine m_Rb.n0 b_73 (x_iff d_73_99 rfl hc118) ?_
            refine m_Rb.n0 b_73 (x_iload d_73_102 rfl) ?_
            cases hc151 : m_c1 .ne v64 with
            | true =>
              have j152 := cT hc151 j119
              refine m_Rb.n0 b_73 (x_ift d_73_104 rfl hc151) ?_
              exact m_Rb.pick [4, 5, 6, 7, 3, 2, 1, 0] rfl (T_c_EdgeHouse_look_136 hx0 hx1 hx2 hx3 h86 f86 j152)
            | false =>
              have j152 := cF hc151 j119
              refine m_Rb.n0 b_73 (x_iff d_73_104 rfl hc151) ?_
              refine m_Rb.n0 b_73 (x_aloadr_n (x := x1) d_73_107 rfl) ?_
              refine m_Rb.n0 b_73 (x_dup d_73_108 (cat_rv x1)) ?_
              obtain ⟨a153, e154, j155⟩ := bS j152
              subst e154
              obtain ⟨v156, e157, j158⟩ := bS j155
              refine m_Rb.tgetI b_73 d_73_109 rfl h86 e157 ?_
              refine m_Rb.n0 b_73 (x_iconst (z := 1) d_73_112 (by decide)) ?_
              refine m_Rb.n0 b_73 (x_iadd d_73_113 rfl) ?_
              obtain ⟨T159, e160, j161⟩ := bS j158
              refine m_Rb.tputI b_73 d_73_114 rfl rfl (by decide) h86 f86 e160 (fun w162 h162 f162 k162 => ?_)
              refine m_Rb.n0 b_73 (x_aload_n d_73_117 rfl) ?_
              obtain ⟨v163, e164, j165⟩ := bS j161
              refine m_Rb.tgetR b_73 d_73_118 rfl h162 e164 (fun o166 => ?_)
              refine m_Rb.n0 b_73 (x_aload_n d_73_121 rfl) ?_
              obtain ⟨a167, e168, j169⟩ := bS j165
              subst e168
              obtain ⟨_, e170, j171⟩ := bS j169
              obtain ⟨_, g172⟩ := RT.cls h162 e170
              obtain ⟨T173, e174, j175⟩ := bS j171
              refine m_Rb.callV b_73 (y_cv d_73_122 rfl q_92 (m_isRecv_of rfl g172) (show m_takeI _ _ = some (_, [_, _], []) from m_takeI_of rfl rfl rfl (Nat.le_of_ble_eq_true rfl)) (by simp only [m_okf, List.all_cons, List.all_nil, Bool.and_true, Bool.and_self, m_okv_i, m_okv_l, m_okv_0, m_okv_n0, m_okv_t, RT.okn h162 (okm hx0 k162), RT.okv h162 (okm hx0 k162), RT.okn h162 (okm hx1 k162), RT.okv h162 (okm hx1 k162), RT.okn h162 (okm hx2 k162), RT.okv h162 (okm hx2 k162), RT.okn h162 (okm hx3 k162), RT.okv h162 (okm hx3 k162), RT.okn h162 o166, RT.okv h162 o166]) rfl) (T_c_Store_use o166 (okm hx3 k162) h162 e174) f162 rfl (fun w176 h176 f176 k176 => ?_) (by decide) (by decide)
              refine m_Rb.n0 b_73 (x_aload_n d_73_125 rfl) ?_
              refine m_Rb.n0 b_73 (x_aload_n d_73_126 rfl) ?_
              refine m_Rb.n0 b_73 (x_aload_n d_73_127 rfl) ?_
              refine m_Rb.n0 b_73 (x_aload_n d_73_128 rfl) ?_
              refine m_Rb.n0 b_73 (x_iconst (z := 1) d_73_129 (by decide)) ?_
              obtain ⟨_, e177, j178⟩ := bS j175
              obtain ⟨_, g179⟩ := RT.cls h176 e177
              obtain ⟨T180, e181, j182⟩ := bS j178
              refine m_Rb.callV b_73 (y_cv d_73_130 rfl q_102 (m_isRecv_of rfl g179) (show m_takeI _ _ = some (_, [_, _, _, _, _], []) from m_takeI_of rfl rfl rfl (Nat.le_of_ble_eq_true rfl)) (by simp only [m_okf, List.all_cons, List.all_nil, Bool.and_true, Bool.and_self, m_okv_i, m_okv_l, m_okv_0, m_okv_n0, m_okv_t, RT.okn h176 (okm (okm hx0 k162) k176), RT.okv h176 (okm (okm hx0 k162) k176), RT.okn h176 (okm (okm hx1 k162) k176), RT.okv h176 (okm (okm hx1 k162) k176), RT.okn h176 (okm (okm hx2 k162) k176), RT.okv h176 (okm (okm hx2 k162) k176), RT.okn h176 (okm (okm hx3 k162) k176), RT.okv h176 (okm (okm hx3 k162) k176)]) rfl) (T_c_EdgeHouse_serve (okm (okm hx0 k162) k176) (okm (okm hx1 k162) k176) (okm (okm hx2 k162) k176) (okm (okm hx3 k162) k176) h176 e181) f176 rfl (fun w183 h183 f183 k183 => ?_) (by decide) (by decide)
              refine m_Rb.n0 b_73 (x_goto d_73_133 rfl) ?_
              cases j182
              exact m_Rb.ret b_73 (m_rt_vr d_73_265 rfl) ⟨rfl, h183, f183⟩
        cases hc69 : m_c1 .eq v50 with
        | true =>
          have j70 := cT hc69 e68
          refine m_Rb.n0 b_73 (x_ift d_73_74 rfl hc69) ?_
          refine m_Rb.n0 b_73 (x_iconst (z := 0) d_73_94 (by decide)) ?_
          exact kk67 _ _ (Option.some.inj j70) h66 f66
        | false =>
          have j70 := cF hc69 e68
          refine m_Rb.n0 b_73 (x_iff d_73_74 rfl hc69) ?_
          refine m_Rb.n0 b_73 (x_aload_n d_73_77 rfl) ?_
          refine m_Rb.n0 b_73 (x_aload_n d_73_78 rfl) ?_
          obtain ⟨v71, e72, j73⟩ := bS j70
          refine m_Rb.tgetR b_73 d_73_79 rfl h66 e72 (fun o74 => ?_)
          refine m_Rb.n0 b_73 (x_iload d_73_82 rfl) ?_
          obtain ⟨_, e75, j76⟩ := bS j73
          obtain ⟨_, g77⟩ := RT.cls h66 e75
          obtain ⟨v78, e79, j80⟩ := bS j76
          refine m_Rb.callI b_73 (y_cv d_73_84 rfl q_90 (m_isRecv_of rfl g77) (show m_takeI _ _ = some (_, [_, _, _], []) from m_takeI_of rfl rfl rfl (Nat.le_of_ble_eq_true rfl)) (by simp only [m_okf, List.all_cons, List.all_nil, Bool.and_true, Bool.and_self, m_okv_i, m_okv_l, m_okv_0, m_okv_n0, m_okv_t, RT.okn h66 hx0, RT.okv h66 hx0, RT.okv h66 hx1, RT.okn h66 hx2, RT.okv h66 hx2, RT.okn h66 hx3, RT.okv h66 hx3, RT.okv h66 o74]) (decide_eq_true (by simp only [lgs_r, lgs_a, lgs_i, lgs_l, lgs_0]; exact Nat.le_of_ble_eq_true rfl))) (T_c_Request_takesFresh hx2 o74 h66 e79) f66 rfl (fun w81 h81 f81 k81 => ?_) (by decide) (by decide)
          cases hc82 : m_c1 .eq v78 with
          | true =>
            have j83 := cT hc82 j80
            refine m_Rb.n0 b_73 (x_ift d_73_87 rfl hc82) ?_
            refine m_Rb.n0 b_73 (x_iconst (z := 0) d_73_94 (by decide)) ?_
            exact kk67 _ _ (Option.some.inj j83) h81 f81
          | false =>
            have j83 := cF hc82 j80
            refine m_Rb.n0 b_73 (x_iff d_73_87 rfl hc82) ?_
            refine m_Rb.n0 b_73 (x_iconst (z := 1) d_73_90 (by decide)) ?_
            refine m_Rb.n0 b_73 (x_goto d_73_91 rfl) ?_
            exact kk67 _ _ (Option.some.inj j83) h81 f81
      cases hc55 : m_c1 .eq v50 with
      | true =>
        have j56 := cT hc55 e54
        refine m_Rb.n0 b_73 (x_ift d_73_58 rfl hc55) ?_
        refine m_Rb.n0 b_73 (x_iconst (z := 0) d_73_69 (by decide)) ?_
        exact kk53 _ _ (Option.some.inj j56) h52 f52
      | false =>
        have j56 := cF hc55 e54
        refine m_Rb.n0 b_73 (x_iff d_73_58 rfl hc55) ?_
        refine m_Rb.n0 b_73 (x_aload_n d_73_61 rfl) ?_
        refine m_Rb.n0 b_73 (x_aload_n d_73_62 rfl) ?_
        obtain ⟨_, e57, j58⟩ := bS j56
        obtain ⟨_, g59⟩ := RT.cls h52 e57
        obtain ⟨v60, e61, j62⟩ := bS j58
        refine m_Rb.callI b_73 (y_cv d_73_63 rfl q_84 (m_isRecv_of rfl g59) (show m_takeI _ _ = some (_, [_, _], []) from m_takeI_of rfl rfl rfl (Nat.le_of_ble_eq_true rfl)) (by simp only [m_okf, List.all_cons, List.all_nil, Bool.and_true, Bool.and_self, m_okv_i, m_okv_l, m_okv_0, m_okv_n0, m_okv_t, RT.okn h52 hx0, RT.okv h52 hx0, RT.okv h52 hx1, RT.okn h52 hx2, RT.okv h52 hx2, RT.okn h52 hx3, RT.okv h52 hx3]) rfl) (T_c_Request_missingIn hx2 hx3 h52 e61) f52 rfl (fun w63 h63 f63 k63 => ?_) (by decide) (by decide)
        refine m_Rb.n0 b_73 (x_goto d_73_66 rfl) ?_
        exact kk53 _ _ (Option.some.inj j62) h63 f63
    cases hc40 : m_c1 .ne v35 with
    | true =>
      have j41 := cT hc40 e39
      refine m_Rb.n0 b_73 (x_ift d_73_35 rfl hc40) ?_
      refine m_Rb.n0 b_73 (x_iconst (z := 0) d_73_53 (by decide)) ?_
      exact kk38 _ _ (Option.some.inj j41) h hF
    | false =>
      have j41 := cF hc40 e39
      refine m_Rb.n0 b_73 (x_iff d_73_35 rfl hc40) ?_
      refine m_Rb.n0 b_73 (x_aload_n d_73_38 rfl) ?_
      obtain ⟨v42, e43, j44⟩ := bS j41
      refine m_Rb.tgetI b_73 d_73_39 rfl h e43 ?_
      refine m_Rb.n0 b_73 (x_aload_n d_73_42 rfl) ?_
      obtain ⟨v45, e46, j47⟩ := bS j44
      refine m_Rb.tgetI b_73 d_73_43 rfl h e46 ?_
      cases hc48 : m_c2 .lt v42 v45 with
      | true =>
        have j49 := cT hc48 j47
        refine m_Rb.n0 b_73 (x_ict d_73_46 rfl hc48) ?_
        refine m_Rb.n0 b_73 (x_iconst (z := 0) d_73_53 (by decide)) ?_
        exact kk38 _ _ (Option.some.inj j49) h hF
      | false =>
        have j49 := cF hc48 j47
        refine m_Rb.n0 b_73 (x_icf d_73_46 rfl hc48) ?_
        refine m_Rb.n0 b_73 (x_iconst (z := 1) d_73_49 (by decide)) ?_
        refine m_Rb.n0 b_73 (x_goto d_73_50 rfl) ?_
        exact kk38 _ _ (Option.some.inj j49) h hF
def D_c_EdgeHouse_look (F : Nat) (a0 : Nat) (p0 : Option Nat) (p1 : Option Nat) (T : tT) : Option (tT) := (p0).bind fun a1 => (tgr T a1 4 1).bind fun v4 => (v4).bind fun a8 => (tcl T a8 5).bind fun _ => (D_c_Store_suiting F a8 p1 T).bind fun v14 => nc v14 (D_c_EdgeHouse_look_25 F a0 (some a1) p1 none (0 : Int32) T) fun a18 => ((tgi T a0 0 14).bind fun v20 => (tcl T a18 11).bind fun _ => (D_c_Entry_ageAt F a18 v20 T).bind fun v26 => D_c_EdgeHouse_look_25 F a0 (some a1) p1 (some a18) v26 T)
theorem T_c_EdgeHouse_look {l : Launch} {w : List mM} {F : Nat} {a0 : Nat} {p0 : Option Nat} {p1 : Option Nat} {T : tT} {Tz : tT} (ha0 : okr T.2.1 (some a0)) (hp0 : okr T.2.1 p0) (hp1 : okr T.2.1 p1) (h : RT T w) (h0 : D_c_EdgeHouse_look F a0 p0 p1 T = some Tz) : m_Rb l M_73 (m_ent M_73 [.ref a0, rv p0, rv p1] w) (fun v w' => v = none ∧ RT Tz w' ∧ m_Fm w w') T Tz 17 1700 := by
  rw [show m_ent M_73 [.ref a0, rv p0, rv p1] w = (0, [(0, .ref a0), (1, rv p0), (2, rv p1)], [], w) from by first | rfl | (simp only [m_ent, lv_args_r, lv_args_a, lv_args_i, lv_args_l, lv_args_0]; done) | (simp only [m_ent, lv_args_r, lv_args_a, lv_args_i, lv_args_l, lv_args_0]; rfl)]
  generalize hw0 : w = w0 at h ⊢
  have hF : m_Fm w0 w0 := m_Fm.refl
  rw [D_c_EdgeHouse_look] at h0
  refine m_Rb.n0 b_73 (x_aloadr_n (x := p0) d_73_0 rfl) ?_
  obtain ⟨a1, e2, j3⟩ := bS h0
  subst e2
  obtain ⟨v4, e5, j6⟩ := bS j3
  refine m_Rb.tgetR b_73 d_73_1 rfl h e5 (fun o7 => ?_)
  refine m_Rb.n0 b_73 (x_aloadr_n (x := p1) d_73_4 rfl) ?_
  obtain ⟨a8, e9, j10⟩ := bS j6
  subst e9
  obtain ⟨_, e11, j12⟩ := bS j10
  obtain ⟨_, g13⟩ := RT.cls h e11
  obtain ⟨v14, e15, j16⟩ := bS j12
  refine m_Rb.callR b_73 (y_cv d_73_5 rfl q_74 (m_isRecv_of rfl g13) (show m_takeI _ _ = some (_, [_, _], []) from m_takeI_of rfl rfl rfl (Nat.le_of_ble_eq_true rfl)) (by simp only [m_okf, List.all_cons, List.all_nil, Bool.and_true, Bool.and_self, m_okv_i, m_okv_l, m_okv_0, m_okv_n0, m_okv_t, RT.okn h ha0, RT.okv h ha0, RT.okn h hp0, RT.okv h hp0, RT.okv h hp1, RT.okn h o7, RT.okv h o7]) (decide_eq_true (by simp only [lgs_r, lgs_a, lgs_i, lgs_l, lgs_0]; exact Nat.le_of_ble_eq_true rfl))) (T_c_Store_suiting o7 hp1 h e15) hF rfl (fun w17 o17 h17 f17 k17 => ?_) (by decide) (by decide)
  refine m_Rb.n0 b_73 (x_astorer_n (x := v14) d_73_8 rfl (show m_put1 _ _ _ = [(3, _), (0, _), (1, _), (2, _)] from (m_p1r (by simp only [List.all_cons, List.all_nil, cat_rv]; rfl)).trans rfl)) ?_
  refine m_Rb.n0 b_73 (x_aloadr_n (x := v14) d_73_9 rfl) ?_
  cases v14 with
  | none =>
    have j19 := nN j16
    refine m_Rb.n0 b_73 (x_ifnonnull0 d_73_10 rfl) ?_
    refine m_Rb.n0 b_73 (x_iconst (z := 0) d_73_13 (by decide)) ?_
    refine m_Rb.n0 b_73 (x_goto d_73_14 rfl) ?_
    exact m_Rb.pick [1, 2, 3, 0] rfl (T_c_EdgeHouse_look_25 ha0 hp0 hp1 okr_none h17 f17 j19)
  | some a18 =>
    have j19 := nS j16
    refine m_Rb.n0 b_73 (x_ifnonnull1 d_73_10 rfl) ?_
    refine m_Rb.n0 b_73 (x_aload_n d_73_17 rfl) ?_
    refine m_Rb.n0 b_73 (x_aload_n d_73_18 rfl) ?_
    obtain ⟨v20, e21, j22⟩ := bS j19
    refine m_Rb.tgetI b_73 d_73_19 rfl h17 e21 ?_
    obtain ⟨_, e23, j24⟩ := bS j22
    obtain ⟨_, g25⟩ := RT.cls h17 e23
    obtain ⟨v26, e27, j28⟩ := bS j24
    refine m_Rb.callI b_73 (y_cv d_73_22 rfl q_83 (m_isRecv_of rfl g25) (show m_takeI _ _ = some (_, [_, _], []) from m_takeI_of rfl rfl rfl (Nat.le_of_ble_eq_true rfl)) (by simp only [m_okf, List.all_cons, List.all_nil, Bool.and_true, Bool.and_self, m_okv_i, m_okv_l, m_okv_0, m_okv_n0, m_okv_t, RT.okn h17 o17, RT.okv h17 o17, RT.okn h17 ha0, RT.okv h17 ha0, RT.okn h17 hp0, RT.okv h17 hp0, RT.okv h17 hp1]) rfl) (T_c_Entry_ageAt o17 h17 e27) f17 rfl (fun w29 h29 f29 k29 => ?_) (by decide) (by decide)
    exact m_Rb.pick [1, 2, 3, 0] rfl (T_c_EdgeHouse_look_25 ha0 hp0 hp1 o17 h29 f29 j28)
def D_c_EdgeHouse_ask (F : Nat) (a0 : Nat) (T : tT) : Option (Int32 × tT) := (tgr T a0 0 8).bind fun v1 => (v1).bind fun a5 => (tls T a5).bind fun v8 => cond (m_c2 .lt v8 (300 : Int32)) ((tgr T a0 0 0).bind fun v13 => (v13).bind fun a17 => (tcl T a17 1).bind fun _ => bd2 (D_c_Reader_readRequest F a17 T) fun v23 T24 => (tgr T24 a0 0 0).bind fun v28 => (v28).bind fun a32 => (tcl T24 a32 1).bind fun _ => (D_c_Reader_empty F a32 T24).bind fun T38 => bd2 (tnw T38 8) fun a42 T43 => (D_c_Reply_init F a42 T43).bind fun T47 => (tgr T47 a0 0 8).bind fun v51 => (v51).bind fun a55 => (tla T47 a55 a42).bind fun T58 => nc v23 ((tcl T58 a0 0).bind fun _ => (D_c_EdgeHouse_close F a0 (some a42) (400 : Int32) T58).bind fun T67 => some (v8, T67)) fun a62 => ((tpr T58 a62 6 14 (some a42)).bind fun T71 => (tgi T71 a62 6 0).bind fun v75 => (tgi T71 a62 6 1).bind fun v78 => (tcl T71 a0 0).bind fun _ => (D_c_EdgeHouse_ringNode F a0 (3 : Int32) (6 : Int32) v75 v78 none T71).bind fun v84 => cond (m_c2 .ne v84 ((-1) : Int32)) ((tpi T71 a42 8 0 v84).bind fun T90 => (tgr T90 a0 0 3).bind fun v94 => (v94).bind fun a98 => (tar T90 a98 7 v84).bind fun v101 => (tcl T90 a0 0).bind fun _ => (D_c_EdgeHouse_look F a0 v101 (some a62) T90).bind fun T108 => some (v8, T108)) ((tcl T71 a0 0).bind fun _ => (D_c_EdgeHouse_close F a0 (some a42) (503 : Int32) T71).bind fun T115 => some (v8, T115)))) (some (((-1) : Int32), T))
theorem T_c_EdgeHouse_ask {l : Launch} {w : List mM} {F : Nat} {a0 : Nat} {T : tT} {yz : Int32} {Tz : tT} (ha0 : okr T.2.1 (some a0)) (h : RT T w) (h0 : D_c_EdgeHouse_ask F a0 T = some (yz, Tz)) : m_Rb l M_16 (m_ent M_16 [.ref a0] w) (fun v w' => v = some (.int yz) ∧ RT Tz w' ∧ m_Fm w w') T Tz 18 1800 := by
  rw [show m_ent M_16 [.ref a0] w = (0, [(0, .ref a0)], [], w) from by first | rfl | (simp only [m_ent, lv_args_r, lv_args_a, lv_args_i, lv_args_l, lv_args_0]; done) | (simp only [m_ent, lv_args_r, lv_args_a, lv_args_i, lv_args_l, lv_args_0]; rfl)]
  generalize hw0 : w = w0 at h ⊢
  have hF : m_Fm w0 w0 := m_Fm.refl
  rw [D_c_EdgeHouse_ask] at h0
  refine m_Rb.n0 b_16 (x_aload_n d_16_0 rfl) ?_
  obtain ⟨v1, e2, j3⟩ := bS h0
  refine m_Rb.tgetR b_16 d_16_1 rfl h e2 (fun o4 => ?_)
  obtain ⟨a5, e6, j7⟩ := bS j3
  subst e6
  obtain ⟨v8, e9, j10⟩ := bS j7
  refine m_Rb.tlsize b_16 d_16_4 rfl (by simp only [m_okf, List.all_cons, List.all_nil, Bool.and_true, Bool.and_self, m_okv_i, m_okv_l, m_okv_0, m_okv_n0, m_okv_t, RT.okn h ha0, RT.okv h ha0, RT.okn h o4, RT.okv h o4]) (Nat.le_of_ble_eq_true rfl) h e9 ?_ (by decide) (by decide)
  refine m_Rb.n0 b_16 (x_istore_n d_16_7 rfl (show m_put1 _ _ _ = [(1, _), (0, _)] from rfl)) ?_
  refine m_Rb.n0 b_16 (x_iload_n d_16_8 rfl) ?_
  refine m_Rb.n0 b_16 (x_sipush (z := 300) d_16_9 (by decide)) ?_
  cases hc11 : m_c2 .lt v8 (300 : Int32) with
  | true =>
    have j12 := cT hc11 j10
    refine m_Rb.n0 b_16 (x_ict d_16_12 rfl hc11) ?_
    refine m_Rb.n0 b_16 (x_aload_n d_16_17 rfl) ?_
    obtain ⟨v13, e14, j15⟩ := bS j12
    refine m_Rb.tgetR b_16 d_16_18 rfl h e14 (fun o16 => ?_)
    obtain ⟨a17, e18, j19⟩ := bS j15
    subst e18
    obtain ⟨_, e20, j21⟩ := bS j19
    obtain ⟨_, g22⟩ := RT.cls h e20
    obtain ⟨v23, T24, e25, j26⟩ := bS2 j21
    refine m_Rb.callR b_16 (y_cv d_16_21 rfl q_18 (m_isRecv_of rfl g22) (show m_takeI _ _ = some (_, [_], []) from m_takeI_of rfl rfl rfl (Nat.le_of_ble_eq_true rfl)) (by simp only [m_okf, List.all_cons, List.all_nil, Bool.and_true, Bool.and_self, m_okv_i, m_okv_l, m_okv_0, m_okv_n0, m_okv_t, RT.okn h ha0, RT.okv h ha0, RT.okn h o16, RT.okv h o16]) rfl) (T_c_Reader_readRequest o16 h e25) hF rfl (fun w27 o27 h27 f27 k27 => ?_) (by decide) (by decide)
    refine m_Rb.n0 b_16 (x_astorer_n (x := v23) d_16_24 rfl (show m_put1 _ _ _ = [(2, _), (1, _), (0, _)] from rfl)) ?_
    refine m_Rb.n0 b_16 (x_aload_n d_16_25 rfl) ?_
    obtain ⟨v28, e29, j30⟩ := bS j26
    refine m_Rb.tgetR b_16 d_16_26 rfl h27 e29 (fun o31 => ?_)
    obtain ⟨a32, e33, j34⟩ := bS j30
    subst e33
    obtain ⟨_, e35, j36⟩ := bS j34
    obtain ⟨_, g37⟩ := RT.cls h27 e35
    obtain ⟨T38, e39, j40⟩ := bS j36
    refine m_Rb.callV b_16 (y_cv d_16_29 rfl q_60 (m_isRecv_of rfl g37) (show m_takeI _ _ = some (_, [_], []) from m_takeI_of rfl rfl rfl (Nat.le_of_ble_eq_true rfl)) (by simp only [m_okf, List.all_cons, List.all_nil, Bool.and_true, Bool.and_self, m_okv_i, m_okv_l, m_okv_0, m_okv_n0, m_okv_t, RT.okv h27 o27, RT.okn h27 (okm ha0 k27), RT.okv h27 (okm ha0 k27), RT.okn h27 o31, RT.okv h27 o31]) rfl) (T_c_Reader_empty o31 h27 e39) f27 rfl (fun w41 h41 f41 k41 => ?_) (by decide) (by decide)
    obtain ⟨a42, T43, e44, j45⟩ := bS2 j40
    refine m_Rb.tnew b_16 d_16_32 rfl (by simp only [m_okf, List.all_cons, List.all_nil, Bool.and_true, Bool.and_self, m_okv_i, m_okv_l, m_okv_0, m_okv_n0, m_okv_t, RT.okv h41 (okm o27 k41), RT.okn h41 (okm (okm ha0 k27) k41), RT.okv h41 (okm (okm ha0 k27) k41)]) h41 f41 e44 (fun w46 o46 h46 f46 k46 => ?_)
    refine m_Rb.n0 b_16 (x_dup d_16_35 rfl) ?_
    obtain ⟨T47, e48, j49⟩ := bS j45
    refine m_Rb.callV b_16 (x_ci d_16_36 rfl (by decide) q_61 (show m_takeI _ _ = some (_, [_], [_]) from m_takeI_of rfl rfl rfl (Nat.le_of_ble_eq_true rfl)) (by simp only [m_okf, List.all_cons, List.all_nil, Bool.and_true, Bool.and_self, m_okv_i, m_okv_l, m_okv_0, m_okv_n0, m_okv_t, RT.okv h46 (okm (okm o27 k41) k46), RT.okn h46 (okm (okm (okm ha0 k27) k41) k46), RT.okv h46 (okm (okm (okm ha0 k27) k41) k46), RT.okn h46 o46, RT.okv h46 o46]) rfl) (T_c_Reply_init o46 h46 e48) f46 rfl (fun w50 h50 f50 k50 => ?_) (by decide) (by decide)
    refine m_Rb.n0 b_16 (x_astore_n d_16_39 rfl (show m_put1 _ _ _ = [(3, _), (2, _), (1, _), (0, _)] from (m_p1r (by simp only [List.all_cons, List.all_nil, cat_rv]; rfl)).trans rfl)) ?_
    refine m_Rb.n0 b_16 (x_aload_n d_16_40 rfl) ?_
    obtain ⟨v51, e52, j53⟩ := bS j49
    refine m_Rb.tgetR b_16 d_16_41 rfl h50 e52 (fun o54 => ?_)
    refine m_Rb.n0 b_16 (x_aload_n d_16_44 rfl) ?_
    obtain ⟨a55, e56, j57⟩ := bS j53
    subst e56
    obtain ⟨T58, e59, j60⟩ := bS j57
    refine m_Rb.tladd b_16 d_16_45 rfl (by simp only [m_okf, List.all_cons, List.all_nil, Bool.and_true, Bool.and_self, m_okv_i, m_okv_l, m_okv_0, m_okv_n0, m_okv_t, RT.okn h50 (okm o46 k50), RT.okv h50 (okm o46 k50), RT.okv h50 (okm (okm (okm o27 k41) k46) k50), RT.okn h50 (okm (okm (okm (okm ha0 k27) k41) k46) k50), RT.okv h50 (okm (okm (okm (okm ha0 k27) k41) k46) k50), RT.okn h50 o54, RT.okv h50 o54]) (Nat.le_of_ble_eq_true rfl) h50 f50 e59 (fun w61 h61 f61 k61 => ?_) (by decide) (by decide)
    refine m_Rb.n0 b_16 (x_pop d_16_48 rfl) ?_
    refine m_Rb.n0 b_16 (x_aloadr_n (x := v23) d_16_49 rfl) ?_
    cases v23 with
    | none =>
      have j63 := nN j60
      refine m_Rb.n0 b_16 (x_ifnonnull0 d_16_50 rfl) ?_
      refine m_Rb.n0 b_16 (x_aload_n d_16_53 rfl) ?_
      refine m_Rb.n0 b_16 (x_aload_n d_16_54 rfl) ?_
      refine m_Rb.n0 b_16 (x_sipush (z := 400) d_16_55 (by decide)) ?_
      obtain ⟨_, e64, j65⟩ := bS j63
      obtain ⟨_, g66⟩ := RT.cls h61 e64
      obtain ⟨T67, e68, j69⟩ := bS j65
      refine m_Rb.callV b_16 (y_cv d_16_58 rfl q_70 (m_isRecv_of rfl g66) (show m_takeI _ _ = some (_, [_, _, _], []) from m_takeI_of rfl rfl rfl (Nat.le_of_ble_eq_true rfl)) (by simp only [m_okf, List.all_cons, List.all_nil, Bool.and_true, Bool.and_self, m_okv_i, m_okv_l, m_okv_0, m_okv_n0, m_okv_t, RT.okn h61 (okm (okm o46 k50) k61), RT.okv h61 (okm (okm o46 k50) k61), RT.okn h61 (okm (okm (okm (okm (okm ha0 k27) k41) k46) k50) k61), RT.okv h61 (okm (okm (okm (okm (okm ha0 k27) k41) k46) k50) k61)]) rfl) (T_c_EdgeHouse_close (okm (okm (okm (okm (okm ha0 k27) k41) k46) k50) k61) (okm (okm o46 k50) k61) h61 e68) f61 rfl (fun w70 h70 f70 k70 => ?_) (by decide) (by decide)
      refine m_Rb.n0 b_16 (x_iload_n d_16_61 rfl) ?_
      cases j69
      exact m_Rb.ret b_16 (m_rt_ir d_16_62 rfl rfl) ⟨rfl, h70, f70⟩
    | some a62 =>
      have j63 := nS j60
      refine m_Rb.n0 b_16 (x_ifnonnull1 d_16_50 rfl) ?_
      refine m_Rb.n0 b_16 (x_aload_n d_16_63 rfl) ?_
      refine m_Rb.n0 b_16 (x_aload_n d_16_64 rfl) ?_
      obtain ⟨T71, e72, j73⟩ := bS j63
      refine m_Rb.tputR (z := (some a42)) b_16 d_16_65 rfl rfl (by decide) h61 f61 e72 (okm (okm o46 k50) k61) (fun w74 h74 f74 k74 => ?_)
      refine m_Rb.n0 b_16 (x_aload_n d_16_68 rfl) ?_
      refine m_Rb.n0 b_16 (x_iconst (z := 3) d_16_69 (by decide)) ?_
      refine m_Rb.n0 b_16 (x_bipush (z := 6) d_16_70 (by decide)) ?_
      refine m_Rb.n0 b_16 (x_aload_n d_16_72 rfl) ?_
      obtain ⟨v75, e76, j77⟩ := bS j73
      refine m_Rb.tgetI b_16 d_16_73 rfl h74 e76 ?_
      refine m_Rb.n0 b_16 (x_aload_n d_16_76 rfl) ?_
      obtain ⟨v78, e79, j80⟩ := bS j77
      refine m_Rb.tgetI b_16 d_16_77 rfl h74 e79 ?_
      refine m_Rb.n0 b_16 (x_null d_16_80) ?_
      obtain ⟨_, e81, j82⟩ := bS j80
      obtain ⟨_, g83⟩ := RT.cls h74 e81
      obtain ⟨v84, e85, j86⟩ := bS j82
      refine m_Rb.callI b_16 (y_cv d_16_81 rfl q_71 (m_isRecv_of rfl g83) (show m_takeI _ _ = some (_, [_, _, _, _, _, _], []) from m_takeI_of rfl rfl rfl (Nat.le_of_ble_eq_true rfl)) (by simp only [m_okf, List.all_cons, List.all_nil, Bool.and_true, Bool.and_self, m_okv_i, m_okv_l, m_okv_0, m_okv_n0, m_okv_t, RT.okn h74 (okm (okm (okm o46 k50) k61) k74), RT.okv h74 (okm (okm (okm o46 k50) k61) k74), RT.okn h74 (okm (okm (okm (okm (okm o27 k41) k46) k50) k61) k74), RT.okv h74 (okm (okm (okm (okm (okm o27 k41) k46) k50) k61) k74), RT.okn h74 (okm (okm (okm (okm (okm (okm ha0 k27) k41) k46) k50) k61) k74), RT.okv h74 (okm (okm (okm (okm (okm (okm ha0 k27) k41) k46) k50) k61) k74)]) (decide_eq_true (by simp only [lgs_r, lgs_a, lgs_i, lgs_l, lgs_0]; exact Nat.le_of_ble_eq_true rfl))) (T_c_EdgeHouse_ringNode (okm (okm (okm (okm (okm (okm ha0 k27) k41) k46) k50) k61) k74) okr_none h74 e85) f74 rfl (fun w87 h87 f87 k87 => ?_) (by decide) (by decide)
      refine m_Rb.n0 b_16 (x_istore d_16_84 rfl (show m_put1 _ _ _ = [(4, _), (3, _), (2, _), (1, _), (0, _)] from rfl)) ?_
      refine m_Rb.n0 b_16 (x_iload d_16_86 rfl) ?_
      refine m_Rb.n0 b_16 (x_iconst (z := (-1)) d_16_88 (by decide)) ?_
      cases hc88 : m_c2 .ne v84 ((-1) : Int32) with
      | true =>
        have j89 := cT hc88 j86
        refine m_Rb.n0 b_16 (x_ict d_16_89 rfl hc88) ?_
        refine m_Rb.n0 b_16 (x_aload_n d_16_102 rfl) ?_
        refine m_Rb.n0 b_16 (x_iload d_16_103 rfl) ?_
        obtain ⟨T90, e91, j92⟩ := bS j89
        refine m_Rb.tputI b_16 d_16_105 rfl rfl (by decide) h87 f87 e91 (fun w93 h93 f93 k93 => ?_)
        refine m_Rb.n0 b_16 (x_aload_n d_16_108 rfl) ?_
        refine m_Rb.n0 b_16 (x_aload_n d_16_109 rfl) ?_
        obtain ⟨v94, e95, j96⟩ := bS j92
        refine m_Rb.tgetR b_16 d_16_110 rfl h93 e95 (fun o97 => ?_)
        refine m_Rb.n0 b_16 (x_iload d_16_113 rfl) ?_
        obtain ⟨a98, e99, j100⟩ := bS j96
        subst e99
        obtain ⟨v101, e102, j103⟩ := bS j100
        refine m_Rb.tgetO (t := 7) b_16 d_16_115 rfl rfl h93 e102 (fun o104 => ?_)
        refine m_Rb.n0 b_16 (x_aload_n d_16_116 rfl) ?_
        obtain ⟨_, e105, j106⟩ := bS j103
        obtain ⟨_, g107⟩ := RT.cls h93 e105
        obtain ⟨T108, e109, j110⟩ := bS j106
        refine m_Rb.callV b_16 (y_cv d_16_117 rfl q_73 (m_isRecv_of rfl g107) (show m_takeI _ _ = some (_, [_, _, _], []) from m_takeI_of rfl rfl rfl (Nat.le_of_ble_eq_true rfl)) (by simp only [m_okf, List.all_cons, List.all_nil, Bool.and_true, Bool.and_self, m_okv_i, m_okv_l, m_okv_0, m_okv_n0, m_okv_t, RT.okn h93 (okm (okm (okm (okm o46 k50) k61) k74) k93), RT.okv h93 (okm (okm (okm (okm o46 k50) k61) k74) k93), RT.okn h93 (okm (okm (okm (okm (okm (okm o27 k41) k46) k50) k61) k74) k93), RT.okv h93 (okm (okm (okm (okm (okm (okm o27 k41) k46) k50) k61) k74) k93), RT.okn h93 (okm (okm (okm (okm (okm (okm (okm ha0 k27) k41) k46) k50) k61) k74) k93), RT.okv h93 (okm (okm (okm (okm (okm (okm (okm ha0 k27) k41) k46) k50) k61) k74) k93), RT.okv h93 o104]) (decide_eq_true (by simp only [lgs_r, lgs_a, lgs_i, lgs_l, lgs_0]; exact Nat.le_of_ble_eq_true rfl))) (T_c_EdgeHouse_look (okm (okm (okm (okm (okm (okm (okm ha0 k27) k41) k46) k50) k61) k74) k93) o104 (okm (okm (okm (okm (okm (okm o27 k41) k46) k50) k61) k74) k93) h93 e109) f93 rfl (fun w111 h111 f111 k111 => ?_) (by decide) (by decide)
        refine m_Rb.n0 b_16 (x_iload_n d_16_120 rfl) ?_
        cases j110
        exact m_Rb.ret b_16 (m_rt_ir d_16_121 rfl rfl) ⟨rfl, h111, f111⟩
      | false =>
        have j89 := cF hc88 j86
        refine m_Rb.n0 b_16 (x_icf d_16_89 rfl hc88) ?_
        refine m_Rb.n0 b_16 (x_aload_n d_16_92 rfl) ?_
        refine m_Rb.n0 b_16 (x_aload_n d_16_93 rfl) ?_
        refine m_Rb.n0 b_16 (x_sipush (z := 503) d_16_94 (by decide)) ?_
        obtain ⟨_, e112, j113⟩ := bS j89
        obtain ⟨_, g114⟩ := RT.cls h87 e112
        obtain ⟨T115, e116, j117⟩ := bS j113
        refine m_Rb.callV b_16 (y_cv d_16_97 rfl q_70 (m_isRecv_of rfl g114) (show m_takeI _ _ = some (_, [_, _, _], []) from m_takeI_of rfl rfl rfl (Nat.le_of_ble_eq_true rfl)) (by simp only [m_okf, List.all_cons, List.all_nil, Bool.and_true, Bool.and_self, m_okv_i, m_okv_l, m_okv_0, m_okv_n0, m_okv_t, RT.okn h87 (okm (okm (okm o46 k50) k61) k74), RT.okv h87 (okm (okm (okm o46 k50) k61) k74), RT.okn h87 (okm (okm (okm (okm (okm o27 k41) k46) k50) k61) k74), RT.okv h87 (okm (okm (okm (okm (okm o27 k41) k46) k50) k61) k74), RT.okn h87 (okm (okm (okm (okm (okm (okm ha0 k27) k41) k46) k50) k61) k74), RT.okv h87 (okm (okm (okm (okm (okm (okm ha0 k27) k41) k46) k50) k61) k74)]) rfl) (T_c_EdgeHouse_close (okm (okm (okm (okm (okm (okm ha0 k27) k41) k46) k50) k61) k74) (okm (okm (okm o46 k50) k61) k74) h87 e116) f87 rfl (fun w118 h118 f118 k118 => ?_) (by decide) (by decide)
        refine m_Rb.n0 b_16 (x_iload_n d_16_100 rfl) ?_
        cases j117
        exact m_Rb.ret b_16 (m_rt_ir d_16_101 rfl rfl) ⟨rfl, h118, f118⟩
  | false =>
    have j12 := cF hc11 j10
    refine m_Rb.n0 b_16 (x_icf d_16_12 rfl hc11) ?_
    refine m_Rb.n0 b_16 (x_iconst (z := (-1)) d_16_15 (by decide)) ?_
    cases j12
    exact m_Rb.ret b_16 (m_rt_ir d_16_16 rfl rfl) ⟨rfl, h, hF⟩
def D_c_EdgeHouse_fault (F : Nat) (a0 : Nat) (T0 : tT) : Option (Int32) := (tgr T0 a0 0 0).bind fun v1 => (v1).bind fun a5 => (tgi T0 a5 1 3).bind fun v8 => some v8
theorem T_c_EdgeHouse_fault {l : Launch} {w : List mM} {F : Nat} {a0 : Nat} {T0 : tT} {yz : Int32} (ha0 : okr T0.2.1 (some a0)) (h : RT T0 w) (h0 : D_c_EdgeHouse_fault F a0 T0 = some yz) : m_Rb l M_125 (m_ent M_125 [.ref a0] w) (fun v w' => v = some (.int yz) ∧ RT T0 w' ∧ m_Fm w w') T0 T0 0 0 := by
  rw [show m_ent M_125 [.ref a0] w = (0, [(0, .ref a0)], [], w) from by first | rfl | (simp only [m_ent, lv_args_r, lv_args_a, lv_args_i, lv_args_l, lv_args_0]; done) | (simp only [m_ent, lv_args_r, lv_args_a, lv_args_i, lv_args_l, lv_args_0]; rfl)]
  generalize hw0 : w = w0 at h ⊢
  have hF : m_Fm w0 w0 := m_Fm.refl
  rw [D_c_EdgeHouse_fault] at h0
  refine m_Rb.n0 b_125 (x_aload_n d_125_0 rfl) ?_
  obtain ⟨v1, e2, j3⟩ := bS h0
  refine m_Rb.tgetR b_125 d_125_1 rfl h e2 (fun o4 => ?_)
  obtain ⟨a5, e6, j7⟩ := bS j3
  subst e6
  obtain ⟨v8, e9, j10⟩ := bS j7
  refine m_Rb.tgetI b_125 d_125_4 rfl h e9 ?_
  cases j10
  exact m_Rb.ret b_125 (m_rt_ir d_125_7 rfl rfl) ⟨rfl, h, hF⟩
def D_c_Request_init129 (F : Nat) (a0 : Nat) (p0 : Option Nat) (T : tT) : Option (tT) := (tpi T a0 6 5 (15 : Int32)).bind fun T1 => (tpi T1 a0 6 8 ((-1) : Int32)).bind fun T5 => (tpi T5 a0 6 9 ((-1) : Int32)).bind fun T9 => (tpi T9 a0 6 10 ((-1) : Int32)).bind fun T13 => (p0).bind fun a17 => (tgi T13 a17 9 4).bind fun v20 => (tpi T13 a0 6 0 v20).bind fun T23 => (tgi T23 a17 9 5).bind fun v27 => (tpi T23 a0 6 1 v27).bind fun T30 => (tgi T30 a17 9 6).bind fun v34 => (tpi T30 a0 6 2 v34).bind fun T37 => (tgi T37 a17 9 7).bind fun v41 => (tpi T37 a0 6 3 v41).bind fun T44 => (tgi T44 a17 9 8).bind fun v48 => (tpi T44 a0 6 4 v48).bind fun T51 => (tgi T51 a17 9 9).bind fun v55 => (tpi T51 a0 6 5 v55).bind fun T58 => (tgi T58 a17 9 10).bind fun v62 => (tpz T58 a0 6 6 v62).bind fun T65 => (tgi T65 a17 9 13).bind fun v69 => (tpi T65 a0 6 11 v69).bind fun T72 => (tgi T72 a17 9 1).bind fun v76 => (tpi T72 a0 6 15 v76).bind fun T79 => (tgi T79 a17 9 3).bind fun v83 => (tpi T79 a0 6 16 v83).bind fun T86 => (tgi T86 a17 9 11).bind fun v90 => (tpi T86 a0 6 17 v90).bind fun T93 => some T93
theorem T_c_Request_init129 {l : Launch} {w : List mM} {F : Nat} {a0 : Nat} {p0 : Option Nat} {T : tT} {Tz : tT} (ha0 : okr T.2.1 (some a0)) (hp0 : okr T.2.1 p0) (h : RT T w) (h0 : D_c_Request_init129 F a0 p0 T = some Tz) : m_Rb l M_129 (m_ent M_129 [.ref a0, rv p0] w) (fun v w' => v = none ∧ RT Tz w' ∧ m_Fm w w') T Tz 1 100 := by
  rw [show m_ent M_129 [.ref a0, rv p0] w = (0, [(0, .ref a0), (1, rv p0)], [], w) from by first | rfl | (simp only [m_ent, lv_args_r, lv_args_a, lv_args_i, lv_args_l, lv_args_0]; done) | (simp only [m_ent, lv_args_r, lv_args_a, lv_args_i, lv_args_l, lv_args_0]; rfl)]
  generalize hw0 : w = w0 at h ⊢
  have hF : m_Fm w0 w0 := m_Fm.refl
  rw [D_c_Request_init129] at h0
  refine m_Rb.n0 b_129 (x_aload_n d_129_0 rfl) ?_
  refine m_Rb.toinit b_129 d_129_1 rfl (Nat.le_of_ble_eq_true rfl) ?_ (by decide) (by decide)
  refine m_Rb.n0 b_129 (x_aload_n d_129_4 rfl) ?_
  refine m_Rb.n0 b_129 (x_bipush (z := 15) d_129_5 (by decide)) ?_
  obtain ⟨T1, e2, j3⟩ := bS h0
  refine m_Rb.tputI b_129 d_129_7 rfl rfl (by decide) h hF e2 (fun w4 h4 f4 k4 => ?_)
  refine m_Rb.n0 b_129 (x_aload_n d_129_10 rfl) ?_
  refine m_Rb.n0 b_129 (x_iconst (z := (-1)) d_129_11 (by decide)) ?_
  obtain ⟨T5, e6, j7⟩ := bS j3
  refine m_Rb.tputI b_129 d_129_12 rfl rfl (by decide) h4 f4 e6 (fun w8 h8 f8 k8 => ?_)
  refine m_Rb.n0 b_129 (x_aload_n d_129_15 rfl) ?_
  refine m_Rb.n0 b_129 (x_iconst (z := (-1)) d_129_16 (by decide)) ?_
  obtain ⟨T9, e10, j11⟩ := bS j7
  refine m_Rb.tputI b_129 d_129_17 rfl rfl (by decide) h8 f8 e10 (fun w12 h12 f12 k12 => ?_)
  refine m_Rb.n0 b_129 (x_aload_n d_129_20 rfl) ?_
  refine m_Rb.n0 b_129 (x_iconst (z := (-1)) d_129_21 (by decide)) ?_
  obtain ⟨T13, e14, j15⟩ := bS j11
  refine m_Rb.tputI b_129 d_129_22 rfl rfl (by decide) h12 f12 e14 (fun w16 h16 f16 k16 => ?_)
  refine m_Rb.n0 b_129 (x_aload_n d_129_25 rfl) ?_
  refine m_Rb.n0 b_129 (x_aloadr_n (x := p0) d_129_26 rfl) ?_
  obtain ⟨a17, e18, j19⟩ := bS j15
  subst e18
  obtain ⟨v20, e21, j22⟩ := bS j19
  refine m_Rb.tgetI b_129 d_129_27 rfl h16 e21 ?_
  obtain ⟨T23, e24, j25⟩ := bS j22
  refine m_Rb.tputI b_129 d_129_30 rfl rfl (by decide) h16 f16 e24 (fun w26 h26 f26 k26 => ?_)
  refine m_Rb.n0 b_129 (x_aload_n d_129_33 rfl) ?_
  refine m_Rb.n0 b_129 (x_aload_n d_129_34 rfl) ?_
  obtain ⟨v27, e28, j29⟩ := bS j25
  refine m_Rb.tgetI b_129 d_129_35 rfl h26 e28 ?_
  obtain ⟨T30, e31, j32⟩ := bS j29
  refine m_Rb.tputI b_129 d_129_38 rfl rfl (by decide) h26 f26 e31 (fun w33 h33 f33 k33 => ?_)
  refine m_Rb.n0 b_129 (x_aload_n d_129_41 rfl) ?_
  refine m_Rb.n0 b_129 (x_aload_n d_129_42 rfl) ?_
  obtain ⟨v34, e35, j36⟩ := bS j32
  refine m_Rb.tgetI b_129 d_129_43 rfl h33 e35 ?_
  obtain ⟨T37, e38, j39⟩ := bS j36
  refine m_Rb.tputI b_129 d_129_46 rfl rfl (by decide) h33 f33 e38 (fun w40 h40 f40 k40 => ?_)
  refine m_Rb.n0 b_129 (x_aload_n d_129_49 rfl) ?_
  refine m_Rb.n0 b_129 (x_aload_n d_129_50 rfl) ?_
  obtain ⟨v41, e42, j43⟩ := bS j39
  refine m_Rb.tgetI b_129 d_129_51 rfl h40 e42 ?_
  obtain ⟨T44, e45, j46⟩ := bS j43
  refine m_Rb.tputI b_129 d_129_54 rfl rfl (by decide) h40 f40 e45 (fun w47 h47 f47 k47 => ?_)
  refine m_Rb.n0 b_129 (x_aload_n d_129_57 rfl) ?_
  refine m_Rb.n0 b_129 (x_aload_n d_129_58 rfl) ?_
  obtain ⟨v48, e49, j50⟩ := bS j46
  refine m_Rb.tgetI b_129 d_129_59 rfl h47 e49 ?_
  obtain ⟨T51, e52, j53⟩ := bS j50
  refine m_Rb.tputI b_129 d_129_62 rfl rfl (by decide) h47 f47 e52 (fun w54 h54 f54 k54 => ?_)
  refine m_Rb.n0 b_129 (x_aload_n d_129_65 rfl) ?_
  refine m_Rb.n0 b_129 (x_aload_n d_129_66 rfl) ?_
  obtain ⟨v55, e56, j57⟩ := bS j53
  refine m_Rb.tgetI b_129 d_129_67 rfl h54 e56 ?_
  obtain ⟨T58, e59, j60⟩ := bS j57
  refine m_Rb.tputI b_129 d_129_70 rfl rfl (by decide) h54 f54 e59 (fun w61 h61 f61 k61 => ?_)
  refine m_Rb.n0 b_129 (x_aload_n d_129_73 rfl) ?_
  refine m_Rb.n0 b_129 (x_aload_n d_129_74 rfl) ?_
  obtain ⟨v62, e63, j64⟩ := bS j60
  refine m_Rb.tgetI b_129 d_129_75 rfl h61 e63 ?_
  obtain ⟨T65, e66, j67⟩ := bS j64
  refine m_Rb.tputZ b_129 d_129_78 rfl rfl (by decide) h61 f61 e66 (fun w68 h68 f68 k68 => ?_)
  refine m_Rb.n0 b_129 (x_aload_n d_129_81 rfl) ?_
  refine m_Rb.n0 b_129 (x_aload_n d_129_82 rfl) ?_
  obtain ⟨v69, e70, j71⟩ := bS j67
  refine m_Rb.tgetI b_129 d_129_83 rfl h68 e70 ?_
  obtain ⟨T72, e73, j74⟩ := bS j71
  refine m_Rb.tputI b_129 d_129_86 rfl rfl (by decide) h68 f68 e73 (fun w75 h75 f75 k75 => ?_)
  refine m_Rb.n0 b_129 (x_aload_n d_129_89 rfl) ?_
  refine m_Rb.n0 b_129 (x_aload_n d_129_90 rfl) ?_
  obtain ⟨v76, e77, j78⟩ := bS j74
  refine m_Rb.tgetI b_129 d_129_91 rfl h75 e77 ?_
  obtain ⟨T79, e80, j81⟩ := bS j78
  refine m_Rb.tputI b_129 d_129_94 rfl rfl (by decide) h75 f75 e80 (fun w82 h82 f82 k82 => ?_)
  refine m_Rb.n0 b_129 (x_aload_n d_129_97 rfl) ?_
  refine m_Rb.n0 b_129 (x_aload_n d_129_98 rfl) ?_
  obtain ⟨v83, e84, j85⟩ := bS j81
  refine m_Rb.tgetI b_129 d_129_99 rfl h82 e84 ?_
  obtain ⟨T86, e87, j88⟩ := bS j85
  refine m_Rb.tputI b_129 d_129_102 rfl rfl (by decide) h82 f82 e87 (fun w89 h89 f89 k89 => ?_)
  refine m_Rb.n0 b_129 (x_aload_n d_129_105 rfl) ?_
  refine m_Rb.n0 b_129 (x_aload_n d_129_106 rfl) ?_
  obtain ⟨v90, e91, j92⟩ := bS j88
  refine m_Rb.tgetI b_129 d_129_107 rfl h89 e91 ?_
  obtain ⟨T93, e94, j95⟩ := bS j92
  refine m_Rb.tputI b_129 d_129_110 rfl rfl (by decide) h89 f89 e94 (fun w96 h96 f96 k96 => ?_)
  cases j95
  exact m_Rb.ret b_129 (m_rt_vr d_129_113 rfl) ⟨rfl, h96, f96⟩
def D_c_Entry_init (F : Nat) (a0 : Nat) (p0 : Int32) (p1 : Int32) (p2 : Option Nat) (p3 : Int32) (T : tT) : Option (tT) := (tpi T a0 11 0 p0).bind fun T1 => (tpi T1 a0 11 1 p1).bind fun T5 => (tpr T5 a0 11 2 p2).bind fun T9 => (tpi T9 a0 11 3 p3).bind fun T13 => some T13
theorem T_c_Entry_init {l : Launch} {w : List mM} {F : Nat} {a0 : Nat} {p0 : Int32} {p1 : Int32} {p2 : Option Nat} {p3 : Int32} {T : tT} {Tz : tT} (ha0 : okr T.2.1 (some a0)) (hp2 : okr T.2.1 p2) (h : RT T w) (h0 : D_c_Entry_init F a0 p0 p1 p2 p3 T = some Tz) : m_Rb l M_130 (m_ent M_130 [.ref a0, .int p0, .int p1, rv p2, .int p3] w) (fun v w' => v = none ∧ RT Tz w' ∧ m_Fm w w') T Tz 1 100 := by
  rw [show m_ent M_130 [.ref a0, .int p0, .int p1, rv p2, .int p3] w = (0, [(0, .ref a0), (1, .int p0), (2, .int p1), (3, rv p2), (4, .int p3)], [], w) from by first | rfl | (simp only [m_ent, lv_args_r, lv_args_a, lv_args_i, lv_args_l, lv_args_0]; done) | (simp only [m_ent, lv_args_r, lv_args_a, lv_args_i, lv_args_l, lv_args_0]; rfl)]
  generalize hw0 : w = w0 at h ⊢
  have hF : m_Fm w0 w0 := m_Fm.refl
  rw [D_c_Entry_init] at h0
  refine m_Rb.n0 b_130 (x_aload_n d_130_0 rfl) ?_
  refine m_Rb.toinit b_130 d_130_1 rfl (Nat.le_of_ble_eq_true rfl) ?_ (by decide) (by decide)
  refine m_Rb.n0 b_130 (x_aload_n d_130_4 rfl) ?_
  refine m_Rb.n0 b_130 (x_iload_n d_130_5 rfl) ?_
  obtain ⟨T1, e2, j3⟩ := bS h0
  refine m_Rb.tputI b_130 d_130_6 rfl rfl (by decide) h hF e2 (fun w4 h4 f4 k4 => ?_)
  refine m_Rb.n0 b_130 (x_aload_n d_130_9 rfl) ?_
  refine m_Rb.n0 b_130 (x_iload_n d_130_10 rfl) ?_
  obtain ⟨T5, e6, j7⟩ := bS j3
  refine m_Rb.tputI b_130 d_130_11 rfl rfl (by decide) h4 f4 e6 (fun w8 h8 f8 k8 => ?_)
  refine m_Rb.n0 b_130 (x_aload_n d_130_14 rfl) ?_
  refine m_Rb.n0 b_130 (x_aloadr_n (x := p2) d_130_15 rfl) ?_
  obtain ⟨T9, e10, j11⟩ := bS j7
  refine m_Rb.tputR (z := p2) b_130 d_130_16 rfl rfl (by decide) h8 f8 e10 (okm (okm hp2 k4) k8) (fun w12 h12 f12 k12 => ?_)
  refine m_Rb.n0 b_130 (x_aload_n d_130_19 rfl) ?_
  refine m_Rb.n0 b_130 (x_iload d_130_20 rfl) ?_
  obtain ⟨T13, e14, j15⟩ := bS j11
  refine m_Rb.tputI b_130 d_130_22 rfl rfl (by decide) h12 f12 e14 (fun w16 h16 f16 k16 => ?_)
  cases j15
  exact m_Rb.ret b_130 (m_rt_vr d_130_25 rfl) ⟨rfl, h16, f16⟩
def D_c_EdgeHouse_takeAtOrigin_62 (F : Nat) (x0 : Nat) (x2 : Option Nat) (y0 : Option Nat) (T : tT) : Option (tT) := nc y0 ((tcl T x0 0).bind fun _ => (D_c_EdgeHouse_sendStatus F x0 (0 : Int32) x2 (404 : Int32) T).bind fun T69 => some T69) fun a64 => (bd2 (tnw T 11) fun a73 T74 => (x2).bind fun a78 => (tgi T74 a78 6 0).bind fun v81 => (tgi T74 a78 6 1).bind fun v84 => (tgi T74 a78 6 2).bind fun v87 => (tgi T74 a78 6 3).bind fun v90 => (tcl T74 a64 13).bind fun _ => (D_c_Told_whichFor F a64 v87 v90 T74).bind fun v96 => (D_c_Entry_init F a73 v81 v84 (some a64) v96 T74).bind fun T100 => (tgi T100 x0 0 13).bind fun v104 => (tpi T100 a73 11 4 v104).bind fun T107 => (tgi T107 x0 0 14).bind fun v111 => (tpi T107 a73 11 6 v111).bind fun T114 => (tcl T114 a64 13).bind fun _ => (D_c_Told_blocks F a64 (0 : Int32) (15 : Int32) T114).bind fun v121 => (tpi T114 a73 11 7 v121).bind fun T125 => (tcl T125 x0 0).bind fun _ => (D_c_EdgeHouse_sendFill F x0 (0 : Int32) (some a78) (some a73) T125).bind fun T132 => some T132)
theorem T_c_EdgeHouse_takeAtOrigin_62 {l : Launch} {w0 : List mM} {F : Nat} {x0 : Nat} {x2 : Option Nat} {y0 : Option Nat} {T : tT} {w : List mM} {Tz : tT} (hx0 : okr T.2.1 (some x0)) (hx2 : okr T.2.1 x2) (hy0 : okr T.2.1 y0) (h : RT T w) (hF : m_Fm w0 w) (h0 : D_c_EdgeHouse_takeAtOrigin_62 F x0 x2 y0 T = some Tz) : m_Rb l M_128 (62, [(0, .ref x0), (2, rv x2)], [rv y0], w) (fun v w' => v = none ∧ RT Tz w' ∧ m_Fm w0 w') T Tz 15 1500 := by
  rw [D_c_EdgeHouse_takeAtOrigin_62] at h0
  refine m_Rb.n0 b_128 (x_astorer_n (x := y0) d_128_62 rfl (show m_put1 _ _ _ = [(3, _), (0, _), (2, _)] from (m_p1r (by simp only [List.all_cons, List.all_nil, cat_rv]; rfl)).trans rfl)) ?_
  refine m_Rb.n0 b_128 (x_aloadr_n (x := y0) d_128_63 rfl) ?_
  cases y0 with
  | none =>
    have j65 := nN h0
    refine m_Rb.n0 b_128 (x_ifnonnull0 d_128_64 rfl) ?_
    refine m_Rb.n0 b_128 (x_aload_n d_128_67 rfl) ?_
    refine m_Rb.n0 b_128 (x_iconst (z := 0) d_128_68 (by decide)) ?_
    refine m_Rb.n0 b_128 (x_aloadr_n (x := x2) d_128_69 rfl) ?_
    refine m_Rb.n0 b_128 (x_sipush (z := 404) d_128_70 (by decide)) ?_
    obtain ⟨_, e66, j67⟩ := bS j65
    obtain ⟨_, g68⟩ := RT.cls h e66
    obtain ⟨T69, e70, j71⟩ := bS j67
    refine m_Rb.callV b_128 (y_cv d_128_73 rfl q_117 (m_isRecv_of rfl g68) (show m_takeI _ _ = some (_, [_, _, _, _], []) from m_takeI_of rfl rfl rfl (Nat.le_of_ble_eq_true rfl)) (by simp only [m_okf, List.all_cons, List.all_nil, Bool.and_true, Bool.and_self, m_okv_i, m_okv_l, m_okv_0, m_okv_n0, m_okv_t, RT.okn h hx0, RT.okv h hx0, RT.okv h hx2]) (decide_eq_true (by simp only [lgs_r, lgs_a, lgs_i, lgs_l, lgs_0]; exact Nat.le_of_ble_eq_true rfl))) (T_c_EdgeHouse_sendStatus hx0 hx2 h e70) hF rfl (fun w72 h72 f72 k72 => ?_) (by decide) (by decide)
    cases j71
    exact m_Rb.ret b_128 (m_rt_vr d_128_76 rfl) ⟨rfl, h72, f72⟩
  | some a64 =>
    have j65 := nS h0
    refine m_Rb.n0 b_128 (x_ifnonnull1 d_128_64 rfl) ?_
    obtain ⟨a73, T74, e75, j76⟩ := bS2 j65
    refine m_Rb.tnew b_128 d_128_77 rfl (by simp only [m_okf, List.all_cons, List.all_nil, Bool.and_true, Bool.and_self, m_okv_i, m_okv_l, m_okv_0, m_okv_n0, m_okv_t, RT.okn h hy0, RT.okv h hy0, RT.okn h hx0, RT.okv h hx0, RT.okv h hx2]) h hF e75 (fun w77 o77 h77 f77 k77 => ?_)
    refine m_Rb.n0 b_128 (x_dup d_128_80 rfl) ?_
    refine m_Rb.n0 b_128 (x_aloadr_n (x := x2) d_128_81 rfl) ?_
    obtain ⟨a78, e79, j80⟩ := bS j76
    subst e79
    obtain ⟨v81, e82, j83⟩ := bS j80
    refine m_Rb.tgetI b_128 d_128_82 rfl h77 e82 ?_
    refine m_Rb.n0 b_128 (x_aload_n d_128_85 rfl) ?_
    obtain ⟨v84, e85, j86⟩ := bS j83
    refine m_Rb.tgetI b_128 d_128_86 rfl h77 e85 ?_
    refine m_Rb.n0 b_128 (x_aload_n d_128_89 rfl) ?_
    refine m_Rb.n0 b_128 (x_aload_n d_128_90 rfl) ?_
    refine m_Rb.n0 b_128 (x_aload_n d_128_91 rfl) ?_
    obtain ⟨v87, e88, j89⟩ := bS j86
    refine m_Rb.tgetI b_128 d_128_92 rfl h77 e88 ?_
    refine m_Rb.n0 b_128 (x_aload_n d_128_95 rfl) ?_
    obtain ⟨v90, e91, j92⟩ := bS j89
    refine m_Rb.tgetI b_128 d_128_96 rfl h77 e91 ?_
    obtain ⟨_, e93, j94⟩ := bS j92
    obtain ⟨_, g95⟩ := RT.cls h77 e93
    obtain ⟨v96, e97, j98⟩ := bS j94
    refine m_Rb.callI b_128 (y_cv d_128_99 rfl q_82 (m_isRecv_of rfl g95) (show m_takeI _ _ = some (_, [_, _, _], [_, _, _, _, _]) from rfl) (by simp only [m_okf, List.all_cons, List.all_nil, Bool.and_true, Bool.and_self, m_okv_i, m_okv_l, m_okv_0, m_okv_n0, m_okv_t, RT.okn h77 (okm hy0 k77), RT.okv h77 (okm hy0 k77), RT.okn h77 (okm hx0 k77), RT.okv h77 (okm hx0 k77), RT.okn h77 (okm hx2 k77), RT.okv h77 (okm hx2 k77), RT.okn h77 o77, RT.okv h77 o77]) rfl) (T_c_Told_whichFor (okm hy0 k77) h77 e97) f77 rfl (fun w99 h99 f99 k99 => ?_) (by decide) (by decide)
    obtain ⟨T100, e101, j102⟩ := bS j98
    refine m_Rb.callV b_128 (x_ci d_128_102 rfl (by decide) q_130 (show m_takeI _ _ = some (_, [_, _, _, _, _], [_]) from m_takeI_of rfl rfl rfl (Nat.le_of_ble_eq_true rfl)) (by simp only [m_okf, List.all_cons, List.all_nil, Bool.and_true, Bool.and_self, m_okv_i, m_okv_l, m_okv_0, m_okv_n0, m_okv_t, RT.okn h99 (okm hy0 k77), RT.okv h99 (okm hy0 k77), RT.okn h99 (okm hx0 k77), RT.okv h99 (okm hx0 k77), RT.okn h99 (okm hx2 k77), RT.okv h99 (okm hx2 k77), RT.okn h99 o77, RT.okv h99 o77]) rfl) (T_c_Entry_init o77 (okm hy0 k77) h99 e101) f99 rfl (fun w103 h103 f103 k103 => ?_) (by decide) (by decide)
    refine m_Rb.n0 b_128 (x_astore d_128_105 rfl (show m_put1 _ _ _ = [(4, _), (3, _), (0, _), (2, _)] from rfl)) ?_
    refine m_Rb.n0 b_128 (x_aload d_128_107 rfl) ?_
    refine m_Rb.n0 b_128 (x_aload_n d_128_109 rfl) ?_
    obtain ⟨v104, e105, j106⟩ := bS j102
    refine m_Rb.tgetI b_128 d_128_110 rfl h103 e105 ?_
    obtain ⟨T107, e108, j109⟩ := bS j106
    refine m_Rb.tputI b_128 d_128_113 rfl rfl (by decide) h103 f103 e108 (fun w110 h110 f110 k110 => ?_)
    refine m_Rb.n0 b_128 (x_aload d_128_116 rfl) ?_
    refine m_Rb.n0 b_128 (x_aload_n d_128_118 rfl) ?_
    obtain ⟨v111, e112, j113⟩ := bS j109
    refine m_Rb.tgetI b_128 d_128_119 rfl h110 e112 ?_
    obtain ⟨T114, e115, j116⟩ := bS j113
    refine m_Rb.tputI b_128 d_128_122 rfl rfl (by decide) h110 f110 e115 (fun w117 h117 f117 k117 => ?_)
    refine m_Rb.n0 b_128 (x_aload d_128_125 rfl) ?_
    refine m_Rb.n0 b_128 (x_aload_n d_128_127 rfl) ?_
    refine m_Rb.n0 b_128 (x_iconst (z := 0) d_128_128 (by decide)) ?_
    refine m_Rb.n0 b_128 (x_bipush (z := 15) d_128_129 (by decide)) ?_
    obtain ⟨_, e118, j119⟩ := bS j116
    obtain ⟨_, g120⟩ := RT.cls h117 e118
    obtain ⟨v121, e122, j123⟩ := bS j119
    refine m_Rb.callI b_128 (y_cv d_128_131 rfl q_85 (m_isRecv_of rfl g120) (show m_takeI _ _ = some (_, [_, _, _], [_]) from m_takeI_of rfl rfl rfl (Nat.le_of_ble_eq_true rfl)) (by simp only [m_okf, List.all_cons, List.all_nil, Bool.and_true, Bool.and_self, m_okv_i, m_okv_l, m_okv_0, m_okv_n0, m_okv_t, RT.okn h117 (okm (okm (okm o77 k103) k110) k117), RT.okv h117 (okm (okm (okm o77 k103) k110) k117), RT.okn h117 (okm (okm (okm (okm hy0 k77) k103) k110) k117), RT.okv h117 (okm (okm (okm (okm hy0 k77) k103) k110) k117), RT.okn h117 (okm (okm (okm (okm hx0 k77) k103) k110) k117), RT.okv h117 (okm (okm (okm (okm hx0 k77) k103) k110) k117), RT.okn h117 (okm (okm (okm (okm hx2 k77) k103) k110) k117), RT.okv h117 (okm (okm (okm (okm hx2 k77) k103) k110) k117)]) rfl) (T_c_Told_blocks (okm (okm (okm (okm hy0 k77) k103) k110) k117) h117 e122) f117 rfl (fun w124 h124 f124 k124 => ?_) (by decide) (by decide)
    obtain ⟨T125, e126, j127⟩ := bS j123
    refine m_Rb.tputI b_128 d_128_134 rfl rfl (by decide) h124 f124 e126 (fun w128 h128 f128 k128 => ?_)
    refine m_Rb.n0 b_128 (x_aload_n d_128_137 rfl) ?_
    refine m_Rb.n0 b_128 (x_iconst (z := 0) d_128_138 (by decide)) ?_
    refine m_Rb.n0 b_128 (x_aload_n d_128_139 rfl) ?_
    refine m_Rb.n0 b_128 (x_aload d_128_140 rfl) ?_
    obtain ⟨_, e129, j130⟩ := bS j127
    obtain ⟨_, g131⟩ := RT.cls h128 e129
    obtain ⟨T132, e133, j134⟩ := bS j130
    refine m_Rb.callV b_128 (y_cv d_128_142 rfl q_103 (m_isRecv_of rfl g131) (show m_takeI _ _ = some (_, [_, _, _, _], []) from m_takeI_of rfl rfl rfl (Nat.le_of_ble_eq_true rfl)) (by simp only [m_okf, List.all_cons, List.all_nil, Bool.and_true, Bool.and_self, m_okv_i, m_okv_l, m_okv_0, m_okv_n0, m_okv_t, RT.okn h128 (okm (okm (okm (okm o77 k103) k110) k117) k128), RT.okv h128 (okm (okm (okm (okm o77 k103) k110) k117) k128), RT.okn h128 (okm (okm (okm (okm (okm hy0 k77) k103) k110) k117) k128), RT.okv h128 (okm (okm (okm (okm (okm hy0 k77) k103) k110) k117) k128), RT.okn h128 (okm (okm (okm (okm (okm hx0 k77) k103) k110) k117) k128), RT.okv h128 (okm (okm (okm (okm (okm hx0 k77) k103) k110) k117) k128), RT.okn h128 (okm (okm (okm (okm (okm hx2 k77) k103) k110) k117) k128), RT.okv h128 (okm (okm (okm (okm (okm hx2 k77) k103) k110) k117) k128)]) rfl) (T_c_EdgeHouse_sendFill (okm (okm (okm (okm (okm hx0 k77) k103) k110) k117) k128) (okm (okm (okm (okm (okm hx2 k77) k103) k110) k117) k128) (okm (okm (okm (okm o77 k103) k110) k117) k128) h128 e133) f128 rfl (fun w135 h135 f135 k135 => ?_) (by decide) (by decide)
    cases j134
    exact m_Rb.ret b_128 (m_rt_vr d_128_145 rfl) ⟨rfl, h135, f135⟩
def D_c_EdgeHouse_takeAtOrigin (F : Nat) (a0 : Nat) (p0 : Option Nat) (T : tT) : Option (tT) := (p0).bind fun a1 => (tgi T a1 9 0).bind fun v4 => cond (m_c2 .ne v4 (3 : Int32)) (bd2 (tnw T 6) fun a9 T10 => (D_c_Request_init129 F a9 (some a1) T10).bind fun T14 => (tgi T14 a1 9 4).bind fun v18 => (D_c_EdgeHouse_isPath F v18 T14).bind fun v21 => cond (m_c1 .eq v21) (D_c_EdgeHouse_takeAtOrigin_62 F a0 (some a9) none T14) ((tgr T14 a0 0 1).bind fun v31 => (tgi T14 a1 9 4).bind fun v35 => (v31).bind fun a38 => (tar T14 a38 6 v35).bind fun v41 => D_c_EdgeHouse_takeAtOrigin_62 F a0 (some a9) v41 T14)) ((tgi T a1 9 3).bind fun v45 => (tgi T a0 0 13).bind fun v48 => cond (m_c2 .ne v45 v48) (some T) ((tgi T a0 0 12).bind fun v57 => (tpi T a0 0 12 (v57 + (1 : Int32))).bind fun T60 => some T60))
theorem T_c_EdgeHouse_takeAtOrigin {l : Launch} {w : List mM} {F : Nat} {a0 : Nat} {p0 : Option Nat} {T : tT} {Tz : tT} (ha0 : okr T.2.1 (some a0)) (hp0 : okr T.2.1 p0) (h : RT T w) (h0 : D_c_EdgeHouse_takeAtOrigin F a0 p0 T = some Tz) : m_Rb l M_128 (m_ent M_128 [.ref a0, rv p0] w) (fun v w' => v = none ∧ RT Tz w' ∧ m_Fm w w') T Tz 15 1500 := by
  rw [show m_ent M_128 [.ref a0, rv p0] w = (0, [(0, .ref a0), (1, rv p0)], [], w) from by first | rfl | (simp only [m_ent, lv_args_r, lv_args_a, lv_args_i, lv_args_l, lv_args_0]; done) | (simp only [m_ent, lv_args_r, lv_args_a, lv_args_i, lv_args_l, lv_args_0]; rfl)]
  generalize hw0 : w = w0 at h ⊢
  have hF : m_Fm w0 w0 := m_Fm.refl
  rw [D_c_EdgeHouse_takeAtOrigin] at h0
  refine m_Rb.n0 b_128 (x_aloadr_n (x := p0) d_128_0 rfl) ?_
  obtain ⟨a1, e2, j3⟩ := bS h0
  subst e2
  obtain ⟨v4, e5, j6⟩ := bS j3
  refine m_Rb.tgetI b_128 d_128_1 rfl h e5 ?_
  refine m_Rb.n0 b_128 (x_iconst (z := 3) d_128_4 (by decide)) ?_
  cases hc7 : m_c2 .ne v4 (3 : Int32) with
  | true =>
    have j8 := cT hc7 j6
    refine m_Rb.n0 b_128 (x_ict d_128_5 rfl hc7) ?_
    obtain ⟨a9, T10, e11, j12⟩ := bS2 j8
    refine m_Rb.tnew b_128 d_128_30 rfl (by simp only [m_okf, List.all_cons, List.all_nil, Bool.and_true, Bool.and_self, m_okv_i, m_okv_l, m_okv_0, m_okv_n0, m_okv_t, RT.okn h ha0, RT.okv h ha0, RT.okn h hp0, RT.okv h hp0]) h hF e11 (fun w13 o13 h13 f13 k13 => ?_)
    refine m_Rb.n0 b_128 (x_dup d_128_33 rfl) ?_
    refine m_Rb.n0 b_128 (x_aload_n d_128_34 rfl) ?_
    obtain ⟨T14, e15, j16⟩ := bS j12
    refine m_Rb.callV b_128 (x_ci d_128_35 rfl (by decide) q_129 (show m_takeI _ _ = some (_, [_, _], [_]) from m_takeI_of rfl rfl rfl (Nat.le_of_ble_eq_true rfl)) (by simp only [m_okf, List.all_cons, List.all_nil, Bool.and_true, Bool.and_self, m_okv_i, m_okv_l, m_okv_0, m_okv_n0, m_okv_t, RT.okn h13 (okm ha0 k13), RT.okv h13 (okm ha0 k13), RT.okn h13 (okm hp0 k13), RT.okv h13 (okm hp0 k13), RT.okn h13 o13, RT.okv h13 o13]) rfl) (T_c_Request_init129 o13 (okm hp0 k13) h13 e15) f13 rfl (fun w17 h17 f17 k17 => ?_) (by decide) (by decide)
    refine m_Rb.n0 b_128 (x_astore_n d_128_38 rfl (show m_put1 _ _ _ = [(2, _), (0, _), (1, _)] from rfl)) ?_
    refine m_Rb.n0 b_128 (x_aload_n d_128_39 rfl) ?_
    obtain ⟨v18, e19, j20⟩ := bS j16
    refine m_Rb.tgetI b_128 d_128_40 rfl h17 e19 ?_
    obtain ⟨v21, e22, j23⟩ := bS j20
    refine m_Rb.callI b_128 (y_cs d_128_43 rfl q_15 (show m_takeS _ _ = some (_, [_], []) from m_takeS_of (Nat.le_of_ble_eq_true rfl) rfl rfl (Nat.le_of_ble_eq_true rfl)) (by simp only [m_okf, List.all_cons, List.all_nil, Bool.and_true, Bool.and_self, m_okv_i, m_okv_l, m_okv_0, m_okv_n0, m_okv_t, RT.okn h17 (okm o13 k17), RT.okv h17 (okm o13 k17), RT.okn h17 (okm (okm ha0 k13) k17), RT.okv h17 (okm (okm ha0 k13) k17), RT.okn h17 (okm (okm hp0 k13) k17), RT.okv h17 (okm (okm hp0 k13) k17)]) rfl) (T_c_EdgeHouse_isPath h17 e22) f17 rfl (fun w24 h24 f24 k24 => ?_) (by decide) (by decide)
    cases hc29 : m_c1 .eq v21 with
    | true =>
      have j30 := cT hc29 j23
      refine m_Rb.n0 b_128 (x_ift d_128_46 rfl hc29) ?_
      refine m_Rb.n0 b_128 (x_null d_128_61) ?_
      exact m_Rb.pick [1, 0] rfl (T_c_EdgeHouse_takeAtOrigin_62 (okm (okm ha0 k13) k17) (okm o13 k17) okr_none h24 f24 j30)
    | false =>
      have j30 := cF hc29 j23
      refine m_Rb.n0 b_128 (x_iff d_128_46 rfl hc29) ?_
      refine m_Rb.n0 b_128 (x_aload_n d_128_49 rfl) ?_
      obtain ⟨v31, e32, j33⟩ := bS j30
      refine m_Rb.tgetR b_128 d_128_50 rfl h24 e32 (fun o34 => ?_)
      refine m_Rb.n0 b_128 (x_aload_n d_128_53 rfl) ?_
      obtain ⟨v35, e36, j37⟩ := bS j33
      refine m_Rb.tgetI b_128 d_128_54 rfl h24 e36 ?_
      obtain ⟨a38, e39, j40⟩ := bS j37
      subst e39
      obtain ⟨v41, e42, j43⟩ := bS j40
      refine m_Rb.tgetO (t := 6) b_128 d_128_57 rfl rfl h24 e42 (fun o44 => ?_)
      refine m_Rb.n0 b_128 (x_goto d_128_58 rfl) ?_
      exact m_Rb.pick [1, 0] rfl (T_c_EdgeHouse_takeAtOrigin_62 (okm (okm ha0 k13) k17) (okm o13 k17) o44 h24 f24 j43)
  | false =>
    have j8 := cF hc7 j6
    refine m_Rb.n0 b_128 (x_icf d_128_5 rfl hc7) ?_
    refine m_Rb.n0 b_128 (x_aload_n d_128_8 rfl) ?_
    obtain ⟨v45, e46, j47⟩ := bS j8
    refine m_Rb.tgetI b_128 d_128_9 rfl h e46 ?_
    refine m_Rb.n0 b_128 (x_aload_n d_128_12 rfl) ?_
    obtain ⟨v48, e49, j50⟩ := bS j47
    refine m_Rb.tgetI b_128 d_128_13 rfl h e49 ?_
    cases hc55 : m_c2 .ne v45 v48 with
    | true =>
      have j56 := cT hc55 j50
      refine m_Rb.n0 b_128 (x_ict d_128_16 rfl hc55) ?_
      cases j56
      exact m_Rb.ret b_128 (m_rt_vr d_128_29 rfl) ⟨rfl, h, hF⟩
    | false =>
      have j56 := cF hc55 j50
      refine m_Rb.n0 b_128 (x_icf d_128_16 rfl hc55) ?_
      refine m_Rb.n0 b_128 (x_aload_n d_128_19 rfl) ?_
      refine m_Rb.n0 b_128 (x_dup d_128_20 rfl) ?_
      obtain ⟨v57, e58, j59⟩ := bS j56
      refine m_Rb.tgetI b_128 d_128_21 rfl h e58 ?_
      refine m_Rb.n0 b_128 (x_iconst (z := 1) d_128_24 (by decide)) ?_
      refine m_Rb.n0 b_128 (x_iadd d_128_25 rfl) ?_
      obtain ⟨T60, e61, j62⟩ := bS j59
      refine m_Rb.tputI b_128 d_128_26 rfl rfl (by decide) h hF e61 (fun w63 h63 f63 k63 => ?_)
      cases j62
      exact m_Rb.ret b_128 (m_rt_vr d_128_29 rfl) ⟨rfl, h63, f63⟩
def D_c_EdgeHouse_isNode (F : Nat) (p0 : Int32) (T0 : tT) : Option (Int32) := (cond (m_c2 .lt p0 (1 : Int32)) (some (0 : Int32)) (cond (m_c2 .gt p0 (6 : Int32)) (some (0 : Int32)) (some (1 : Int32)))).bind fun v7 => (bret v7).bind fun v10 => some v10
theorem T_c_EdgeHouse_isNode {l : Launch} {w : List mM} {F : Nat} {p0 : Int32} {T0 : tT} {yz : Int32} (h : RT T0 w) (h0 : D_c_EdgeHouse_isNode F p0 T0 = some yz) : m_Rb l M_131 (m_ent M_131 [.int p0] w) (fun v w' => v = some (.int yz) ∧ RT T0 w' ∧ m_Fm w w') T0 T0 0 0 := by
  rw [show m_ent M_131 [.int p0] w = (0, [(0, .int p0)], [], w) from by first | rfl | (simp only [m_ent, lv_args_r, lv_args_a, lv_args_i, lv_args_l, lv_args_0]; done) | (simp only [m_ent, lv_args_r, lv_args_a, lv_args_i, lv_args_l, lv_args_0]; rfl)]
  generalize hw0 : w = w0 at h ⊢
  have hF : m_Fm w0 w0 := m_Fm.refl
  rw [D_c_EdgeHouse_isNode] at h0
  refine m_Rb.n0 b_131 (x_iload_n d_131_0 rfl) ?_
  refine m_Rb.n0 b_131 (x_iconst (z := 1) d_131_1 (by decide)) ?_
  obtain ⟨v7, e2, j8⟩ := bS h0
  have kk1 : ∀ (xz : Int32) (w1 : List mM), xz = v7 → RT T0 w1 → m_Fm w0 w1 → m_Rb l M_131 (16, [(0, .int p0)], [.int xz], w1) (fun v w' => v = some (.int yz) ∧ RT T0 w' ∧ m_Fm w0 w') T0 T0 0 0 := by
    intro xz w9 ez h9 f9
    rw [ez]
    obtain ⟨v10, e11, j12⟩ := bS j8
    cases j12
    exact m_Rb.retb b_131 d_131_16 rfl e11 ⟨rfl, h9, f9⟩
  cases hc3 : m_c2 .lt p0 (1 : Int32) with
  | true =>
    have j4 := cT hc3 e2
    refine m_Rb.n0 b_131 (x_ict d_131_2 rfl hc3) ?_
    refine m_Rb.n0 b_131 (x_iconst (z := 0) d_131_15 (by decide)) ?_
    exact kk1 _ _ (Option.some.inj j4) h hF
  | false =>
    have j4 := cF hc3 e2
    refine m_Rb.n0 b_131 (x_icf d_131_2 rfl hc3) ?_
    refine m_Rb.n0 b_131 (x_iload_n d_131_5 rfl) ?_
    refine m_Rb.n0 b_131 (x_bipush (z := 6) d_131_6 (by decide)) ?_
    cases hc5 : m_c2 .gt p0 (6 : Int32) with
    | true =>
      have j6 := cT hc5 j4
      refine m_Rb.n0 b_131 (x_ict d_131_8 rfl hc5) ?_
      refine m_Rb.n0 b_131 (x_iconst (z := 0) d_131_15 (by decide)) ?_
      exact kk1 _ _ (Option.some.inj j6) h hF
    | false =>
      have j6 := cF hc5 j4
      refine m_Rb.n0 b_131 (x_icf d_131_8 rfl hc5) ?_
      refine m_Rb.n0 b_131 (x_iconst (z := 1) d_131_11 (by decide)) ?_
      refine m_Rb.n0 b_131 (x_goto d_131_12 rfl) ?_
      exact kk1 _ _ (Option.some.inj j6) h hF
def D_c_Node_learn_21 (F : Nat) (x0 : Nat) (x1 : Int32) (T : tT) : Option (tT) := (tgi T x0 4 7).bind fun v34 => (tpi T x0 4 7 (if v34 < x1 then x1 else v34)).bind fun T37 => some T37
theorem T_c_Node_learn_21 {l : Launch} {w0 : List mM} {F : Nat} {x0 : Nat} {x1 : Int32} {T : tT} {w : List mM} {Tz : tT} (hx0 : okr T.2.1 (some x0)) (h : RT T w) (hF : m_Fm w0 w) (h0 : D_c_Node_learn_21 F x0 x1 T = some Tz) : m_Rb l M_133 (21, [(0, .ref x0), (1, .int x1)], [], w) (fun v w' => v = none ∧ RT Tz w' ∧ m_Fm w0 w') T Tz 1 100 := by
  rw [D_c_Node_learn_21] at h0
  refine m_Rb.n0 b_133 (x_aload_n d_133_21 rfl) ?_
  refine m_Rb.n0 b_133 (x_aload_n d_133_22 rfl) ?_
  obtain ⟨v34, e35, j36⟩ := bS h0
  refine m_Rb.tgetI b_133 d_133_23 rfl h e35 ?_
  refine m_Rb.n0 b_133 (x_iload_n d_133_26 rfl) ?_
  refine m_Rb.nz b_133 (x_max d_133_27 rfl (catL (Nat.le_of_ble_eq_true rfl)) rfl) ?_ (by decide) (by decide)
  obtain ⟨T37, e38, j39⟩ := bS j36
  refine m_Rb.tputI b_133 d_133_30 rfl rfl (by decide) h hF e38 (fun w40 h40 f40 k40 => ?_)
  cases j39
  exact m_Rb.ret b_133 (m_rt_vr d_133_33 rfl) ⟨rfl, h40, f40⟩
def D_c_Node_learn (F : Nat) (a0 : Nat) (p0 : Int32) (T : tT) : Option (tT) := cond (m_c2 .lt p0 (1 : Int32)) (D_c_Node_learn_21 F a0 p0 T) ((tgr T a0 4 3).bind fun v7 => (v7).bind fun a11 => (tal T a11).bind fun v14 => cond (m_c2 .ge p0 v14) (D_c_Node_learn_21 F a0 p0 T) ((tgr T a0 4 3).bind fun v23 => (v23).bind fun a27 => (tasz T a27 p0 (1 : Int32)).bind fun T30 => D_c_Node_learn_21 F a0 p0 T30))
theorem T_c_Node_learn {l : Launch} {w : List mM} {F : Nat} {a0 : Nat} {p0 : Int32} {T : tT} {Tz : tT} (ha0 : okr T.2.1 (some a0)) (h : RT T w) (h0 : D_c_Node_learn F a0 p0 T = some Tz) : m_Rb l M_133 (m_ent M_133 [.ref a0, .int p0] w) (fun v w' => v = none ∧ RT Tz w' ∧ m_Fm w w') T Tz 1 100 := by
  rw [show m_ent M_133 [.ref a0, .int p0] w = (0, [(0, .ref a0), (1, .int p0)], [], w) from by first | rfl | (simp only [m_ent, lv_args_r, lv_args_a, lv_args_i, lv_args_l, lv_args_0]; done) | (simp only [m_ent, lv_args_r, lv_args_a, lv_args_i, lv_args_l, lv_args_0]; rfl)]
  generalize hw0 : w = w0 at h ⊢
  have hF : m_Fm w0 w0 := m_Fm.refl
  rw [D_c_Node_learn] at h0
  refine m_Rb.n0 b_133 (x_iload_n d_133_0 rfl) ?_
  refine m_Rb.n0 b_133 (x_iconst (z := 1) d_133_1 (by decide)) ?_
  cases hc5 : m_c2 .lt p0 (1 : Int32) with
  | true =>
    have j6 := cT hc5 h0
    refine m_Rb.n0 b_133 (x_ict d_133_2 rfl hc5) ?_
    exact m_Rb.pick [0, 1] rfl (T_c_Node_learn_21 ha0 h hF j6)
  | false =>
    have j6 := cF hc5 h0
    refine m_Rb.n0 b_133 (x_icf d_133_2 rfl hc5) ?_
    refine m_Rb.n0 b_133 (x_iload_n d_133_5 rfl) ?_
    refine m_Rb.n0 b_133 (x_aload_n d_133_6 rfl) ?_
    obtain ⟨v7, e8, j9⟩ := bS j6
    refine m_Rb.tgetR b_133 d_133_7 rfl h e8 (fun o10 => ?_)
    obtain ⟨a11, e12, j13⟩ := bS j9
    subst e12
    obtain ⟨v14, e15, j16⟩ := bS j13
    refine m_Rb.talen b_133 d_133_10 h e15 ?_
    cases hc21 : m_c2 .ge p0 v14 with
    | true =>
      have j22 := cT hc21 j16
      refine m_Rb.n0 b_133 (x_ict d_133_11 rfl hc21) ?_
      exact m_Rb.pick [0, 1] rfl (T_c_Node_learn_21 ha0 h hF j22)
    | false =>
      have j22 := cF hc21 j16
      refine m_Rb.n0 b_133 (x_icf d_133_11 rfl hc21) ?_
      refine m_Rb.n0 b_133 (x_aload_n d_133_14 rfl) ?_
      obtain ⟨v23, e24, j25⟩ := bS j22
      refine m_Rb.tgetR b_133 d_133_15 rfl h e24 (fun o26 => ?_)
      refine m_Rb.n0 b_133 (x_iload_n d_133_18 rfl) ?_
      refine m_Rb.n0 b_133 (x_iconst (z := 1) d_133_19 (by decide)) ?_
      obtain ⟨a27, e28, j29⟩ := bS j25
      subst e28
      obtain ⟨T30, e31, j32⟩ := bS j29
      refine m_Rb.tputAZ b_133 d_133_20 h hF e31 (fun w33 h33 f33 k33 => ?_)
      exact m_Rb.pick [0, 1] rfl (T_c_Node_learn_21 (okm ha0 k33) h33 f33 j32)
def D_c_Told_isPurgedBy (F : Nat) (a0 : Nat) (p0 : Int32) (p1 : Int32) (T0 : tT) : Option (Int32) := (cond (m_c1 .ne p0) ((tgi T0 a0 13 8).bind fun v5 => cond (m_c1 .eq (v5 &&& ((1 : Int32) <<< (p1 &&& 31)))) (some (0 : Int32)) (some (1 : Int32))) ((tgi T0 a0 13 0).bind fun v10 => cond (m_c2 .ne v10 p1) (some (0 : Int32)) (some (1 : Int32)))).bind fun v15 => (bret v15).bind fun v18 => some v18
theorem T_c_Told_isPurgedBy {l : Launch} {w : List mM} {F : Nat} {a0 : Nat} {p0 : Int32} {p1 : Int32} {T0 : tT} {yz : Int32} (ha0 : okr T0.2.1 (some a0)) (h : RT T0 w) (h0 : D_c_Told_isPurgedBy F a0 p0 p1 T0 = some yz) : m_Rb l M_135 (m_ent M_135 [.ref a0, .int p0, .int p1] w) (fun v w' => v = some (.int yz) ∧ RT T0 w' ∧ m_Fm w w') T0 T0 0 0 := by
  rw [show m_ent M_135 [.ref a0, .int p0, .int p1] w = (0, [(0, .ref a0), (1, .int p0), (2, .int p1)], [], w) from by first | rfl | (simp only [m_ent, lv_args_r, lv_args_a, lv_args_i, lv_args_l, lv_args_0]; done) | (simp only [m_ent, lv_args_r, lv_args_a, lv_args_i, lv_args_l, lv_args_0]; rfl)]
  generalize hw0 : w = w0 at h ⊢
  have hF : m_Fm w0 w0 := m_Fm.refl
  rw [D_c_Told_isPurgedBy] at h0
  refine m_Rb.n0 b_135 (x_iload_n d_135_0 rfl) ?_
  obtain ⟨v15, e2, j16⟩ := bS h0
  have kk1 : ∀ (xz : Int32) (w1 : List mM), xz = v15 → RT T0 w1 → m_Fm w0 w1 → m_Rb l M_135 (36, [(0, .ref a0), (1, .int p0), (2, .int p1)], [.int xz], w1) (fun v w' => v = some (.int yz) ∧ RT T0 w' ∧ m_Fm w0 w') T0 T0 0 0 := by
    intro xz w17 ez h17 f17
    rw [ez]
    obtain ⟨v18, e19, j20⟩ := bS j16
    cases j20
    exact m_Rb.retb b_135 d_135_36 rfl e19 ⟨rfl, h17, f17⟩
  cases hc3 : m_c1 .ne p0 with
  | true =>
    have j4 := cT hc3 e2
    refine m_Rb.n0 b_135 (x_ift d_135_1 rfl hc3) ?_
    refine m_Rb.n0 b_135 (x_aload_n d_135_20 rfl) ?_
    obtain ⟨v5, e6, j7⟩ := bS j4
    refine m_Rb.tgetI b_135 d_135_21 rfl h e6 ?_
    refine m_Rb.n0 b_135 (x_iconst (z := 1) d_135_24 (by decide)) ?_
    refine m_Rb.n0 b_135 (x_iload_n d_135_25 rfl) ?_
    refine m_Rb.n0 b_135 (x_ishl d_135_26 rfl) ?_
    refine m_Rb.n0 b_135 (x_iand d_135_27 rfl) ?_
    cases hc8 : m_c1 .eq (v5 &&& ((1 : Int32) <<< (p1 &&& 31))) with
    | true =>
      have j9 := cT hc8 j7
      refine m_Rb.n0 b_135 (x_ift d_135_28 rfl hc8) ?_
      refine m_Rb.n0 b_135 (x_iconst (z := 0) d_135_35 (by decide)) ?_
      exact kk1 _ _ (Option.some.inj j9) h hF
    | false =>
      have j9 := cF hc8 j7
      refine m_Rb.n0 b_135 (x_iff d_135_28 rfl hc8) ?_
      refine m_Rb.n0 b_135 (x_iconst (z := 1) d_135_31 (by decide)) ?_
      refine m_Rb.n0 b_135 (x_goto d_135_32 rfl) ?_
      exact kk1 _ _ (Option.some.inj j9) h hF
  | false =>
    have j4 := cF hc3 e2
    refine m_Rb.n0 b_135 (x_iff d_135_1 rfl hc3) ?_
    refine m_Rb.n0 b_135 (x_aload_n d_135_4 rfl) ?_
    obtain ⟨v10, e11, j12⟩ := bS j4
    refine m_Rb.tgetI b_135 d_135_5 rfl h e11 ?_
    refine m_Rb.n0 b_135 (x_iload_n d_135_8 rfl) ?_
    cases hc13 : m_c2 .ne v10 p1 with
    | true =>
      have j14 := cT hc13 j12
      refine m_Rb.n0 b_135 (x_ict d_135_9 rfl hc13) ?_
      refine m_Rb.n0 b_135 (x_iconst (z := 0) d_135_16 (by decide)) ?_
      refine m_Rb.n0 b_135 (x_goto d_135_17 rfl) ?_
      exact kk1 _ _ (Option.some.inj j14) h hF
    | false =>
      have j14 := cF hc13 j12
      refine m_Rb.n0 b_135 (x_icf d_135_9 rfl hc13) ?_
      refine m_Rb.n0 b_135 (x_iconst (z := 1) d_135_12 (by decide)) ?_
      refine m_Rb.n0 b_135 (x_goto d_135_13 rfl) ?_
      exact kk1 _ _ (Option.some.inj j14) h hF
def D_c_Store_removeAt_27 (F : Nat) (x0 : Nat) (x1 : Int32) (T : tT) : Option (tT) := (tgr T x0 5 0).bind fun v59 => (v59).bind fun a63 => (tls T a63).bind fun v66 => cond (m_c2 .lt x1 v66) (some T) ((tcl T x0 5).bind fun _ => (D_c_Store_count F x0 T).bind fun v78 => cond (m_c2 .ge x1 v78) (some T) ((tgr T x0 5 1).bind fun v88 => (tgr T x0 5 0).bind fun v92 => (v92).bind fun a96 => (tls T a96).bind fun v99 => (v88).bind fun a102 => bd2 (tlr T a102 (x1 - v99)) fun b105 T106 => some T106))
theorem T_c_Store_removeAt_27 {l : Launch} {w0 : List mM} {F : Nat} {x0 : Nat} {x1 : Int32} {T : tT} {w : List mM} {Tz : tT} (hx0 : okr T.2.1 (some x0)) (h : RT T w) (hF : m_Fm w0 w) (h0 : D_c_Store_removeAt_27 F x0 x1 T = some Tz) : m_Rb l M_136 (27, [(0, .ref x0), (1, .int x1)], [], w) (fun v w' => v = none ∧ RT Tz w' ∧ m_Fm w0 w') T Tz 5 500 := by
  rw [D_c_Store_removeAt_27] at h0
  refine m_Rb.n0 b_136 (x_iload_n d_136_27 rfl) ?_
  refine m_Rb.n0 b_136 (x_aload_n d_136_28 rfl) ?_
  obtain ⟨v59, e60, j61⟩ := bS h0
  refine m_Rb.tgetR b_136 d_136_29 rfl h e60 (fun o62 => ?_)
  obtain ⟨a63, e64, j65⟩ := bS j61
  subst e64
  obtain ⟨v66, e67, j68⟩ := bS j65
  refine m_Rb.tlsize b_136 d_136_32 rfl (by simp only [m_okf, List.all_cons, List.all_nil, Bool.and_true, Bool.and_self, m_okv_i, m_okv_l, m_okv_0, m_okv_n0, m_okv_t, RT.okn h hx0, RT.okv h hx0, RT.okn h o62, RT.okv h o62]) (Nat.le_of_ble_eq_true rfl) h e67 ?_ (by decide) (by decide)
  cases hc73 : m_c2 .lt x1 v66 with
  | true =>
    have j74 := cT hc73 j68
    refine m_Rb.n0 b_136 (x_ict d_136_35 rfl hc73) ?_
    cases j74
    exact m_Rb.ret b_136 (m_rt_vr d_136_63 rfl) ⟨rfl, h, hF⟩
  | false =>
    have j74 := cF hc73 j68
    refine m_Rb.n0 b_136 (x_icf d_136_35 rfl hc73) ?_
    refine m_Rb.n0 b_136 (x_iload_n d_136_38 rfl) ?_
    refine m_Rb.n0 b_136 (x_aload_n d_136_39 rfl) ?_
    obtain ⟨_, e75, j76⟩ := bS j74
    obtain ⟨_, g77⟩ := RT.cls h e75
    obtain ⟨v78, e79, j80⟩ := bS j76
    refine m_Rb.callI b_136 (y_cv d_136_40 rfl q_75 (m_isRecv_of rfl g77) (show m_takeI _ _ = some (_, [_], [_]) from m_takeI_of rfl rfl rfl (Nat.le_of_ble_eq_true rfl)) (by simp only [m_okf, List.all_cons, List.all_nil, Bool.and_true, Bool.and_self, m_okv_i, m_okv_l, m_okv_0, m_okv_n0, m_okv_t, RT.okn h hx0, RT.okv h hx0]) rfl) (T_c_Store_count hx0 h e79) hF rfl (fun w81 h81 f81 k81 => ?_) (by decide) (by decide)
    cases hc86 : m_c2 .ge x1 v78 with
    | true =>
      have j87 := cT hc86 j80
      refine m_Rb.n0 b_136 (x_ict d_136_43 rfl hc86) ?_
      cases j87
      exact m_Rb.ret b_136 (m_rt_vr d_136_63 rfl) ⟨rfl, h81, f81⟩
    | false =>
      have j87 := cF hc86 j80
      refine m_Rb.n0 b_136 (x_icf d_136_43 rfl hc86) ?_
      refine m_Rb.n0 b_136 (x_aload_n d_136_46 rfl) ?_
      obtain ⟨v88, e89, j90⟩ := bS j87
      refine m_Rb.tgetR b_136 d_136_47 rfl h81 e89 (fun o91 => ?_)
      refine m_Rb.n0 b_136 (x_iload_n d_136_50 rfl) ?_
      refine m_Rb.n0 b_136 (x_aload_n d_136_51 rfl) ?_
      obtain ⟨v92, e93, j94⟩ := bS j90
      refine m_Rb.tgetR b_136 d_136_52 rfl h81 e93 (fun o95 => ?_)
      obtain ⟨a96, e97, j98⟩ := bS j94
      subst e97
      obtain ⟨v99, e100, j101⟩ := bS j98
      refine m_Rb.tlsize b_136 d_136_55 rfl (by simp only [m_okf, List.all_cons, List.all_nil, Bool.and_true, Bool.and_self, m_okv_i, m_okv_l, m_okv_0, m_okv_n0, m_okv_t, RT.okn h81 hx0, RT.okv h81 hx0, RT.okn h81 o95, RT.okv h81 o95, RT.okv h81 o91]) (Nat.le_of_ble_eq_true rfl) h81 e100 ?_ (by decide) (by decide)
      refine m_Rb.n0 b_136 (x_isub d_136_58 rfl) ?_
      obtain ⟨a102, e103, j104⟩ := bS j101
      subst e103
      obtain ⟨b105, T106, e107, j108⟩ := bS2 j104
      refine m_Rb.tlrem b_136 d_136_59 rfl (by simp only [m_okf, List.all_cons, List.all_nil, Bool.and_true, Bool.and_self, m_okv_i, m_okv_l, m_okv_0, m_okv_n0, m_okv_t, RT.okn h81 hx0, RT.okv h81 hx0, RT.okn h81 o91, RT.okv h81 o91]) (Nat.le_of_ble_eq_true rfl) h81 f81 e107 (fun w109 o109 h109 f109 k109 => ?_) (by decide) (by decide)
      refine m_Rb.n0 b_136 (x_pop d_136_62 rfl) ?_
      cases j108
      exact m_Rb.ret b_136 (m_rt_vr d_136_63 rfl) ⟨rfl, h109, f109⟩
def D_c_Store_removeAt (F : Nat) (a0 : Nat) (p0 : Int32) (T : tT) : Option (tT) := cond (m_c1 .lt p0) (D_c_Store_removeAt_27 F a0 p0 T) ((tgr T a0 5 0).bind fun v19 => (v19).bind fun a23 => (tls T a23).bind fun v26 => cond (m_c2 .ge p0 v26) (D_c_Store_removeAt_27 F a0 p0 T) ((tgr T a0 5 0).bind fun v47 => (v47).bind fun a51 => bd2 (tlr T a51 p0) fun b54 T55 => some T55))
theorem T_c_Store_removeAt {l : Launch} {w : List mM} {F : Nat} {a0 : Nat} {p0 : Int32} {T : tT} {Tz : tT} (ha0 : okr T.2.1 (some a0)) (h : RT T w) (h0 : D_c_Store_removeAt F a0 p0 T = some Tz) : m_Rb l M_136 (m_ent M_136 [.ref a0, .int p0] w) (fun v w' => v = none ∧ RT Tz w' ∧ m_Fm w w') T Tz 5 500 := by
  rw [show m_ent M_136 [.ref a0, .int p0] w = (0, [(0, .ref a0), (1, .int p0)], [], w) from by first | rfl | (simp only [m_ent, lv_args_r, lv_args_a, lv_args_i, lv_args_l, lv_args_0]; done) | (simp only [m_ent, lv_args_r, lv_args_a, lv_args_i, lv_args_l, lv_args_0]; rfl)]
  generalize hw0 : w = w0 at h ⊢
  have hF : m_Fm w0 w0 := m_Fm.refl
  rw [D_c_Store_removeAt] at h0
  refine m_Rb.n0 b_136 (x_iload_n d_136_0 rfl) ?_
  cases hc17 : m_c1 .lt p0 with
  | true =>
    have j18 := cT hc17 h0
    refine m_Rb.n0 b_136 (x_ift d_136_1 rfl hc17) ?_
    exact m_Rb.pick [0, 1] rfl (T_c_Store_removeAt_27 ha0 h hF j18)
  | false =>
    have j18 := cF hc17 h0
    refine m_Rb.n0 b_136 (x_iff d_136_1 rfl hc17) ?_
    refine m_Rb.n0 b_136 (x_iload_n d_136_4 rfl) ?_
    refine m_Rb.n0 b_136 (x_aload_n d_136_5 rfl) ?_
    obtain ⟨v19, e20, j21⟩ := bS j18
    refine m_Rb.tgetR b_136 d_136_6 rfl h e20 (fun o22 => ?_)
    obtain ⟨a23, e24, j25⟩ := bS j21
    subst e24
    obtain ⟨v26, e27, j28⟩ := bS j25
    refine m_Rb.tlsize b_136 d_136_9 rfl (by simp only [m_okf, List.all_cons, List.all_nil, Bool.and_true, Bool.and_self, m_okv_i, m_okv_l, m_okv_0, m_okv_n0, m_okv_t, RT.okn h ha0, RT.okv h ha0, RT.okn h o22, RT.okv h o22]) (Nat.le_of_ble_eq_true rfl) h e27 ?_ (by decide) (by decide)
    cases hc45 : m_c2 .ge p0 v26 with
    | true =>
      have j46 := cT hc45 j28
      refine m_Rb.n0 b_136 (x_ict d_136_12 rfl hc45) ?_
      exact m_Rb.pick [0, 1] rfl (T_c_Store_removeAt_27 ha0 h hF j46)
    | false =>
      have j46 := cF hc45 j28
      refine m_Rb.n0 b_136 (x_icf d_136_12 rfl hc45) ?_
      refine m_Rb.n0 b_136 (x_aload_n d_136_15 rfl) ?_
      obtain ⟨v47, e48, j49⟩ := bS j46
      refine m_Rb.tgetR b_136 d_136_16 rfl h e48 (fun o50 => ?_)
      refine m_Rb.n0 b_136 (x_iload_n d_136_19 rfl) ?_
      obtain ⟨a51, e52, j53⟩ := bS j49
      subst e52
      obtain ⟨b54, T55, e56, j57⟩ := bS2 j53
      refine m_Rb.tlrem b_136 d_136_20 rfl (by simp only [m_okf, List.all_cons, List.all_nil, Bool.and_true, Bool.and_self, m_okv_i, m_okv_l, m_okv_0, m_okv_n0, m_okv_t, RT.okn h ha0, RT.okv h ha0, RT.okn h o50, RT.okv h o50]) (Nat.le_of_ble_eq_true rfl) h hF e56 (fun w58 o58 h58 f58 k58 => ?_) (by decide) (by decide)
      refine m_Rb.n0 b_136 (x_pop d_136_23 rfl) ?_
      refine m_Rb.n0 b_136 (x_goto d_136_24 rfl) ?_
      cases j57
      exact m_Rb.ret b_136 (m_rt_vr d_136_63 rfl) ⟨rfl, h58, f58⟩
def D_c_Store_removePurged_41 (F : Nat) (rec7 : Nat → Int32 → Int32 → Int32 → tT → Option (tT)) (x0 : Nat) (x1 : Int32) (x2 : Int32) (x3 : Int32) (T : tT) : Option (tT) := rec7 x0 x1 x2 (x3 + Int32.ofInt (-1)) T
theorem T_c_Store_removePurged_41 {l : Launch} {w0 : List mM} {F : Nat} {rec7 : Nat → Int32 → Int32 → Int32 → tT → Option (tT)} (hr7 : ∀ {x0 : Nat} {x1 : Int32} {x2 : Int32} {x3 : Int32} {T : tT} {w : List mM} {Tz : tT}, okr T.2.1 (some x0) → RT T w → m_Fm w0 w → rec7 x0 x1 x2 x3 T = some Tz → m_Rb l M_134 (7, [(0, .ref x0), (1, .int x1), (2, .int x2), (3, .int x3)], [], w) (fun v w' => v = none ∧ RT Tz w' ∧ m_Fm w0 w') T Tz 6 600) {x0 : Nat} {x1 : Int32} {x2 : Int32} {x3 : Int32} {T : tT} {w : List mM} {Tz : tT} (hx0 : okr T.2.1 (some x0)) (h : RT T w) (hF : m_Fm w0 w) (h0 : D_c_Store_removePurged_41 F rec7 x0 x1 x2 x3 T = some Tz) : m_Rb l M_134 (41, [(0, .ref x0), (1, .int x1), (2, .int x2), (3, .int x3)], [], w) (fun v w' => v = none ∧ RT Tz w' ∧ m_Fm w0 w') T Tz 6 600 := by
  rw [D_c_Store_removePurged_41] at h0
  refine m_Rb.n0 b_134 (x_iinc d_134_41 rfl rfl rfl (show m_put1 _ _ _ = [(3, _), (0, _), (1, _), (2, _)] from rfl)) ?_
  refine m_Rb.n0 b_134 (x_goto d_134_44 rfl) ?_
  exact m_Rb.pick [1, 2, 3, 0] rfl (hr7 hx0 h hF h0)
def D_c_Store_removePurged_7 (F : Nat) : Nat → Nat → Int32 → Int32 → Int32 → tT → Option (tT)
  | 0, _, _, _, _, _ => none
  | n + 1, x0, x1, x2, x3, T => cond (m_c1 .lt x3) (some T) ((tcl T x0 5).bind fun _ => (D_c_Store_at F x0 x3 T).bind fun v13 => nc v13 (D_c_Store_removePurged_41 F (D_c_Store_removePurged_7 F n) x0 x1 x2 x3 T) fun a17 => ((tgr T a17 11 2).bind fun v19 => (v19).bind fun a23 => (tcl T a23 13).bind fun _ => (D_c_Told_isPurgedBy F a23 x1 x2 T).bind fun v29 => cond (m_c1 .eq v29) (D_c_Store_removePurged_41 F (D_c_Store_removePurged_7 F n) x0 x1 x2 x3 T) ((tcl T x0 5).bind fun _ => (D_c_Store_removeAt F x0 x3 T).bind fun T42 => D_c_Store_removePurged_41 F (D_c_Store_removePurged_7 F n) x0 x1 x2 x3 T42)))
theorem T_c_Store_removePurged_7 {l : Launch} {w0 : List mM} {F : Nat} : ∀ (n : Nat) {x0 : Nat} {x1 : Int32} {x2 : Int32} {x3 : Int32} {T : tT} {w : List mM} {Tz : tT}, okr T.2.1 (some x0) → RT T w → m_Fm w0 w → D_c_Store_removePurged_7 F n x0 x1 x2 x3 T = some Tz → m_Rb l M_134 (7, [(0, .ref x0), (1, .int x1), (2, .int x2), (3, .int x3)], [], w) (fun v w' => v = none ∧ RT Tz w' ∧ m_Fm w0 w') T Tz 6 600 := by
  intro n
  induction n with
  | zero => intro x0 x1 x2 x3 T w Tz hx0 h hF h0; cases h0
  | succ n ih =>
    intro x0 x1 x2 x3 T w Tz hx0 h hF h0
    rw [D_c_Store_removePurged_7] at h0
    refine m_Rb.n0 b_134 (x_iload_n d_134_7 rfl) ?_
    cases hc8 : m_c1 .lt x3 with
    | true =>
      have j9 := cT hc8 h0
      refine m_Rb.n0 b_134 (x_ift d_134_8 rfl hc8) ?_
      cases j9
      exact m_Rb.ret b_134 (m_rt_vr d_134_47 rfl) ⟨rfl, h, hF⟩
    | false =>
      have j9 := cF hc8 h0
      refine m_Rb.n0 b_134 (x_iff d_134_8 rfl hc8) ?_
      refine m_Rb.n0 b_134 (x_aload_n d_134_11 rfl) ?_
      refine m_Rb.n0 b_134 (x_iload_n d_134_12 rfl) ?_
      obtain ⟨_, e10, j11⟩ := bS j9
      obtain ⟨_, g12⟩ := RT.cls h e10
      obtain ⟨v13, e14, j15⟩ := bS j11
      refine m_Rb.callR b_134 (y_cv d_134_13 rfl q_76 (m_isRecv_of rfl g12) (show m_takeI _ _ = some (_, [_, _], []) from m_takeI_of rfl rfl rfl (Nat.le_of_ble_eq_true rfl)) (by simp only [m_okf, List.all_cons, List.all_nil, Bool.and_true, Bool.and_self, m_okv_i, m_okv_l, m_okv_0, m_okv_n0, m_okv_t, RT.okn h hx0, RT.okv h hx0]) rfl) (T_c_Store_at hx0 h e14) hF rfl (fun w16 o16 h16 f16 k16 => ?_) (by decide) (by decide)
      refine m_Rb.n0 b_134 (x_astorer (x := v13) d_134_16 rfl (show m_put1 _ _ _ = [(4, _), (0, _), (1, _), (2, _), (3, _)] from rfl)) ?_
      refine m_Rb.n0 b_134 (x_aloadr (x := v13) d_134_18 rfl) ?_
      cases v13 with
      | none =>
        have j18 := nN j15
        refine m_Rb.n0 b_134 (x_ifnull0 d_134_20 rfl) ?_
        exact m_Rb.pick [1, 2, 3, 4] rfl (T_c_Store_removePurged_41 ih hx0 h16 f16 j18)
      | some a17 =>
        have j18 := nS j15
        refine m_Rb.n0 b_134 (x_ifnull1 d_134_20 rfl) ?_
        refine m_Rb.n0 b_134 (x_aload d_134_23 rfl) ?_
        obtain ⟨v19, e20, j21⟩ := bS j18
        refine m_Rb.tgetR b_134 d_134_25 rfl h16 e20 (fun o22 => ?_)
        refine m_Rb.n0 b_134 (x_iload_n d_134_28 rfl) ?_
        refine m_Rb.n0 b_134 (x_iload_n d_134_29 rfl) ?_
        obtain ⟨a23, e24, j25⟩ := bS j21
        subst e24
        obtain ⟨_, e26, j27⟩ := bS j25
        obtain ⟨_, g28⟩ := RT.cls h16 e26
        obtain ⟨v29, e30, j31⟩ := bS j27
        refine m_Rb.callI b_134 (y_cv d_134_30 rfl q_135 (m_isRecv_of rfl g28) (show m_takeI _ _ = some (_, [_, _, _], []) from m_takeI_of rfl rfl rfl (Nat.le_of_ble_eq_true rfl)) (by simp only [m_okf, List.all_cons, List.all_nil, Bool.and_true, Bool.and_self, m_okv_i, m_okv_l, m_okv_0, m_okv_n0, m_okv_t, RT.okn h16 o16, RT.okv h16 o16, RT.okn h16 hx0, RT.okv h16 hx0, RT.okn h16 o22, RT.okv h16 o22]) rfl) (T_c_Told_isPurgedBy o22 h16 e30) f16 rfl (fun w32 h32 f32 k32 => ?_) (by decide) (by decide)
        cases hc37 : m_c1 .eq v29 with
        | true =>
          have j38 := cT hc37 j31
          refine m_Rb.n0 b_134 (x_ift d_134_33 rfl hc37) ?_
          exact m_Rb.pick [1, 2, 3, 4] rfl (T_c_Store_removePurged_41 ih hx0 h32 f32 j38)
        | false =>
          have j38 := cF hc37 j31
          refine m_Rb.n0 b_134 (x_iff d_134_33 rfl hc37) ?_
          refine m_Rb.n0 b_134 (x_aload_n d_134_36 rfl) ?_
          refine m_Rb.n0 b_134 (x_iload_n d_134_37 rfl) ?_
          obtain ⟨_, e39, j40⟩ := bS j38
          obtain ⟨_, g41⟩ := RT.cls h32 e39
          obtain ⟨T42, e43, j44⟩ := bS j40
          refine m_Rb.callV b_134 (y_cv d_134_38 rfl q_136 (m_isRecv_of rfl g41) (show m_takeI _ _ = some (_, [_, _], []) from m_takeI_of rfl rfl rfl (Nat.le_of_ble_eq_true rfl)) (by simp only [m_okf, List.all_cons, List.all_nil, Bool.and_true, Bool.and_self, m_okv_i, m_okv_l, m_okv_0, m_okv_n0, m_okv_t, RT.okn h32 o16, RT.okv h32 o16, RT.okn h32 hx0, RT.okv h32 hx0]) rfl) (T_c_Store_removeAt hx0 h32 e43) f32 rfl (fun w45 h45 f45 k45 => ?_) (by decide) (by decide)
          exact m_Rb.pick [1, 2, 3, 4] rfl (T_c_Store_removePurged_41 ih (okm hx0 k45) h45 f45 j44)
def D_c_Store_removePurged (F : Nat) (a0 : Nat) (p0 : Int32) (p1 : Int32) (T : tT) : Option (tT) := (tcl T a0 5).bind fun _ => (D_c_Store_count F a0 T).bind fun v4 => D_c_Store_removePurged_7 F F a0 p0 p1 (v4 - (1 : Int32)) T
theorem T_c_Store_removePurged {l : Launch} {w : List mM} {F : Nat} {a0 : Nat} {p0 : Int32} {p1 : Int32} {T : tT} {Tz : tT} (ha0 : okr T.2.1 (some a0)) (h : RT T w) (h0 : D_c_Store_removePurged F a0 p0 p1 T = some Tz) : m_Rb l M_134 (m_ent M_134 [.ref a0, .int p0, .int p1] w) (fun v w' => v = none ∧ RT Tz w' ∧ m_Fm w w') T Tz 6 600 := by
  rw [show m_ent M_134 [.ref a0, .int p0, .int p1] w = (0, [(0, .ref a0), (1, .int p0), (2, .int p1)], [], w) from by first | rfl | (simp only [m_ent, lv_args_r, lv_args_a, lv_args_i, lv_args_l, lv_args_0]; done) | (simp only [m_ent, lv_args_r, lv_args_a, lv_args_i, lv_args_l, lv_args_0]; rfl)]
  generalize hw0 : w = w0 at h ⊢
  have hF : m_Fm w0 w0 := m_Fm.refl
  rw [D_c_Store_removePurged] at h0
  refine m_Rb.n0 b_134 (x_aload_n d_134_0 rfl) ?_
  obtain ⟨_, e1, j2⟩ := bS h0
  obtain ⟨_, g3⟩ := RT.cls h e1
  obtain ⟨v4, e5, j6⟩ := bS j2
  refine m_Rb.callI b_134 (y_cv d_134_1 rfl q_75 (m_isRecv_of rfl g3) (show m_takeI _ _ = some (_, [_], []) from m_takeI_of rfl rfl rfl (Nat.le_of_ble_eq_true rfl)) (by simp only [m_okf, List.all_cons, List.all_nil, Bool.and_true, Bool.and_self, m_okv_i, m_okv_l, m_okv_0, m_okv_n0, m_okv_t, RT.okn h ha0, RT.okv h ha0]) rfl) (T_c_Store_count ha0 h e5) hF rfl (fun w7 h7 f7 k7 => ?_) (by decide) (by decide)
  refine m_Rb.n0 b_134 (x_iconst (z := 1) d_134_4 (by decide)) ?_
  refine m_Rb.n0 b_134 (x_isub d_134_5 rfl) ?_
  refine m_Rb.n0 b_134 (x_istore_n d_134_6 rfl (show m_put1 _ _ _ = [(3, _), (0, _), (1, _), (2, _)] from rfl)) ?_
  exact m_Rb.pick [1, 2, 3, 0] rfl (T_c_Store_removePurged_7 F ha0 h7 f7 j6)
def D_c_EdgeHouse_takePurge (F : Nat) (a0 : Nat) (p0 : Option Nat) (p1 : Option Nat) (T : tT) : Option (tT) := (p1).bind fun a1 => (tgi T a1 9 3).bind fun v4 => (p0).bind fun a7 => (tcl T a7 4).bind fun _ => (D_c_Node_learn F a7 v4 T).bind fun T13 => (tgr T13 a7 4 1).bind fun v17 => (tgi T13 a1 9 5).bind fun v21 => (tgi T13 a1 9 4).bind fun v24 => (v17).bind fun a27 => (tcl T13 a27 5).bind fun _ => (D_c_Store_removePurged F a27 v21 v24 T13).bind fun T33 => bd2 (tnw T33 9) fun a37 T38 => (tgi T38 a7 4 0).bind fun v42 => (tgi T38 a1 9 3).bind fun v45 => (D_c_Message_init F a37 (3 : Int32) v42 (0 : Int32) v45 T38).bind fun T48 => (tcl T48 a0 0).bind fun _ => (D_c_EdgeHouse_send F a0 (some a37) T48).bind fun T55 => some T55
theorem T_c_EdgeHouse_takePurge {l : Launch} {w : List mM} {F : Nat} {a0 : Nat} {p0 : Option Nat} {p1 : Option Nat} {T : tT} {Tz : tT} (ha0 : okr T.2.1 (some a0)) (hp0 : okr T.2.1 p0) (hp1 : okr T.2.1 p1) (h : RT T w) (h0 : D_c_EdgeHouse_takePurge F a0 p0 p1 T = some Tz) : m_Rb l M_132 (m_ent M_132 [.ref a0, rv p0, rv p1] w) (fun v w' => v = none ∧ RT Tz w' ∧ m_Fm w w') T Tz 14 1400 := by
  rw [show m_ent M_132 [.ref a0, rv p0, rv p1] w = (0, [(0, .ref a0), (1, rv p0), (2, rv p1)], [], w) from by first | rfl | (simp only [m_ent, lv_args_r, lv_args_a, lv_args_i, lv_args_l, lv_args_0]; done) | (simp only [m_ent, lv_args_r, lv_args_a, lv_args_i, lv_args_l, lv_args_0]; rfl)]
  generalize hw0 : w = w0 at h ⊢
  have hF : m_Fm w0 w0 := m_Fm.refl
  rw [D_c_EdgeHouse_takePurge] at h0
  refine m_Rb.n0 b_132 (x_aloadr_n (x := p0) d_132_0 rfl) ?_
  refine m_Rb.n0 b_132 (x_aloadr_n (x := p1) d_132_1 rfl) ?_
  obtain ⟨a1, e2, j3⟩ := bS h0
  subst e2
  obtain ⟨v4, e5, j6⟩ := bS j3
  refine m_Rb.tgetI b_132 d_132_2 rfl h e5 ?_
  obtain ⟨a7, e8, j9⟩ := bS j6
  subst e8
  obtain ⟨_, e10, j11⟩ := bS j9
  obtain ⟨_, g12⟩ := RT.cls h e10
  obtain ⟨T13, e14, j15⟩ := bS j11
  refine m_Rb.callV b_132 (y_cv d_132_5 rfl q_133 (m_isRecv_of rfl g12) (show m_takeI _ _ = some (_, [_, _], []) from m_takeI_of rfl rfl rfl (Nat.le_of_ble_eq_true rfl)) (by simp only [m_okf, List.all_cons, List.all_nil, Bool.and_true, Bool.and_self, m_okv_i, m_okv_l, m_okv_0, m_okv_n0, m_okv_t, RT.okn h ha0, RT.okv h ha0, RT.okn h hp0, RT.okv h hp0, RT.okn h hp1, RT.okv h hp1]) rfl) (T_c_Node_learn hp0 h e14) hF rfl (fun w16 h16 f16 k16 => ?_) (by decide) (by decide)
  refine m_Rb.n0 b_132 (x_aload_n d_132_8 rfl) ?_
  obtain ⟨v17, e18, j19⟩ := bS j15
  refine m_Rb.tgetR b_132 d_132_9 rfl h16 e18 (fun o20 => ?_)
  refine m_Rb.n0 b_132 (x_aload_n d_132_12 rfl) ?_
  obtain ⟨v21, e22, j23⟩ := bS j19
  refine m_Rb.tgetI b_132 d_132_13 rfl h16 e22 ?_
  refine m_Rb.n0 b_132 (x_aload_n d_132_16 rfl) ?_
  obtain ⟨v24, e25, j26⟩ := bS j23
  refine m_Rb.tgetI b_132 d_132_17 rfl h16 e25 ?_
  obtain ⟨a27, e28, j29⟩ := bS j26
  subst e28
  obtain ⟨_, e30, j31⟩ := bS j29
  obtain ⟨_, g32⟩ := RT.cls h16 e30
  obtain ⟨T33, e34, j35⟩ := bS j31
  refine m_Rb.callV b_132 (y_cv d_132_20 rfl q_134 (m_isRecv_of rfl g32) (show m_takeI _ _ = some (_, [_, _, _], []) from m_takeI_of rfl rfl rfl (Nat.le_of_ble_eq_true rfl)) (by simp only [m_okf, List.all_cons, List.all_nil, Bool.and_true, Bool.and_self, m_okv_i, m_okv_l, m_okv_0, m_okv_n0, m_okv_t, RT.okn h16 (okm ha0 k16), RT.okv h16 (okm ha0 k16), RT.okn h16 (okm hp0 k16), RT.okv h16 (okm hp0 k16), RT.okn h16 (okm hp1 k16), RT.okv h16 (okm hp1 k16), RT.okn h16 o20, RT.okv h16 o20]) rfl) (T_c_Store_removePurged o20 h16 e34) f16 rfl (fun w36 h36 f36 k36 => ?_) (by decide) (by decide)
  refine m_Rb.n0 b_132 (x_aload_n d_132_23 rfl) ?_
  obtain ⟨a37, T38, e39, j40⟩ := bS2 j35
  refine m_Rb.tnew b_132 d_132_24 rfl (by simp only [m_okf, List.all_cons, List.all_nil, Bool.and_true, Bool.and_self, m_okv_i, m_okv_l, m_okv_0, m_okv_n0, m_okv_t, RT.okn h36 (okm (okm ha0 k16) k36), RT.okv h36 (okm (okm ha0 k16) k36), RT.okn h36 (okm (okm hp0 k16) k36), RT.okv h36 (okm (okm hp0 k16) k36), RT.okn h36 (okm (okm hp1 k16) k36), RT.okv h36 (okm (okm hp1 k16) k36)]) h36 f36 e39 (fun w41 o41 h41 f41 k41 => ?_)
  refine m_Rb.n0 b_132 (x_dup d_132_27 rfl) ?_
  refine m_Rb.n0 b_132 (x_iconst (z := 3) d_132_28 (by decide)) ?_
  refine m_Rb.n0 b_132 (x_aload_n d_132_29 rfl) ?_
  obtain ⟨v42, e43, j44⟩ := bS j40
  refine m_Rb.tgetI b_132 d_132_30 rfl h41 e43 ?_
  refine m_Rb.n0 b_132 (x_iconst (z := 0) d_132_33 (by decide)) ?_
  refine m_Rb.n0 b_132 (x_aload_n d_132_34 rfl) ?_
  obtain ⟨v45, e46, j47⟩ := bS j44
  refine m_Rb.tgetI b_132 d_132_35 rfl h41 e46 ?_
  obtain ⟨T48, e49, j50⟩ := bS j47
  refine m_Rb.callV b_132 (x_ci d_132_38 rfl (by decide) q_104 (show m_takeI _ _ = some (_, [_, _, _, _, _], [_, _]) from m_takeI_of rfl rfl rfl (Nat.le_of_ble_eq_true rfl)) (by simp only [m_okf, List.all_cons, List.all_nil, Bool.and_true, Bool.and_self, m_okv_i, m_okv_l, m_okv_0, m_okv_n0, m_okv_t, RT.okn h41 (okm (okm (okm ha0 k16) k36) k41), RT.okv h41 (okm (okm (okm ha0 k16) k36) k41), RT.okn h41 (okm (okm (okm hp0 k16) k36) k41), RT.okv h41 (okm (okm (okm hp0 k16) k36) k41), RT.okn h41 (okm (okm (okm hp1 k16) k36) k41), RT.okv h41 (okm (okm (okm hp1 k16) k36) k41), RT.okn h41 o41, RT.okv h41 o41]) rfl) (T_c_Message_init o41 h41 e49) f41 rfl (fun w51 h51 f51 k51 => ?_) (by decide) (by decide)
  obtain ⟨_, e52, j53⟩ := bS j50
  obtain ⟨_, g54⟩ := RT.cls h51 e52
  obtain ⟨T55, e56, j57⟩ := bS j53
  refine m_Rb.callV b_132 (y_cv d_132_41 rfl q_105 (m_isRecv_of rfl g54) (show m_takeI _ _ = some (_, [_, _], []) from m_takeI_of rfl rfl rfl (Nat.le_of_ble_eq_true rfl)) (by simp only [m_okf, List.all_cons, List.all_nil, Bool.and_true, Bool.and_self, m_okv_i, m_okv_l, m_okv_0, m_okv_n0, m_okv_t, RT.okn h51 (okm (okm (okm (okm ha0 k16) k36) k41) k51), RT.okv h51 (okm (okm (okm (okm ha0 k16) k36) k41) k51), RT.okn h51 (okm (okm (okm (okm hp0 k16) k36) k41) k51), RT.okv h51 (okm (okm (okm (okm hp0 k16) k36) k41) k51), RT.okn h51 (okm (okm (okm (okm hp1 k16) k36) k41) k51), RT.okv h51 (okm (okm (okm (okm hp1 k16) k36) k41) k51), RT.okn h51 (okm o41 k51), RT.okv h51 (okm o41 k51)]) rfl) (T_c_EdgeHouse_send (okm (okm (okm (okm ha0 k16) k36) k41) k51) (okm o41 k51) h51 e56) f51 rfl (fun w58 h58 f58 k58 => ?_) (by decide) (by decide)
  cases j57
  exact m_Rb.ret b_132 (m_rt_vr d_132_44 rfl) ⟨rfl, h58, f58⟩
def D_c_Node_takeFetch_2 (F : Nat) : Nat → Nat → Int32 → Int32 → tT → Option (Option Nat × tT)
  | 0, _, _, _, _ => none
  | n + 1, x0, x1, x2, T => (tgr T x0 4 2).bind fun v1 => (v1).bind fun a5 => (tls T a5).bind fun v8 => cond (m_c2 .ge x2 v8) (some (none, T)) ((tgr T x0 4 2).bind fun v13 => (v13).bind fun a17 => (tlg T a17 x2).bind fun b20 => (tcc T (some b20) 10).bind fun _ => (tgi T b20 10 7).bind fun v26 => cond (m_c2 .ne v26 x1) (D_c_Node_takeFetch_2 F n x0 x1 (x2 + Int32.ofInt 1) T) ((tgr T x0 4 2).bind fun v31 => (v31).bind fun a35 => bd2 (tlr T a35 x2) fun b38 T39 => (tcc T39 (some b38) 10).bind fun _ => some ((some b38), T39)))
theorem T_c_Node_takeFetch_2 {l : Launch} {w0 : List mM} {F : Nat} : ∀ (n : Nat) {x0 : Nat} {x1 : Int32} {x2 : Int32} {T : tT} {w : List mM} {yz : Option Nat} {Tz : tT}, okr T.2.1 (some x0) → RT T w → m_Fm w0 w → D_c_Node_takeFetch_2 F n x0 x1 x2 T = some (yz, Tz) → m_Rb l M_138 (2, [(0, .ref x0), (1, .int x1), (2, .int x2)], [], w) (fun v w' => v = some (rv yz) ∧ okr Tz.2.1 yz ∧ RT Tz w' ∧ m_Fm w0 w') T Tz 5 500 := by
  intro n
  induction n with
  | zero => intro x0 x1 x2 T w yz Tz hx0 h hF h0; cases h0
  | succ n ih =>
    intro x0 x1 x2 T w yz Tz hx0 h hF h0
    rw [D_c_Node_takeFetch_2] at h0
    refine m_Rb.n0 b_138 (x_iload_n d_138_2 rfl) ?_
    refine m_Rb.n0 b_138 (x_aload_n d_138_3 rfl) ?_
    obtain ⟨v1, e2, j3⟩ := bS h0
    refine m_Rb.tgetR b_138 d_138_4 rfl h e2 (fun o4 => ?_)
    obtain ⟨a5, e6, j7⟩ := bS j3
    subst e6
    obtain ⟨v8, e9, j10⟩ := bS j7
    refine m_Rb.tlsize b_138 d_138_7 rfl (by simp only [m_okf, List.all_cons, List.all_nil, Bool.and_true, Bool.and_self, m_okv_i, m_okv_l, m_okv_0, m_okv_n0, m_okv_t, RT.okn h hx0, RT.okv h hx0, RT.okn h o4, RT.okv h o4]) (Nat.le_of_ble_eq_true rfl) h e9 ?_ (by decide) (by decide)
    cases hc11 : m_c2 .ge x2 v8 with
    | true =>
      have j12 := cT hc11 j10
      refine m_Rb.n0 b_138 (x_ict d_138_10 rfl hc11) ?_
      refine m_Rb.n0 b_138 (x_null d_138_49) ?_
      have o9 : okr T.2.1 none := okr_none
      cases j12
      exact m_Rb.ret b_138 (m_rt_rr (x := none) d_138_50 rfl) ⟨rfl, o9, h, hF⟩
    | false =>
      have j12 := cF hc11 j10
      refine m_Rb.n0 b_138 (x_icf d_138_10 rfl hc11) ?_
      refine m_Rb.n0 b_138 (x_aload_n d_138_13 rfl) ?_
      obtain ⟨v13, e14, j15⟩ := bS j12
      refine m_Rb.tgetR b_138 d_138_14 rfl h e14 (fun o16 => ?_)
      refine m_Rb.n0 b_138 (x_iload_n d_138_17 rfl) ?_
      obtain ⟨a17, e18, j19⟩ := bS j15
      subst e18
      obtain ⟨b20, e21, j22⟩ := bS j19
      refine m_Rb.tlget b_138 d_138_18 rfl (by simp only [m_okf, List.all_cons, List.all_nil, Bool.and_true, Bool.and_self, m_okv_i, m_okv_l, m_okv_0, m_okv_n0, m_okv_t, RT.okn h hx0, RT.okv h hx0, RT.okn h o16, RT.okv h o16]) (Nat.le_of_ble_eq_true rfl) h e21 (fun o23 => ?_) (by decide) (by decide)
      obtain ⟨_, e24, j25⟩ := bS j22
      refine m_Rb.tcast (z := (some b20)) b_138 d_138_21 rfl h e24 ?_
      obtain ⟨v26, e27, j28⟩ := bS j25
      refine m_Rb.tgetI b_138 d_138_24 rfl h e27 ?_
      refine m_Rb.n0 b_138 (x_iload_n d_138_27 rfl) ?_
      cases hc29 : m_c2 .ne v26 x1 with
      | true =>
        have j30 := cT hc29 j28
        refine m_Rb.n0 b_138 (x_ict d_138_28 rfl hc29) ?_
        refine m_Rb.n0 b_138 (x_iinc d_138_43 rfl rfl rfl (show m_put1 _ _ _ = [(2, _), (0, _), (1, _)] from rfl)) ?_
        refine m_Rb.n0 b_138 (x_goto d_138_46 rfl) ?_
        exact m_Rb.pick [1, 2, 0] rfl (ih hx0 h hF j30)
      | false =>
        have j30 := cF hc29 j28
        refine m_Rb.n0 b_138 (x_icf d_138_28 rfl hc29) ?_
        refine m_Rb.n0 b_138 (x_aload_n d_138_31 rfl) ?_
        obtain ⟨v31, e32, j33⟩ := bS j30
        refine m_Rb.tgetR b_138 d_138_32 rfl h e32 (fun o34 => ?_)
        refine m_Rb.n0 b_138 (x_iload_n d_138_35 rfl) ?_
        obtain ⟨a35, e36, j37⟩ := bS j33
        subst e36
        obtain ⟨b38, T39, e40, j41⟩ := bS2 j37
        refine m_Rb.tlrem b_138 d_138_36 rfl (by simp only [m_okf, List.all_cons, List.all_nil, Bool.and_true, Bool.and_self, m_okv_i, m_okv_l, m_okv_0, m_okv_n0, m_okv_t, RT.okn h hx0, RT.okv h hx0, RT.okn h o34, RT.okv h o34]) (Nat.le_of_ble_eq_true rfl) h hF e40 (fun w42 o42 h42 f42 k42 => ?_) (by decide) (by decide)
        obtain ⟨_, e43, j44⟩ := bS j41
        refine m_Rb.tcast (z := (some b38)) b_138 d_138_39 rfl h42 e43 ?_
        have o9 : okr T39.2.1 (some b38) := o42
        cases j44
        exact m_Rb.ret b_138 (m_rt_rr (x := (some b38)) d_138_42 rfl) ⟨rfl, o9, h42, f42⟩
def D_c_Node_takeFetch (F : Nat) (a0 : Nat) (p0 : Int32) (T : tT) : Option (Option Nat × tT) := D_c_Node_takeFetch_2 F F a0 p0 (0 : Int32) T
theorem T_c_Node_takeFetch {l : Launch} {w : List mM} {F : Nat} {a0 : Nat} {p0 : Int32} {T : tT} {yz : Option Nat} {Tz : tT} (ha0 : okr T.2.1 (some a0)) (h : RT T w) (h0 : D_c_Node_takeFetch F a0 p0 T = some (yz, Tz)) : m_Rb l M_138 (m_ent M_138 [.ref a0, .int p0] w) (fun v w' => v = some (rv yz) ∧ okr Tz.2.1 yz ∧ RT Tz w' ∧ m_Fm w w') T Tz 5 500 := by
  rw [show m_ent M_138 [.ref a0, .int p0] w = (0, [(0, .ref a0), (1, .int p0)], [], w) from by first | rfl | (simp only [m_ent, lv_args_r, lv_args_a, lv_args_i, lv_args_l, lv_args_0]; done) | (simp only [m_ent, lv_args_r, lv_args_a, lv_args_i, lv_args_l, lv_args_0]; rfl)]
  generalize hw0 : w = w0 at h ⊢
  have hF : m_Fm w0 w0 := m_Fm.refl
  rw [D_c_Node_takeFetch] at h0
  refine m_Rb.n0 b_138 (x_iconst (z := 0) d_138_0 (by decide)) ?_
  refine m_Rb.n0 b_138 (x_istore_n d_138_1 rfl (show m_put1 _ _ _ = [(2, _), (0, _), (1, _)] from rfl)) ?_
  exact m_Rb.pick [1, 2, 0] rfl (T_c_Node_takeFetch_2 F ha0 h hF h0)
def D_c_Node_trust (F : Nat) (a0 : Nat) (p0 : Int32) (T : tT) : Option (tT) := cond (m_c2 .lt p0 (1 : Int32)) (some T) (cond (m_c2 .gt p0 (2 : Int32)) (some T) ((tgr T a0 4 4).bind fun v13 => (v13).bind fun a17 => (tasi T a17 p0 (0 : Int32)).bind fun T20 => (tgr T20 a0 4 5).bind fun v24 => (v24).bind fun a28 => (tasi T20 a28 p0 (0 : Int32)).bind fun T31 => some T31))
theorem T_c_Node_trust {l : Launch} {w : List mM} {F : Nat} {a0 : Nat} {p0 : Int32} {T : tT} {Tz : tT} (ha0 : okr T.2.1 (some a0)) (h : RT T w) (h0 : D_c_Node_trust F a0 p0 T = some Tz) : m_Rb l M_139 (m_ent M_139 [.ref a0, .int p0] w) (fun v w' => v = none ∧ RT Tz w' ∧ m_Fm w w') T Tz 0 0 := by
  rw [show m_ent M_139 [.ref a0, .int p0] w = (0, [(0, .ref a0), (1, .int p0)], [], w) from by first | rfl | (simp only [m_ent, lv_args_r, lv_args_a, lv_args_i, lv_args_l, lv_args_0]; done) | (simp only [m_ent, lv_args_r, lv_args_a, lv_args_i, lv_args_l, lv_args_0]; rfl)]
  generalize hw0 : w = w0 at h ⊢
  have hF : m_Fm w0 w0 := m_Fm.refl
  rw [D_c_Node_trust] at h0
  refine m_Rb.n0 b_139 (x_iload_n d_139_0 rfl) ?_
  refine m_Rb.n0 b_139 (x_iconst (z := 1) d_139_1 (by decide)) ?_
  cases hc5 : m_c2 .lt p0 (1 : Int32) with
  | true =>
    have j6 := cT hc5 h0
    refine m_Rb.n0 b_139 (x_ict d_139_2 rfl hc5) ?_
    cases j6
    exact m_Rb.ret b_139 (m_rt_vr d_139_24 rfl) ⟨rfl, h, hF⟩
  | false =>
    have j6 := cF hc5 h0
    refine m_Rb.n0 b_139 (x_icf d_139_2 rfl hc5) ?_
    refine m_Rb.n0 b_139 (x_iload_n d_139_5 rfl) ?_
    refine m_Rb.n0 b_139 (x_iconst (z := 2) d_139_6 (by decide)) ?_
    cases hc11 : m_c2 .gt p0 (2 : Int32) with
    | true =>
      have j12 := cT hc11 j6
      refine m_Rb.n0 b_139 (x_ict d_139_7 rfl hc11) ?_
      cases j12
      exact m_Rb.ret b_139 (m_rt_vr d_139_24 rfl) ⟨rfl, h, hF⟩
    | false =>
      have j12 := cF hc11 j6
      refine m_Rb.n0 b_139 (x_icf d_139_7 rfl hc11) ?_
      refine m_Rb.n0 b_139 (x_aload_n d_139_10 rfl) ?_
      obtain ⟨v13, e14, j15⟩ := bS j12
      refine m_Rb.tgetR b_139 d_139_11 rfl h e14 (fun o16 => ?_)
      refine m_Rb.n0 b_139 (x_iload_n d_139_14 rfl) ?_
      refine m_Rb.n0 b_139 (x_iconst (z := 0) d_139_15 (by decide)) ?_
      obtain ⟨a17, e18, j19⟩ := bS j15
      subst e18
      obtain ⟨T20, e21, j22⟩ := bS j19
      refine m_Rb.tputAI b_139 d_139_16 h hF e21 (fun w23 h23 f23 k23 => ?_)
      refine m_Rb.n0 b_139 (x_aload_n d_139_17 rfl) ?_
      obtain ⟨v24, e25, j26⟩ := bS j22
      refine m_Rb.tgetR b_139 d_139_18 rfl h23 e25 (fun o27 => ?_)
      refine m_Rb.n0 b_139 (x_iload_n d_139_21 rfl) ?_
      refine m_Rb.n0 b_139 (x_iconst (z := 0) d_139_22 (by decide)) ?_
      obtain ⟨a28, e29, j30⟩ := bS j26
      subst e29
      obtain ⟨T31, e32, j33⟩ := bS j30
      refine m_Rb.tputAI b_139 d_139_23 h23 f23 e32 (fun w34 h34 f34 k34 => ?_)
      cases j33
      exact m_Rb.ret b_139 (m_rt_vr d_139_24 rfl) ⟨rfl, h34, f34⟩
def D_c_Store_removeKey_38 (F : Nat) (rec7 : Nat → Int32 → Int32 → Int32 → tT → Option (tT)) (x0 : Nat) (x1 : Int32) (x2 : Int32) (x3 : Int32) (T : tT) : Option (tT) := rec7 x0 x1 x2 (x3 + Int32.ofInt (-1)) T
theorem T_c_Store_removeKey_38 {l : Launch} {w0 : List mM} {F : Nat} {rec7 : Nat → Int32 → Int32 → Int32 → tT → Option (tT)} (hr7 : ∀ {x0 : Nat} {x1 : Int32} {x2 : Int32} {x3 : Int32} {T : tT} {w : List mM} {Tz : tT}, okr T.2.1 (some x0) → RT T w → m_Fm w0 w → rec7 x0 x1 x2 x3 T = some Tz → m_Rb l M_140 (7, [(0, .ref x0), (1, .int x1), (2, .int x2), (3, .int x3)], [], w) (fun v w' => v = none ∧ RT Tz w' ∧ m_Fm w0 w') T Tz 6 600) {x0 : Nat} {x1 : Int32} {x2 : Int32} {x3 : Int32} {T : tT} {w : List mM} {Tz : tT} (hx0 : okr T.2.1 (some x0)) (h : RT T w) (hF : m_Fm w0 w) (h0 : D_c_Store_removeKey_38 F rec7 x0 x1 x2 x3 T = some Tz) : m_Rb l M_140 (38, [(0, .ref x0), (1, .int x1), (2, .int x2), (3, .int x3)], [], w) (fun v w' => v = none ∧ RT Tz w' ∧ m_Fm w0 w') T Tz 6 600 := by
  rw [D_c_Store_removeKey_38] at h0
  refine m_Rb.n0 b_140 (x_iinc d_140_38 rfl rfl rfl (show m_put1 _ _ _ = [(3, _), (0, _), (1, _), (2, _)] from rfl)) ?_
  refine m_Rb.n0 b_140 (x_goto d_140_41 rfl) ?_
  exact m_Rb.pick [1, 2, 3, 0] rfl (hr7 hx0 h hF h0)
def D_c_Store_removeKey_7 (F : Nat) : Nat → Nat → Int32 → Int32 → Int32 → tT → Option (tT)
  | 0, _, _, _, _, _ => none
  | n + 1, x0, x1, x2, x3, T => cond (m_c1 .lt x3) (some T) ((tcl T x0 5).bind fun _ => (D_c_Store_at F x0 x3 T).bind fun v13 => nc v13 (D_c_Store_removeKey_38 F (D_c_Store_removeKey_7 F n) x0 x1 x2 x3 T) fun a17 => ((tcl T a17 11).bind fun _ => (D_c_Entry_isOf F a17 x1 x2 T).bind fun v22 => cond (m_c1 .eq v22) (D_c_Store_removeKey_38 F (D_c_Store_removeKey_7 F n) x0 x1 x2 x3 T) ((tcl T x0 5).bind fun _ => (D_c_Store_removeAt F x0 x3 T).bind fun T35 => D_c_Store_removeKey_38 F (D_c_Store_removeKey_7 F n) x0 x1 x2 x3 T35)))
theorem T_c_Store_removeKey_7 {l : Launch} {w0 : List mM} {F : Nat} : ∀ (n : Nat) {x0 : Nat} {x1 : Int32} {x2 : Int32} {x3 : Int32} {T : tT} {w : List mM} {Tz : tT}, okr T.2.1 (some x0) → RT T w → m_Fm w0 w → D_c_Store_removeKey_7 F n x0 x1 x2 x3 T = some Tz → m_Rb l M_140 (7, [(0, .ref x0), (1, .int x1), (2, .int x2), (3, .int x3)], [], w) (fun v w' => v = none ∧ RT Tz w' ∧ m_Fm w0 w') T Tz 6 600 := by
  intro n
  induction n with
  | zero => intro x0 x1 x2 x3 T w Tz hx0 h hF h0; cases h0
  | succ n ih =>
    intro x0 x1 x2 x3 T w Tz hx0 h hF h0
    rw [D_c_Store_removeKey_7] at h0
    refine m_Rb.n0 b_140 (x_iload_n d_140_7 rfl) ?_
    cases hc8 : m_c1 .lt x3 with
    | true =>
      have j9 := cT hc8 h0
      refine m_Rb.n0 b_140 (x_ift d_140_8 rfl hc8) ?_
      cases j9
      exact m_Rb.ret b_140 (m_rt_vr d_140_44 rfl) ⟨rfl, h, hF⟩
    | false =>
      have j9 := cF hc8 h0
      refine m_Rb.n0 b_140 (x_iff d_140_8 rfl hc8) ?_
      refine m_Rb.n0 b_140 (x_aload_n d_140_11 rfl) ?_
      refine m_Rb.n0 b_140 (x_iload_n d_140_12 rfl) ?_
      obtain ⟨_, e10, j11⟩ := bS j9
      obtain ⟨_, g12⟩ := RT.cls h e10
      obtain ⟨v13, e14, j15⟩ := bS j11
      refine m_Rb.callR b_140 (y_cv d_140_13 rfl q_76 (m_isRecv_of rfl g12) (show m_takeI _ _ = some (_, [_, _], []) from m_takeI_of rfl rfl rfl (Nat.le_of_ble_eq_true rfl)) (by simp only [m_okf, List.all_cons, List.all_nil, Bool.and_true, Bool.and_self, m_okv_i, m_okv_l, m_okv_0, m_okv_n0, m_okv_t, RT.okn h hx0, RT.okv h hx0]) rfl) (T_c_Store_at hx0 h e14) hF rfl (fun w16 o16 h16 f16 k16 => ?_) (by decide) (by decide)
      refine m_Rb.n0 b_140 (x_astorer (x := v13) d_140_16 rfl (show m_put1 _ _ _ = [(4, _), (0, _), (1, _), (2, _), (3, _)] from rfl)) ?_
      refine m_Rb.n0 b_140 (x_aloadr (x := v13) d_140_18 rfl) ?_
      cases v13 with
      | none =>
        have j18 := nN j15
        refine m_Rb.n0 b_140 (x_ifnull0 d_140_20 rfl) ?_
        exact m_Rb.pick [1, 2, 3, 4] rfl (T_c_Store_removeKey_38 ih hx0 h16 f16 j18)
      | some a17 =>
        have j18 := nS j15
        refine m_Rb.n0 b_140 (x_ifnull1 d_140_20 rfl) ?_
        refine m_Rb.n0 b_140 (x_aload d_140_23 rfl) ?_
        refine m_Rb.n0 b_140 (x_iload_n d_140_25 rfl) ?_
        refine m_Rb.n0 b_140 (x_iload_n d_140_26 rfl) ?_
        obtain ⟨_, e19, j20⟩ := bS j18
        obtain ⟨_, g21⟩ := RT.cls h16 e19
        obtain ⟨v22, e23, j24⟩ := bS j20
        refine m_Rb.callI b_140 (y_cv d_140_27 rfl q_81 (m_isRecv_of rfl g21) (show m_takeI _ _ = some (_, [_, _, _], []) from m_takeI_of rfl rfl rfl (Nat.le_of_ble_eq_true rfl)) (by simp only [m_okf, List.all_cons, List.all_nil, Bool.and_true, Bool.and_self, m_okv_i, m_okv_l, m_okv_0, m_okv_n0, m_okv_t, RT.okn h16 o16, RT.okv h16 o16, RT.okn h16 hx0, RT.okv h16 hx0]) rfl) (T_c_Entry_isOf o16 h16 e23) f16 rfl (fun w25 h25 f25 k25 => ?_) (by decide) (by decide)
        cases hc30 : m_c1 .eq v22 with
        | true =>
          have j31 := cT hc30 j24
          refine m_Rb.n0 b_140 (x_ift d_140_30 rfl hc30) ?_
          exact m_Rb.pick [1, 2, 3, 4] rfl (T_c_Store_removeKey_38 ih hx0 h25 f25 j31)
        | false =>
          have j31 := cF hc30 j24
          refine m_Rb.n0 b_140 (x_iff d_140_30 rfl hc30) ?_
          refine m_Rb.n0 b_140 (x_aload_n d_140_33 rfl) ?_
          refine m_Rb.n0 b_140 (x_iload_n d_140_34 rfl) ?_
          obtain ⟨_, e32, j33⟩ := bS j31
          obtain ⟨_, g34⟩ := RT.cls h25 e32
          obtain ⟨T35, e36, j37⟩ := bS j33
          refine m_Rb.callV b_140 (y_cv d_140_35 rfl q_136 (m_isRecv_of rfl g34) (show m_takeI _ _ = some (_, [_, _], []) from m_takeI_of rfl rfl rfl (Nat.le_of_ble_eq_true rfl)) (by simp only [m_okf, List.all_cons, List.all_nil, Bool.and_true, Bool.and_self, m_okv_i, m_okv_l, m_okv_0, m_okv_n0, m_okv_t, RT.okn h25 o16, RT.okv h25 o16, RT.okn h25 hx0, RT.okv h25 hx0]) rfl) (T_c_Store_removeAt hx0 h25 e36) f25 rfl (fun w38 h38 f38 k38 => ?_) (by decide) (by decide)
          exact m_Rb.pick [1, 2, 3, 4] rfl (T_c_Store_removeKey_38 ih (okm hx0 k38) h38 f38 j37)
def D_c_Store_removeKey (F : Nat) (a0 : Nat) (p0 : Int32) (p1 : Int32) (T : tT) : Option (tT) := (tcl T a0 5).bind fun _ => (D_c_Store_count F a0 T).bind fun v4 => D_c_Store_removeKey_7 F F a0 p0 p1 (v4 - (1 : Int32)) T
theorem T_c_Store_removeKey {l : Launch} {w : List mM} {F : Nat} {a0 : Nat} {p0 : Int32} {p1 : Int32} {T : tT} {Tz : tT} (ha0 : okr T.2.1 (some a0)) (h : RT T w) (h0 : D_c_Store_removeKey F a0 p0 p1 T = some Tz) : m_Rb l M_140 (m_ent M_140 [.ref a0, .int p0, .int p1] w) (fun v w' => v = none ∧ RT Tz w' ∧ m_Fm w w') T Tz 6 600 := by
  rw [show m_ent M_140 [.ref a0, .int p0, .int p1] w = (0, [(0, .ref a0), (1, .int p0), (2, .int p1)], [], w) from by first | rfl | (simp only [m_ent, lv_args_r, lv_args_a, lv_args_i, lv_args_l, lv_args_0]; done) | (simp only [m_ent, lv_args_r, lv_args_a, lv_args_i, lv_args_l, lv_args_0]; rfl)]
  generalize hw0 : w = w0 at h ⊢
  have hF : m_Fm w0 w0 := m_Fm.refl
  rw [D_c_Store_removeKey] at h0
  refine m_Rb.n0 b_140 (x_aload_n d_140_0 rfl) ?_
  obtain ⟨_, e1, j2⟩ := bS h0
  obtain ⟨_, g3⟩ := RT.cls h e1
  obtain ⟨v4, e5, j6⟩ := bS j2
  refine m_Rb.callI b_140 (y_cv d_140_1 rfl q_75 (m_isRecv_of rfl g3) (show m_takeI _ _ = some (_, [_], []) from m_takeI_of rfl rfl rfl (Nat.le_of_ble_eq_true rfl)) (by simp only [m_okf, List.all_cons, List.all_nil, Bool.and_true, Bool.and_self, m_okv_i, m_okv_l, m_okv_0, m_okv_n0, m_okv_t, RT.okn h ha0, RT.okv h ha0]) rfl) (T_c_Store_count ha0 h e5) hF rfl (fun w7 h7 f7 k7 => ?_) (by decide) (by decide)
  refine m_Rb.n0 b_140 (x_iconst (z := 1) d_140_4 (by decide)) ?_
  refine m_Rb.n0 b_140 (x_isub d_140_5 rfl) ?_
  refine m_Rb.n0 b_140 (x_istore_n d_140_6 rfl (show m_put1 _ _ _ = [(3, _), (0, _), (1, _), (2, _)] from rfl)) ?_
  exact m_Rb.pick [1, 2, 3, 0] rfl (T_c_Store_removeKey_7 F ha0 h7 f7 j6)
def D_c_Node_knows (F : Nat) (a0 : Nat) (p0 : Int32) (T0 : tT) : Option (Int32) := (cond (m_c2 .lt p0 (1 : Int32)) (some (0 : Int32)) ((tgr T0 a0 4 3).bind fun v5 => (v5).bind fun a9 => (tal T0 a9).bind fun v12 => cond (m_c2 .ge p0 v12) (some (0 : Int32)) ((tgr T0 a0 4 3).bind fun v17 => (v17).bind fun a21 => (tai T0 a21 4 p0).bind fun v24 => cond (m_c1 .eq v24) (some (0 : Int32)) (some (1 : Int32))))).bind fun v29 => (bret v29).bind fun v32 => some v32
theorem T_c_Node_knows {l : Launch} {w : List mM} {F : Nat} {a0 : Nat} {p0 : Int32} {T0 : tT} {yz : Int32} (ha0 : okr T0.2.1 (some a0)) (h : RT T0 w) (h0 : D_c_Node_knows F a0 p0 T0 = some yz) : m_Rb l M_142 (m_ent M_142 [.ref a0, .int p0] w) (fun v w' => v = some (.int yz) ∧ RT T0 w' ∧ m_Fm w w') T0 T0 0 0 := by
  rw [show m_ent M_142 [.ref a0, .int p0] w = (0, [(0, .ref a0), (1, .int p0)], [], w) from by first | rfl | (simp only [m_ent, lv_args_r, lv_args_a, lv_args_i, lv_args_l, lv_args_0]; done) | (simp only [m_ent, lv_args_r, lv_args_a, lv_args_i, lv_args_l, lv_args_0]; rfl)]
  generalize hw0 : w = w0 at h ⊢
  have hF : m_Fm w0 w0 := m_Fm.refl
  rw [D_c_Node_knows] at h0
  refine m_Rb.n0 b_142 (x_iload_n d_142_0 rfl) ?_
  refine m_Rb.n0 b_142 (x_iconst (z := 1) d_142_1 (by decide)) ?_
  obtain ⟨v29, e2, j30⟩ := bS h0
  have kk1 : ∀ (xz : Int32) (w1 : List mM), xz = v29 → RT T0 w1 → m_Fm w0 w1 → m_Rb l M_142 (28, [(0, .ref a0), (1, .int p0)], [.int xz], w1) (fun v w' => v = some (.int yz) ∧ RT T0 w' ∧ m_Fm w0 w') T0 T0 0 0 := by
    intro xz w31 ez h31 f31
    rw [ez]
    obtain ⟨v32, e33, j34⟩ := bS j30
    cases j34
    exact m_Rb.retb b_142 d_142_28 rfl e33 ⟨rfl, h31, f31⟩
  cases hc3 : m_c2 .lt p0 (1 : Int32) with
  | true =>
    have j4 := cT hc3 e2
    refine m_Rb.n0 b_142 (x_ict d_142_2 rfl hc3) ?_
    refine m_Rb.n0 b_142 (x_iconst (z := 0) d_142_27 (by decide)) ?_
    exact kk1 _ _ (Option.some.inj j4) h hF
  | false =>
    have j4 := cF hc3 e2
    refine m_Rb.n0 b_142 (x_icf d_142_2 rfl hc3) ?_
    refine m_Rb.n0 b_142 (x_iload_n d_142_5 rfl) ?_
    refine m_Rb.n0 b_142 (x_aload_n d_142_6 rfl) ?_
    obtain ⟨v5, e6, j7⟩ := bS j4
    refine m_Rb.tgetR b_142 d_142_7 rfl h e6 (fun o8 => ?_)
    obtain ⟨a9, e10, j11⟩ := bS j7
    subst e10
    obtain ⟨v12, e13, j14⟩ := bS j11
    refine m_Rb.talen b_142 d_142_10 h e13 ?_
    cases hc15 : m_c2 .ge p0 v12 with
    | true =>
      have j16 := cT hc15 j14
      refine m_Rb.n0 b_142 (x_ict d_142_11 rfl hc15) ?_
      refine m_Rb.n0 b_142 (x_iconst (z := 0) d_142_27 (by decide)) ?_
      exact kk1 _ _ (Option.some.inj j16) h hF
    | false =>
      have j16 := cF hc15 j14
      refine m_Rb.n0 b_142 (x_icf d_142_11 rfl hc15) ?_
      refine m_Rb.n0 b_142 (x_aload_n d_142_14 rfl) ?_
      obtain ⟨v17, e18, j19⟩ := bS j16
      refine m_Rb.tgetR b_142 d_142_15 rfl h e18 (fun o20 => ?_)
      refine m_Rb.n0 b_142 (x_iload_n d_142_18 rfl) ?_
      obtain ⟨a21, e22, j23⟩ := bS j19
      subst e22
      obtain ⟨v24, e25, j26⟩ := bS j23
      refine m_Rb.tgetZ b_142 d_142_19 h e25 ?_
      cases hc27 : m_c1 .eq v24 with
      | true =>
        have j28 := cT hc27 j26
        refine m_Rb.n0 b_142 (x_ift d_142_20 rfl hc27) ?_
        refine m_Rb.n0 b_142 (x_iconst (z := 0) d_142_27 (by decide)) ?_
        exact kk1 _ _ (Option.some.inj j28) h hF
      | false =>
        have j28 := cF hc27 j26
        refine m_Rb.n0 b_142 (x_iff d_142_20 rfl hc27) ?_
        refine m_Rb.n0 b_142 (x_iconst (z := 1) d_142_23 (by decide)) ?_
        refine m_Rb.n0 b_142 (x_goto d_142_24 rfl) ?_
        exact kk1 _ _ (Option.some.inj j28) h hF
def D_c_EdgeHouse_isOf (F : Nat) (a0 : Nat) (p0 : Int32) (p1 : Option Nat) (T0 : tT) : Option (Int32) := cond (m_c2 .lt p0 (1 : Int32)) (some (0 : Int32)) (cond (m_c2 .le p0 (60 : Int32)) ((tgr T0 a0 0 5).bind fun v5 => (v5).bind fun a9 => (tai T0 a9 0 p0).bind fun v12 => (tgr T0 a0 0 6).bind fun v15 => (v15).bind fun a19 => (tai T0 a19 0 p0).bind fun v22 => (p1).bind fun a25 => (tcl T0 a25 13).bind fun _ => (D_c_Told_isPurgedBy F a25 v12 v22 T0).bind fun v31 => (bret v31).bind fun v35 => some v35) (some (0 : Int32)))
theorem T_c_EdgeHouse_isOf {l : Launch} {w : List mM} {F : Nat} {a0 : Nat} {p0 : Int32} {p1 : Option Nat} {T0 : tT} {yz : Int32} (ha0 : okr T0.2.1 (some a0)) (hp1 : okr T0.2.1 p1) (h : RT T0 w) (h0 : D_c_EdgeHouse_isOf F a0 p0 p1 T0 = some yz) : m_Rb l M_143 (m_ent M_143 [.ref a0, .int p0, rv p1] w) (fun v w' => v = some (.int yz) ∧ RT T0 w' ∧ m_Fm w w') T0 T0 1 100 := by
  rw [show m_ent M_143 [.ref a0, .int p0, rv p1] w = (0, [(0, .ref a0), (1, .int p0), (2, rv p1)], [], w) from by first | rfl | (simp only [m_ent, lv_args_r, lv_args_a, lv_args_i, lv_args_l, lv_args_0]; done) | (simp only [m_ent, lv_args_r, lv_args_a, lv_args_i, lv_args_l, lv_args_0]; rfl)]
  generalize hw0 : w = w0 at h ⊢
  have hF : m_Fm w0 w0 := m_Fm.refl
  rw [D_c_EdgeHouse_isOf] at h0
  refine m_Rb.n0 b_143 (x_iload_n d_143_0 rfl) ?_
  refine m_Rb.n0 b_143 (x_iconst (z := 1) d_143_1 (by decide)) ?_
  cases hc1 : m_c2 .lt p0 (1 : Int32) with
  | true =>
    have j2 := cT hc1 h0
    refine m_Rb.n0 b_143 (x_ict d_143_2 rfl hc1) ?_
    refine m_Rb.n0 b_143 (x_iconst (z := 0) d_143_11 (by decide)) ?_
    cases j2
    exact m_Rb.ret b_143 (m_rt_ir d_143_12 rfl m_nb0) ⟨rfl, h, hF⟩
  | false =>
    have j2 := cF hc1 h0
    refine m_Rb.n0 b_143 (x_icf d_143_2 rfl hc1) ?_
    refine m_Rb.n0 b_143 (x_iload_n d_143_5 rfl) ?_
    refine m_Rb.n0 b_143 (x_bipush (z := 60) d_143_6 (by decide)) ?_
    cases hc3 : m_c2 .le p0 (60 : Int32) with
    | true =>
      have j4 := cT hc3 j2
      refine m_Rb.n0 b_143 (x_ict d_143_8 rfl hc3) ?_
      refine m_Rb.n0 b_143 (x_aloadr_n (x := p1) d_143_13 rfl) ?_
      refine m_Rb.n0 b_143 (x_aload_n d_143_14 rfl) ?_
      obtain ⟨v5, e6, j7⟩ := bS j4
      refine m_Rb.tgetR b_143 d_143_15 rfl h e6 (fun o8 => ?_)
      refine m_Rb.n0 b_143 (x_iload_n d_143_18 rfl) ?_
      obtain ⟨a9, e10, j11⟩ := bS j7
      subst e10
      obtain ⟨v12, e13, j14⟩ := bS j11
      refine m_Rb.tgetA b_143 d_143_19 h e13 ?_
      refine m_Rb.n0 b_143 (x_aload_n d_143_20 rfl) ?_
      obtain ⟨v15, e16, j17⟩ := bS j14
      refine m_Rb.tgetR b_143 d_143_21 rfl h e16 (fun o18 => ?_)
      refine m_Rb.n0 b_143 (x_iload_n d_143_24 rfl) ?_
      obtain ⟨a19, e20, j21⟩ := bS j17
      subst e20
      obtain ⟨v22, e23, j24⟩ := bS j21
      refine m_Rb.tgetA b_143 d_143_25 h e23 ?_
      obtain ⟨a25, e26, j27⟩ := bS j24
      subst e26
      obtain ⟨_, e28, j29⟩ := bS j27
      obtain ⟨_, g30⟩ := RT.cls h e28
      obtain ⟨v31, e32, j33⟩ := bS j29
      refine m_Rb.callI b_143 (y_cv d_143_26 rfl q_135 (m_isRecv_of rfl g30) (show m_takeI _ _ = some (_, [_, _, _], []) from m_takeI_of rfl rfl rfl (Nat.le_of_ble_eq_true rfl)) (by simp only [m_okf, List.all_cons, List.all_nil, Bool.and_true, Bool.and_self, m_okv_i, m_okv_l, m_okv_0, m_okv_n0, m_okv_t, RT.okn h ha0, RT.okv h ha0, RT.okn h hp1, RT.okv h hp1]) rfl) (T_c_Told_isPurgedBy hp1 h e32) hF rfl (fun w34 h34 f34 k34 => ?_) (by decide) (by decide)
      obtain ⟨v35, e36, j37⟩ := bS j33
      cases j37
      exact m_Rb.retb b_143 d_143_29 rfl e36 ⟨rfl, h34, f34⟩
    | false =>
      have j4 := cF hc3 j2
      refine m_Rb.n0 b_143 (x_icf d_143_8 rfl hc3) ?_
      refine m_Rb.n0 b_143 (x_iconst (z := 0) d_143_11 (by decide)) ?_
      cases j4
      exact m_Rb.ret b_143 (m_rt_ir d_143_12 rfl m_nb0) ⟨rfl, h, hF⟩
def D_c_Store_find_47 (F : Nat) (rec3 : Nat → Int32 → Int32 → Int32 → Int32 → tT → Option (Option Nat)) (x0 : Nat) (x1 : Int32) (x2 : Int32) (x3 : Int32) (x4 : Int32) (T0 : tT) : Option (Option Nat) := rec3 x0 x1 x2 x3 (x4 + Int32.ofInt 1) T0
theorem T_c_Store_find_47 {l : Launch} {w0 : List mM} {F : Nat} {T0 : tT} {rec3 : Nat → Int32 → Int32 → Int32 → Int32 → tT → Option (Option Nat)} (hr3 : ∀ {x0 : Nat} {x1 : Int32} {x2 : Int32} {x3 : Int32} {x4 : Int32} {w : List mM} {yz : Option Nat}, okr T0.2.1 (some x0) → RT T0 w → m_Fm w0 w → rec3 x0 x1 x2 x3 x4 T0 = some yz → m_Rb l M_144 (3, [(0, .ref x0), (1, .int x1), (2, .int x2), (3, .int x3), (4, .int x4)], [], w) (fun v w' => v = some (rv yz) ∧ okr T0.2.1 yz ∧ RT T0 w' ∧ m_Fm w0 w') T0 T0 4 400) {x0 : Nat} {x1 : Int32} {x2 : Int32} {x3 : Int32} {x4 : Int32} {w : List mM} {yz : Option Nat} (hx0 : okr T0.2.1 (some x0)) (h : RT T0 w) (hF : m_Fm w0 w) (h0 : D_c_Store_find_47 F rec3 x0 x1 x2 x3 x4 T0 = some yz) : m_Rb l M_144 (47, [(0, .ref x0), (1, .int x1), (2, .int x2), (3, .int x3), (4, .int x4)], [], w) (fun v w' => v = some (rv yz) ∧ okr T0.2.1 yz ∧ RT T0 w' ∧ m_Fm w0 w') T0 T0 4 400 := by
  rw [D_c_Store_find_47] at h0
  refine m_Rb.n0 b_144 (x_iinc d_144_47 rfl rfl rfl (show m_put1 _ _ _ = [(4, _), (0, _), (1, _), (2, _), (3, _)] from rfl)) ?_
  refine m_Rb.n0 b_144 (x_goto d_144_50 rfl) ?_
  exact m_Rb.pick [1, 2, 3, 4, 0] rfl (hr3 hx0 h hF h0)
def D_c_Store_find_3 (F : Nat) : Nat → Nat → Int32 → Int32 → Int32 → Int32 → tT → Option (Option Nat)
  | 0, _, _, _, _, _, _ => none
  | n + 1, x0, x1, x2, x3, x4, T0 => (tcl T0 x0 5).bind fun _ => (D_c_Store_count F x0 T0).bind fun v4 => cond (m_c2 .ge x4 v4) (some none) ((tcl T0 x0 5).bind fun _ => (D_c_Store_at F x0 x4 T0).bind fun v13 => nc v13 (D_c_Store_find_47 F (D_c_Store_find_3 F n) x0 x1 x2 x3 x4 T0) fun a17 => ((tcl T0 a17 11).bind fun _ => (D_c_Entry_isOf F a17 x1 x2 T0).bind fun v22 => cond (m_c1 .eq v22) (D_c_Store_find_47 F (D_c_Store_find_3 F n) x0 x1 x2 x3 x4 T0) ((tgi T0 a17 11 3).bind fun v28 => cond (m_c2 .ne v28 x3) (D_c_Store_find_47 F (D_c_Store_find_3 F n) x0 x1 x2 x3 x4 T0) (some (some a17)))))
theorem T_c_Store_find_3 {l : Launch} {w0 : List mM} {F : Nat} {T0 : tT} : ∀ (n : Nat) {x0 : Nat} {x1 : Int32} {x2 : Int32} {x3 : Int32} {x4 : Int32} {w : List mM} {yz : Option Nat}, okr T0.2.1 (some x0) → RT T0 w → m_Fm w0 w → D_c_Store_find_3 F n x0 x1 x2 x3 x4 T0 = some yz → m_Rb l M_144 (3, [(0, .ref x0), (1, .int x1), (2, .int x2), (3, .int x3), (4, .int x4)], [], w) (fun v w' => v = some (rv yz) ∧ okr T0.2.1 yz ∧ RT T0 w' ∧ m_Fm w0 w') T0 T0 4 400 := by
  intro n
  induction n with
  | zero => intro x0 x1 x2 x3 x4 w yz hx0 h hF h0; cases h0
  | succ n ih =>
    intro x0 x1 x2 x3 x4 w yz hx0 h hF h0
    rw [D_c_Store_find_3] at h0
    refine m_Rb.n0 b_144 (x_iload d_144_3 rfl) ?_
    refine m_Rb.n0 b_144 (x_aload_n d_144_5 rfl) ?_
    obtain ⟨_, e1, j2⟩ := bS h0
    obtain ⟨_, g3⟩ := RT.cls h e1
    obtain ⟨v4, e5, j6⟩ := bS j2
    refine m_Rb.callI b_144 (y_cv d_144_6 rfl q_75 (m_isRecv_of rfl g3) (show m_takeI _ _ = some (_, [_], [_]) from m_takeI_of rfl rfl rfl (Nat.le_of_ble_eq_true rfl)) (by simp only [m_okf, List.all_cons, List.all_nil, Bool.and_true, Bool.and_self, m_okv_i, m_okv_l, m_okv_0, m_okv_n0, m_okv_t, RT.okn h hx0, RT.okv h hx0]) rfl) (T_c_Store_count hx0 h e5) hF rfl (fun w7 h7 f7 k7 => ?_) (by decide) (by decide)
    cases hc8 : m_c2 .ge x4 v4 with
    | true =>
      have j9 := cT hc8 j6
      refine m_Rb.n0 b_144 (x_ict d_144_9 rfl hc8) ?_
      refine m_Rb.n0 b_144 (x_null d_144_53) ?_
      have o9 : okr T0.2.1 none := okr_none
      cases j9
      exact m_Rb.ret b_144 (m_rt_rr (x := none) d_144_54 rfl) ⟨rfl, o9, h7, f7⟩
    | false =>
      have j9 := cF hc8 j6
      refine m_Rb.n0 b_144 (x_icf d_144_9 rfl hc8) ?_
      refine m_Rb.n0 b_144 (x_aload_n d_144_12 rfl) ?_
      refine m_Rb.n0 b_144 (x_iload d_144_13 rfl) ?_
      obtain ⟨_, e10, j11⟩ := bS j9
      obtain ⟨_, g12⟩ := RT.cls h7 e10
      obtain ⟨v13, e14, j15⟩ := bS j11
      refine m_Rb.callR b_144 (y_cv d_144_15 rfl q_76 (m_isRecv_of rfl g12) (show m_takeI _ _ = some (_, [_, _], []) from m_takeI_of rfl rfl rfl (Nat.le_of_ble_eq_true rfl)) (by simp only [m_okf, List.all_cons, List.all_nil, Bool.and_true, Bool.and_self, m_okv_i, m_okv_l, m_okv_0, m_okv_n0, m_okv_t, RT.okn h7 hx0, RT.okv h7 hx0]) rfl) (T_c_Store_at hx0 h7 e14) f7 rfl (fun w16 o16 h16 f16 k16 => ?_) (by decide) (by decide)
      refine m_Rb.n0 b_144 (x_astorer (x := v13) d_144_18 rfl (show m_put1 _ _ _ = [(5, _), (0, _), (1, _), (2, _), (3, _), (4, _)] from rfl)) ?_
      refine m_Rb.n0 b_144 (x_aloadr (x := v13) d_144_20 rfl) ?_
      cases v13 with
      | none =>
        have j18 := nN j15
        refine m_Rb.n0 b_144 (x_ifnull0 d_144_22 rfl) ?_
        exact m_Rb.pick [1, 2, 3, 4, 5] rfl (T_c_Store_find_47 ih hx0 h16 f16 j18)
      | some a17 =>
        have j18 := nS j15
        refine m_Rb.n0 b_144 (x_ifnull1 d_144_22 rfl) ?_
        refine m_Rb.n0 b_144 (x_aload d_144_25 rfl) ?_
        refine m_Rb.n0 b_144 (x_iload_n d_144_27 rfl) ?_
        refine m_Rb.n0 b_144 (x_iload_n d_144_28 rfl) ?_
        obtain ⟨_, e19, j20⟩ := bS j18
        obtain ⟨_, g21⟩ := RT.cls h16 e19
        obtain ⟨v22, e23, j24⟩ := bS j20
        refine m_Rb.callI b_144 (y_cv d_144_29 rfl q_81 (m_isRecv_of rfl g21) (show m_takeI _ _ = some (_, [_, _, _], []) from m_takeI_of rfl rfl rfl (Nat.le_of_ble_eq_true rfl)) (by simp only [m_okf, List.all_cons, List.all_nil, Bool.and_true, Bool.and_self, m_okv_i, m_okv_l, m_okv_0, m_okv_n0, m_okv_t, RT.okn h16 o16, RT.okv h16 o16, RT.okn h16 hx0, RT.okv h16 hx0]) rfl) (T_c_Entry_isOf o16 h16 e23) f16 rfl (fun w25 h25 f25 k25 => ?_) (by decide) (by decide)
        cases hc26 : m_c1 .eq v22 with
        | true =>
          have j27 := cT hc26 j24
          refine m_Rb.n0 b_144 (x_ift d_144_32 rfl hc26) ?_
          exact m_Rb.pick [1, 2, 3, 4, 5] rfl (T_c_Store_find_47 ih hx0 h25 f25 j27)
        | false =>
          have j27 := cF hc26 j24
          refine m_Rb.n0 b_144 (x_iff d_144_32 rfl hc26) ?_
          refine m_Rb.n0 b_144 (x_aload d_144_35 rfl) ?_
          obtain ⟨v28, e29, j30⟩ := bS j27
          refine m_Rb.tgetI b_144 d_144_37 rfl h25 e29 ?_
          refine m_Rb.n0 b_144 (x_iload_n d_144_40 rfl) ?_
          cases hc31 : m_c2 .ne v28 x3 with
          | true =>
            have j32 := cT hc31 j30
            refine m_Rb.n0 b_144 (x_ict d_144_41 rfl hc31) ?_
            exact m_Rb.pick [1, 2, 3, 4, 5] rfl (T_c_Store_find_47 ih hx0 h25 f25 j32)
          | false =>
            have j32 := cF hc31 j30
            refine m_Rb.n0 b_144 (x_icf d_144_41 rfl hc31) ?_
            refine m_Rb.n0 b_144 (x_aload d_144_44 rfl) ?_
            have o9 : okr T0.2.1 (some a17) := o16
            cases j32
            exact m_Rb.ret b_144 (m_rt_rr (x := (some a17)) d_144_46 rfl) ⟨rfl, o9, h25, f25⟩
def D_c_Store_find (F : Nat) (a0 : Nat) (p0 : Int32) (p1 : Int32) (p2 : Int32) (T0 : tT) : Option (Option Nat) := D_c_Store_find_3 F F a0 p0 p1 p2 (0 : Int32) T0
theorem T_c_Store_find {l : Launch} {w : List mM} {F : Nat} {a0 : Nat} {p0 : Int32} {p1 : Int32} {p2 : Int32} {T0 : tT} {yz : Option Nat} (ha0 : okr T0.2.1 (some a0)) (h : RT T0 w) (h0 : D_c_Store_find F a0 p0 p1 p2 T0 = some yz) : m_Rb l M_144 (m_ent M_144 [.ref a0, .int p0, .int p1, .int p2] w) (fun v w' => v = some (rv yz) ∧ okr T0.2.1 yz ∧ RT T0 w' ∧ m_Fm w w') T0 T0 4 400 := by
  rw [show m_ent M_144 [.ref a0, .int p0, .int p1, .int p2] w = (0, [(0, .ref a0), (1, .int p0), (2, .int p1), (3, .int p2)], [], w) from by first | rfl | (simp only [m_ent, lv_args_r, lv_args_a, lv_args_i, lv_args_l, lv_args_0]; done) | (simp only [m_ent, lv_args_r, lv_args_a, lv_args_i, lv_args_l, lv_args_0]; rfl)]
  generalize hw0 : w = w0 at h ⊢
  have hF : m_Fm w0 w0 := m_Fm.refl
  rw [D_c_Store_find] at h0
  refine m_Rb.n0 b_144 (x_iconst (z := 0) d_144_0 (by decide)) ?_
  refine m_Rb.n0 b_144 (x_istore d_144_1 rfl (show m_put1 _ _ _ = [(4, _), (0, _), (1, _), (2, _), (3, _)] from rfl)) ?_
  exact m_Rb.pick [1, 2, 3, 4, 0] rfl (T_c_Store_find_3 F ha0 h hF h0)
def D_c_EdgeHouse_isRefused_54 (F : Nat) (rec21 : Nat → Option Nat → Option Nat → Option Nat → Int32 → tT → Option (Int32)) (x0 : Nat) (x1 : Option Nat) (x2 : Option Nat) (x3 : Option Nat) (x4 : Int32) (T0 : tT) : Option (Int32) := rec21 x0 x1 x2 x3 (x4 + Int32.ofInt 1) T0
theorem T_c_EdgeHouse_isRefused_54 {l : Launch} {w0 : List mM} {F : Nat} {T0 : tT} {rec21 : Nat → Option Nat → Option Nat → Option Nat → Int32 → tT → Option (Int32)} (hr21 : ∀ {x0 : Nat} {x1 : Option Nat} {x2 : Option Nat} {x3 : Option Nat} {x4 : Int32} {w : List mM} {yz : Int32}, okr T0.2.1 (some x0) → okr T0.2.1 x1 → okr T0.2.1 x2 → okr T0.2.1 x3 → RT T0 w → m_Fm w0 w → rec21 x0 x1 x2 x3 x4 T0 = some yz → m_Rb l M_141 (21, [(0, .ref x0), (1, rv x1), (2, rv x2), (3, rv x3), (4, .int x4)], [], w) (fun v w' => v = some (.int yz) ∧ RT T0 w' ∧ m_Fm w0 w') T0 T0 5 500) {x0 : Nat} {x1 : Option Nat} {x2 : Option Nat} {x3 : Option Nat} {x4 : Int32} {w : List mM} {yz : Int32} (hx0 : okr T0.2.1 (some x0)) (hx1 : okr T0.2.1 x1) (hx2 : okr T0.2.1 x2) (hx3 : okr T0.2.1 x3) (h : RT T0 w) (hF : m_Fm w0 w) (h0 : D_c_EdgeHouse_isRefused_54 F rec21 x0 x1 x2 x3 x4 T0 = some yz) : m_Rb l M_141 (54, [(0, .ref x0), (1, rv x1), (2, rv x2), (3, rv x3), (4, .int x4)], [], w) (fun v w' => v = some (.int yz) ∧ RT T0 w' ∧ m_Fm w0 w') T0 T0 5 500 := by
  rw [D_c_EdgeHouse_isRefused_54] at h0
  refine m_Rb.n0 b_141 (x_iinc d_141_54 rfl rfl rfl (show m_put1 _ _ _ = [(4, _), (0, _), (1, _), (2, _), (3, _)] from (m_p1r (by simp only [List.all_cons, List.all_nil, cat_rv]; rfl)).trans rfl)) ?_
  refine m_Rb.n0 b_141 (x_goto d_141_57 rfl) ?_
  exact m_Rb.pick [1, 2, 3, 4, 0] rfl (hr21 hx0 hx1 hx2 hx3 h hF h0)
def D_c_EdgeHouse_isRefused_131 (F : Nat) (x0 : Nat) (T0 : tT) : Option (Int32) := some (1 : Int32)
theorem T_c_EdgeHouse_isRefused_131 {l : Launch} {w0 : List mM} {F : Nat} {T0 : tT} {x0 : Nat} {w : List mM} {yz : Int32} (hx0 : okr T0.2.1 (some x0)) (h : RT T0 w) (hF : m_Fm w0 w) (h0 : D_c_EdgeHouse_isRefused_131 F x0 T0 = some yz) : m_Rb l M_141 (131, [(0, .ref x0)], [], w) (fun v w' => v = some (.int yz) ∧ RT T0 w' ∧ m_Fm w0 w') T0 T0 5 500 := by
  rw [D_c_EdgeHouse_isRefused_131] at h0
  refine m_Rb.n0 b_141 (x_iconst (z := 1) d_141_131 (by decide)) ?_
  refine m_Rb.n0 b_141 (x_goto d_141_132 rfl) ?_
  cases h0
  exact m_Rb.ret b_141 (m_rt_ir d_141_136 rfl m_nb1) ⟨rfl, h, hF⟩
def D_c_EdgeHouse_isRefused_21 (F : Nat) : Nat → Nat → Option Nat → Option Nat → Option Nat → Int32 → tT → Option (Int32)
  | 0, _, _, _, _, _, _ => none
  | n + 1, x0, x1, x2, x3, x4, T0 => (tgi T0 x0 0 13).bind fun v18 => cond (m_c2 .gt x4 v18) ((x3).bind fun a23 => (tgi T0 a23 9 12).bind fun v26 => cond (m_c2 .eq v26 (304 : Int32)) ((tgr T0 a23 9 15).bind fun v31 => (x2).bind fun a35 => (tgi T0 a35 10 2).bind fun v38 => (tgi T0 a35 10 3).bind fun v41 => (v31).bind fun a44 => (tcl T0 a44 13).bind fun _ => (D_c_Told_whichFor F a44 v38 v41 T0).bind fun v50 => (x1).bind fun a54 => (tgr T0 a54 4 1).bind fun v57 => (tgi T0 a35 10 0).bind fun v61 => (tgi T0 a35 10 1).bind fun v64 => (v57).bind fun a67 => (tcl T0 a67 5).bind fun _ => (D_c_Store_find F a67 v61 v64 v50 T0).bind fun v73 => nc v73 (D_c_EdgeHouse_isRefused_131 F x0 T0) fun a77 => ((tgr T0 a77 11 2).bind fun v79 => (v79).bind fun a83 => (tgi T0 a83 13 1).bind fun v86 => (tgr T0 a23 9 15).bind fun v89 => (v89).bind fun a93 => (tgi T0 a93 13 1).bind fun v96 => (cond (m_c2 .eq v86 v96) (some (0 : Int32)) (some (1 : Int32))).bind fun v103 => (bret v103).bind fun v106 => some v106)) (some (0 : Int32))) ((x1).bind fun a109 => (tcl T0 a109 4).bind fun _ => (D_c_Node_knows F a109 x4 T0).bind fun v115 => cond (m_c1 .eq v115) (D_c_EdgeHouse_isRefused_54 F (D_c_EdgeHouse_isRefused_21 F n) x0 (some a109) x2 x3 x4 T0) ((x3).bind fun a121 => (tgr T0 a121 9 15).bind fun v124 => (tcl T0 x0 0).bind fun _ => (D_c_EdgeHouse_isOf F x0 x4 v124 T0).bind fun v131 => cond (m_c1 .eq v131) (D_c_EdgeHouse_isRefused_54 F (D_c_EdgeHouse_isRefused_21 F n) x0 (some a109) x2 (some a121) x4 T0) (some (1 : Int32))))
theorem T_c_EdgeHouse_isRefused_21 {l : Launch} {w0 : List mM} {F : Nat} {T0 : tT} : ∀ (n : Nat) {x0 : Nat} {x1 : Option Nat} {x2 : Option Nat} {x3 : Option Nat} {x4 : Int32} {w : List mM} {yz : Int32}, okr T0.2.1 (some x0) → okr T0.2.1 x1 → okr T0.2.1 x2 → okr T0.2.1 x3 → RT T0 w → m_Fm w0 w → D_c_EdgeHouse_isRefused_21 F n x0 x1 x2 x3 x4 T0 = some yz → m_Rb l M_141 (21, [(0, .ref x0), (1, rv x1), (2, rv x2), (3, rv x3), (4, .int x4)], [], w) (fun v w' => v = some (.int yz) ∧ RT T0 w' ∧ m_Fm w0 w') T0 T0 5 500 := by
  intro n
  induction n with
  | zero => intro x0 x1 x2 x3 x4 w yz hx0 hx1 hx2 hx3 h hF h0; cases h0
  | succ n ih =>
    intro x0 x1 x2 x3 x4 w yz hx0 hx1 hx2 hx3 h hF h0
    rw [D_c_EdgeHouse_isRefused_21] at h0
    refine m_Rb.n0 b_141 (x_iload d_141_21 rfl) ?_
    refine m_Rb.n0 b_141 (x_aload_n d_141_23 rfl) ?_
    obtain ⟨v18, e19, j20⟩ := bS h0
    refine m_Rb.tgetI b_141 d_141_24 rfl h e19 ?_
    cases hc21 : m_c2 .gt x4 v18 with
    | true =>
      have j22 := cT hc21 j20
      refine m_Rb.n0 b_141 (x_ict d_141_27 rfl hc21) ?_
      refine m_Rb.n0 b_141 (x_aloadr_n (x := x3) d_141_60 rfl) ?_
      obtain ⟨a23, e24, j25⟩ := bS j22
      subst e24
      obtain ⟨v26, e27, j28⟩ := bS j25
      refine m_Rb.tgetI b_141 d_141_61 rfl h e27 ?_
      refine m_Rb.n0 b_141 (x_sipush (z := 304) d_141_64 (by decide)) ?_
      cases hc29 : m_c2 .eq v26 (304 : Int32) with
      | true =>
        have j30 := cT hc29 j28
        refine m_Rb.n0 b_141 (x_ict d_141_67 rfl hc29) ?_
        refine m_Rb.n0 b_141 (x_aload_n d_141_72 rfl) ?_
        obtain ⟨v31, e32, j33⟩ := bS j30
        refine m_Rb.tgetR b_141 d_141_73 rfl h e32 (fun o34 => ?_)
        refine m_Rb.n0 b_141 (x_aloadr_n (x := x2) d_141_76 rfl) ?_
        obtain ⟨a35, e36, j37⟩ := bS j33
        subst e36
        obtain ⟨v38, e39, j40⟩ := bS j37
        refine m_Rb.tgetI b_141 d_141_77 rfl h e39 ?_
        refine m_Rb.n0 b_141 (x_aload_n d_141_80 rfl) ?_
        obtain ⟨v41, e42, j43⟩ := bS j40
        refine m_Rb.tgetI b_141 d_141_81 rfl h e42 ?_
        obtain ⟨a44, e45, j46⟩ := bS j43
        subst e45
        obtain ⟨_, e47, j48⟩ := bS j46
        obtain ⟨_, g49⟩ := RT.cls h e47
        obtain ⟨v50, e51, j52⟩ := bS j48
        refine m_Rb.callI b_141 (y_cv d_141_84 rfl q_82 (m_isRecv_of rfl g49) (show m_takeI _ _ = some (_, [_, _, _], []) from m_takeI_of rfl rfl rfl (Nat.le_of_ble_eq_true rfl)) (by simp only [m_okf, List.all_cons, List.all_nil, Bool.and_true, Bool.and_self, m_okv_i, m_okv_l, m_okv_0, m_okv_n0, m_okv_t, RT.okn h hx0, RT.okv h hx0, RT.okv h hx1, RT.okn h hx2, RT.okv h hx2, RT.okn h hx3, RT.okv h hx3, RT.okn h o34, RT.okv h o34]) rfl) (T_c_Told_whichFor o34 h e51) hF rfl (fun w53 h53 f53 k53 => ?_) (by decide) (by decide)
        refine m_Rb.n0 b_141 (x_istore d_141_87 rfl (show m_put1 _ _ _ = [(4, _), (0, _), (1, _), (2, _), (3, _)] from rfl)) ?_
        refine m_Rb.n0 b_141 (x_aloadr_n (x := x1) d_141_89 rfl) ?_
        obtain ⟨a54, e55, j56⟩ := bS j52
        subst e55
        obtain ⟨v57, e58, j59⟩ := bS j56
        refine m_Rb.tgetR b_141 d_141_90 rfl h53 e58 (fun o60 => ?_)
        refine m_Rb.n0 b_141 (x_aload_n d_141_93 rfl) ?_
        obtain ⟨v61, e62, j63⟩ := bS j59
        refine m_Rb.tgetI b_141 d_141_94 rfl h53 e62 ?_
        refine m_Rb.n0 b_141 (x_aload_n d_141_97 rfl) ?_
        obtain ⟨v64, e65, j66⟩ := bS j63
        refine m_Rb.tgetI b_141 d_141_98 rfl h53 e65 ?_
        refine m_Rb.n0 b_141 (x_iload d_141_101 rfl) ?_
        obtain ⟨a67, e68, j69⟩ := bS j66
        subst e68
        obtain ⟨_, e70, j71⟩ := bS j69
        obtain ⟨_, g72⟩ := RT.cls h53 e70
        obtain ⟨v73, e74, j75⟩ := bS j71
        refine m_Rb.callR b_141 (y_cv d_141_103 rfl q_144 (m_isRecv_of rfl g72) (show m_takeI _ _ = some (_, [_, _, _, _], []) from m_takeI_of rfl rfl rfl (Nat.le_of_ble_eq_true rfl)) (by simp only [m_okf, List.all_cons, List.all_nil, Bool.and_true, Bool.and_self, m_okv_i, m_okv_l, m_okv_0, m_okv_n0, m_okv_t, RT.okn h53 hx0, RT.okv h53 hx0, RT.okn h53 hx1, RT.okv h53 hx1, RT.okn h53 hx2, RT.okv h53 hx2, RT.okn h53 hx3, RT.okv h53 hx3, RT.okn h53 o60, RT.okv h53 o60]) rfl) (T_c_Store_find o60 h53 e74) f53 rfl (fun w76 o76 h76 f76 k76 => ?_) (by decide) (by decide)
        refine m_Rb.n0 b_141 (x_astorer (x := v73) d_141_106 rfl (show m_put1 _ _ _ = [(5, _), (4, _), (0, _), (1, _), (2, _), (3, _)] from rfl)) ?_
        refine m_Rb.n0 b_141 (x_aloadr (x := v73) d_141_108 rfl) ?_
        cases v73 with
        | none =>
          have j78 := nN j75
          refine m_Rb.n0 b_141 (x_ifnull0 d_141_110 rfl) ?_
          exact m_Rb.pick [2] rfl (T_c_EdgeHouse_isRefused_131 hx0 h76 f76 j78)
        | some a77 =>
          have j78 := nS j75
          refine m_Rb.n0 b_141 (x_ifnull1 d_141_110 rfl) ?_
          refine m_Rb.n0 b_141 (x_aload d_141_113 rfl) ?_
          obtain ⟨v79, e80, j81⟩ := bS j78
          refine m_Rb.tgetR b_141 d_141_115 rfl h76 e80 (fun o82 => ?_)
          obtain ⟨a83, e84, j85⟩ := bS j81
          subst e84
          obtain ⟨v86, e87, j88⟩ := bS j85
          refine m_Rb.tgetI b_141 d_141_118 rfl h76 e87 ?_
          refine m_Rb.n0 b_141 (x_aload_n d_141_121 rfl) ?_
          obtain ⟨v89, e90, j91⟩ := bS j88
          refine m_Rb.tgetR b_141 d_141_122 rfl h76 e90 (fun o92 => ?_)
          obtain ⟨a93, e94, j95⟩ := bS j91
          subst e94
          obtain ⟨v96, e97, j98⟩ := bS j95
          refine m_Rb.tgetI b_141 d_141_125 rfl h76 e97 ?_
          obtain ⟨v103, e100, j104⟩ := bS j98
          have kk99 : ∀ (xz : Int32) (w1 : List mM), xz = v103 → RT T0 w1 → m_Fm w0 w1 → m_Rb l M_141 (136, [(5, .ref a77), (4, .int v50), (0, .ref x0), (1, .ref a54), (2, .ref a35), (3, .ref a23)], [.int xz], w1) (fun v w' => v = some (.int yz) ∧ RT T0 w' ∧ m_Fm w0 w') T0 T0 5 500 := by
            intro xz w105 ez h105 f105
            rw [ez]
            obtain ⟨v106, e107, j108⟩ := bS j104
            cases j108
            exact m_Rb.retb b_141 d_141_136 rfl e107 ⟨rfl, h105, f105⟩
          cases hc101 : m_c2 .eq v86 v96 with
          | true =>
            have j102 := cT hc101 e100
            refine m_Rb.n0 b_141 (x_ict d_141_128 rfl hc101) ?_
            refine m_Rb.n0 b_141 (x_iconst (z := 0) d_141_135 (by decide)) ?_
            exact kk99 _ _ (Option.some.inj j102) h76 f76
          | false =>
            have j102 := cF hc101 e100
            refine m_Rb.n0 b_141 (x_icf d_141_128 rfl hc101) ?_
            refine m_Rb.n0 b_141 (x_iconst (z := 1) d_141_131 (by decide)) ?_
            refine m_Rb.n0 b_141 (x_goto d_141_132 rfl) ?_
            exact kk99 _ _ (Option.some.inj j102) h76 f76
      | false =>
        have j30 := cF hc29 j28
        refine m_Rb.n0 b_141 (x_icf d_141_67 rfl hc29) ?_
        refine m_Rb.n0 b_141 (x_iconst (z := 0) d_141_70 (by decide)) ?_
        cases j30
        exact m_Rb.ret b_141 (m_rt_ir d_141_71 rfl m_nb0) ⟨rfl, h, hF⟩
    | false =>
      have j22 := cF hc21 j20
      refine m_Rb.n0 b_141 (x_icf d_141_27 rfl hc21) ?_
      refine m_Rb.n0 b_141 (x_aloadr_n (x := x1) d_141_30 rfl) ?_
      refine m_Rb.n0 b_141 (x_iload d_141_31 rfl) ?_
      obtain ⟨a109, e110, j111⟩ := bS j22
      subst e110
      obtain ⟨_, e112, j113⟩ := bS j111
      obtain ⟨_, g114⟩ := RT.cls h e112
      obtain ⟨v115, e116, j117⟩ := bS j113
      refine m_Rb.callI b_141 (y_cv d_141_33 rfl q_142 (m_isRecv_of rfl g114) (show m_takeI _ _ = some (_, [_, _], []) from m_takeI_of rfl rfl rfl (Nat.le_of_ble_eq_true rfl)) (by simp only [m_okf, List.all_cons, List.all_nil, Bool.and_true, Bool.and_self, m_okv_i, m_okv_l, m_okv_0, m_okv_n0, m_okv_t, RT.okn h hx0, RT.okv h hx0, RT.okn h hx1, RT.okv h hx1, RT.okv h hx2, RT.okv h hx3]) rfl) (T_c_Node_knows hx1 h e116) hF rfl (fun w118 h118 f118 k118 => ?_) (by decide) (by decide)
      cases hc119 : m_c1 .eq v115 with
      | true =>
        have j120 := cT hc119 j117
        refine m_Rb.n0 b_141 (x_ift d_141_36 rfl hc119) ?_
        exact m_Rb.pick [0, 1, 2, 3, 4] rfl (T_c_EdgeHouse_isRefused_54 ih hx0 hx1 hx2 hx3 h118 f118 j120)
      | false =>
        have j120 := cF hc119 j117
        refine m_Rb.n0 b_141 (x_iff d_141_36 rfl hc119) ?_
        refine m_Rb.n0 b_141 (x_aload_n d_141_39 rfl) ?_
        refine m_Rb.n0 b_141 (x_iload d_141_40 rfl) ?_
        refine m_Rb.n0 b_141 (x_aloadr_n (x := x3) d_141_42 rfl) ?_
        obtain ⟨a121, e122, j123⟩ := bS j120
        subst e122
        obtain ⟨v124, e125, j126⟩ := bS j123
        refine m_Rb.tgetR b_141 d_141_43 rfl h118 e125 (fun o127 => ?_)
        obtain ⟨_, e128, j129⟩ := bS j126
        obtain ⟨_, g130⟩ := RT.cls h118 e128
        obtain ⟨v131, e132, j133⟩ := bS j129
        refine m_Rb.callI b_141 (y_cv d_141_46 rfl q_143 (m_isRecv_of rfl g130) (show m_takeI _ _ = some (_, [_, _, _], []) from m_takeI_of rfl rfl rfl (Nat.le_of_ble_eq_true rfl)) (by simp only [m_okf, List.all_cons, List.all_nil, Bool.and_true, Bool.and_self, m_okv_i, m_okv_l, m_okv_0, m_okv_n0, m_okv_t, RT.okn h118 hx0, RT.okv h118 hx0, RT.okn h118 hx1, RT.okv h118 hx1, RT.okv h118 hx2, RT.okn h118 hx3, RT.okv h118 hx3, RT.okv h118 o127]) (decide_eq_true (by simp only [lgs_r, lgs_a, lgs_i, lgs_l, lgs_0]; exact Nat.le_of_ble_eq_true rfl))) (T_c_EdgeHouse_isOf hx0 o127 h118 e132) f118 rfl (fun w134 h134 f134 k134 => ?_) (by decide) (by decide)
        cases hc135 : m_c1 .eq v131 with
        | true =>
          have j136 := cT hc135 j133
          refine m_Rb.n0 b_141 (x_ift d_141_49 rfl hc135) ?_
          exact m_Rb.pick [0, 1, 2, 3, 4] rfl (T_c_EdgeHouse_isRefused_54 ih hx0 hx1 hx2 hx3 h134 f134 j136)
        | false =>
          have j136 := cF hc135 j133
          refine m_Rb.n0 b_141 (x_iff d_141_49 rfl hc135) ?_
          refine m_Rb.n0 b_141 (x_iconst (z := 1) d_141_52 (by decide)) ?_
          cases j136
          exact m_Rb.ret b_141 (m_rt_ir d_141_53 rfl m_nb1) ⟨rfl, h134, f134⟩
def D_c_EdgeHouse_isRefused (F : Nat) (a0 : Nat) (p0 : Option Nat) (p1 : Option Nat) (p2 : Option Nat) (T0 : tT) : Option (Int32) := (p2).bind fun a1 => (tgi T0 a1 9 13).bind fun v4 => (p1).bind fun a7 => (tgi T0 a7 10 9).bind fun v10 => cond (m_c2 .ge v4 v10) ((tgi T0 a1 9 13).bind fun v15 => D_c_EdgeHouse_isRefused_21 F F a0 p0 (some a7) (some a1) (v15 + (1 : Int32)) T0) (some (1 : Int32))
theorem T_c_EdgeHouse_isRefused {l : Launch} {w : List mM} {F : Nat} {a0 : Nat} {p0 : Option Nat} {p1 : Option Nat} {p2 : Option Nat} {T0 : tT} {yz : Int32} (ha0 : okr T0.2.1 (some a0)) (hp0 : okr T0.2.1 p0) (hp1 : okr T0.2.1 p1) (hp2 : okr T0.2.1 p2) (h : RT T0 w) (h0 : D_c_EdgeHouse_isRefused F a0 p0 p1 p2 T0 = some yz) : m_Rb l M_141 (m_ent M_141 [.ref a0, rv p0, rv p1, rv p2] w) (fun v w' => v = some (.int yz) ∧ RT T0 w' ∧ m_Fm w w') T0 T0 5 500 := by
  rw [show m_ent M_141 [.ref a0, rv p0, rv p1, rv p2] w = (0, [(0, .ref a0), (1, rv p0), (2, rv p1), (3, rv p2)], [], w) from by first | rfl | (simp only [m_ent, lv_args_r, lv_args_a, lv_args_i, lv_args_l, lv_args_0]; done) | (simp only [m_ent, lv_args_r, lv_args_a, lv_args_i, lv_args_l, lv_args_0]; rfl)]
  generalize hw0 : w = w0 at h ⊢
  have hF : m_Fm w0 w0 := m_Fm.refl
  rw [D_c_EdgeHouse_isRefused] at h0
  refine m_Rb.n0 b_141 (x_aloadr_n (x := p2) d_141_0 rfl) ?_
  obtain ⟨a1, e2, j3⟩ := bS h0
  subst e2
  obtain ⟨v4, e5, j6⟩ := bS j3
  refine m_Rb.tgetI b_141 d_141_1 rfl h e5 ?_
  refine m_Rb.n0 b_141 (x_aloadr_n (x := p1) d_141_4 rfl) ?_
  obtain ⟨a7, e8, j9⟩ := bS j6
  subst e8
  obtain ⟨v10, e11, j12⟩ := bS j9
  refine m_Rb.tgetI b_141 d_141_5 rfl h e11 ?_
  cases hc13 : m_c2 .ge v4 v10 with
  | true =>
    have j14 := cT hc13 j12
    refine m_Rb.n0 b_141 (x_ict d_141_8 rfl hc13) ?_
    refine m_Rb.n0 b_141 (x_aload_n d_141_13 rfl) ?_
    obtain ⟨v15, e16, j17⟩ := bS j14
    refine m_Rb.tgetI b_141 d_141_14 rfl h e16 ?_
    refine m_Rb.n0 b_141 (x_iconst (z := 1) d_141_17 (by decide)) ?_
    refine m_Rb.n0 b_141 (x_iadd d_141_18 rfl) ?_
    refine m_Rb.n0 b_141 (x_istore d_141_19 rfl (show m_put1 _ _ _ = [(4, _), (0, _), (1, _), (2, _), (3, _)] from rfl)) ?_
    exact m_Rb.pick [1, 2, 3, 4, 0] rfl (T_c_EdgeHouse_isRefused_21 F ha0 hp0 hp1 hp2 h hF j17)
  | false =>
    have j14 := cF hc13 j12
    refine m_Rb.n0 b_141 (x_icf d_141_8 rfl hc13) ?_
    refine m_Rb.n0 b_141 (x_iconst (z := 1) d_141_11 (by decide)) ?_
    cases j14
    exact m_Rb.ret b_141 (m_rt_ir d_141_12 rfl m_nb1) ⟨rfl, h, hF⟩
