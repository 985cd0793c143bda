/-! The reference's methods as guarded functions. Written by wip/tool/dec.py. -/
theorem q_245 : m_mt[245]? = some M_245 := by rfl
theorem q_248 : m_mt[248]? = some M_248 := by rfl
theorem q_247 : m_mt[247]? = some M_247 := by rfl
theorem q_251 : m_mt[251]? = some M_251 := by rfl
theorem q_254 : m_mt[254]? = some M_254 := by rfl
theorem q_250 : m_mt[250]? = some M_250 := by rfl
theorem q_249 : m_mt[249]? = some M_249 := by rfl
theorem q_255 : m_mt[255]? = some M_255 := by rfl
theorem q_253 : m_mt[253]? = some M_253 := by rfl
theorem q_267 : m_mt[267]? = some M_267 := by rfl
theorem b_245 : m_bOk M_245 := (m_mt_ok M_245 (List.mem_of_getElem? q_245)).body
theorem b_248 : m_bOk M_248 := (m_mt_ok M_248 (List.mem_of_getElem? q_248)).body
theorem b_247 : m_bOk M_247 := (m_mt_ok M_247 (List.mem_of_getElem? q_247)).body
theorem b_251 : m_bOk M_251 := (m_mt_ok M_251 (List.mem_of_getElem? q_251)).body
theorem b_254 : m_bOk M_254 := (m_mt_ok M_254 (List.mem_of_getElem? q_254)).body
theorem b_250 : m_bOk M_250 := (m_mt_ok M_250 (List.mem_of_getElem? q_250)).body
theorem b_249 : m_bOk M_249 := (m_mt_ok M_249 (List.mem_of_getElem? q_249)).body
theorem b_255 : m_bOk M_255 := (m_mt_ok M_255 (List.mem_of_getElem? q_255)).body
theorem b_253 : m_bOk M_253 := (m_mt_ok M_253 (List.mem_of_getElem? q_253)).body
theorem b_267 : m_bOk M_267 := (m_mt_ok M_267 (List.mem_of_getElem? q_267)).body
theorem d_245_0 : m_dn M_245 0 (.aload_n 0) 1 1 := by decide +kernel
theorem d_245_1 : m_dn M_245 1 (.getfield 163) 3 4 := by decide +kernel
theorem d_245_11 : m_dn M_245 11 (.aload_n 0) 1 12 := by decide +kernel
theorem d_245_12 : m_dn M_245 12 (.getfield 7) 3 15 := by decide +kernel
theorem d_245_15 : m_dn M_245 15 (.aload_n 0) 1 16 := by decide +kernel
theorem d_245_16 : m_dn M_245 16 (.getfield 163) 3 19 := by decide +kernel
theorem d_245_19 : m_dn M_245 19 (.iaload) 1 20 := by decide +kernel
theorem d_245_20 : m_dn M_245 20 (.goto 4) 3 23 := by decide +kernel
theorem d_245_23 : m_dn M_245 23 (.iconst (-1)) 1 24 := by decide +kernel
theorem d_245_24 : m_dn M_245 24 (.ireturn) 1 25 := by decide +kernel
theorem d_245_4 : m_dn M_245 4 (.aload_n 0) 1 5 := by decide +kernel
theorem d_245_5 : m_dn M_245 5 (.getfield 158) 3 8 := by decide +kernel
theorem d_245_8 : m_dn M_245 8 (.if_icmp .ge 15) 3 11 := by decide +kernel
theorem d_247_0 : m_dn M_247 0 (.aload_n 0) 1 1 := by decide +kernel
theorem d_247_1 : m_dn M_247 1 (.getfield 166) 3 4 := by decide +kernel
theorem d_247_10 : m_dn M_247 10 (.invokevirtual 173) 3 13 := by decide +kernel
theorem d_247_13 : m_dn M_247 13 (.iload_n 1) 1 14 := by decide +kernel
theorem d_247_14 : m_dn M_247 14 (.if_icmp .eq 12) 3 17 := by decide +kernel
theorem d_247_17 : m_dn M_247 17 (.aload_n 0) 1 18 := by decide +kernel
theorem d_247_18 : m_dn M_247 18 (.aload_n 0) 1 19 := by decide +kernel
theorem d_247_19 : m_dn M_247 19 (.getfield 163) 3 22 := by decide +kernel
theorem d_247_22 : m_dn M_247 22 (.invokevirtual 177) 3 25 := by decide +kernel
theorem d_247_25 : m_dn M_247 25 (.ireturn) 1 26 := by decide +kernel
theorem d_247_26 : m_dn M_247 26 (.aload_n 0) 1 27 := by decide +kernel
theorem d_247_27 : m_dn M_247 27 (.dup) 1 28 := by decide +kernel
theorem d_247_28 : m_dn M_247 28 (.getfield 163) 3 31 := by decide +kernel
theorem d_247_31 : m_dn M_247 31 (.iconst 1) 1 32 := by decide +kernel
theorem d_247_32 : m_dn M_247 32 (.iadd) 1 33 := by decide +kernel
theorem d_247_33 : m_dn M_247 33 (.putfield 163) 3 36 := by decide +kernel
theorem d_247_36 : m_dn M_247 36 (.iconst 1) 1 37 := by decide +kernel
theorem d_247_37 : m_dn M_247 37 (.ireturn) 1 38 := by decide +kernel
theorem d_247_4 : m_dn M_247 4 (.ifCond .eq 5) 3 7 := by decide +kernel
theorem d_247_7 : m_dn M_247 7 (.iconst 0) 1 8 := by decide +kernel
theorem d_247_8 : m_dn M_247 8 (.ireturn) 1 9 := by decide +kernel
theorem d_247_9 : m_dn M_247 9 (.aload_n 0) 1 10 := by decide +kernel
theorem d_248_0 : m_dn M_248 0 (.aload_n 0) 1 1 := by decide +kernel
theorem d_248_1 : m_dn M_248 1 (.getfield 166) 3 4 := by decide +kernel
theorem d_248_12 : m_dn M_248 12 (.aload_n 0) 1 13 := by decide +kernel
theorem d_248_13 : m_dn M_248 13 (.iload_n 1) 1 14 := by decide +kernel
theorem d_248_14 : m_dn M_248 14 (.putfield 170) 3 17 := by decide +kernel
theorem d_248_17 : m_dn M_248 17 (.iconst 0) 1 18 := by decide +kernel
theorem d_248_18 : m_dn M_248 18 (.ireturn) 1 19 := by decide +kernel
theorem d_248_4 : m_dn M_248 4 (.ifCond .ne 13) 3 7 := by decide +kernel
theorem d_248_7 : m_dn M_248 7 (.aload_n 0) 1 8 := by decide +kernel
theorem d_248_8 : m_dn M_248 8 (.iconst 1) 1 9 := by decide +kernel
theorem d_248_9 : m_dn M_248 9 (.putfield 166) 3 12 := by decide +kernel
theorem d_249_0 : m_dn M_249 0 (.aload_n 0) 1 1 := by decide +kernel
theorem d_249_1 : m_dn M_249 1 (.bipush 32) 2 3 := by decide +kernel
theorem d_249_10 : m_dn M_249 10 (.invokevirtual 190) 3 13 := by decide +kernel
theorem d_249_13 : m_dn M_249 13 (.pop) 1 14 := by decide +kernel
theorem d_249_14 : m_dn M_249 14 (.aload_n 0) 1 15 := by decide +kernel
theorem d_249_15 : m_dn M_249 15 (.aload_n 0) 1 16 := by decide +kernel
theorem d_249_16 : m_dn M_249 16 (.bipush 31) 2 18 := by decide +kernel
theorem d_249_18 : m_dn M_249 18 (.invokevirtual 196) 3 21 := by decide +kernel
theorem d_249_21 : m_dn M_249 21 (.putfield 200) 3 24 := by decide +kernel
theorem d_249_24 : m_dn M_249 24 (.aload_n 0) 1 25 := by decide +kernel
theorem d_249_25 : m_dn M_249 25 (.iconst 0) 1 26 := by decide +kernel
theorem d_249_26 : m_dn M_249 26 (.putfield 203) 3 29 := by decide +kernel
theorem d_249_29 : m_dn M_249 29 (.aload_n 0) 1 30 := by decide +kernel
theorem d_249_3 : m_dn M_249 3 (.invokevirtual 190) 3 6 := by decide +kernel
theorem d_249_30 : m_dn M_249 30 (.getfield 166) 3 33 := by decide +kernel
theorem d_249_33 : m_dn M_249 33 (.ifCond .ne 35) 3 36 := by decide +kernel
theorem d_249_36 : m_dn M_249 36 (.iload_n 1) 1 37 := by decide +kernel
theorem d_249_37 : m_dn M_249 37 (.ifCond .eq 31) 3 40 := by decide +kernel
theorem d_249_40 : m_dn M_249 40 (.aload_n 0) 1 41 := by decide +kernel
theorem d_249_41 : m_dn M_249 41 (.invokevirtual 173) 3 44 := by decide +kernel
theorem d_249_44 : m_dn M_249 44 (.bipush 47) 2 46 := by decide +kernel
theorem d_249_46 : m_dn M_249 46 (.if_icmp .ne 22) 3 49 := by decide +kernel
theorem d_249_49 : m_dn M_249 49 (.aload_n 0) 1 50 := by decide +kernel
theorem d_249_50 : m_dn M_249 50 (.dup) 1 51 := by decide +kernel
theorem d_249_51 : m_dn M_249 51 (.getfield 163) 3 54 := by decide +kernel
theorem d_249_54 : m_dn M_249 54 (.iconst 1) 1 55 := by decide +kernel
theorem d_249_55 : m_dn M_249 55 (.iadd) 1 56 := by decide +kernel
theorem d_249_56 : m_dn M_249 56 (.putfield 163) 3 59 := by decide +kernel
theorem d_249_59 : m_dn M_249 59 (.aload_n 0) 1 60 := by decide +kernel
theorem d_249_6 : m_dn M_249 6 (.pop) 1 7 := by decide +kernel
theorem d_249_60 : m_dn M_249 60 (.aload_n 0) 1 61 := by decide +kernel
theorem d_249_61 : m_dn M_249 61 (.iconst 3) 1 62 := by decide +kernel
theorem d_249_62 : m_dn M_249 62 (.invokevirtual 196) 3 65 := by decide +kernel
theorem d_249_65 : m_dn M_249 65 (.putfield 203) 3 68 := by decide +kernel
theorem d_249_68 : m_dn M_249 68 (.aload_n 0) 1 69 := by decide +kernel
theorem d_249_69 : m_dn M_249 69 (.bipush 10) 2 71 := by decide +kernel
theorem d_249_7 : m_dn M_249 7 (.aload_n 0) 1 8 := by decide +kernel
theorem d_249_71 : m_dn M_249 71 (.invokevirtual 190) 3 74 := by decide +kernel
theorem d_249_74 : m_dn M_249 74 (.pop) 1 75 := by decide +kernel
theorem d_249_75 : m_dn M_249 75 (.return_) 1 76 := by decide +kernel
theorem d_249_8 : m_dn M_249 8 (.bipush 47) 2 10 := by decide +kernel
theorem d_250_0 : m_dn M_250 0 (.aload_n 0) 1 1 := by decide +kernel
theorem d_250_1 : m_dn M_250 1 (.getfield 166) 3 4 := by decide +kernel
theorem d_250_10 : m_dn M_250 10 (.getfield 163) 3 13 := by decide +kernel
theorem d_250_101 : m_dn M_250 101 (.iload_n 3) 1 102 := by decide +kernel
theorem d_250_102 : m_dn M_250 102 (.ireturn) 1 103 := by decide +kernel
theorem d_250_13 : m_dn M_250 13 (.istore_n 2) 1 14 := by decide +kernel
theorem d_250_14 : m_dn M_250 14 (.iconst 0) 1 15 := by decide +kernel
theorem d_250_15 : m_dn M_250 15 (.istore_n 3) 1 16 := by decide +kernel
theorem d_250_16 : m_dn M_250 16 (.aload_n 0) 1 17 := by decide +kernel
theorem d_250_17 : m_dn M_250 17 (.invokevirtual 173) 3 20 := by decide +kernel
theorem d_250_20 : m_dn M_250 20 (.invokestatic 193) 3 23 := by decide +kernel
theorem d_250_23 : m_dn M_250 23 (.ifCond .eq 39) 3 26 := by decide +kernel
theorem d_250_26 : m_dn M_250 26 (.aload_n 0) 1 27 := by decide +kernel
theorem d_250_27 : m_dn M_250 27 (.getfield 163) 3 30 := by decide +kernel
theorem d_250_30 : m_dn M_250 30 (.iload_n 2) 1 31 := by decide +kernel
theorem d_250_31 : m_dn M_250 31 (.isub) 1 32 := by decide +kernel
theorem d_250_32 : m_dn M_250 32 (.iconst 5) 1 33 := by decide +kernel
theorem d_250_33 : m_dn M_250 33 (.if_icmp .ge 29) 3 36 := by decide +kernel
theorem d_250_36 : m_dn M_250 36 (.bipush 10) 2 38 := by decide +kernel
theorem d_250_38 : m_dn M_250 38 (.iload_n 3) 1 39 := by decide +kernel
theorem d_250_39 : m_dn M_250 39 (.imul) 1 40 := by decide +kernel
theorem d_250_4 : m_dn M_250 4 (.ifCond .eq 5) 3 7 := by decide +kernel
theorem d_250_40 : m_dn M_250 40 (.aload_n 0) 1 41 := by decide +kernel
theorem d_250_41 : m_dn M_250 41 (.invokevirtual 173) 3 44 := by decide +kernel
theorem d_250_44 : m_dn M_250 44 (.iadd) 1 45 := by decide +kernel
theorem d_250_45 : m_dn M_250 45 (.bipush 48) 2 47 := by decide +kernel
theorem d_250_47 : m_dn M_250 47 (.isub) 1 48 := by decide +kernel
theorem d_250_48 : m_dn M_250 48 (.istore_n 3) 1 49 := by decide +kernel
theorem d_250_49 : m_dn M_250 49 (.aload_n 0) 1 50 := by decide +kernel
theorem d_250_50 : m_dn M_250 50 (.dup) 1 51 := by decide +kernel
theorem d_250_51 : m_dn M_250 51 (.getfield 163) 3 54 := by decide +kernel
theorem d_250_54 : m_dn M_250 54 (.iconst 1) 1 55 := by decide +kernel
theorem d_250_55 : m_dn M_250 55 (.iadd) 1 56 := by decide +kernel
theorem d_250_56 : m_dn M_250 56 (.putfield 163) 3 59 := by decide +kernel
theorem d_250_59 : m_dn M_250 59 (.goto (-43)) 3 62 := by decide +kernel
theorem d_250_62 : m_dn M_250 62 (.aload_n 0) 1 63 := by decide +kernel
theorem d_250_63 : m_dn M_250 63 (.getfield 163) 3 66 := by decide +kernel
theorem d_250_66 : m_dn M_250 66 (.iload_n 2) 1 67 := by decide +kernel
theorem d_250_67 : m_dn M_250 67 (.if_icmp .ne 12) 3 70 := by decide +kernel
theorem d_250_7 : m_dn M_250 7 (.iconst (-1)) 1 8 := by decide +kernel
theorem d_250_70 : m_dn M_250 70 (.aload_n 0) 1 71 := by decide +kernel
theorem d_250_71 : m_dn M_250 71 (.aload_n 0) 1 72 := by decide +kernel
theorem d_250_72 : m_dn M_250 72 (.getfield 163) 3 75 := by decide +kernel
theorem d_250_75 : m_dn M_250 75 (.invokevirtual 177) 3 78 := by decide +kernel
theorem d_250_78 : m_dn M_250 78 (.pop) 1 79 := by decide +kernel
theorem d_250_79 : m_dn M_250 79 (.iload_n 3) 1 80 := by decide +kernel
theorem d_250_8 : m_dn M_250 8 (.ireturn) 1 9 := by decide +kernel
theorem d_250_80 : m_dn M_250 80 (.iload_n 1) 1 81 := by decide +kernel
theorem d_250_81 : m_dn M_250 81 (.if_icmp .le 9) 3 84 := by decide +kernel
theorem d_250_84 : m_dn M_250 84 (.aload_n 0) 1 85 := by decide +kernel
theorem d_250_85 : m_dn M_250 85 (.iload_n 2) 1 86 := by decide +kernel
theorem d_250_86 : m_dn M_250 86 (.invokevirtual 177) 3 89 := by decide +kernel
theorem d_250_89 : m_dn M_250 89 (.pop) 1 90 := by decide +kernel
theorem d_250_9 : m_dn M_250 9 (.aload_n 0) 1 10 := by decide +kernel
theorem d_250_90 : m_dn M_250 90 (.aload_n 0) 1 91 := by decide +kernel
theorem d_250_91 : m_dn M_250 91 (.getfield 166) 3 94 := by decide +kernel
theorem d_250_94 : m_dn M_250 94 (.ifCond .eq 7) 3 97 := by decide +kernel
theorem d_250_97 : m_dn M_250 97 (.iconst (-1)) 1 98 := by decide +kernel
theorem d_250_98 : m_dn M_250 98 (.goto 4) 3 101 := by decide +kernel
theorem d_251_0 : m_dn M_251 0 (.iload_n 0) 1 1 := by decide +kernel
theorem d_251_1 : m_dn M_251 1 (.bipush 48) 2 3 := by decide +kernel
theorem d_251_12 : m_dn M_251 12 (.iconst 1) 1 13 := by decide +kernel
theorem d_251_13 : m_dn M_251 13 (.goto 4) 3 16 := by decide +kernel
theorem d_251_16 : m_dn M_251 16 (.iconst 0) 1 17 := by decide +kernel
theorem d_251_17 : m_dn M_251 17 (.ireturn) 1 18 := by decide +kernel
theorem d_251_3 : m_dn M_251 3 (.if_icmp .lt 13) 3 6 := by decide +kernel
theorem d_251_6 : m_dn M_251 6 (.iload_n 0) 1 7 := by decide +kernel
theorem d_251_7 : m_dn M_251 7 (.bipush 57) 2 9 := by decide +kernel
theorem d_251_9 : m_dn M_251 9 (.if_icmp .gt 7) 3 12 := by decide +kernel
theorem d_253_0 : m_dn M_253 0 (.aload_n 0) 1 1 := by decide +kernel
theorem d_253_1 : m_dn M_253 1 (.getfield 163) 3 4 := by decide +kernel
theorem d_253_101 : m_dn M_253 101 (.iload_n 2) 1 102 := by decide +kernel
theorem d_253_102 : m_dn M_253 102 (.iaload) 1 103 := by decide +kernel
theorem d_253_103 : m_dn M_253 103 (.iload_n 1) 1 104 := by decide +kernel
theorem d_253_104 : m_dn M_253 104 (.aload_n 0) 1 105 := by decide +kernel
theorem d_253_105 : m_dn M_253 105 (.getfield 163) 3 108 := by decide +kernel
theorem d_253_108 : m_dn M_253 108 (.invokevirtual 212) 3 111 := by decide +kernel
theorem d_253_111 : m_dn M_253 111 (.ifCond .eq 9) 3 114 := by decide +kernel
theorem d_253_114 : m_dn M_253 114 (.aload_n 0) 1 115 := by decide +kernel
theorem d_253_115 : m_dn M_253 115 (.iload_n 1) 1 116 := by decide +kernel
theorem d_253_116 : m_dn M_253 116 (.invokevirtual 177) 3 119 := by decide +kernel
theorem d_253_119 : m_dn M_253 119 (.ireturn) 1 120 := by decide +kernel
theorem d_253_12 : m_dn M_253 12 (.ifCond .eq 16) 3 15 := by decide +kernel
theorem d_253_120 : m_dn M_253 120 (.iinc 2 1) 3 123 := by decide +kernel
theorem d_253_123 : m_dn M_253 123 (.goto (-41)) 3 126 := by decide +kernel
theorem d_253_126 : m_dn M_253 126 (.aload_n 0) 1 127 := by decide +kernel
theorem d_253_127 : m_dn M_253 127 (.getfield 23) 3 130 := by decide +kernel
theorem d_253_130 : m_dn M_253 130 (.aload_n 0) 1 131 := by decide +kernel
theorem d_253_131 : m_dn M_253 131 (.getfield 209) 3 134 := by decide +kernel
theorem d_253_134 : m_dn M_253 134 (.iload_n 1) 1 135 := by decide +kernel
theorem d_253_135 : m_dn M_253 135 (.iastore) 1 136 := by decide +kernel
theorem d_253_136 : m_dn M_253 136 (.aload_n 0) 1 137 := by decide +kernel
theorem d_253_137 : m_dn M_253 137 (.getfield 26) 3 140 := by decide +kernel
theorem d_253_140 : m_dn M_253 140 (.aload_n 0) 1 141 := by decide +kernel
theorem d_253_141 : m_dn M_253 141 (.getfield 209) 3 144 := by decide +kernel
theorem d_253_144 : m_dn M_253 144 (.aload_n 0) 1 145 := by decide +kernel
theorem d_253_145 : m_dn M_253 145 (.getfield 163) 3 148 := by decide +kernel
theorem d_253_148 : m_dn M_253 148 (.iastore) 1 149 := by decide +kernel
theorem d_253_149 : m_dn M_253 149 (.aload_n 0) 1 150 := by decide +kernel
theorem d_253_15 : m_dn M_253 15 (.aload_n 0) 1 16 := by decide +kernel
theorem d_253_150 : m_dn M_253 150 (.dup) 1 151 := by decide +kernel
theorem d_253_151 : m_dn M_253 151 (.getfield 209) 3 154 := by decide +kernel
theorem d_253_154 : m_dn M_253 154 (.iconst 1) 1 155 := by decide +kernel
theorem d_253_155 : m_dn M_253 155 (.iadd) 1 156 := by decide +kernel
theorem d_253_156 : m_dn M_253 156 (.putfield 209) 3 159 := by decide +kernel
theorem d_253_159 : m_dn M_253 159 (.aload_n 0) 1 160 := by decide +kernel
theorem d_253_16 : m_dn M_253 16 (.dup) 1 17 := by decide +kernel
theorem d_253_160 : m_dn M_253 160 (.dup) 1 161 := by decide +kernel
theorem d_253_161 : m_dn M_253 161 (.getfield 163) 3 164 := by decide +kernel
theorem d_253_164 : m_dn M_253 164 (.iconst 1) 1 165 := by decide +kernel
theorem d_253_165 : m_dn M_253 165 (.iadd) 1 166 := by decide +kernel
theorem d_253_166 : m_dn M_253 166 (.putfield 163) 3 169 := by decide +kernel
theorem d_253_169 : m_dn M_253 169 (.aload_n 0) 1 170 := by decide +kernel
theorem d_253_17 : m_dn M_253 17 (.getfield 163) 3 20 := by decide +kernel
theorem d_253_170 : m_dn M_253 170 (.invokevirtual 173) 3 173 := by decide +kernel
theorem d_253_173 : m_dn M_253 173 (.bipush 32) 2 175 := by decide +kernel
theorem d_253_175 : m_dn M_253 175 (.if_icmp .ne 13) 3 178 := by decide +kernel
theorem d_253_178 : m_dn M_253 178 (.aload_n 0) 1 179 := by decide +kernel
theorem d_253_179 : m_dn M_253 179 (.dup) 1 180 := by decide +kernel
theorem d_253_180 : m_dn M_253 180 (.getfield 163) 3 183 := by decide +kernel
theorem d_253_183 : m_dn M_253 183 (.iconst 1) 1 184 := by decide +kernel
theorem d_253_184 : m_dn M_253 184 (.iadd) 1 185 := by decide +kernel
theorem d_253_185 : m_dn M_253 185 (.putfield 163) 3 188 := by decide +kernel
theorem d_253_188 : m_dn M_253 188 (.iconst 1) 1 189 := by decide +kernel
theorem d_253_189 : m_dn M_253 189 (.ireturn) 1 190 := by decide +kernel
theorem d_253_20 : m_dn M_253 20 (.iconst 1) 1 21 := by decide +kernel
theorem d_253_21 : m_dn M_253 21 (.iadd) 1 22 := by decide +kernel
theorem d_253_22 : m_dn M_253 22 (.putfield 163) 3 25 := by decide +kernel
theorem d_253_25 : m_dn M_253 25 (.goto (-20)) 3 28 := by decide +kernel
theorem d_253_28 : m_dn M_253 28 (.aload_n 0) 1 29 := by decide +kernel
theorem d_253_29 : m_dn M_253 29 (.getfield 163) 3 32 := by decide +kernel
theorem d_253_32 : m_dn M_253 32 (.iload_n 1) 1 33 := by decide +kernel
theorem d_253_33 : m_dn M_253 33 (.if_icmp .ne 12) 3 36 := by decide +kernel
theorem d_253_36 : m_dn M_253 36 (.aload_n 0) 1 37 := by decide +kernel
theorem d_253_37 : m_dn M_253 37 (.aload_n 0) 1 38 := by decide +kernel
theorem d_253_38 : m_dn M_253 38 (.getfield 163) 3 41 := by decide +kernel
theorem d_253_4 : m_dn M_253 4 (.istore_n 1) 1 5 := by decide +kernel
theorem d_253_41 : m_dn M_253 41 (.invokevirtual 177) 3 44 := by decide +kernel
theorem d_253_44 : m_dn M_253 44 (.ireturn) 1 45 := by decide +kernel
theorem d_253_45 : m_dn M_253 45 (.aload_n 0) 1 46 := by decide +kernel
theorem d_253_46 : m_dn M_253 46 (.getfield 163) 3 49 := by decide +kernel
theorem d_253_49 : m_dn M_253 49 (.iload_n 1) 1 50 := by decide +kernel
theorem d_253_5 : m_dn M_253 5 (.aload_n 0) 1 6 := by decide +kernel
theorem d_253_50 : m_dn M_253 50 (.isub) 1 51 := by decide +kernel
theorem d_253_51 : m_dn M_253 51 (.bipush 20) 2 53 := by decide +kernel
theorem d_253_53 : m_dn M_253 53 (.if_icmp .le 9) 3 56 := by decide +kernel
theorem d_253_56 : m_dn M_253 56 (.aload_n 0) 1 57 := by decide +kernel
theorem d_253_57 : m_dn M_253 57 (.iload_n 1) 1 58 := by decide +kernel
theorem d_253_58 : m_dn M_253 58 (.invokevirtual 177) 3 61 := by decide +kernel
theorem d_253_6 : m_dn M_253 6 (.invokevirtual 173) 3 9 := by decide +kernel
theorem d_253_61 : m_dn M_253 61 (.ireturn) 1 62 := by decide +kernel
theorem d_253_62 : m_dn M_253 62 (.aload_n 0) 1 63 := by decide +kernel
theorem d_253_63 : m_dn M_253 63 (.invokevirtual 173) 3 66 := by decide +kernel
theorem d_253_66 : m_dn M_253 66 (.bipush 58) 2 68 := by decide +kernel
theorem d_253_68 : m_dn M_253 68 (.if_icmp .eq 12) 3 71 := by decide +kernel
theorem d_253_71 : m_dn M_253 71 (.aload_n 0) 1 72 := by decide +kernel
theorem d_253_72 : m_dn M_253 72 (.aload_n 0) 1 73 := by decide +kernel
theorem d_253_73 : m_dn M_253 73 (.getfield 163) 3 76 := by decide +kernel
theorem d_253_76 : m_dn M_253 76 (.invokevirtual 177) 3 79 := by decide +kernel
theorem d_253_79 : m_dn M_253 79 (.ireturn) 1 80 := by decide +kernel
theorem d_253_80 : m_dn M_253 80 (.iconst 0) 1 81 := by decide +kernel
theorem d_253_81 : m_dn M_253 81 (.istore_n 2) 1 82 := by decide +kernel
theorem d_253_82 : m_dn M_253 82 (.iload_n 2) 1 83 := by decide +kernel
theorem d_253_83 : m_dn M_253 83 (.aload_n 0) 1 84 := by decide +kernel
theorem d_253_84 : m_dn M_253 84 (.getfield 209) 3 87 := by decide +kernel
theorem d_253_87 : m_dn M_253 87 (.if_icmp .ge 39) 3 90 := by decide +kernel
theorem d_253_9 : m_dn M_253 9 (.invokestatic 206) 3 12 := by decide +kernel
theorem d_253_90 : m_dn M_253 90 (.aload_n 0) 1 91 := by decide +kernel
theorem d_253_91 : m_dn M_253 91 (.aload_n 0) 1 92 := by decide +kernel
theorem d_253_92 : m_dn M_253 92 (.getfield 23) 3 95 := by decide +kernel
theorem d_253_95 : m_dn M_253 95 (.iload_n 2) 1 96 := by decide +kernel
theorem d_253_96 : m_dn M_253 96 (.iaload) 1 97 := by decide +kernel
theorem d_253_97 : m_dn M_253 97 (.aload_n 0) 1 98 := by decide +kernel
theorem d_253_98 : m_dn M_253 98 (.getfield 26) 3 101 := by decide +kernel
theorem d_254_0 : m_dn M_254 0 (.iload_n 0) 1 1 := by decide +kernel
theorem d_254_1 : m_dn M_254 1 (.bipush 97) 2 3 := by decide +kernel
theorem d_254_12 : m_dn M_254 12 (.iload_n 0) 1 13 := by decide +kernel
theorem d_254_13 : m_dn M_254 13 (.bipush 45) 2 15 := by decide +kernel
theorem d_254_15 : m_dn M_254 15 (.if_icmp .ne 7) 3 18 := by decide +kernel
theorem d_254_18 : m_dn M_254 18 (.iconst 1) 1 19 := by decide +kernel
theorem d_254_19 : m_dn M_254 19 (.goto 4) 3 22 := by decide +kernel
theorem d_254_22 : m_dn M_254 22 (.iconst 0) 1 23 := by decide +kernel
theorem d_254_23 : m_dn M_254 23 (.ireturn) 1 24 := by decide +kernel
theorem d_254_3 : m_dn M_254 3 (.if_icmp .lt 9) 3 6 := by decide +kernel
theorem d_254_6 : m_dn M_254 6 (.iload_n 0) 1 7 := by decide +kernel
theorem d_254_7 : m_dn M_254 7 (.bipush 122) 2 9 := by decide +kernel
theorem d_254_9 : m_dn M_254 9 (.if_icmp .le 9) 3 12 := by decide +kernel
theorem d_255_0 : m_dn M_255 0 (.iload_n 2) 1 1 := by decide +kernel
theorem d_255_1 : m_dn M_255 1 (.iload_n 1) 1 2 := by decide +kernel
theorem d_255_10 : m_dn M_255 10 (.iconst 1) 1 11 := by decide +kernel
theorem d_255_11 : m_dn M_255 11 (.goto 4) 3 14 := by decide +kernel
theorem d_255_14 : m_dn M_255 14 (.iconst 0) 1 15 := by decide +kernel
theorem d_255_15 : m_dn M_255 15 (.istore 5) 2 17 := by decide +kernel
theorem d_255_17 : m_dn M_255 17 (.iconst 0) 1 18 := by decide +kernel
theorem d_255_18 : m_dn M_255 18 (.istore 6) 2 20 := by decide +kernel
theorem d_255_2 : m_dn M_255 2 (.isub) 1 3 := by decide +kernel
theorem d_255_20 : m_dn M_255 20 (.iload 5) 2 22 := by decide +kernel
theorem d_255_22 : m_dn M_255 22 (.ifCond .eq 45) 3 25 := by decide +kernel
theorem d_255_25 : m_dn M_255 25 (.iload 6) 2 27 := by decide +kernel
theorem d_255_27 : m_dn M_255 27 (.iload_n 2) 1 28 := by decide +kernel
theorem d_255_28 : m_dn M_255 28 (.iload_n 1) 1 29 := by decide +kernel
theorem d_255_29 : m_dn M_255 29 (.isub) 1 30 := by decide +kernel
theorem d_255_3 : m_dn M_255 3 (.iload 4) 2 5 := by decide +kernel
theorem d_255_30 : m_dn M_255 30 (.if_icmp .ge 37) 3 33 := by decide +kernel
theorem d_255_33 : m_dn M_255 33 (.aload_n 0) 1 34 := by decide +kernel
theorem d_255_34 : m_dn M_255 34 (.getfield 7) 3 37 := by decide +kernel
theorem d_255_37 : m_dn M_255 37 (.iload_n 1) 1 38 := by decide +kernel
theorem d_255_38 : m_dn M_255 38 (.iload 6) 2 40 := by decide +kernel
theorem d_255_40 : m_dn M_255 40 (.iadd) 1 41 := by decide +kernel
theorem d_255_41 : m_dn M_255 41 (.iaload) 1 42 := by decide +kernel
theorem d_255_42 : m_dn M_255 42 (.aload_n 0) 1 43 := by decide +kernel
theorem d_255_43 : m_dn M_255 43 (.getfield 7) 3 46 := by decide +kernel
theorem d_255_46 : m_dn M_255 46 (.iload_n 3) 1 47 := by decide +kernel
theorem d_255_47 : m_dn M_255 47 (.iload 6) 2 49 := by decide +kernel
theorem d_255_49 : m_dn M_255 49 (.iadd) 1 50 := by decide +kernel
theorem d_255_5 : m_dn M_255 5 (.iload_n 3) 1 6 := by decide +kernel
theorem d_255_50 : m_dn M_255 50 (.iaload) 1 51 := by decide +kernel
theorem d_255_51 : m_dn M_255 51 (.if_icmp .ne 7) 3 54 := by decide +kernel
theorem d_255_54 : m_dn M_255 54 (.iconst 1) 1 55 := by decide +kernel
theorem d_255_55 : m_dn M_255 55 (.goto 4) 3 58 := by decide +kernel
theorem d_255_58 : m_dn M_255 58 (.iconst 0) 1 59 := by decide +kernel
theorem d_255_59 : m_dn M_255 59 (.istore 5) 2 61 := by decide +kernel
theorem d_255_6 : m_dn M_255 6 (.isub) 1 7 := by decide +kernel
theorem d_255_61 : m_dn M_255 61 (.iinc 6 1) 3 64 := by decide +kernel
theorem d_255_64 : m_dn M_255 64 (.goto (-44)) 3 67 := by decide +kernel
theorem d_255_67 : m_dn M_255 67 (.iload 5) 2 69 := by decide +kernel
theorem d_255_69 : m_dn M_255 69 (.ireturn) 1 70 := by decide +kernel
theorem d_255_7 : m_dn M_255 7 (.if_icmp .ne 7) 3 10 := by decide +kernel
theorem d_267_0 : m_dn M_267 0 (.aload_n 0) 1 1 := by decide +kernel
theorem d_267_1 : m_dn M_267 1 (.invokevirtual 173) 3 4 := by decide +kernel
theorem d_267_10 : m_dn M_267 10 (.getfield 163) 3 13 := by decide +kernel
theorem d_267_13 : m_dn M_267 13 (.aload_n 0) 1 14 := by decide +kernel
theorem d_267_14 : m_dn M_267 14 (.getfield 158) 3 17 := by decide +kernel
theorem d_267_17 : m_dn M_267 17 (.if_icmp .ge 16) 3 20 := by decide +kernel
theorem d_267_20 : m_dn M_267 20 (.aload_n 0) 1 21 := by decide +kernel
theorem d_267_21 : m_dn M_267 21 (.dup) 1 22 := by decide +kernel
theorem d_267_22 : m_dn M_267 22 (.getfield 163) 3 25 := by decide +kernel
theorem d_267_25 : m_dn M_267 25 (.iconst 1) 1 26 := by decide +kernel
theorem d_267_26 : m_dn M_267 26 (.iadd) 1 27 := by decide +kernel
theorem d_267_27 : m_dn M_267 27 (.putfield 163) 3 30 := by decide +kernel
theorem d_267_30 : m_dn M_267 30 (.goto (-30)) 3 33 := by decide +kernel
theorem d_267_33 : m_dn M_267 33 (.return_) 1 34 := by decide +kernel
theorem d_267_4 : m_dn M_267 4 (.bipush 10) 2 6 := by decide +kernel
theorem d_267_6 : m_dn M_267 6 (.if_icmp .eq 27) 3 9 := by decide +kernel
theorem d_267_9 : m_dn M_267 9 (.aload_n 0) 1 10 := by decide +kernel
def D_m_see (F : Nat) (S : mS) : Option (Int32) := (cond (m_c2 .ge (S.1 4) (S.1 2)) (some ((-1) : Int32)) ((aget 0 300 S 584 (S.1 4)).bind fun v4 => some v4)).bind fun v6 => some v6
theorem T_m_see {l : Launch} {w : List mM} {F : Nat} {S : mS} {r : Int32} (h : m_RM S w) (h0 : D_m_see F S = some r) : m_Rs l M_245 (m_ent M_245 [.ref 583] w) (fun v w' => v = some (.int r) ∧ m_RM S w' ∧ m_Fq w w') 0 0 0 0 := by
  show m_Rs l M_245 (0, [(0, .ref 583)], [], w) _ 0 0 0 0
  generalize hw0 : w = w0 at h ⊢
  have hF : m_Fq w0 w0 := m_Fq.refl
  rw [D_m_see] at h0
  refine m_Rs.n0 b_245 (x_aload_n d_245_0 rfl) ?_
  refine m_Rs.n0 b_245 (x_getf d_245_1 rfl h.1 rfl) ?_
  refine m_Rs.n0 b_245 (x_aload_n d_245_4 rfl) ?_
  refine m_Rs.n0 b_245 (x_getf d_245_5 rfl h.1 rfl) ?_
  obtain ⟨v6, e2, h0⟩ := bS h0
  have kk1 : ∀ (xz : Int32) (w1 : List mM), xz = v6 → m_RM S w1 → m_Fq w0 w1 → m_Rs l M_245 (24, [(0, .ref 583)], [.int xz], w1) (fun v w' => v = some (.int r) ∧ m_RM S w' ∧ m_Fq w0 w') 0 0 0 0 := by
    intro xz w ez h hF
    rw [ez]
    exact m_Rs.ret b_245 (m_rt_ir d_245_24 rfl rfl) (rI h0 h hF)
  cases hc3 : m_c2 .ge (S.1 4) (S.1 2) with
  | true =>
    have e2 := cT hc3 e2
    refine m_Rs.n0 b_245 (x_ict d_245_8 rfl hc3) ?_
    refine m_Rs.n0 b_245 (x_iconst (z := (-1)) d_245_23 (by decide)) ?_
    exact kk1 _ _ (Option.some.inj e2) h hF
  | false =>
    have e2 := cF hc3 e2
    refine m_Rs.n0 b_245 (x_icf d_245_8 rfl hc3) ?_
    refine m_Rs.n0 b_245 (x_aload_n d_245_11 rfl) ?_
    refine m_Rs.n0 b_245 (x_getf d_245_12 rfl h.1 rfl) ?_
    refine m_Rs.n0 b_245 (x_aload_n d_245_15 rfl) ?_
    refine m_Rs.n0 b_245 (x_getf d_245_16 rfl h.1 rfl) ?_
    obtain ⟨v4, e5, e2⟩ := bS e2
    refine m_Rs.dget b_245 d_245_19 h 0 rfl e5 ?_
    refine m_Rs.n0 b_245 (x_goto d_245_20 rfl) ?_
    exact kk1 _ _ (Option.some.inj e2) h hF
def D_m_wrong (F : Nat) (a0 : Int32) (S : mS) : Option (Int32 × mS) := cond (m_c1 .ne (S.1 5)) (some ((0 : Int32), S)) ((fpub S 5 (1 : Int32)).bind fun S5 => (fput S5 6 a0).bind fun S7 => some ((0 : Int32), S7))
theorem T_m_wrong {l : Launch} {w : List mM} {F : Nat} {a0 : Int32} {S : mS} {r : Int32 × mS} (h : m_RM S w) (h0 : D_m_wrong F a0 S = some r) : m_Rs l M_248 (m_ent M_248 [.ref 583, .int a0] w) (fun v w' => v = some (.int r.1) ∧ m_RM r.2 w' ∧ m_Fq w w') 0 0 0 0 := by
  show m_Rs l M_248 (0, [(0, .ref 583), (1, .int a0)], [], w) _ 0 0 0 0
  generalize hw0 : w = w0 at h ⊢
  have hF : m_Fq w0 w0 := m_Fq.refl
  rw [D_m_wrong] at h0
  refine m_Rs.n0 b_248 (x_aload_n d_248_0 rfl) ?_
  refine m_Rs.n0 b_248 (x_getf d_248_1 rfl h.1 rfl) ?_
  cases hc4 : m_c1 .ne (S.1 5) with
  | true =>
    have h0 := cT hc4 h0
    refine m_Rs.n0 b_248 (x_ift d_248_4 rfl hc4) ?_
    refine m_Rs.n0 b_248 (x_iconst (z := 0) d_248_17 (by decide)) ?_
    exact m_Rs.ret b_248 (m_rt_ir d_248_18 rfl m_nb0) (rP h0 h hF)
  | false =>
    have h0 := cF hc4 h0
    refine m_Rs.n0 b_248 (x_iff d_248_4 rfl hc4) ?_
    refine m_Rs.n0 b_248 (x_aload_n d_248_7 rfl) ?_
    refine m_Rs.n0 b_248 (x_iconst (z := 1) d_248_8 (by decide)) ?_
    obtain ⟨S5, e6, h0⟩ := bS h0
    refine m_Rs.dfpub b_248 d_248_9 h hF e6 rfl rfl rfl rfl rfl (fun w1 h hF => ?_)
    refine m_Rs.n0 b_248 (x_aload_n d_248_12 rfl) ?_
    refine m_Rs.n0 b_248 (x_iload_n d_248_13 rfl) ?_
    obtain ⟨S7, e8, h0⟩ := bS h0
    refine m_Rs.dfput b_248 d_248_14 h hF e8 rfl rfl rfl rfl rfl rfl (fun w1 h hF => ?_)
    refine m_Rs.n0 b_248 (x_iconst (z := 0) d_248_17 (by decide)) ?_
    exact m_Rs.ret b_248 (m_rt_ir d_248_18 rfl m_nb0) (rP h0 h hF)
def D_m_expect (F : Nat) (a0 : Int32) (S : mS) : Option (Int32 × mS) := cond (m_c1 .eq (S.1 5)) ((D_m_see F S).bind fun v2 => cond (m_c2 .eq v2 a0) ((fput S 4 ((S.1 4) + (1 : Int32))).bind fun S5 => some ((1 : Int32), S5)) ((D_m_wrong F (S.1 4) S).bind fun q7 => (bret q7.1).bind fun v9 => some (v9, q7.2))) (some ((0 : Int32), S))
theorem T_m_expect {l : Launch} {w : List mM} {F : Nat} {a0 : Int32} {S : mS} {r : Int32 × mS} (h : m_RM S w) (h0 : D_m_expect F a0 S = some r) : m_Rs l M_247 (m_ent M_247 [.ref 583, .int a0] w) (fun v w' => v = some (.int r.1) ∧ m_RM r.2 w' ∧ m_Fq w w') 0 0 1 100 := by
  show m_Rs l M_247 (0, [(0, .ref 583), (1, .int a0)], [], w) _ 0 0 1 100
  generalize hw0 : w = w0 at h ⊢
  have hF : m_Fq w0 w0 := m_Fq.refl
  rw [D_m_expect] at h0
  refine m_Rs.n0 b_247 (x_aload_n d_247_0 rfl) ?_
  refine m_Rs.n0 b_247 (x_getf d_247_1 rfl h.1 rfl) ?_
  cases hc1 : m_c1 .eq (S.1 5) with
  | true =>
    have h0 := cT hc1 h0
    refine m_Rs.n0 b_247 (x_ift d_247_4 rfl hc1) ?_
    refine m_Rs.n0 b_247 (x_aload_n d_247_9 rfl) ?_
    obtain ⟨v2, e3, h0⟩ := bS h0
    refine m_Rs.callS b_247 (y_cv d_247_10 rfl q_245 (m_isRecv_of rfl h.1) (show m_takeI _ _ = some (_, [_], []) from rfl) (by simp only [m_okf, List.all_cons, List.all_nil, Bool.and_true, Bool.and_self, m_okv_i, m_okv_l, m_okv_0, m_okv_t, m_okv_at h.1]) rfl) (T_m_see h e3) hF rfl (fun w1 h hF => ?_) (by decide) (by decide)
    refine m_Rs.n0 b_247 (x_iload_n d_247_13 rfl) ?_
    cases hc4 : m_c2 .eq v2 a0 with
    | true =>
      have h0 := cT hc4 h0
      refine m_Rs.n0 b_247 (x_ict d_247_14 rfl hc4) ?_
      refine m_Rs.n0 b_247 (x_aload_n d_247_26 rfl) ?_
      refine m_Rs.n0 b_247 (x_dup d_247_27 rfl) ?_
      refine m_Rs.n0 b_247 (x_getf d_247_28 rfl h.1 rfl) ?_
      refine m_Rs.n0 b_247 (x_iconst (z := 1) d_247_31 (by decide)) ?_
      refine m_Rs.n0 b_247 (x_iadd d_247_32 rfl) ?_
      obtain ⟨S5, e6, h0⟩ := bS h0
      refine m_Rs.dfput b_247 d_247_33 h hF e6 rfl rfl rfl rfl rfl rfl (fun w1 h hF => ?_)
      refine m_Rs.n0 b_247 (x_iconst (z := 1) d_247_36 (by decide)) ?_
      exact m_Rs.ret b_247 (m_rt_ir d_247_37 rfl m_nb1) (rP h0 h hF)
    | false =>
      have h0 := cF hc4 h0
      refine m_Rs.n0 b_247 (x_icf d_247_14 rfl hc4) ?_
      refine m_Rs.n0 b_247 (x_aload_n d_247_17 rfl) ?_
      refine m_Rs.n0 b_247 (x_aload_n d_247_18 rfl) ?_
      refine m_Rs.n0 b_247 (x_getf d_247_19 rfl h.1 rfl) ?_
      obtain ⟨q7, e8, h0⟩ := bS h0
      refine m_Rs.callS b_247 (y_cv d_247_22 rfl q_248 (m_isRecv_of rfl h.1) (show m_takeI _ _ = some (_, [_, _], []) from rfl) (by simp only [m_okf, List.all_cons, List.all_nil, Bool.and_true, Bool.and_self, m_okv_i, m_okv_l, m_okv_0, m_okv_t, m_okv_at h.1]) rfl) (T_m_wrong h e8) hF rfl (fun w1 h hF => ?_) (by decide) (by decide)
      obtain ⟨v9, e10, h0⟩ := bS h0
      exact m_Rs.retb b_247 d_247_25 rfl e10 (rP h0 h hF)
  | false =>
    have h0 := cF hc1 h0
    refine m_Rs.n0 b_247 (x_iff d_247_4 rfl hc1) ?_
    refine m_Rs.n0 b_247 (x_iconst (z := 0) d_247_7 (by decide)) ?_
    exact m_Rs.ret b_247 (m_rt_ir d_247_8 rfl m_nb0) (rP h0 h hF)
def D_m_isDigit (F : Nat) (a0 : Int32) (S : mS) : Option (Int32) := (cond (m_c2 .lt a0 (48 : Int32)) (some (0 : Int32)) (cond (m_c2 .gt a0 (57 : Int32)) (some (0 : Int32)) (some (1 : Int32)))).bind fun v5 => (bret v5).bind fun v6 => some v6
theorem T_m_isDigit {l : Launch} {w : List mM} {F : Nat} {a0 : Int32} {S : mS} {r : Int32} (h : m_RM S w) (h0 : D_m_isDigit F a0 S = some r) : m_Rs l M_251 (m_ent M_251 [.int a0] w) (fun v w' => v = some (.int r) ∧ m_RM S w' ∧ m_Fq w w') 0 0 0 0 := by
  show m_Rs l M_251 (0, [(0, .int a0)], [], w) _ 0 0 0 0
  generalize hw0 : w = w0 at h ⊢
  have hF : m_Fq w0 w0 := m_Fq.refl
  rw [D_m_isDigit] at h0
  refine m_Rs.n0 b_251 (x_iload_n d_251_0 rfl) ?_
  refine m_Rs.n0 b_251 (x_bipush (z := 48) d_251_1 (by decide)) ?_
  obtain ⟨v5, e2, h0⟩ := bS h0
  have kk1 : ∀ (xz : Int32) (w1 : List mM), xz = v5 → m_RM S w1 → m_Fq w0 w1 → m_Rs l M_251 (17, [(0, .int a0)], [.int xz], w1) (fun v w' => v = some (.int r) ∧ m_RM S w' ∧ m_Fq w0 w') 0 0 0 0 := by
    intro xz w ez h hF
    rw [ez]
    obtain ⟨v6, e7, h0⟩ := bS h0
    exact m_Rs.retb b_251 d_251_17 rfl e7 (rI h0 h hF)
  cases hc3 : m_c2 .lt a0 (48 : Int32) with
  | true =>
    have e2 := cT hc3 e2
    refine m_Rs.n0 b_251 (x_ict d_251_3 rfl hc3) ?_
    refine m_Rs.n0 b_251 (x_iconst (z := 0) d_251_16 (by decide)) ?_
    exact kk1 _ _ (Option.some.inj e2) h hF
  | false =>
    have e2 := cF hc3 e2
    refine m_Rs.n0 b_251 (x_icf d_251_3 rfl hc3) ?_
    refine m_Rs.n0 b_251 (x_iload_n d_251_6 rfl) ?_
    refine m_Rs.n0 b_251 (x_bipush (z := 57) d_251_7 (by decide)) ?_
    cases hc4 : m_c2 .gt a0 (57 : Int32) with
    | true =>
      have e2 := cT hc4 e2
      refine m_Rs.n0 b_251 (x_ict d_251_9 rfl hc4) ?_
      refine m_Rs.n0 b_251 (x_iconst (z := 0) d_251_16 (by decide)) ?_
      exact kk1 _ _ (Option.some.inj e2) h hF
    | false =>
      have e2 := cF hc4 e2
      refine m_Rs.n0 b_251 (x_icf d_251_9 rfl hc4) ?_
      refine m_Rs.n0 b_251 (x_iconst (z := 1) d_251_12 (by decide)) ?_
      refine m_Rs.n0 b_251 (x_goto d_251_13 rfl) ?_
      exact kk1 _ _ (Option.some.inj e2) h hF
def D_m_isSmall (F : Nat) (a0 : Int32) (S : mS) : Option (Int32) := (cond (m_c2 .lt a0 (97 : Int32)) (cond (m_c2 .ne a0 (45 : Int32)) (some (0 : Int32)) (some (1 : Int32))) (cond (m_c2 .le a0 (122 : Int32)) (some (1 : Int32)) (cond (m_c2 .ne a0 (45 : Int32)) (some (0 : Int32)) (some (1 : Int32))))).bind fun v7 => (bret v7).bind fun v8 => some v8
theorem T_m_isSmall {l : Launch} {w : List mM} {F : Nat} {a0 : Int32} {S : mS} {r : Int32} (h : m_RM S w) (h0 : D_m_isSmall F a0 S = some r) : m_Rs l M_254 (m_ent M_254 [.int a0] w) (fun v w' => v = some (.int r) ∧ m_RM S w' ∧ m_Fq w w') 0 0 0 0 := by
  show m_Rs l M_254 (0, [(0, .int a0)], [], w) _ 0 0 0 0
  generalize hw0 : w = w0 at h ⊢
  have hF : m_Fq w0 w0 := m_Fq.refl
  rw [D_m_isSmall] at h0
  refine m_Rs.n0 b_254 (x_iload_n d_254_0 rfl) ?_
  refine m_Rs.n0 b_254 (x_bipush (z := 97) d_254_1 (by decide)) ?_
  obtain ⟨v7, e2, h0⟩ := bS h0
  have kk1 : ∀ (xz : Int32) (w1 : List mM), xz = v7 → m_RM S w1 → m_Fq w0 w1 → m_Rs l M_254 (23, [(0, .int a0)], [.int xz], w1) (fun v w' => v = some (.int r) ∧ m_RM S w' ∧ m_Fq w0 w') 0 0 0 0 := by
    intro xz w ez h hF
    rw [ez]
    obtain ⟨v8, e9, h0⟩ := bS h0
    exact m_Rs.retb b_254 d_254_23 rfl e9 (rI h0 h hF)
  cases hc3 : m_c2 .lt a0 (97 : Int32) with
  | true =>
    have e2 := cT hc3 e2
    refine m_Rs.n0 b_254 (x_ict d_254_3 rfl hc3) ?_
    refine m_Rs.n0 b_254 (x_iload_n d_254_12 rfl) ?_
    refine m_Rs.n0 b_254 (x_bipush (z := 45) d_254_13 (by decide)) ?_
    cases hc4 : m_c2 .ne a0 (45 : Int32) with
    | true =>
      have e2 := cT hc4 e2
      refine m_Rs.n0 b_254 (x_ict d_254_15 rfl hc4) ?_
      refine m_Rs.n0 b_254 (x_iconst (z := 0) d_254_22 (by decide)) ?_
      exact kk1 _ _ (Option.some.inj e2) h hF
    | false =>
      have e2 := cF hc4 e2
      refine m_Rs.n0 b_254 (x_icf d_254_15 rfl hc4) ?_
      refine m_Rs.n0 b_254 (x_iconst (z := 1) d_254_18 (by decide)) ?_
      refine m_Rs.n0 b_254 (x_goto d_254_19 rfl) ?_
      exact kk1 _ _ (Option.some.inj e2) h hF
  | false =>
    have e2 := cF hc3 e2
    refine m_Rs.n0 b_254 (x_icf d_254_3 rfl hc3) ?_
    refine m_Rs.n0 b_254 (x_iload_n d_254_6 rfl) ?_
    refine m_Rs.n0 b_254 (x_bipush (z := 122) d_254_7 (by decide)) ?_
    cases hc5 : m_c2 .le a0 (122 : Int32) with
    | true =>
      have e2 := cT hc5 e2
      refine m_Rs.n0 b_254 (x_ict d_254_9 rfl hc5) ?_
      refine m_Rs.n0 b_254 (x_iconst (z := 1) d_254_18 (by decide)) ?_
      refine m_Rs.n0 b_254 (x_goto d_254_19 rfl) ?_
      exact kk1 _ _ (Option.some.inj e2) h hF
    | false =>
      have e2 := cF hc5 e2
      refine m_Rs.n0 b_254 (x_icf d_254_9 rfl hc5) ?_
      refine m_Rs.n0 b_254 (x_iload_n d_254_12 rfl) ?_
      refine m_Rs.n0 b_254 (x_bipush (z := 45) d_254_13 (by decide)) ?_
      cases hc6 : m_c2 .ne a0 (45 : Int32) with
      | true =>
        have e2 := cT hc6 e2
        refine m_Rs.n0 b_254 (x_ict d_254_15 rfl hc6) ?_
        refine m_Rs.n0 b_254 (x_iconst (z := 0) d_254_22 (by decide)) ?_
        exact kk1 _ _ (Option.some.inj e2) h hF
      | false =>
        have e2 := cF hc6 e2
        refine m_Rs.n0 b_254 (x_icf d_254_15 rfl hc6) ?_
        refine m_Rs.n0 b_254 (x_iconst (z := 1) d_254_18 (by decide)) ?_
        refine m_Rs.n0 b_254 (x_goto d_254_19 rfl) ?_
        exact kk1 _ _ (Option.some.inj e2) h hF
def D_m_number_90 (F : Nat) (x3 : Int32) (S : mS) : Option (Int32 × mS) := (cond (m_c1 .eq (S.1 5)) (some x3) (some ((-1) : Int32))).bind fun v27 => some (v27, S)
theorem T_m_number_90 {l : Launch} {w0 : List mM} {F : Nat} {x3 : Int32} {S : mS} {w : List mM} {r : Int32 × mS} (h : m_RM S w) (hF : m_Fq w0 w) (h0 : D_m_number_90 F x3 S = some r) : m_Rs l M_250 (90, [(0, .ref 583), (3, .int x3)], [], w) (fun v w' => v = some (.int r.1) ∧ m_RM r.2 w' ∧ m_Fq w0 w') 0 0 1 100 := by
  rw [D_m_number_90] at h0
  refine m_Rs.n0 b_250 (x_aload_n d_250_90 rfl) ?_
  refine m_Rs.n0 b_250 (x_getf d_250_91 rfl h.1 rfl) ?_
  obtain ⟨v27, e25, h0⟩ := bS h0
  have kk24 : ∀ (xz : Int32) (w1 : List mM), xz = v27 → m_RM S w1 → m_Fq w0 w1 → m_Rs l M_250 (102, [(0, .ref 583), (3, .int x3)], [.int xz], w1) (fun v w' => v = some (.int r.1) ∧ m_RM r.2 w' ∧ m_Fq w0 w') 0 0 1 100 := by
    intro xz w ez h hF
    rw [ez]
    exact m_Rs.ret b_250 (m_rt_ir d_250_102 rfl rfl) (rP h0 h hF)
  cases hc26 : m_c1 .eq (S.1 5) with
  | true =>
    have e25 := cT hc26 e25
    refine m_Rs.n0 b_250 (x_ift d_250_94 rfl hc26) ?_
    refine m_Rs.n0 b_250 (x_iload_n d_250_101 rfl) ?_
    exact kk24 _ _ (Option.some.inj e25) h hF
  | false =>
    have e25 := cF hc26 e25
    refine m_Rs.n0 b_250 (x_iff d_250_94 rfl hc26) ?_
    refine m_Rs.n0 b_250 (x_iconst (z := (-1)) d_250_97 (by decide)) ?_
    refine m_Rs.n0 b_250 (x_goto d_250_98 rfl) ?_
    exact kk24 _ _ (Option.some.inj e25) h hF
def D_m_number_79 (F : Nat) (x1 : Int32) (x2 : Int32) (x3 : Int32) (S : mS) : Option (Int32 × mS) := cond (m_c2 .le x3 x1) (D_m_number_90 F x3 S) ((D_m_wrong F x2 S).bind fun q22 => D_m_number_90 F x3 q22.2)
theorem T_m_number_79 {l : Launch} {w0 : List mM} {F : Nat} {x1 : Int32} {x2 : Int32} {x3 : Int32} {S : mS} {w : List mM} {r : Int32 × mS} (h : m_RM S w) (hF : m_Fq w0 w) (h0 : D_m_number_79 F x1 x2 x3 S = some r) : m_Rs l M_250 (79, [(0, .ref 583), (1, .int x1), (2, .int x2), (3, .int x3)], [], w) (fun v w' => v = some (.int r.1) ∧ m_RM r.2 w' ∧ m_Fq w0 w') 0 0 1 100 := by
  rw [D_m_number_79] at h0
  refine m_Rs.n0 b_250 (x_iload_n d_250_79 rfl) ?_
  refine m_Rs.n0 b_250 (x_iload_n d_250_80 rfl) ?_
  cases hc21 : m_c2 .le x3 x1 with
  | true =>
    have h0 := cT hc21 h0
    refine m_Rs.n0 b_250 (x_ict d_250_81 rfl hc21) ?_
    exact m_Rs.pick [0, 3] rfl (T_m_number_90 h hF h0)
  | false =>
    have h0 := cF hc21 h0
    refine m_Rs.n0 b_250 (x_icf d_250_81 rfl hc21) ?_
    refine m_Rs.n0 b_250 (x_aload_n d_250_84 rfl) ?_
    refine m_Rs.n0 b_250 (x_iload_n d_250_85 rfl) ?_
    obtain ⟨q22, e23, h0⟩ := bS h0
    refine m_Rs.callS b_250 (y_cv d_250_86 rfl q_248 (m_isRecv_of rfl h.1) (show m_takeI _ _ = some (_, [_, _], []) from rfl) (by simp only [m_okf, List.all_cons, List.all_nil, Bool.and_true, Bool.and_self, m_okv_i, m_okv_l, m_okv_0, m_okv_t, m_okv_at h.1]) rfl) (T_m_wrong h e23) hF rfl (fun w1 h hF => ?_) (by decide) (by decide)
    refine m_Rs.n0 b_250 (x_pop d_250_89 rfl) ?_
    exact m_Rs.pick [0, 3] rfl (T_m_number_90 h hF h0)
def D_m_number_62 (F : Nat) (x1 : Int32) (x2 : Int32) (x3 : Int32) (S : mS) : Option (Int32 × mS) := cond (m_c2 .ne (S.1 4) x2) (D_m_number_79 F x1 x2 x3 S) ((D_m_wrong F (S.1 4) S).bind fun q16 => D_m_number_79 F x1 x2 x3 q16.2)
theorem T_m_number_62 {l : Launch} {w0 : List mM} {F : Nat} {x1 : Int32} {x2 : Int32} {x3 : Int32} {S : mS} {w : List mM} {r : Int32 × mS} (h : m_RM S w) (hF : m_Fq w0 w) (h0 : D_m_number_62 F x1 x2 x3 S = some r) : m_Rs l M_250 (62, [(0, .ref 583), (1, .int x1), (2, .int x2), (3, .int x3)], [], w) (fun v w' => v = some (.int r.1) ∧ m_RM r.2 w' ∧ m_Fq w0 w') 0 0 1 100 := by
  rw [D_m_number_62] at h0
  refine m_Rs.n0 b_250 (x_aload_n d_250_62 rfl) ?_
  refine m_Rs.n0 b_250 (x_getf d_250_63 rfl h.1 rfl) ?_
  refine m_Rs.n0 b_250 (x_iload_n d_250_66 rfl) ?_
  cases hc15 : m_c2 .ne (S.1 4) x2 with
  | true =>
    have h0 := cT hc15 h0
    refine m_Rs.n0 b_250 (x_ict d_250_67 rfl hc15) ?_
    exact m_Rs.pick [0, 1, 2, 3] rfl (T_m_number_79 h hF h0)
  | false =>
    have h0 := cF hc15 h0
    refine m_Rs.n0 b_250 (x_icf d_250_67 rfl hc15) ?_
    refine m_Rs.n0 b_250 (x_aload_n d_250_70 rfl) ?_
    refine m_Rs.n0 b_250 (x_aload_n d_250_71 rfl) ?_
    refine m_Rs.n0 b_250 (x_getf d_250_72 rfl h.1 rfl) ?_
    obtain ⟨q16, e17, h0⟩ := bS h0
    refine m_Rs.callS b_250 (y_cv d_250_75 rfl q_248 (m_isRecv_of rfl h.1) (show m_takeI _ _ = some (_, [_, _], []) from rfl) (by simp only [m_okf, List.all_cons, List.all_nil, Bool.and_true, Bool.and_self, m_okv_i, m_okv_l, m_okv_0, m_okv_t, m_okv_at h.1]) rfl) (T_m_wrong h e17) hF rfl (fun w1 h hF => ?_) (by decide) (by decide)
    refine m_Rs.n0 b_250 (x_pop d_250_78 rfl) ?_
    exact m_Rs.pick [0, 1, 2, 3] rfl (T_m_number_79 h hF h0)
def D_m_number_16 (F : Nat) : Nat → Int32 → Int32 → Int32 → mS → Option (Int32 × mS)
  | 0, _, _, _, _ => none
  | n + 1, x1, x2, x3, S => (D_m_see F S).bind fun v2 => (D_m_isDigit F v2 S).bind fun v4 => cond (m_c1 .eq v4) (D_m_number_62 F x1 x2 x3 S) (cond (m_c2 .ge ((S.1 4) - x2) (5 : Int32)) (D_m_number_62 F x1 x2 x3 S) ((D_m_see F S).bind fun v8 => (fput S 4 ((S.1 4) + (1 : Int32))).bind fun S10 => D_m_number_16 F n x1 x2 ((((10 : Int32) * x3) + v8) - (48 : Int32)) S10))
theorem T_m_number_16 {l : Launch} {w0 : List mM} {F : Nat} : ∀ (n : Nat) {x1 : Int32} {x2 : Int32} {x3 : Int32} {S : mS} {w : List mM} {r : Int32 × mS}, m_RM S w → m_Fq w0 w → D_m_number_16 F n x1 x2 x3 S = some r → m_Rs l M_250 (16, [(0, .ref 583), (1, .int x1), (2, .int x2), (3, .int x3)], [], w) (fun v w' => v = some (.int r.1) ∧ m_RM r.2 w' ∧ m_Fq w0 w') 0 0 1 100 := by
  intro n
  induction n with
  | zero => intro x1 x2 x3 S w r h hF h0; cases h0
  | succ n ih =>
    intro x1 x2 x3 S w r h hF h0
    rw [D_m_number_16] at h0
    refine m_Rs.n0 b_250 (x_aload_n d_250_16 rfl) ?_
    obtain ⟨v2, e3, h0⟩ := bS h0
    refine m_Rs.callS b_250 (y_cv d_250_17 rfl q_245 (m_isRecv_of rfl h.1) (show m_takeI _ _ = some (_, [_], []) from rfl) (by simp only [m_okf, List.all_cons, List.all_nil, Bool.and_true, Bool.and_self, m_okv_i, m_okv_l, m_okv_0, m_okv_t, m_okv_at h.1]) rfl) (T_m_see h e3) hF rfl (fun w1 h hF => ?_) (by decide) (by decide)
    obtain ⟨v4, e5, h0⟩ := bS h0
    refine m_Rs.callS b_250 (y_cs d_250_20 rfl q_251 (show m_takeS _ _ = some (_, [_], []) from rfl) (by simp only [m_okf, List.all_cons, List.all_nil, Bool.and_true, Bool.and_self, m_okv_i, m_okv_l, m_okv_0, m_okv_t, m_okv_at h.1]) rfl) (T_m_isDigit h e5) hF rfl (fun w1 h hF => ?_) (by decide) (by decide)
    cases hc6 : m_c1 .eq v4 with
    | true =>
      have h0 := cT hc6 h0
      refine m_Rs.n0 b_250 (x_ift d_250_23 rfl hc6) ?_
      exact m_Rs.pick [0, 1, 2, 3] rfl (T_m_number_62 h hF h0)
    | false =>
      have h0 := cF hc6 h0
      refine m_Rs.n0 b_250 (x_iff d_250_23 rfl hc6) ?_
      refine m_Rs.n0 b_250 (x_aload_n d_250_26 rfl) ?_
      refine m_Rs.n0 b_250 (x_getf d_250_27 rfl h.1 rfl) ?_
      refine m_Rs.n0 b_250 (x_iload_n d_250_30 rfl) ?_
      refine m_Rs.n0 b_250 (x_isub d_250_31 rfl) ?_
      refine m_Rs.n0 b_250 (x_iconst (z := 5) d_250_32 (by decide)) ?_
      cases hc7 : m_c2 .ge ((S.1 4) - x2) (5 : Int32) with
      | true =>
        have h0 := cT hc7 h0
        refine m_Rs.n0 b_250 (x_ict d_250_33 rfl hc7) ?_
        exact m_Rs.pick [0, 1, 2, 3] rfl (T_m_number_62 h hF h0)
      | false =>
        have h0 := cF hc7 h0
        refine m_Rs.n0 b_250 (x_icf d_250_33 rfl hc7) ?_
        refine m_Rs.n0 b_250 (x_bipush (z := 10) d_250_36 (by decide)) ?_
        refine m_Rs.n0 b_250 (x_iload_n d_250_38 rfl) ?_
        refine m_Rs.n0 b_250 (x_imul d_250_39 rfl) ?_
        refine m_Rs.n0 b_250 (x_aload_n d_250_40 rfl) ?_
        obtain ⟨v8, e9, h0⟩ := bS h0
        refine m_Rs.callS b_250 (y_cv d_250_41 rfl q_245 (m_isRecv_of rfl h.1) (show m_takeI _ _ = some (_, [_], [_]) from rfl) (by simp only [m_okf, List.all_cons, List.all_nil, Bool.and_true, Bool.and_self, m_okv_i, m_okv_l, m_okv_0, m_okv_t, m_okv_at h.1]) rfl) (T_m_see h e9) hF rfl (fun w1 h hF => ?_) (by decide) (by decide)
        refine m_Rs.n0 b_250 (x_iadd d_250_44 rfl) ?_
        refine m_Rs.n0 b_250 (x_bipush (z := 48) d_250_45 (by decide)) ?_
        refine m_Rs.n0 b_250 (x_isub d_250_47 rfl) ?_
        refine m_Rs.n0 b_250 (x_istore_n d_250_48 rfl (show m_put1 _ _ _ = [(3, _), (0, _), (1, _), (2, _)] from rfl)) ?_
        refine m_Rs.n0 b_250 (x_aload_n d_250_49 rfl) ?_
        refine m_Rs.n0 b_250 (x_dup d_250_50 rfl) ?_
        refine m_Rs.n0 b_250 (x_getf d_250_51 rfl h.1 rfl) ?_
        refine m_Rs.n0 b_250 (x_iconst (z := 1) d_250_54 (by decide)) ?_
        refine m_Rs.n0 b_250 (x_iadd d_250_55 rfl) ?_
        obtain ⟨S10, e11, h0⟩ := bS h0
        refine m_Rs.dfput b_250 d_250_56 h hF e11 rfl rfl rfl rfl rfl rfl (fun w1 h hF => ?_)
        refine m_Rs.n0 b_250 (x_goto d_250_59 rfl) ?_
        exact m_Rs.pick [1, 2, 3, 0] rfl (ih h hF h0)
def D_m_number (F : Nat) (a0 : Int32) (S : mS) : Option (Int32 × mS) := cond (m_c1 .eq (S.1 5)) (D_m_number_16 F F a0 (S.1 4) (0 : Int32) S) (some (((-1) : Int32), S))
theorem T_m_number {l : Launch} {w : List mM} {F : Nat} {a0 : Int32} {S : mS} {r : Int32 × mS} (h : m_RM S w) (h0 : D_m_number F a0 S = some r) : m_Rs l M_250 (m_ent M_250 [.ref 583, .int a0] w) (fun v w' => v = some (.int r.1) ∧ m_RM r.2 w' ∧ m_Fq w w') 0 0 1 100 := by
  show m_Rs l M_250 (0, [(0, .ref 583), (1, .int a0)], [], w) _ 0 0 1 100
  generalize hw0 : w = w0 at h ⊢
  have hF : m_Fq w0 w0 := m_Fq.refl
  rw [D_m_number] at h0
  refine m_Rs.n0 b_250 (x_aload_n d_250_0 rfl) ?_
  refine m_Rs.n0 b_250 (x_getf d_250_1 rfl h.1 rfl) ?_
  cases hc1 : m_c1 .eq (S.1 5) with
  | true =>
    have h0 := cT hc1 h0
    refine m_Rs.n0 b_250 (x_ift d_250_4 rfl hc1) ?_
    refine m_Rs.n0 b_250 (x_aload_n d_250_9 rfl) ?_
    refine m_Rs.n0 b_250 (x_getf d_250_10 rfl h.1 rfl) ?_
    refine m_Rs.n0 b_250 (x_istore_n d_250_13 rfl (show m_put1 _ _ _ = [(2, _), (0, _), (1, _)] from rfl)) ?_
    refine m_Rs.n0 b_250 (x_iconst (z := 0) d_250_14 (by decide)) ?_
    refine m_Rs.n0 b_250 (x_istore_n d_250_15 rfl (show m_put1 _ _ _ = [(3, _), (2, _), (0, _), (1, _)] from rfl)) ?_
    exact m_Rs.pick [2, 3, 1, 0] rfl (T_m_number_16 F h hF h0)
  | false =>
    have h0 := cF hc1 h0
    refine m_Rs.n0 b_250 (x_iff d_250_4 rfl hc1) ?_
    refine m_Rs.n0 b_250 (x_iconst (z := (-1)) d_250_7 (by decide)) ?_
    exact m_Rs.ret b_250 (m_rt_ir d_250_8 rfl rfl) (rP h0 h hF)
def D_m_target_68 (F : Nat) (S : mS) : Option (mS) := (D_m_expect F (10 : Int32) S).bind fun q31 => some q31.2
theorem T_m_target_68 {l : Launch} {w0 : List mM} {F : Nat} {S : mS} {w : List mM} {r : mS} (h : m_RM S w) (hF : m_Fq w0 w) (h0 : D_m_target_68 F S = some r) : m_Rs l M_249 (68, [(0, .ref 583)], [], w) (fun v w' => v = none ∧ m_RM r w' ∧ m_Fq w0 w') 0 0 2 200 := by
  rw [D_m_target_68] at h0
  refine m_Rs.n0 b_249 (x_aload_n d_249_68 rfl) ?_
  refine m_Rs.n0 b_249 (x_bipush (z := 10) d_249_69 (by decide)) ?_
  obtain ⟨q31, e32, h0⟩ := bS h0
  refine m_Rs.callS b_249 (y_cv d_249_71 rfl q_247 (m_isRecv_of rfl h.1) (show m_takeI _ _ = some (_, [_, _], []) from rfl) (by simp only [m_okf, List.all_cons, List.all_nil, Bool.and_true, Bool.and_self, m_okv_i, m_okv_l, m_okv_0, m_okv_t, m_okv_at h.1]) rfl) (T_m_expect h e32) hF rfl (fun w1 h hF => ?_) (by decide) (by decide)
  refine m_Rs.n0 b_249 (x_pop d_249_74 rfl) ?_
  exact m_Rs.ret b_249 (m_rt_vr d_249_75 rfl) (rV h0 h hF)
def D_m_target (F : Nat) (a0 : Int32) (S : mS) : Option (mS) := (D_m_expect F (32 : Int32) S).bind fun q1 => (D_m_expect F (47 : Int32) q1.2).bind fun q3 => (D_m_number F (31 : Int32) q3.2).bind fun q5 => (fput q5.2 7 q5.1).bind fun S7 => (fput S7 8 (0 : Int32)).bind fun S9 => cond (m_c1 .ne (S9.1 5)) (D_m_target_68 F S9) (cond (m_c1 .eq a0) (D_m_target_68 F S9) ((D_m_see F S9).bind fun v19 => cond (m_c2 .ne v19 (47 : Int32)) (D_m_target_68 F S9) ((fput S9 4 ((S9.1 4) + (1 : Int32))).bind fun S25 => (D_m_number F (3 : Int32) S25).bind fun q27 => (fput q27.2 8 q27.1).bind fun S29 => D_m_target_68 F S29)))
theorem T_m_target {l : Launch} {w : List mM} {F : Nat} {a0 : Int32} {S : mS} {r : mS} (h : m_RM S w) (h0 : D_m_target F a0 S = some r) : m_Rs l M_249 (m_ent M_249 [.ref 583, .int a0] w) (fun v w' => v = none ∧ m_RM r w' ∧ m_Fq w w') 0 0 2 200 := by
  show m_Rs l M_249 (0, [(0, .ref 583), (1, .int a0)], [], w) _ 0 0 2 200
  generalize hw0 : w = w0 at h ⊢
  have hF : m_Fq w0 w0 := m_Fq.refl
  rw [D_m_target] at h0
  refine m_Rs.n0 b_249 (x_aload_n d_249_0 rfl) ?_
  refine m_Rs.n0 b_249 (x_bipush (z := 32) d_249_1 (by decide)) ?_
  obtain ⟨q1, e2, h0⟩ := bS h0
  refine m_Rs.callS b_249 (y_cv d_249_3 rfl q_247 (m_isRecv_of rfl h.1) (show m_takeI _ _ = some (_, [_, _], []) from rfl) (by simp only [m_okf, List.all_cons, List.all_nil, Bool.and_true, Bool.and_self, m_okv_i, m_okv_l, m_okv_0, m_okv_t, m_okv_at h.1]) rfl) (T_m_expect h e2) hF rfl (fun w1 h hF => ?_) (by decide) (by decide)
  refine m_Rs.n0 b_249 (x_pop d_249_6 rfl) ?_
  refine m_Rs.n0 b_249 (x_aload_n d_249_7 rfl) ?_
  refine m_Rs.n0 b_249 (x_bipush (z := 47) d_249_8 (by decide)) ?_
  obtain ⟨q3, e4, h0⟩ := bS h0
  refine m_Rs.callS b_249 (y_cv d_249_10 rfl q_247 (m_isRecv_of rfl h.1) (show m_takeI _ _ = some (_, [_, _], []) from rfl) (by simp only [m_okf, List.all_cons, List.all_nil, Bool.and_true, Bool.and_self, m_okv_i, m_okv_l, m_okv_0, m_okv_t, m_okv_at h.1]) rfl) (T_m_expect h e4) hF rfl (fun w1 h hF => ?_) (by decide) (by decide)
  refine m_Rs.n0 b_249 (x_pop d_249_13 rfl) ?_
  refine m_Rs.n0 b_249 (x_aload_n d_249_14 rfl) ?_
  refine m_Rs.n0 b_249 (x_aload_n d_249_15 rfl) ?_
  refine m_Rs.n0 b_249 (x_bipush (z := 31) d_249_16 (by decide)) ?_
  obtain ⟨q5, e6, h0⟩ := bS h0
  refine m_Rs.callS b_249 (y_cv d_249_18 rfl q_250 (m_isRecv_of rfl h.1) (show m_takeI _ _ = some (_, [_, _], [_]) from rfl) (by simp only [m_okf, List.all_cons, List.all_nil, Bool.and_true, Bool.and_self, m_okv_i, m_okv_l, m_okv_0, m_okv_t, m_okv_at h.1]) rfl) (T_m_number h e6) hF rfl (fun w1 h hF => ?_) (by decide) (by decide)
  obtain ⟨S7, e8, h0⟩ := bS h0
  refine m_Rs.dfput b_249 d_249_21 h hF e8 rfl rfl rfl rfl rfl rfl (fun w1 h hF => ?_)
  refine m_Rs.n0 b_249 (x_aload_n d_249_24 rfl) ?_
  refine m_Rs.n0 b_249 (x_iconst (z := 0) d_249_25 (by decide)) ?_
  obtain ⟨S9, e10, h0⟩ := bS h0
  refine m_Rs.dfput b_249 d_249_26 h hF e10 rfl rfl rfl rfl rfl rfl (fun w1 h hF => ?_)
  refine m_Rs.n0 b_249 (x_aload_n d_249_29 rfl) ?_
  refine m_Rs.n0 b_249 (x_getf d_249_30 rfl h.1 rfl) ?_
  cases hc14 : m_c1 .ne (S9.1 5) with
  | true =>
    have h0 := cT hc14 h0
    refine m_Rs.n0 b_249 (x_ift d_249_33 rfl hc14) ?_
    exact m_Rs.pick [0] rfl (T_m_target_68 h hF h0)
  | false =>
    have h0 := cF hc14 h0
    refine m_Rs.n0 b_249 (x_iff d_249_33 rfl hc14) ?_
    refine m_Rs.n0 b_249 (x_iload_n d_249_36 rfl) ?_
    cases hc18 : m_c1 .eq a0 with
    | true =>
      have h0 := cT hc18 h0
      refine m_Rs.n0 b_249 (x_ift d_249_37 rfl hc18) ?_
      exact m_Rs.pick [0] rfl (T_m_target_68 h hF h0)
    | false =>
      have h0 := cF hc18 h0
      refine m_Rs.n0 b_249 (x_iff d_249_37 rfl hc18) ?_
      refine m_Rs.n0 b_249 (x_aload_n d_249_40 rfl) ?_
      obtain ⟨v19, e20, h0⟩ := bS h0
      refine m_Rs.callS b_249 (y_cv d_249_41 rfl q_245 (m_isRecv_of rfl h.1) (show m_takeI _ _ = some (_, [_], []) from rfl) (by simp only [m_okf, List.all_cons, List.all_nil, Bool.and_true, Bool.and_self, m_okv_i, m_okv_l, m_okv_0, m_okv_t, m_okv_at h.1]) rfl) (T_m_see h e20) hF rfl (fun w1 h hF => ?_) (by decide) (by decide)
      refine m_Rs.n0 b_249 (x_bipush (z := 47) d_249_44 (by decide)) ?_
      cases hc24 : m_c2 .ne v19 (47 : Int32) with
      | true =>
        have h0 := cT hc24 h0
        refine m_Rs.n0 b_249 (x_ict d_249_46 rfl hc24) ?_
        exact m_Rs.pick [0] rfl (T_m_target_68 h hF h0)
      | false =>
        have h0 := cF hc24 h0
        refine m_Rs.n0 b_249 (x_icf d_249_46 rfl hc24) ?_
        refine m_Rs.n0 b_249 (x_aload_n d_249_49 rfl) ?_
        refine m_Rs.n0 b_249 (x_dup d_249_50 rfl) ?_
        refine m_Rs.n0 b_249 (x_getf d_249_51 rfl h.1 rfl) ?_
        refine m_Rs.n0 b_249 (x_iconst (z := 1) d_249_54 (by decide)) ?_
        refine m_Rs.n0 b_249 (x_iadd d_249_55 rfl) ?_
        obtain ⟨S25, e26, h0⟩ := bS h0
        refine m_Rs.dfput b_249 d_249_56 h hF e26 rfl rfl rfl rfl rfl rfl (fun w1 h hF => ?_)
        refine m_Rs.n0 b_249 (x_aload_n d_249_59 rfl) ?_
        refine m_Rs.n0 b_249 (x_aload_n d_249_60 rfl) ?_
        refine m_Rs.n0 b_249 (x_iconst (z := 3) d_249_61 (by decide)) ?_
        obtain ⟨q27, e28, h0⟩ := bS h0
        refine m_Rs.callS b_249 (y_cv d_249_62 rfl q_250 (m_isRecv_of rfl h.1) (show m_takeI _ _ = some (_, [_, _], [_]) from rfl) (by simp only [m_okf, List.all_cons, List.all_nil, Bool.and_true, Bool.and_self, m_okv_i, m_okv_l, m_okv_0, m_okv_t, m_okv_at h.1]) rfl) (T_m_number h e28) hF rfl (fun w1 h hF => ?_) (by decide) (by decide)
        obtain ⟨S29, e30, h0⟩ := bS h0
        refine m_Rs.dfput b_249 d_249_65 h hF e30 rfl rfl rfl rfl rfl rfl (fun w1 h hF => ?_)
        exact m_Rs.pick [0] rfl (T_m_target_68 h hF h0)
def D_m_isSame_20 (F : Nat) : Nat → Int32 → Int32 → Int32 → Int32 → Int32 → mS → Option (Int32)
  | 0, _, _, _, _, _, _ => none
  | n + 1, x1, x2, x3, x5, x6, S => cond (m_c1 .eq x5) ((bret x5).bind fun v6 => some v6) (cond (m_c2 .ge x6 (x2 - x1)) ((bret x5).bind fun v9 => some v9) ((aget 0 300 S 584 (x1 + x6)).bind fun v11 => (aget 0 300 S 584 (x3 + x6)).bind fun v13 => (cond (m_c2 .ne v11 v13) (some (0 : Int32)) (some (1 : Int32))).bind fun v18 => D_m_isSame_20 F n x1 x2 x3 v18 (x6 + Int32.ofInt 1) S))
theorem T_m_isSame_20 {l : Launch} {w0 : List mM} {F : Nat} : ∀ (n : Nat) {x1 : Int32} {x2 : Int32} {x3 : Int32} {x5 : Int32} {x6 : Int32} {S : mS} {w : List mM} {r : Int32}, m_RM S w → m_Fq w0 w → D_m_isSame_20 F n x1 x2 x3 x5 x6 S = some r → m_Rs l M_255 (20, [(0, .ref 583), (1, .int x1), (2, .int x2), (3, .int x3), (5, .int x5), (6, .int x6)], [], w) (fun v w' => v = some (.int r) ∧ m_RM S w' ∧ m_Fq w0 w') 0 0 0 0 := by
  intro n
  induction n with
  | zero => intro x1 x2 x3 x5 x6 S w r h hF h0; cases h0
  | succ n ih =>
    intro x1 x2 x3 x5 x6 S w r h hF h0
    rw [D_m_isSame_20] at h0
    refine m_Rs.n0 b_255 (x_iload d_255_20 rfl) ?_
    cases hc5 : m_c1 .eq x5 with
    | true =>
      have h0 := cT hc5 h0
      refine m_Rs.n0 b_255 (x_ift d_255_22 rfl hc5) ?_
      refine m_Rs.n0 b_255 (x_iload d_255_67 rfl) ?_
      obtain ⟨v6, e7, h0⟩ := bS h0
      exact m_Rs.retb b_255 d_255_69 rfl e7 (rI h0 h hF)
    | false =>
      have h0 := cF hc5 h0
      refine m_Rs.n0 b_255 (x_iff d_255_22 rfl hc5) ?_
      refine m_Rs.n0 b_255 (x_iload d_255_25 rfl) ?_
      refine m_Rs.n0 b_255 (x_iload_n d_255_27 rfl) ?_
      refine m_Rs.n0 b_255 (x_iload_n d_255_28 rfl) ?_
      refine m_Rs.n0 b_255 (x_isub d_255_29 rfl) ?_
      cases hc8 : m_c2 .ge x6 (x2 - x1) with
      | true =>
        have h0 := cT hc8 h0
        refine m_Rs.n0 b_255 (x_ict d_255_30 rfl hc8) ?_
        refine m_Rs.n0 b_255 (x_iload d_255_67 rfl) ?_
        obtain ⟨v9, e10, h0⟩ := bS h0
        exact m_Rs.retb b_255 d_255_69 rfl e10 (rI h0 h hF)
      | false =>
        have h0 := cF hc8 h0
        refine m_Rs.n0 b_255 (x_icf d_255_30 rfl hc8) ?_
        refine m_Rs.n0 b_255 (x_aload_n d_255_33 rfl) ?_
        refine m_Rs.n0 b_255 (x_getf d_255_34 rfl h.1 rfl) ?_
        refine m_Rs.n0 b_255 (x_iload_n d_255_37 rfl) ?_
        refine m_Rs.n0 b_255 (x_iload d_255_38 rfl) ?_
        refine m_Rs.n0 b_255 (x_iadd d_255_40 rfl) ?_
        obtain ⟨v11, e12, h0⟩ := bS h0
        refine m_Rs.dget b_255 d_255_41 h 0 rfl e12 ?_
        refine m_Rs.n0 b_255 (x_aload_n d_255_42 rfl) ?_
        refine m_Rs.n0 b_255 (x_getf d_255_43 rfl h.1 rfl) ?_
        refine m_Rs.n0 b_255 (x_iload_n d_255_46 rfl) ?_
        refine m_Rs.n0 b_255 (x_iload d_255_47 rfl) ?_
        refine m_Rs.n0 b_255 (x_iadd d_255_49 rfl) ?_
        obtain ⟨v13, e14, h0⟩ := bS h0
        refine m_Rs.dget b_255 d_255_50 h 0 rfl e14 ?_
        obtain ⟨v18, e16, h0⟩ := bS h0
        have kk15 : ∀ (xz : Int32) (w1 : List mM), xz = v18 → m_RM S w1 → m_Fq w0 w1 → m_Rs l M_255 (59, [(0, .ref 583), (1, .int x1), (2, .int x2), (3, .int x3), (5, .int x5), (6, .int x6)], [.int xz], w1) (fun v w' => v = some (.int r) ∧ m_RM S w' ∧ m_Fq w0 w') 0 0 0 0 := by
          intro xz w ez h hF
          rw [ez]
          refine m_Rs.n0 b_255 (x_istore d_255_59 rfl (show m_put1 _ _ _ = [(5, _), (0, _), (1, _), (2, _), (3, _), (6, _)] from rfl)) ?_
          refine m_Rs.n0 b_255 (x_iinc d_255_61 rfl rfl rfl (show m_put1 _ _ _ = [(6, _), (5, _), (0, _), (1, _), (2, _), (3, _)] from rfl)) ?_
          refine m_Rs.n0 b_255 (x_goto d_255_64 rfl) ?_
          exact m_Rs.pick [2, 3, 4, 5, 1, 0] rfl (ih h hF h0)
        cases hc17 : m_c2 .ne v11 v13 with
        | true =>
          have e16 := cT hc17 e16
          refine m_Rs.n0 b_255 (x_ict d_255_51 rfl hc17) ?_
          refine m_Rs.n0 b_255 (x_iconst (z := 0) d_255_58 (by decide)) ?_
          exact kk15 _ _ (Option.some.inj e16) h hF
        | false =>
          have e16 := cF hc17 e16
          refine m_Rs.n0 b_255 (x_icf d_255_51 rfl hc17) ?_
          refine m_Rs.n0 b_255 (x_iconst (z := 1) d_255_54 (by decide)) ?_
          refine m_Rs.n0 b_255 (x_goto d_255_55 rfl) ?_
          exact kk15 _ _ (Option.some.inj e16) h hF
def D_m_isSame (F : Nat) (a0 : Int32) (a1 : Int32) (a2 : Int32) (a3 : Int32) (S : mS) : Option (Int32) := (cond (m_c2 .ne (a1 - a0) (a3 - a2)) (some (0 : Int32)) (some (1 : Int32))).bind fun v4 => D_m_isSame_20 F F a0 a1 a2 v4 (0 : Int32) S
theorem T_m_isSame {l : Launch} {w : List mM} {F : Nat} {a0 : Int32} {a1 : Int32} {a2 : Int32} {a3 : Int32} {S : mS} {r : Int32} (h : m_RM S w) (h0 : D_m_isSame F a0 a1 a2 a3 S = some r) : m_Rs l M_255 (m_ent M_255 [.ref 583, .int a0, .int a1, .int a2, .int a3] w) (fun v w' => v = some (.int r) ∧ m_RM S w' ∧ m_Fq w w') 0 0 0 0 := by
  show m_Rs l M_255 (0, [(0, .ref 583), (1, .int a0), (2, .int a1), (3, .int a2), (4, .int a3)], [], w) _ 0 0 0 0
  generalize hw0 : w = w0 at h ⊢
  have hF : m_Fq w0 w0 := m_Fq.refl
  rw [D_m_isSame] at h0
  refine m_Rs.n0 b_255 (x_iload_n d_255_0 rfl) ?_
  refine m_Rs.n0 b_255 (x_iload_n d_255_1 rfl) ?_
  refine m_Rs.n0 b_255 (x_isub d_255_2 rfl) ?_
  refine m_Rs.n0 b_255 (x_iload d_255_3 rfl) ?_
  refine m_Rs.n0 b_255 (x_iload_n d_255_5 rfl) ?_
  refine m_Rs.n0 b_255 (x_isub d_255_6 rfl) ?_
  obtain ⟨v4, e2, h0⟩ := bS h0
  have kk1 : ∀ (xz : Int32) (w1 : List mM), xz = v4 → m_RM S w1 → m_Fq w0 w1 → m_Rs l M_255 (15, [(0, .ref 583), (1, .int a0), (2, .int a1), (3, .int a2), (4, .int a3)], [.int xz], w1) (fun v w' => v = some (.int r) ∧ m_RM S w' ∧ m_Fq w0 w') 0 0 0 0 := by
    intro xz w ez h hF
    rw [ez]
    refine m_Rs.n0 b_255 (x_istore d_255_15 rfl (show m_put1 _ _ _ = [(5, _), (0, _), (1, _), (2, _), (3, _), (4, _)] from rfl)) ?_
    refine m_Rs.n0 b_255 (x_iconst (z := 0) d_255_17 (by decide)) ?_
    refine m_Rs.n0 b_255 (x_istore d_255_18 rfl (show m_put1 _ _ _ = [(6, _), (5, _), (0, _), (1, _), (2, _), (3, _), (4, _)] from rfl)) ?_
    exact m_Rs.pick [2, 3, 4, 5, 1, 0] rfl (T_m_isSame_20 F h hF h0)
  cases hc3 : m_c2 .ne (a1 - a0) (a3 - a2) with
  | true =>
    have e2 := cT hc3 e2
    refine m_Rs.n0 b_255 (x_ict d_255_7 rfl hc3) ?_
    refine m_Rs.n0 b_255 (x_iconst (z := 0) d_255_14 (by decide)) ?_
    exact kk1 _ _ (Option.some.inj e2) h hF
  | false =>
    have e2 := cF hc3 e2
    refine m_Rs.n0 b_255 (x_icf d_255_7 rfl hc3) ?_
    refine m_Rs.n0 b_255 (x_iconst (z := 1) d_255_10 (by decide)) ?_
    refine m_Rs.n0 b_255 (x_goto d_255_11 rfl) ?_
    exact kk1 _ _ (Option.some.inj e2) h hF
def D_m_name_82 (F : Nat) : Nat → Int32 → Int32 → mS → Option (Int32 × mS)
  | 0, _, _, _ => none
  | n + 1, x1, x2, S => cond (m_c2 .ge x2 (S.1 31)) ((aput 150 S 587 (S.1 31) x1).bind fun S26 => (aput 150 S26 588 (S26.1 31) (S26.1 4)).bind fun S28 => (fput S28 31 ((S28.1 31) + (1 : Int32))).bind fun S30 => (fput S30 4 ((S30.1 4) + (1 : Int32))).bind fun S32 => (D_m_see F S32).bind fun v34 => cond (m_c2 .ne v34 (32 : Int32)) (some ((1 : Int32), S32)) ((fput S32 4 ((S32.1 4) + (1 : Int32))).bind fun S40 => some ((1 : Int32), S40))) ((aget 0 150 S 587 x2).bind fun v42 => (aget 0 150 S 588 x2).bind fun v44 => (D_m_isSame F v42 v44 x1 (S.1 4) S).bind fun v46 => cond (m_c1 .eq v46) (D_m_name_82 F n x1 (x2 + Int32.ofInt 1) S) ((D_m_wrong F x1 S).bind fun q49 => (bret q49.1).bind fun v51 => some (v51, q49.2)))
theorem T_m_name_82 {l : Launch} {w0 : List mM} {F : Nat} : ∀ (n : Nat) {x1 : Int32} {x2 : Int32} {S : mS} {w : List mM} {r : Int32 × mS}, m_RM S w → m_Fq w0 w → D_m_name_82 F n x1 x2 S = some r → m_Rs l M_253 (82, [(0, .ref 583), (1, .int x1), (2, .int x2)], [], w) (fun v w' => v = some (.int r.1) ∧ m_RM r.2 w' ∧ m_Fq w0 w') 0 0 1 100 := by
  intro n
  induction n with
  | zero => intro x1 x2 S w r h hF h0; cases h0
  | succ n ih =>
    intro x1 x2 S w r h hF h0
    rw [D_m_name_82] at h0
    refine m_Rs.n0 b_253 (x_iload_n d_253_82 rfl) ?_
    refine m_Rs.n0 b_253 (x_aload_n d_253_83 rfl) ?_
    refine m_Rs.n0 b_253 (x_getf d_253_84 rfl h.1 rfl) ?_
    cases hc25 : m_c2 .ge x2 (S.1 31) with
    | true =>
      have h0 := cT hc25 h0
      refine m_Rs.n0 b_253 (x_ict d_253_87 rfl hc25) ?_
      refine m_Rs.n0 b_253 (x_aload_n d_253_126 rfl) ?_
      refine m_Rs.n0 b_253 (x_getf d_253_127 rfl h.1 rfl) ?_
      refine m_Rs.n0 b_253 (x_aload_n d_253_130 rfl) ?_
      refine m_Rs.n0 b_253 (x_getf d_253_131 rfl h.1 rfl) ?_
      refine m_Rs.n0 b_253 (x_iload_n d_253_134 rfl) ?_
      obtain ⟨S26, e27, h0⟩ := bS h0
      refine m_Rs.dput b_253 d_253_135 h hF 3 rfl e27 (fun w1 h hF => ?_)
      refine m_Rs.n0 b_253 (x_aload_n d_253_136 rfl) ?_
      refine m_Rs.n0 b_253 (x_getf d_253_137 rfl h.1 rfl) ?_
      refine m_Rs.n0 b_253 (x_aload_n d_253_140 rfl) ?_
      refine m_Rs.n0 b_253 (x_getf d_253_141 rfl h.1 rfl) ?_
      refine m_Rs.n0 b_253 (x_aload_n d_253_144 rfl) ?_
      refine m_Rs.n0 b_253 (x_getf d_253_145 rfl h.1 rfl) ?_
      obtain ⟨S28, e29, h0⟩ := bS h0
      refine m_Rs.dput b_253 d_253_148 h hF 4 rfl e29 (fun w1 h hF => ?_)
      refine m_Rs.n0 b_253 (x_aload_n d_253_149 rfl) ?_
      refine m_Rs.n0 b_253 (x_dup d_253_150 rfl) ?_
      refine m_Rs.n0 b_253 (x_getf d_253_151 rfl h.1 rfl) ?_
      refine m_Rs.n0 b_253 (x_iconst (z := 1) d_253_154 (by decide)) ?_
      refine m_Rs.n0 b_253 (x_iadd d_253_155 rfl) ?_
      obtain ⟨S30, e31, h0⟩ := bS h0
      refine m_Rs.dfput b_253 d_253_156 h hF e31 rfl rfl rfl rfl rfl rfl (fun w1 h hF => ?_)
      refine m_Rs.n0 b_253 (x_aload_n d_253_159 rfl) ?_
      refine m_Rs.n0 b_253 (x_dup d_253_160 rfl) ?_
      refine m_Rs.n0 b_253 (x_getf d_253_161 rfl h.1 rfl) ?_
      refine m_Rs.n0 b_253 (x_iconst (z := 1) d_253_164 (by decide)) ?_
      refine m_Rs.n0 b_253 (x_iadd d_253_165 rfl) ?_
      obtain ⟨S32, e33, h0⟩ := bS h0
      refine m_Rs.dfput b_253 d_253_166 h hF e33 rfl rfl rfl rfl rfl rfl (fun w1 h hF => ?_)
      refine m_Rs.n0 b_253 (x_aload_n d_253_169 rfl) ?_
      obtain ⟨v34, e35, h0⟩ := bS h0
      refine m_Rs.callS b_253 (y_cv d_253_170 rfl q_245 (m_isRecv_of rfl h.1) (show m_takeI _ _ = some (_, [_], []) from rfl) (by simp only [m_okf, List.all_cons, List.all_nil, Bool.and_true, Bool.and_self, m_okv_i, m_okv_l, m_okv_0, m_okv_t, m_okv_at h.1]) rfl) (T_m_see h e35) hF rfl (fun w1 h hF => ?_) (by decide) (by decide)
      refine m_Rs.n0 b_253 (x_bipush (z := 32) d_253_173 (by decide)) ?_
      cases hc39 : m_c2 .ne v34 (32 : Int32) with
      | true =>
        have h0 := cT hc39 h0
        refine m_Rs.n0 b_253 (x_ict d_253_175 rfl hc39) ?_
        refine m_Rs.n0 b_253 (x_iconst (z := 1) d_253_188 (by decide)) ?_
        exact m_Rs.ret b_253 (m_rt_ir d_253_189 rfl m_nb1) (rP h0 h hF)
      | false =>
        have h0 := cF hc39 h0
        refine m_Rs.n0 b_253 (x_icf d_253_175 rfl hc39) ?_
        refine m_Rs.n0 b_253 (x_aload_n d_253_178 rfl) ?_
        refine m_Rs.n0 b_253 (x_dup d_253_179 rfl) ?_
        refine m_Rs.n0 b_253 (x_getf d_253_180 rfl h.1 rfl) ?_
        refine m_Rs.n0 b_253 (x_iconst (z := 1) d_253_183 (by decide)) ?_
        refine m_Rs.n0 b_253 (x_iadd d_253_184 rfl) ?_
        obtain ⟨S40, e41, h0⟩ := bS h0
        refine m_Rs.dfput b_253 d_253_185 h hF e41 rfl rfl rfl rfl rfl rfl (fun w1 h hF => ?_)
        refine m_Rs.n0 b_253 (x_iconst (z := 1) d_253_188 (by decide)) ?_
        exact m_Rs.ret b_253 (m_rt_ir d_253_189 rfl m_nb1) (rP h0 h hF)
    | false =>
      have h0 := cF hc25 h0
      refine m_Rs.n0 b_253 (x_icf d_253_87 rfl hc25) ?_
      refine m_Rs.n0 b_253 (x_aload_n d_253_90 rfl) ?_
      refine m_Rs.n0 b_253 (x_aload_n d_253_91 rfl) ?_
      refine m_Rs.n0 b_253 (x_getf d_253_92 rfl h.1 rfl) ?_
      refine m_Rs.n0 b_253 (x_iload_n d_253_95 rfl) ?_
      obtain ⟨v42, e43, h0⟩ := bS h0
      refine m_Rs.dget b_253 d_253_96 h 3 rfl e43 ?_
      refine m_Rs.n0 b_253 (x_aload_n d_253_97 rfl) ?_
      refine m_Rs.n0 b_253 (x_getf d_253_98 rfl h.1 rfl) ?_
      refine m_Rs.n0 b_253 (x_iload_n d_253_101 rfl) ?_
      obtain ⟨v44, e45, h0⟩ := bS h0
      refine m_Rs.dget b_253 d_253_102 h 4 rfl e45 ?_
      refine m_Rs.n0 b_253 (x_iload_n d_253_103 rfl) ?_
      refine m_Rs.n0 b_253 (x_aload_n d_253_104 rfl) ?_
      refine m_Rs.n0 b_253 (x_getf d_253_105 rfl h.1 rfl) ?_
      obtain ⟨v46, e47, h0⟩ := bS h0
      refine m_Rs.callS b_253 (y_cv d_253_108 rfl q_255 (m_isRecv_of rfl h.1) (show m_takeI _ _ = some (_, [_, _, _, _, _], []) from rfl) (by simp only [m_okf, List.all_cons, List.all_nil, Bool.and_true, Bool.and_self, m_okv_i, m_okv_l, m_okv_0, m_okv_t, m_okv_at h.1]) rfl) (T_m_isSame h e47) hF rfl (fun w1 h hF => ?_) (by decide) (by decide)
      cases hc48 : m_c1 .eq v46 with
      | true =>
        have h0 := cT hc48 h0
        refine m_Rs.n0 b_253 (x_ift d_253_111 rfl hc48) ?_
        refine m_Rs.n0 b_253 (x_iinc d_253_120 rfl rfl rfl (show m_put1 _ _ _ = [(2, _), (0, _), (1, _)] from rfl)) ?_
        refine m_Rs.n0 b_253 (x_goto d_253_123 rfl) ?_
        exact m_Rs.pick [1, 2, 0] rfl (ih h hF h0)
      | false =>
        have h0 := cF hc48 h0
        refine m_Rs.n0 b_253 (x_iff d_253_111 rfl hc48) ?_
        refine m_Rs.n0 b_253 (x_aload_n d_253_114 rfl) ?_
        refine m_Rs.n0 b_253 (x_iload_n d_253_115 rfl) ?_
        obtain ⟨q49, e50, h0⟩ := bS h0
        refine m_Rs.callS b_253 (y_cv d_253_116 rfl q_248 (m_isRecv_of rfl h.1) (show m_takeI _ _ = some (_, [_, _], []) from rfl) (by simp only [m_okf, List.all_cons, List.all_nil, Bool.and_true, Bool.and_self, m_okv_i, m_okv_l, m_okv_0, m_okv_t, m_okv_at h.1]) rfl) (T_m_wrong h e50) hF rfl (fun w1 h hF => ?_) (by decide) (by decide)
        obtain ⟨v51, e52, h0⟩ := bS h0
        exact m_Rs.retb b_253 d_253_119 rfl e52 (rP h0 h hF)
def D_m_name_5 (F : Nat) : Nat → Int32 → mS → Option (Int32 × mS)
  | 0, _, _ => none
  | n + 1, x1, S => (D_m_see F S).bind fun v1 => (D_m_isSmall F v1 S).bind fun v3 => cond (m_c1 .eq v3) (cond (m_c2 .ne (S.1 4) x1) (cond (m_c2 .le ((S.1 4) - x1) (20 : Int32)) ((D_m_see F S).bind fun v8 => cond (m_c2 .eq v8 (58 : Int32)) (D_m_name_82 F F x1 (0 : Int32) S) ((D_m_wrong F (S.1 4) S).bind fun q11 => (bret q11.1).bind fun v13 => some (v13, q11.2))) ((D_m_wrong F x1 S).bind fun q15 => (bret q15.1).bind fun v17 => some (v17, q15.2))) ((D_m_wrong F (S.1 4) S).bind fun q19 => (bret q19.1).bind fun v21 => some (v21, q19.2))) ((fput S 4 ((S.1 4) + (1 : Int32))).bind fun S23 => D_m_name_5 F n x1 S23)
theorem T_m_name_5 {l : Launch} {w0 : List mM} {F : Nat} : ∀ (n : Nat) {x1 : Int32} {S : mS} {w : List mM} {r : Int32 × mS}, m_RM S w → m_Fq w0 w → D_m_name_5 F n x1 S = some r → m_Rs l M_253 (5, [(0, .ref 583), (1, .int x1)], [], w) (fun v w' => v = some (.int r.1) ∧ m_RM r.2 w' ∧ m_Fq w0 w') 0 0 1 100 := by
  intro n
  induction n with
  | zero => intro x1 S w r h hF h0; cases h0
  | succ n ih =>
    intro x1 S w r h hF h0
    rw [D_m_name_5] at h0
    refine m_Rs.n0 b_253 (x_aload_n d_253_5 rfl) ?_
    obtain ⟨v1, e2, h0⟩ := bS h0
    refine m_Rs.callS b_253 (y_cv d_253_6 rfl q_245 (m_isRecv_of rfl h.1) (show m_takeI _ _ = some (_, [_], []) from rfl) (by simp only [m_okf, List.all_cons, List.all_nil, Bool.and_true, Bool.and_self, m_okv_i, m_okv_l, m_okv_0, m_okv_t, m_okv_at h.1]) rfl) (T_m_see h e2) hF rfl (fun w1 h hF => ?_) (by decide) (by decide)
    obtain ⟨v3, e4, h0⟩ := bS h0
    refine m_Rs.callS b_253 (y_cs d_253_9 rfl q_254 (show m_takeS _ _ = some (_, [_], []) from rfl) (by simp only [m_okf, List.all_cons, List.all_nil, Bool.and_true, Bool.and_self, m_okv_i, m_okv_l, m_okv_0, m_okv_t, m_okv_at h.1]) rfl) (T_m_isSmall h e4) hF rfl (fun w1 h hF => ?_) (by decide) (by decide)
    cases hc5 : m_c1 .eq v3 with
    | true =>
      have h0 := cT hc5 h0
      refine m_Rs.n0 b_253 (x_ift d_253_12 rfl hc5) ?_
      refine m_Rs.n0 b_253 (x_aload_n d_253_28 rfl) ?_
      refine m_Rs.n0 b_253 (x_getf d_253_29 rfl h.1 rfl) ?_
      refine m_Rs.n0 b_253 (x_iload_n d_253_32 rfl) ?_
      cases hc6 : m_c2 .ne (S.1 4) x1 with
      | true =>
        have h0 := cT hc6 h0
        refine m_Rs.n0 b_253 (x_ict d_253_33 rfl hc6) ?_
        refine m_Rs.n0 b_253 (x_aload_n d_253_45 rfl) ?_
        refine m_Rs.n0 b_253 (x_getf d_253_46 rfl h.1 rfl) ?_
        refine m_Rs.n0 b_253 (x_iload_n d_253_49 rfl) ?_
        refine m_Rs.n0 b_253 (x_isub d_253_50 rfl) ?_
        refine m_Rs.n0 b_253 (x_bipush (z := 20) d_253_51 (by decide)) ?_
        cases hc7 : m_c2 .le ((S.1 4) - x1) (20 : Int32) with
        | true =>
          have h0 := cT hc7 h0
          refine m_Rs.n0 b_253 (x_ict d_253_53 rfl hc7) ?_
          refine m_Rs.n0 b_253 (x_aload_n d_253_62 rfl) ?_
          obtain ⟨v8, e9, h0⟩ := bS h0
          refine m_Rs.callS b_253 (y_cv d_253_63 rfl q_245 (m_isRecv_of rfl h.1) (show m_takeI _ _ = some (_, [_], []) from rfl) (by simp only [m_okf, List.all_cons, List.all_nil, Bool.and_true, Bool.and_self, m_okv_i, m_okv_l, m_okv_0, m_okv_t, m_okv_at h.1]) rfl) (T_m_see h e9) hF rfl (fun w1 h hF => ?_) (by decide) (by decide)
          refine m_Rs.n0 b_253 (x_bipush (z := 58) d_253_66 (by decide)) ?_
          cases hc10 : m_c2 .eq v8 (58 : Int32) with
          | true =>
            have h0 := cT hc10 h0
            refine m_Rs.n0 b_253 (x_ict d_253_68 rfl hc10) ?_
            refine m_Rs.n0 b_253 (x_iconst (z := 0) d_253_80 (by decide)) ?_
            refine m_Rs.n0 b_253 (x_istore_n d_253_81 rfl (show m_put1 _ _ _ = [(2, _), (0, _), (1, _)] from rfl)) ?_
            exact m_Rs.pick [1, 2, 0] rfl (T_m_name_82 F h hF h0)
          | false =>
            have h0 := cF hc10 h0
            refine m_Rs.n0 b_253 (x_icf d_253_68 rfl hc10) ?_
            refine m_Rs.n0 b_253 (x_aload_n d_253_71 rfl) ?_
            refine m_Rs.n0 b_253 (x_aload_n d_253_72 rfl) ?_
            refine m_Rs.n0 b_253 (x_getf d_253_73 rfl h.1 rfl) ?_
            obtain ⟨q11, e12, h0⟩ := bS h0
            refine m_Rs.callS b_253 (y_cv d_253_76 rfl q_248 (m_isRecv_of rfl h.1) (show m_takeI _ _ = some (_, [_, _], []) from rfl) (by simp only [m_okf, List.all_cons, List.all_nil, Bool.and_true, Bool.and_self, m_okv_i, m_okv_l, m_okv_0, m_okv_t, m_okv_at h.1]) rfl) (T_m_wrong h e12) hF rfl (fun w1 h hF => ?_) (by decide) (by decide)
            obtain ⟨v13, e14, h0⟩ := bS h0
            exact m_Rs.retb b_253 d_253_79 rfl e14 (rP h0 h hF)
        | false =>
          have h0 := cF hc7 h0
          refine m_Rs.n0 b_253 (x_icf d_253_53 rfl hc7) ?_
          refine m_Rs.n0 b_253 (x_aload_n d_253_56 rfl) ?_
          refine m_Rs.n0 b_253 (x_iload_n d_253_57 rfl) ?_
          obtain ⟨q15, e16, h0⟩ := bS h0
          refine m_Rs.callS b_253 (y_cv d_253_58 rfl q_248 (m_isRecv_of rfl h.1) (show m_takeI _ _ = some (_, [_, _], []) from rfl) (by simp only [m_okf, List.all_cons, List.all_nil, Bool.and_true, Bool.and_self, m_okv_i, m_okv_l, m_okv_0, m_okv_t, m_okv_at h.1]) rfl) (T_m_wrong h e16) hF rfl (fun w1 h hF => ?_) (by decide) (by decide)
          obtain ⟨v17, e18, h0⟩ := bS h0
          exact m_Rs.retb b_253 d_253_61 rfl e18 (rP h0 h hF)
      | false =>
        have h0 := cF hc6 h0
        refine m_Rs.n0 b_253 (x_icf d_253_33 rfl hc6) ?_
        refine m_Rs.n0 b_253 (x_aload_n d_253_36 rfl) ?_
        refine m_Rs.n0 b_253 (x_aload_n d_253_37 rfl) ?_
        refine m_Rs.n0 b_253 (x_getf d_253_38 rfl h.1 rfl) ?_
        obtain ⟨q19, e20, h0⟩ := bS h0
        refine m_Rs.callS b_253 (y_cv d_253_41 rfl q_248 (m_isRecv_of rfl h.1) (show m_takeI _ _ = some (_, [_, _], []) from rfl) (by simp only [m_okf, List.all_cons, List.all_nil, Bool.and_true, Bool.and_self, m_okv_i, m_okv_l, m_okv_0, m_okv_t, m_okv_at h.1]) rfl) (T_m_wrong h e20) hF rfl (fun w1 h hF => ?_) (by decide) (by decide)
        obtain ⟨v21, e22, h0⟩ := bS h0
        exact m_Rs.retb b_253 d_253_44 rfl e22 (rP h0 h hF)
    | false =>
      have h0 := cF hc5 h0
      refine m_Rs.n0 b_253 (x_iff d_253_12 rfl hc5) ?_
      refine m_Rs.n0 b_253 (x_aload_n d_253_15 rfl) ?_
      refine m_Rs.n0 b_253 (x_dup d_253_16 rfl) ?_
      refine m_Rs.n0 b_253 (x_getf d_253_17 rfl h.1 rfl) ?_
      refine m_Rs.n0 b_253 (x_iconst (z := 1) d_253_20 (by decide)) ?_
      refine m_Rs.n0 b_253 (x_iadd d_253_21 rfl) ?_
      obtain ⟨S23, e24, h0⟩ := bS h0
      refine m_Rs.dfput b_253 d_253_22 h hF e24 rfl rfl rfl rfl rfl rfl (fun w1 h hF => ?_)
      refine m_Rs.n0 b_253 (x_goto d_253_25 rfl) ?_
      exact m_Rs.pick [0, 1] rfl (ih h hF h0)
def D_m_name (F : Nat) (S : mS) : Option (Int32 × mS) := D_m_name_5 F F (S.1 4) S
theorem T_m_name {l : Launch} {w : List mM} {F : Nat} {S : mS} {r : Int32 × mS} (h : m_RM S w) (h0 : D_m_name F S = some r) : m_Rs l M_253 (m_ent M_253 [.ref 583] w) (fun v w' => v = some (.int r.1) ∧ m_RM r.2 w' ∧ m_Fq w w') 0 0 1 100 := by
  show m_Rs l M_253 (0, [(0, .ref 583)], [], w) _ 0 0 1 100
  generalize hw0 : w = w0 at h ⊢
  have hF : m_Fq w0 w0 := m_Fq.refl
  rw [D_m_name] at h0
  refine m_Rs.n0 b_253 (x_aload_n d_253_0 rfl) ?_
  refine m_Rs.n0 b_253 (x_getf d_253_1 rfl h.1 rfl) ?_
  refine m_Rs.n0 b_253 (x_istore_n d_253_4 rfl (show m_put1 _ _ _ = [(1, _), (0, _)] from rfl)) ?_
  exact m_Rs.pick [1, 0] rfl (T_m_name_5 F h hF h0)
def D_m_anyValue_0 (F : Nat) : Nat → mS → Option (mS)
  | 0, _ => none
  | n + 1, S => (D_m_see F S).bind fun v1 => cond (m_c2 .eq v1 (10 : Int32)) (some S) (cond (m_c2 .ge (S.1 4) (S.1 2)) (some S) ((fput S 4 ((S.1 4) + (1 : Int32))).bind fun S5 => D_m_anyValue_0 F n S5))
theorem T_m_anyValue_0 {l : Launch} {w0 : List mM} {F : Nat} : ∀ (n : Nat) {S : mS} {w : List mM} {r : mS}, m_RM S w → m_Fq w0 w → D_m_anyValue_0 F n S = some r → m_Rs l M_267 (0, [(0, .ref 583)], [], w) (fun v w' => v = none ∧ m_RM r w' ∧ m_Fq w0 w') 0 0 1 100 := by
  intro n
  induction n with
  | zero => intro S w r h hF h0; cases h0
  | succ n ih =>
    intro S w r h hF h0
    rw [D_m_anyValue_0] at h0
    refine m_Rs.n0 b_267 (x_aload_n d_267_0 rfl) ?_
    obtain ⟨v1, e2, h0⟩ := bS h0
    refine m_Rs.callS b_267 (y_cv d_267_1 rfl q_245 (m_isRecv_of rfl h.1) (show m_takeI _ _ = some (_, [_], []) from rfl) (by simp only [m_okf, List.all_cons, List.all_nil, Bool.and_true, Bool.and_self, m_okv_i, m_okv_l, m_okv_0, m_okv_t, m_okv_at h.1]) rfl) (T_m_see h e2) hF rfl (fun w1 h hF => ?_) (by decide) (by decide)
    refine m_Rs.n0 b_267 (x_bipush (z := 10) d_267_4 (by decide)) ?_
    cases hc3 : m_c2 .eq v1 (10 : Int32) with
    | true =>
      have h0 := cT hc3 h0
      refine m_Rs.n0 b_267 (x_ict d_267_6 rfl hc3) ?_
      exact m_Rs.ret b_267 (m_rt_vr d_267_33 rfl) (rV h0 h hF)
    | false =>
      have h0 := cF hc3 h0
      refine m_Rs.n0 b_267 (x_icf d_267_6 rfl hc3) ?_
      refine m_Rs.n0 b_267 (x_aload_n d_267_9 rfl) ?_
      refine m_Rs.n0 b_267 (x_getf d_267_10 rfl h.1 rfl) ?_
      refine m_Rs.n0 b_267 (x_aload_n d_267_13 rfl) ?_
      refine m_Rs.n0 b_267 (x_getf d_267_14 rfl h.1 rfl) ?_
      cases hc4 : m_c2 .ge (S.1 4) (S.1 2) with
      | true =>
        have h0 := cT hc4 h0
        refine m_Rs.n0 b_267 (x_ict d_267_17 rfl hc4) ?_
        exact m_Rs.ret b_267 (m_rt_vr d_267_33 rfl) (rV h0 h hF)
      | false =>
        have h0 := cF hc4 h0
        refine m_Rs.n0 b_267 (x_icf d_267_17 rfl hc4) ?_
        refine m_Rs.n0 b_267 (x_aload_n d_267_20 rfl) ?_
        refine m_Rs.n0 b_267 (x_dup d_267_21 rfl) ?_
        refine m_Rs.n0 b_267 (x_getf d_267_22 rfl h.1 rfl) ?_
        refine m_Rs.n0 b_267 (x_iconst (z := 1) d_267_25 (by decide)) ?_
        refine m_Rs.n0 b_267 (x_iadd d_267_26 rfl) ?_
        obtain ⟨S5, e6, h0⟩ := bS h0
        refine m_Rs.dfput b_267 d_267_27 h hF e6 rfl rfl rfl rfl rfl rfl (fun w1 h hF => ?_)
        refine m_Rs.n0 b_267 (x_goto d_267_30 rfl) ?_
        exact m_Rs.pick [0] rfl (ih h hF h0)
def D_m_anyValue (F : Nat) (S : mS) : Option (mS) := D_m_anyValue_0 F F S
theorem T_m_anyValue {l : Launch} {w : List mM} {F : Nat} {S : mS} {r : mS} (h : m_RM S w) (h0 : D_m_anyValue F S = some r) : m_Rs l M_267 (m_ent M_267 [.ref 583] w) (fun v w' => v = none ∧ m_RM r w' ∧ m_Fq w w') 0 0 1 100 := by
  show m_Rs l M_267 (0, [(0, .ref 583)], [], w) _ 0 0 1 100
  generalize hw0 : w = w0 at h ⊢
  have hF : m_Fq w0 w0 := m_Fq.refl
  rw [D_m_anyValue] at h0
  exact m_Rs.pick [0] rfl (T_m_anyValue_0 F h hF h0)
