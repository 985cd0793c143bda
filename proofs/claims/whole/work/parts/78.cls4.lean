/-! The class's methods as guarded functions. Written by wip/tool/decc1.py. -/
theorem q_146 : m_mt[146]? = some M_146 := by rfl
theorem q_145 : m_mt[145]? = some M_145 := by rfl
theorem q_147 : m_mt[147]? = some M_147 := by rfl
theorem q_137 : m_mt[137]? = some M_137 := by rfl
theorem q_127 : m_mt[127]? = some M_127 := by rfl
theorem q_126 : m_mt[126]? = some M_126 := by rfl
theorem q_148 : m_mt[148]? = some M_148 := by rfl
theorem q_149 : m_mt[149]? = some M_149 := by rfl
theorem q_150 : m_mt[150]? = some M_150 := by rfl
theorem q_153 : m_mt[153]? = some M_153 := by rfl
theorem q_152 : m_mt[152]? = some M_152 := by rfl
theorem q_151 : m_mt[151]? = some M_151 := by rfl
theorem q_155 : m_mt[155]? = some M_155 := by rfl
theorem q_156 : m_mt[156]? = some M_156 := by rfl
theorem q_159 : m_mt[159]? = some M_159 := by rfl
theorem q_160 : m_mt[160]? = some M_160 := by rfl
theorem q_184 : m_mt[184]? = some M_184 := by rfl
theorem q_218 : m_mt[218]? = some M_218 := by rfl
theorem q_163 : m_mt[163]? = some M_163 := by rfl
theorem q_222 : m_mt[222]? = some M_222 := by rfl
theorem q_221 : m_mt[221]? = some M_221 := by rfl
theorem q_220 : m_mt[220]? = some M_220 := by rfl
theorem q_224 : m_mt[224]? = some M_224 := by rfl
theorem q_223 : m_mt[223]? = some M_223 := by rfl
theorem q_227 : m_mt[227]? = some M_227 := by rfl
theorem q_226 : m_mt[226]? = some M_226 := by rfl
theorem q_225 : m_mt[225]? = some M_225 := by rfl
theorem q_228 : m_mt[228]? = some M_228 := by rfl
theorem q_231 : m_mt[231]? = some M_231 := by rfl
theorem q_233 : m_mt[233]? = some M_233 := by rfl
theorem q_232 : m_mt[232]? = some M_232 := by rfl
theorem b_146 : m_bOk M_146 := (m_mt_ok M_146 (List.mem_of_getElem? q_146)).body
theorem b_145 : m_bOk M_145 := (m_mt_ok M_145 (List.mem_of_getElem? q_145)).body
theorem b_147 : m_bOk M_147 := (m_mt_ok M_147 (List.mem_of_getElem? q_147)).body
theorem b_137 : m_bOk M_137 := (m_mt_ok M_137 (List.mem_of_getElem? q_137)).body
theorem b_127 : m_bOk M_127 := (m_mt_ok M_127 (List.mem_of_getElem? q_127)).body
theorem b_126 : m_bOk M_126 := (m_mt_ok M_126 (List.mem_of_getElem? q_126)).body
theorem b_148 : m_bOk M_148 := (m_mt_ok M_148 (List.mem_of_getElem? q_148)).body
theorem b_149 : m_bOk M_149 := (m_mt_ok M_149 (List.mem_of_getElem? q_149)).body
theorem b_150 : m_bOk M_150 := (m_mt_ok M_150 (List.mem_of_getElem? q_150)).body
theorem b_153 : m_bOk M_153 := (m_mt_ok M_153 (List.mem_of_getElem? q_153)).body
theorem b_152 : m_bOk M_152 := (m_mt_ok M_152 (List.mem_of_getElem? q_152)).body
theorem b_151 : m_bOk M_151 := (m_mt_ok M_151 (List.mem_of_getElem? q_151)).body
theorem b_155 : m_bOk M_155 := (m_mt_ok M_155 (List.mem_of_getElem? q_155)).body
theorem b_156 : m_bOk M_156 := (m_mt_ok M_156 (List.mem_of_getElem? q_156)).body
theorem b_159 : m_bOk M_159 := (m_mt_ok M_159 (List.mem_of_getElem? q_159)).body
theorem b_160 : m_bOk M_160 := (m_mt_ok M_160 (List.mem_of_getElem? q_160)).body
theorem b_184 : m_bOk M_184 := (m_mt_ok M_184 (List.mem_of_getElem? q_184)).body
theorem b_218 : m_bOk M_218 := (m_mt_ok M_218 (List.mem_of_getElem? q_218)).body
theorem b_163 : m_bOk M_163 := (m_mt_ok M_163 (List.mem_of_getElem? q_163)).body
theorem b_222 : m_bOk M_222 := (m_mt_ok M_222 (List.mem_of_getElem? q_222)).body
theorem b_221 : m_bOk M_221 := (m_mt_ok M_221 (List.mem_of_getElem? q_221)).body
theorem b_220 : m_bOk M_220 := (m_mt_ok M_220 (List.mem_of_getElem? q_220)).body
theorem b_224 : m_bOk M_224 := (m_mt_ok M_224 (List.mem_of_getElem? q_224)).body
theorem b_223 : m_bOk M_223 := (m_mt_ok M_223 (List.mem_of_getElem? q_223)).body
theorem b_227 : m_bOk M_227 := (m_mt_ok M_227 (List.mem_of_getElem? q_227)).body
theorem b_226 : m_bOk M_226 := (m_mt_ok M_226 (List.mem_of_getElem? q_226)).body
theorem b_225 : m_bOk M_225 := (m_mt_ok M_225 (List.mem_of_getElem? q_225)).body
theorem b_228 : m_bOk M_228 := (m_mt_ok M_228 (List.mem_of_getElem? q_228)).body
theorem b_231 : m_bOk M_231 := (m_mt_ok M_231 (List.mem_of_getElem? q_231)).body
theorem b_233 : m_bOk M_233 := (m_mt_ok M_233 (List.mem_of_getElem? q_233)).body
theorem b_232 : m_bOk M_232 := (m_mt_ok M_232 (List.mem_of_getElem? q_232)).body
theorem d_126_0 : m_dn M_126 0 (.iload_n 1) 1 1 := by decide +kernel
theorem d_126_1 : m_dn M_126 1 (.ifCond .lt 14) 3 4 := by decide +kernel
theorem d_126_12 : m_dn M_126 12 (.if_icmp .lt 5) 3 15 := by decide +kernel
theorem d_126_15 : m_dn M_126 15 (.iconst 0) 1 16 := by decide +kernel
theorem d_126_16 : m_dn M_126 16 (.ireturn) 1 17 := by decide +kernel
theorem d_126_17 : m_dn M_126 17 (.aload_n 0) 1 18 := by decide +kernel
theorem d_126_18 : m_dn M_126 18 (.aload_n 0) 1 19 := by decide +kernel
theorem d_126_19 : m_dn M_126 19 (.getfield 44) 3 22 := by decide +kernel
theorem d_126_22 : m_dn M_126 22 (.iload_n 1) 1 23 := by decide +kernel
theorem d_126_23 : m_dn M_126 23 (.invokevirtual 137) 3 26 := by decide +kernel
theorem d_126_26 : m_dn M_126 26 (.checkcast 141) 3 29 := by decide +kernel
theorem d_126_29 : m_dn M_126 29 (.invokevirtual 143) 3 32 := by decide +kernel
theorem d_126_32 : m_dn M_126 32 (.iconst 1) 1 33 := by decide +kernel
theorem d_126_33 : m_dn M_126 33 (.ireturn) 1 34 := by decide +kernel
theorem d_126_4 : m_dn M_126 4 (.iload_n 1) 1 5 := by decide +kernel
theorem d_126_5 : m_dn M_126 5 (.aload_n 0) 1 6 := by decide +kernel
theorem d_126_6 : m_dn M_126 6 (.getfield 44) 3 9 := by decide +kernel
theorem d_126_9 : m_dn M_126 9 (.invokevirtual 94) 3 12 := by decide +kernel
theorem d_127_0 : m_dn M_127 0 (.aload_n 1) 1 1 := by decide +kernel
theorem d_127_1 : m_dn M_127 1 (.getfield 276) 3 4 := by decide +kernel
theorem d_127_101 : m_dn M_127 101 (.aload 4) 2 103 := by decide +kernel
theorem d_127_103 : m_dn M_127 103 (.ifnull 36) 3 106 := by decide +kernel
theorem d_127_106 : m_dn M_127 106 (.aload 4) 2 108 := by decide +kernel
theorem d_127_108 : m_dn M_127 108 (.astore 5) 2 110 := by decide +kernel
theorem d_127_110 : m_dn M_127 110 (.aload 5) 2 112 := by decide +kernel
theorem d_127_112 : m_dn M_127 112 (.getfield 196) 3 115 := by decide +kernel
theorem d_127_115 : m_dn M_127 115 (.astore 4) 2 117 := by decide +kernel
theorem d_127_117 : m_dn M_127 117 (.aload 5) 2 119 := by decide +kernel
theorem d_127_119 : m_dn M_127 119 (.aconst_null) 1 120 := by decide +kernel
theorem d_127_12 : m_dn M_127 12 (.return_) 1 13 := by decide +kernel
theorem d_127_120 : m_dn M_127 120 (.putfield 196) 3 123 := by decide +kernel
theorem d_127_123 : m_dn M_127 123 (.aload 5) 2 125 := by decide +kernel
theorem d_127_125 : m_dn M_127 125 (.iload_n 3) 1 126 := by decide +kernel
theorem d_127_126 : m_dn M_127 126 (.putfield 295) 3 129 := by decide +kernel
theorem d_127_129 : m_dn M_127 129 (.aload_n 0) 1 130 := by decide +kernel
theorem d_127_13 : m_dn M_127 13 (.aload_n 1) 1 14 := by decide +kernel
theorem d_127_130 : m_dn M_127 130 (.aload_n 2) 1 131 := by decide +kernel
theorem d_127_131 : m_dn M_127 131 (.aload 5) 2 133 := by decide +kernel
theorem d_127_133 : m_dn M_127 133 (.invokevirtual 130) 3 136 := by decide +kernel
theorem d_127_136 : m_dn M_127 136 (.goto (-35)) 3 139 := by decide +kernel
theorem d_127_139 : m_dn M_127 139 (.return_) 1 140 := by decide +kernel
theorem d_127_14 : m_dn M_127 14 (.getfield 276) 3 17 := by decide +kernel
theorem d_127_17 : m_dn M_127 17 (.invokestatic 181) 3 20 := by decide +kernel
theorem d_127_20 : m_dn M_127 20 (.ifCond .eq 18) 3 23 := by decide +kernel
theorem d_127_23 : m_dn M_127 23 (.aload_n 0) 1 24 := by decide +kernel
theorem d_127_24 : m_dn M_127 24 (.getfield 28) 3 27 := by decide +kernel
theorem d_127_27 : m_dn M_127 27 (.aload_n 1) 1 28 := by decide +kernel
theorem d_127_28 : m_dn M_127 28 (.getfield 276) 3 31 := by decide +kernel
theorem d_127_31 : m_dn M_127 31 (.aaload) 1 32 := by decide +kernel
theorem d_127_32 : m_dn M_127 32 (.getfield 160) 3 35 := by decide +kernel
theorem d_127_35 : m_dn M_127 35 (.ifCond .ne 4) 3 38 := by decide +kernel
theorem d_127_38 : m_dn M_127 38 (.return_) 1 39 := by decide +kernel
theorem d_127_39 : m_dn M_127 39 (.aload_n 0) 1 40 := by decide +kernel
theorem d_127_4 : m_dn M_127 4 (.ifCond .ne 9) 3 7 := by decide +kernel
theorem d_127_40 : m_dn M_127 40 (.getfield 28) 3 43 := by decide +kernel
theorem d_127_43 : m_dn M_127 43 (.aload_n 1) 1 44 := by decide +kernel
theorem d_127_44 : m_dn M_127 44 (.getfield 276) 3 47 := by decide +kernel
theorem d_127_47 : m_dn M_127 47 (.aaload) 1 48 := by decide +kernel
theorem d_127_48 : m_dn M_127 48 (.astore_n 2) 1 49 := by decide +kernel
theorem d_127_49 : m_dn M_127 49 (.aload_n 1) 1 50 := by decide +kernel
theorem d_127_50 : m_dn M_127 50 (.getfield 282) 3 53 := by decide +kernel
theorem d_127_53 : m_dn M_127 53 (.iconst 2) 1 54 := by decide +kernel
theorem d_127_54 : m_dn M_127 54 (.if_icmp .ne 10) 3 57 := by decide +kernel
theorem d_127_57 : m_dn M_127 57 (.aload_n 0) 1 58 := by decide +kernel
theorem d_127_58 : m_dn M_127 58 (.aload_n 2) 1 59 := by decide +kernel
theorem d_127_59 : m_dn M_127 59 (.aload_n 1) 1 60 := by decide +kernel
theorem d_127_60 : m_dn M_127 60 (.invokevirtual 285) 3 63 := by decide +kernel
theorem d_127_63 : m_dn M_127 63 (.return_) 1 64 := by decide +kernel
theorem d_127_64 : m_dn M_127 64 (.aload_n 1) 1 65 := by decide +kernel
theorem d_127_65 : m_dn M_127 65 (.getfield 282) 3 68 := by decide +kernel
theorem d_127_68 : m_dn M_127 68 (.iconst 1) 1 69 := by decide +kernel
theorem d_127_69 : m_dn M_127 69 (.if_icmp .ne 7) 3 72 := by decide +kernel
theorem d_127_7 : m_dn M_127 7 (.aload_n 0) 1 8 := by decide +kernel
theorem d_127_72 : m_dn M_127 72 (.iconst 1) 1 73 := by decide +kernel
theorem d_127_73 : m_dn M_127 73 (.goto 4) 3 76 := by decide +kernel
theorem d_127_76 : m_dn M_127 76 (.iconst 0) 1 77 := by decide +kernel
theorem d_127_77 : m_dn M_127 77 (.istore_n 3) 1 78 := by decide +kernel
theorem d_127_78 : m_dn M_127 78 (.iload_n 3) 1 79 := by decide +kernel
theorem d_127_79 : m_dn M_127 79 (.ifCond .eq 12) 3 82 := by decide +kernel
theorem d_127_8 : m_dn M_127 8 (.aload_n 1) 1 9 := by decide +kernel
theorem d_127_82 : m_dn M_127 82 (.aload_n 0) 1 83 := by decide +kernel
theorem d_127_83 : m_dn M_127 83 (.aload_n 2) 1 84 := by decide +kernel
theorem d_127_84 : m_dn M_127 84 (.aload_n 1) 1 85 := by decide +kernel
theorem d_127_85 : m_dn M_127 85 (.invokevirtual 289) 3 88 := by decide +kernel
theorem d_127_88 : m_dn M_127 88 (.goto 11) 3 91 := by decide +kernel
theorem d_127_9 : m_dn M_127 9 (.invokevirtual 279) 3 12 := by decide +kernel
theorem d_127_91 : m_dn M_127 91 (.new 114) 3 94 := by decide +kernel
theorem d_127_94 : m_dn M_127 94 (.dup) 1 95 := by decide +kernel
theorem d_127_95 : m_dn M_127 95 (.aload_n 1) 1 96 := by decide +kernel
theorem d_127_96 : m_dn M_127 96 (.invokespecial 293) 3 99 := by decide +kernel
theorem d_127_99 : m_dn M_127 99 (.astore 4) 2 101 := by decide +kernel
theorem d_137_0 : m_dn M_137 0 (.aload_n 1) 1 1 := by decide +kernel
theorem d_137_1 : m_dn M_137 1 (.aload_n 2) 1 2 := by decide +kernel
theorem d_137_10 : m_dn M_137 10 (.ifnonnull 5) 3 13 := by decide +kernel
theorem d_137_100 : m_dn M_137 100 (.aload_n 0) 1 101 := by decide +kernel
theorem d_137_101 : m_dn M_137 101 (.aload_n 1) 1 102 := by decide +kernel
theorem d_137_102 : m_dn M_137 102 (.aload_n 3) 1 103 := by decide +kernel
theorem d_137_103 : m_dn M_137 103 (.invokevirtual 372) 3 106 := by decide +kernel
theorem d_137_106 : m_dn M_137 106 (.ifCond .ne 12) 3 109 := by decide +kernel
theorem d_137_109 : m_dn M_137 109 (.aload_n 0) 1 110 := by decide +kernel
theorem d_137_110 : m_dn M_137 110 (.aload_n 1) 1 111 := by decide +kernel
theorem d_137_111 : m_dn M_137 111 (.aload_n 3) 1 112 := by decide +kernel
theorem d_137_112 : m_dn M_137 112 (.getfield 192) 3 115 := by decide +kernel
theorem d_137_115 : m_dn M_137 115 (.invokevirtual 349) 3 118 := by decide +kernel
theorem d_137_118 : m_dn M_137 118 (.aconst_null) 1 119 := by decide +kernel
theorem d_137_119 : m_dn M_137 119 (.areturn) 1 120 := by decide +kernel
theorem d_137_120 : m_dn M_137 120 (.aload_n 0) 1 121 := by decide +kernel
theorem d_137_121 : m_dn M_137 121 (.aload_n 1) 1 122 := by decide +kernel
theorem d_137_122 : m_dn M_137 122 (.aload_n 3) 1 123 := by decide +kernel
theorem d_137_123 : m_dn M_137 123 (.aload_n 2) 1 124 := by decide +kernel
theorem d_137_124 : m_dn M_137 124 (.invokevirtual 376) 3 127 := by decide +kernel
theorem d_137_127 : m_dn M_137 127 (.astore 4) 2 129 := by decide +kernel
theorem d_137_129 : m_dn M_137 129 (.aload_n 2) 1 130 := by decide +kernel
theorem d_137_13 : m_dn M_137 13 (.aconst_null) 1 14 := by decide +kernel
theorem d_137_130 : m_dn M_137 130 (.getfield 355) 3 133 := by decide +kernel
theorem d_137_133 : m_dn M_137 133 (.getfield 380) 3 136 := by decide +kernel
theorem d_137_136 : m_dn M_137 136 (.ifCond .ne 12) 3 139 := by decide +kernel
theorem d_137_139 : m_dn M_137 139 (.aload_n 1) 1 140 := by decide +kernel
theorem d_137_14 : m_dn M_137 14 (.areturn) 1 15 := by decide +kernel
theorem d_137_140 : m_dn M_137 140 (.getfield 208) 3 143 := by decide +kernel
theorem d_137_143 : m_dn M_137 143 (.aload 4) 2 145 := by decide +kernel
theorem d_137_145 : m_dn M_137 145 (.invokevirtual 383) 3 148 := by decide +kernel
theorem d_137_148 : m_dn M_137 148 (.aload_n 3) 1 149 := by decide +kernel
theorem d_137_149 : m_dn M_137 149 (.getfield 192) 3 152 := by decide +kernel
theorem d_137_15 : m_dn M_137 15 (.aload_n 2) 1 16 := by decide +kernel
theorem d_137_152 : m_dn M_137 152 (.astore 5) 2 154 := by decide +kernel
theorem d_137_154 : m_dn M_137 154 (.aload 5) 2 156 := by decide +kernel
theorem d_137_156 : m_dn M_137 156 (.ifnull 13) 3 159 := by decide +kernel
theorem d_137_159 : m_dn M_137 159 (.aload 4) 2 161 := by decide +kernel
theorem d_137_16 : m_dn M_137 16 (.getfield 346) 3 19 := by decide +kernel
theorem d_137_161 : m_dn M_137 161 (.aload 5) 2 163 := by decide +kernel
theorem d_137_163 : m_dn M_137 163 (.invokevirtual 387) 3 166 := by decide +kernel
theorem d_137_166 : m_dn M_137 166 (.ifCond .ne 6) 3 169 := by decide +kernel
theorem d_137_169 : m_dn M_137 169 (.aload 5) 2 171 := by decide +kernel
theorem d_137_171 : m_dn M_137 171 (.areturn) 1 172 := by decide +kernel
theorem d_137_172 : m_dn M_137 172 (.aload_n 0) 1 173 := by decide +kernel
theorem d_137_173 : m_dn M_137 173 (.aload_n 1) 1 174 := by decide +kernel
theorem d_137_174 : m_dn M_137 174 (.aload 5) 2 176 := by decide +kernel
theorem d_137_176 : m_dn M_137 176 (.aload 4) 2 178 := by decide +kernel
theorem d_137_178 : m_dn M_137 178 (.iconst 0) 1 179 := by decide +kernel
theorem d_137_179 : m_dn M_137 179 (.invokevirtual 391) 3 182 := by decide +kernel
theorem d_137_182 : m_dn M_137 182 (.aload 5) 2 184 := by decide +kernel
theorem d_137_184 : m_dn M_137 184 (.getfield 196) 3 187 := by decide +kernel
theorem d_137_187 : m_dn M_137 187 (.areturn) 1 188 := by decide +kernel
theorem d_137_19 : m_dn M_137 19 (.sipush 504) 3 22 := by decide +kernel
theorem d_137_2 : m_dn M_137 2 (.getfield 298) 3 5 := by decide +kernel
theorem d_137_22 : m_dn M_137 22 (.if_icmp .ne 14) 3 25 := by decide +kernel
theorem d_137_25 : m_dn M_137 25 (.aload_n 0) 1 26 := by decide +kernel
theorem d_137_26 : m_dn M_137 26 (.aload_n 1) 1 27 := by decide +kernel
theorem d_137_27 : m_dn M_137 27 (.aload_n 3) 1 28 := by decide +kernel
theorem d_137_28 : m_dn M_137 28 (.getfield 192) 3 31 := by decide +kernel
theorem d_137_31 : m_dn M_137 31 (.invokevirtual 349) 3 34 := by decide +kernel
theorem d_137_34 : m_dn M_137 34 (.aconst_null) 1 35 := by decide +kernel
theorem d_137_35 : m_dn M_137 35 (.areturn) 1 36 := by decide +kernel
theorem d_137_36 : m_dn M_137 36 (.aload_n 1) 1 37 := by decide +kernel
theorem d_137_37 : m_dn M_137 37 (.aload_n 2) 1 38 := by decide +kernel
theorem d_137_38 : m_dn M_137 38 (.getfield 352) 3 41 := by decide +kernel
theorem d_137_41 : m_dn M_137 41 (.invokevirtual 205) 3 44 := by decide +kernel
theorem d_137_44 : m_dn M_137 44 (.aload_n 2) 1 45 := by decide +kernel
theorem d_137_45 : m_dn M_137 45 (.getfield 346) 3 48 := by decide +kernel
theorem d_137_48 : m_dn M_137 48 (.sipush 404) 3 51 := by decide +kernel
theorem d_137_5 : m_dn M_137 5 (.invokevirtual 342) 3 8 := by decide +kernel
theorem d_137_51 : m_dn M_137 51 (.if_icmp .eq 10) 3 54 := by decide +kernel
theorem d_137_54 : m_dn M_137 54 (.aload_n 2) 1 55 := by decide +kernel
theorem d_137_55 : m_dn M_137 55 (.getfield 355) 3 58 := by decide +kernel
theorem d_137_58 : m_dn M_137 58 (.ifnonnull 32) 3 61 := by decide +kernel
theorem d_137_61 : m_dn M_137 61 (.aload_n 1) 1 62 := by decide +kernel
theorem d_137_62 : m_dn M_137 62 (.getfield 208) 3 65 := by decide +kernel
theorem d_137_65 : m_dn M_137 65 (.aload_n 3) 1 66 := by decide +kernel
theorem d_137_66 : m_dn M_137 66 (.getfield 359) 3 69 := by decide +kernel
theorem d_137_69 : m_dn M_137 69 (.aload_n 3) 1 70 := by decide +kernel
theorem d_137_70 : m_dn M_137 70 (.getfield 360) 3 73 := by decide +kernel
theorem d_137_73 : m_dn M_137 73 (.invokevirtual 361) 3 76 := by decide +kernel
theorem d_137_76 : m_dn M_137 76 (.aload_n 0) 1 77 := by decide +kernel
theorem d_137_77 : m_dn M_137 77 (.aload_n 1) 1 78 := by decide +kernel
theorem d_137_78 : m_dn M_137 78 (.aload_n 3) 1 79 := by decide +kernel
theorem d_137_79 : m_dn M_137 79 (.getfield 192) 3 82 := by decide +kernel
theorem d_137_8 : m_dn M_137 8 (.astore_n 3) 1 9 := by decide +kernel
theorem d_137_82 : m_dn M_137 82 (.sipush 404) 3 85 := by decide +kernel
theorem d_137_85 : m_dn M_137 85 (.invokevirtual 364) 3 88 := by decide +kernel
theorem d_137_88 : m_dn M_137 88 (.aconst_null) 1 89 := by decide +kernel
theorem d_137_89 : m_dn M_137 89 (.areturn) 1 90 := by decide +kernel
theorem d_137_9 : m_dn M_137 9 (.aload_n 3) 1 10 := by decide +kernel
theorem d_137_90 : m_dn M_137 90 (.aload_n 0) 1 91 := by decide +kernel
theorem d_137_91 : m_dn M_137 91 (.aload_n 1) 1 92 := by decide +kernel
theorem d_137_92 : m_dn M_137 92 (.aload_n 3) 1 93 := by decide +kernel
theorem d_137_93 : m_dn M_137 93 (.aload_n 2) 1 94 := by decide +kernel
theorem d_137_94 : m_dn M_137 94 (.invokevirtual 368) 3 97 := by decide +kernel
theorem d_137_97 : m_dn M_137 97 (.ifCond .eq 23) 3 100 := by decide +kernel
theorem d_145_0 : m_dn M_145 0 (.aload_n 3) 1 1 := by decide +kernel
theorem d_145_1 : m_dn M_145 1 (.getfield 355) 3 4 := by decide +kernel
theorem d_145_10 : m_dn M_145 10 (.aload_n 2) 1 11 := by decide +kernel
theorem d_145_102 : m_dn M_145 102 (.aload 5) 2 104 := by decide +kernel
theorem d_145_104 : m_dn M_145 104 (.getfield 421) 3 107 := by decide +kernel
theorem d_145_107 : m_dn M_145 107 (.aload 5) 2 109 := by decide +kernel
theorem d_145_109 : m_dn M_145 109 (.getfield 422) 3 112 := by decide +kernel
theorem d_145_11 : m_dn M_145 11 (.getfield 359) 3 14 := by decide +kernel
theorem d_145_112 : m_dn M_145 112 (.invokevirtual 249) 3 115 := by decide +kernel
theorem d_145_115 : m_dn M_145 115 (.astore 6) 2 117 := by decide +kernel
theorem d_145_117 : m_dn M_145 117 (.aload 6) 2 119 := by decide +kernel
theorem d_145_119 : m_dn M_145 119 (.ifnull 34) 3 122 := by decide +kernel
theorem d_145_122 : m_dn M_145 122 (.aload 6) 2 124 := by decide +kernel
theorem d_145_124 : m_dn M_145 124 (.getfield 408) 3 127 := by decide +kernel
theorem d_145_127 : m_dn M_145 127 (.getfield 91) 3 130 := by decide +kernel
theorem d_145_130 : m_dn M_145 130 (.aload 4) 2 132 := by decide +kernel
theorem d_145_132 : m_dn M_145 132 (.getfield 91) 3 135 := by decide +kernel
theorem d_145_135 : m_dn M_145 135 (.if_icmp .ne 18) 3 138 := by decide +kernel
theorem d_145_138 : m_dn M_145 138 (.aload 5) 2 140 := by decide +kernel
theorem d_145_14 : m_dn M_145 14 (.aload_n 2) 1 15 := by decide +kernel
theorem d_145_140 : m_dn M_145 140 (.dup) 1 141 := by decide +kernel
theorem d_145_141 : m_dn M_145 141 (.getfield 326) 3 144 := by decide +kernel
theorem d_145_144 : m_dn M_145 144 (.aload 6) 2 146 := by decide +kernel
theorem d_145_146 : m_dn M_145 146 (.getfield 326) 3 149 := by decide +kernel
theorem d_145_149 : m_dn M_145 149 (.ior) 1 150 := by decide +kernel
theorem d_145_15 : m_dn M_145 15 (.getfield 360) 3 18 := by decide +kernel
theorem d_145_150 : m_dn M_145 150 (.putfield 326) 3 153 := by decide +kernel
theorem d_145_153 : m_dn M_145 153 (.aload 6) 2 155 := by decide +kernel
theorem d_145_155 : m_dn M_145 155 (.ifnull 12) 3 158 := by decide +kernel
theorem d_145_158 : m_dn M_145 158 (.aload_n 1) 1 159 := by decide +kernel
theorem d_145_159 : m_dn M_145 159 (.getfield 208) 3 162 := by decide +kernel
theorem d_145_162 : m_dn M_145 162 (.aload 6) 2 164 := by decide +kernel
theorem d_145_164 : m_dn M_145 164 (.invokevirtual 425) 3 167 := by decide +kernel
theorem d_145_167 : m_dn M_145 167 (.aload 5) 2 169 := by decide +kernel
theorem d_145_169 : m_dn M_145 169 (.aload 6) 2 171 := by decide +kernel
theorem d_145_171 : m_dn M_145 171 (.ifnull 15) 3 174 := by decide +kernel
theorem d_145_174 : m_dn M_145 174 (.aload 6) 2 176 := by decide +kernel
theorem d_145_176 : m_dn M_145 176 (.getfield 427) 3 179 := by decide +kernel
theorem d_145_179 : m_dn M_145 179 (.ifCond .eq 7) 3 182 := by decide +kernel
theorem d_145_18 : m_dn M_145 18 (.aload 4) 2 20 := by decide +kernel
theorem d_145_182 : m_dn M_145 182 (.iconst 1) 1 183 := by decide +kernel
theorem d_145_183 : m_dn M_145 183 (.goto 4) 3 186 := by decide +kernel
theorem d_145_186 : m_dn M_145 186 (.iconst 0) 1 187 := by decide +kernel
theorem d_145_187 : m_dn M_145 187 (.putfield 427) 3 190 := by decide +kernel
theorem d_145_190 : m_dn M_145 190 (.aload 5) 2 192 := by decide +kernel
theorem d_145_192 : m_dn M_145 192 (.areturn) 1 193 := by decide +kernel
theorem d_145_20 : m_dn M_145 20 (.aload 4) 2 22 := by decide +kernel
theorem d_145_22 : m_dn M_145 22 (.aload_n 2) 1 23 := by decide +kernel
theorem d_145_23 : m_dn M_145 23 (.getfield 406) 3 26 := by decide +kernel
theorem d_145_26 : m_dn M_145 26 (.aload_n 2) 1 27 := by decide +kernel
theorem d_145_27 : m_dn M_145 27 (.getfield 407) 3 30 := by decide +kernel
theorem d_145_30 : m_dn M_145 30 (.invokevirtual 311) 3 33 := by decide +kernel
theorem d_145_33 : m_dn M_145 33 (.invokespecial 314) 3 36 := by decide +kernel
theorem d_145_36 : m_dn M_145 36 (.astore 5) 2 38 := by decide +kernel
theorem d_145_38 : m_dn M_145 38 (.aload 5) 2 40 := by decide +kernel
theorem d_145_4 : m_dn M_145 4 (.astore 4) 2 6 := by decide +kernel
theorem d_145_40 : m_dn M_145 40 (.aload_n 3) 1 41 := by decide +kernel
theorem d_145_41 : m_dn M_145 41 (.getfield 395) 3 44 := by decide +kernel
theorem d_145_44 : m_dn M_145 44 (.putfield 317) 3 47 := by decide +kernel
theorem d_145_47 : m_dn M_145 47 (.aload 5) 2 49 := by decide +kernel
theorem d_145_49 : m_dn M_145 49 (.aload_n 3) 1 50 := by decide +kernel
theorem d_145_50 : m_dn M_145 50 (.getfield 412) 3 53 := by decide +kernel
theorem d_145_53 : m_dn M_145 53 (.aload_n 0) 1 54 := by decide +kernel
theorem d_145_54 : m_dn M_145 54 (.getfield 174) 3 57 := by decide +kernel
theorem d_145_57 : m_dn M_145 57 (.iadd) 1 58 := by decide +kernel
theorem d_145_58 : m_dn M_145 58 (.aload_n 3) 1 59 := by decide +kernel
theorem d_145_59 : m_dn M_145 59 (.getfield 273) 3 62 := by decide +kernel
theorem d_145_6 : m_dn M_145 6 (.new 258) 3 9 := by decide +kernel
theorem d_145_62 : m_dn M_145 62 (.isub) 1 63 := by decide +kernel
theorem d_145_63 : m_dn M_145 63 (.putfield 415) 3 66 := by decide +kernel
theorem d_145_66 : m_dn M_145 66 (.aload 5) 2 68 := by decide +kernel
theorem d_145_68 : m_dn M_145 68 (.aload_n 0) 1 69 := by decide +kernel
theorem d_145_69 : m_dn M_145 69 (.getfield 174) 3 72 := by decide +kernel
theorem d_145_72 : m_dn M_145 72 (.putfield 320) 3 75 := by decide +kernel
theorem d_145_75 : m_dn M_145 75 (.aload 5) 2 77 := by decide +kernel
theorem d_145_77 : m_dn M_145 77 (.aload_n 3) 1 78 := by decide +kernel
theorem d_145_78 : m_dn M_145 78 (.getfield 416) 3 81 := by decide +kernel
theorem d_145_81 : m_dn M_145 81 (.putfield 326) 3 84 := by decide +kernel
theorem d_145_84 : m_dn M_145 84 (.aload_n 1) 1 85 := by decide +kernel
theorem d_145_85 : m_dn M_145 85 (.getfield 208) 3 88 := by decide +kernel
theorem d_145_88 : m_dn M_145 88 (.aload 5) 2 90 := by decide +kernel
theorem d_145_9 : m_dn M_145 9 (.dup) 1 10 := by decide +kernel
theorem d_145_90 : m_dn M_145 90 (.invokevirtual 417) 3 93 := by decide +kernel
theorem d_145_93 : m_dn M_145 93 (.aload_n 1) 1 94 := by decide +kernel
theorem d_145_94 : m_dn M_145 94 (.getfield 208) 3 97 := by decide +kernel
theorem d_145_97 : m_dn M_145 97 (.aload 5) 2 99 := by decide +kernel
theorem d_145_99 : m_dn M_145 99 (.getfield 420) 3 102 := by decide +kernel
theorem d_146_0 : m_dn M_146 0 (.aload_n 0) 1 1 := by decide +kernel
theorem d_146_1 : m_dn M_146 1 (.invokevirtual 29) 3 4 := by decide +kernel
theorem d_146_11 : m_dn M_146 11 (.aload_n 0) 1 12 := by decide +kernel
theorem d_146_12 : m_dn M_146 12 (.iload_n 2) 1 13 := by decide +kernel
theorem d_146_13 : m_dn M_146 13 (.invokevirtual 41) 3 16 := by decide +kernel
theorem d_146_16 : m_dn M_146 16 (.astore_n 3) 1 17 := by decide +kernel
theorem d_146_17 : m_dn M_146 17 (.aload_n 3) 1 18 := by decide +kernel
theorem d_146_18 : m_dn M_146 18 (.ifnull 40) 3 21 := by decide +kernel
theorem d_146_21 : m_dn M_146 21 (.aload_n 3) 1 22 := by decide +kernel
theorem d_146_22 : m_dn M_146 22 (.aload_n 1) 1 23 := by decide +kernel
theorem d_146_23 : m_dn M_146 23 (.getfield 83) 3 26 := by decide +kernel
theorem d_146_26 : m_dn M_146 26 (.aload_n 1) 1 27 := by decide +kernel
theorem d_146_27 : m_dn M_146 27 (.getfield 86) 3 30 := by decide +kernel
theorem d_146_30 : m_dn M_146 30 (.invokevirtual 45) 3 33 := by decide +kernel
theorem d_146_33 : m_dn M_146 33 (.ifCond .eq 25) 3 36 := by decide +kernel
theorem d_146_36 : m_dn M_146 36 (.aload_n 3) 1 37 := by decide +kernel
theorem d_146_37 : m_dn M_146 37 (.getfield 62) 3 40 := by decide +kernel
theorem d_146_4 : m_dn M_146 4 (.iconst 1) 1 5 := by decide +kernel
theorem d_146_40 : m_dn M_146 40 (.getfield 89) 3 43 := by decide +kernel
theorem d_146_43 : m_dn M_146 43 (.aload_n 1) 1 44 := by decide +kernel
theorem d_146_44 : m_dn M_146 44 (.getfield 62) 3 47 := by decide +kernel
theorem d_146_47 : m_dn M_146 47 (.getfield 89) 3 50 := by decide +kernel
theorem d_146_5 : m_dn M_146 5 (.isub) 1 6 := by decide +kernel
theorem d_146_50 : m_dn M_146 50 (.if_icmp .eq 8) 3 53 := by decide +kernel
theorem d_146_53 : m_dn M_146 53 (.aload_n 0) 1 54 := by decide +kernel
theorem d_146_54 : m_dn M_146 54 (.iload_n 2) 1 55 := by decide +kernel
theorem d_146_55 : m_dn M_146 55 (.invokevirtual 79) 3 58 := by decide +kernel
theorem d_146_58 : m_dn M_146 58 (.iinc 2 (-1)) 3 61 := by decide +kernel
theorem d_146_6 : m_dn M_146 6 (.istore_n 2) 1 7 := by decide +kernel
theorem d_146_61 : m_dn M_146 61 (.goto (-54)) 3 64 := by decide +kernel
theorem d_146_64 : m_dn M_146 64 (.return_) 1 65 := by decide +kernel
theorem d_146_7 : m_dn M_146 7 (.iload_n 2) 1 8 := by decide +kernel
theorem d_146_8 : m_dn M_146 8 (.ifCond .lt 56) 3 11 := by decide +kernel
theorem d_147_0 : m_dn M_147 0 (.aload_n 1) 1 1 := by decide +kernel
theorem d_147_1 : m_dn M_147 1 (.getfield 71) 3 4 := by decide +kernel
theorem d_147_11 : m_dn M_147 11 (.aload_n 1) 1 12 := by decide +kernel
theorem d_147_12 : m_dn M_147 12 (.invokevirtual 95) 3 15 := by decide +kernel
theorem d_147_15 : m_dn M_147 15 (.pop) 1 16 := by decide +kernel
theorem d_147_16 : m_dn M_147 16 (.goto 12) 3 19 := by decide +kernel
theorem d_147_19 : m_dn M_147 19 (.aload_n 0) 1 20 := by decide +kernel
theorem d_147_20 : m_dn M_147 20 (.getfield 12) 3 23 := by decide +kernel
theorem d_147_23 : m_dn M_147 23 (.aload_n 1) 1 24 := by decide +kernel
theorem d_147_24 : m_dn M_147 24 (.invokevirtual 95) 3 27 := by decide +kernel
theorem d_147_27 : m_dn M_147 27 (.pop) 1 28 := by decide +kernel
theorem d_147_28 : m_dn M_147 28 (.aload_n 0) 1 29 := by decide +kernel
theorem d_147_29 : m_dn M_147 29 (.invokevirtual 99) 3 32 := by decide +kernel
theorem d_147_32 : m_dn M_147 32 (.return_) 1 33 := by decide +kernel
theorem d_147_4 : m_dn M_147 4 (.ifCond .eq 15) 3 7 := by decide +kernel
theorem d_147_7 : m_dn M_147 7 (.aload_n 0) 1 8 := by decide +kernel
theorem d_147_8 : m_dn M_147 8 (.getfield 18) 3 11 := by decide +kernel
theorem d_148_0 : m_dn M_148 0 (.iload_n 1) 1 1 := by decide +kernel
theorem d_148_1 : m_dn M_148 1 (.ifCond .lt 14) 3 4 := by decide +kernel
theorem d_148_12 : m_dn M_148 12 (.if_icmp .lt 5) 3 15 := by decide +kernel
theorem d_148_15 : m_dn M_148 15 (.iconst 0) 1 16 := by decide +kernel
theorem d_148_16 : m_dn M_148 16 (.ireturn) 1 17 := by decide +kernel
theorem d_148_17 : m_dn M_148 17 (.aload_n 0) 1 18 := by decide +kernel
theorem d_148_18 : m_dn M_148 18 (.getfield 44) 3 21 := by decide +kernel
theorem d_148_21 : m_dn M_148 21 (.iload_n 1) 1 22 := by decide +kernel
theorem d_148_22 : m_dn M_148 22 (.invokevirtual 137) 3 25 := by decide +kernel
theorem d_148_25 : m_dn M_148 25 (.pop) 1 26 := by decide +kernel
theorem d_148_26 : m_dn M_148 26 (.aload_n 0) 1 27 := by decide +kernel
theorem d_148_27 : m_dn M_148 27 (.dup) 1 28 := by decide +kernel
theorem d_148_28 : m_dn M_148 28 (.getfield 147) 3 31 := by decide +kernel
theorem d_148_31 : m_dn M_148 31 (.iconst 1) 1 32 := by decide +kernel
theorem d_148_32 : m_dn M_148 32 (.iadd) 1 33 := by decide +kernel
theorem d_148_33 : m_dn M_148 33 (.putfield 147) 3 36 := by decide +kernel
theorem d_148_36 : m_dn M_148 36 (.iconst 1) 1 37 := by decide +kernel
theorem d_148_37 : m_dn M_148 37 (.ireturn) 1 38 := by decide +kernel
theorem d_148_4 : m_dn M_148 4 (.iload_n 1) 1 5 := by decide +kernel
theorem d_148_5 : m_dn M_148 5 (.aload_n 0) 1 6 := by decide +kernel
theorem d_148_6 : m_dn M_148 6 (.getfield 44) 3 9 := by decide +kernel
theorem d_148_9 : m_dn M_148 9 (.invokevirtual 94) 3 12 := by decide +kernel
theorem d_149_0 : m_dn M_149 0 (.iconst 0) 1 1 := by decide +kernel
theorem d_149_1 : m_dn M_149 1 (.istore_n 1) 1 2 := by decide +kernel
theorem d_149_10 : m_dn M_149 10 (.getfield 44) 3 13 := by decide +kernel
theorem d_149_13 : m_dn M_149 13 (.invokevirtual 150) 3 16 := by decide +kernel
theorem d_149_16 : m_dn M_149 16 (.ifCond .ne 24) 3 19 := by decide +kernel
theorem d_149_19 : m_dn M_149 19 (.aload_n 0) 1 20 := by decide +kernel
theorem d_149_2 : m_dn M_149 2 (.iload_n 1) 1 3 := by decide +kernel
theorem d_149_20 : m_dn M_149 20 (.aload_n 0) 1 21 := by decide +kernel
theorem d_149_21 : m_dn M_149 21 (.getfield 44) 3 24 := by decide +kernel
theorem d_149_24 : m_dn M_149 24 (.iconst 0) 1 25 := by decide +kernel
theorem d_149_25 : m_dn M_149 25 (.invokevirtual 137) 3 28 := by decide +kernel
theorem d_149_28 : m_dn M_149 28 (.checkcast 141) 3 31 := by decide +kernel
theorem d_149_3 : m_dn M_149 3 (.sipush 500) 3 6 := by decide +kernel
theorem d_149_31 : m_dn M_149 31 (.invokevirtual 143) 3 34 := by decide +kernel
theorem d_149_34 : m_dn M_149 34 (.iinc 1 1) 3 37 := by decide +kernel
theorem d_149_37 : m_dn M_149 37 (.goto (-35)) 3 40 := by decide +kernel
theorem d_149_40 : m_dn M_149 40 (.iload_n 1) 1 41 := by decide +kernel
theorem d_149_41 : m_dn M_149 41 (.ireturn) 1 42 := by decide +kernel
theorem d_149_6 : m_dn M_149 6 (.if_icmp .ge 34) 3 9 := by decide +kernel
theorem d_149_9 : m_dn M_149 9 (.aload_n 0) 1 10 := by decide +kernel
theorem d_150_0 : m_dn M_150 0 (.iload_n 1) 1 1 := by decide +kernel
theorem d_150_1 : m_dn M_150 1 (.ifCond .ne 10) 3 4 := by decide +kernel
theorem d_150_102 : m_dn M_150 102 (.ifCond .eq 38) 3 105 := by decide +kernel
theorem d_150_105 : m_dn M_150 105 (.new 141) 3 108 := by decide +kernel
theorem d_150_108 : m_dn M_150 108 (.dup) 1 109 := by decide +kernel
theorem d_150_109 : m_dn M_150 109 (.iconst 2) 1 110 := by decide +kernel
theorem d_150_11 : m_dn M_150 11 (.iload_n 1) 1 12 := by decide +kernel
theorem d_150_110 : m_dn M_150 110 (.iconst 0) 1 111 := by decide +kernel
theorem d_150_111 : m_dn M_150 111 (.iload 4) 2 113 := by decide +kernel
theorem d_150_113 : m_dn M_150 113 (.aload_n 0) 1 114 := by decide +kernel
theorem d_150_114 : m_dn M_150 114 (.getfield 154) 3 117 := by decide +kernel
theorem d_150_117 : m_dn M_150 117 (.invokespecial 164) 3 120 := by decide +kernel
theorem d_150_12 : m_dn M_150 12 (.iconst 1) 1 13 := by decide +kernel
theorem d_150_120 : m_dn M_150 120 (.astore 5) 2 122 := by decide +kernel
theorem d_150_122 : m_dn M_150 122 (.aload 5) 2 124 := by decide +kernel
theorem d_150_124 : m_dn M_150 124 (.iload_n 2) 1 125 := by decide +kernel
theorem d_150_125 : m_dn M_150 125 (.putfield 167) 3 128 := by decide +kernel
theorem d_150_128 : m_dn M_150 128 (.aload 5) 2 130 := by decide +kernel
theorem d_150_13 : m_dn M_150 13 (.if_icmp .ne 17) 3 16 := by decide +kernel
theorem d_150_130 : m_dn M_150 130 (.iload_n 1) 1 131 := by decide +kernel
theorem d_150_131 : m_dn M_150 131 (.putfield 168) 3 134 := by decide +kernel
theorem d_150_134 : m_dn M_150 134 (.aload_n 0) 1 135 := by decide +kernel
theorem d_150_135 : m_dn M_150 135 (.aload 5) 2 137 := by decide +kernel
theorem d_150_137 : m_dn M_150 137 (.invokevirtual 169) 3 140 := by decide +kernel
theorem d_150_140 : m_dn M_150 140 (.iinc 4 1) 3 143 := by decide +kernel
theorem d_150_143 : m_dn M_150 143 (.goto (-58)) 3 146 := by decide +kernel
theorem d_150_146 : m_dn M_150 146 (.aload_n 0) 1 147 := by decide +kernel
theorem d_150_147 : m_dn M_150 147 (.getfield 154) 3 150 := by decide +kernel
theorem d_150_150 : m_dn M_150 150 (.ireturn) 1 151 := by decide +kernel
theorem d_150_16 : m_dn M_150 16 (.iload_n 2) 1 17 := by decide +kernel
theorem d_150_17 : m_dn M_150 17 (.ifCond .lt 13) 3 20 := by decide +kernel
theorem d_150_20 : m_dn M_150 20 (.iload_n 2) 1 21 := by decide +kernel
theorem d_150_21 : m_dn M_150 21 (.bipush 8) 2 23 := by decide +kernel
theorem d_150_23 : m_dn M_150 23 (.if_icmp .ge 7) 3 26 := by decide +kernel
theorem d_150_26 : m_dn M_150 26 (.iconst 1) 1 27 := by decide +kernel
theorem d_150_27 : m_dn M_150 27 (.goto 4) 3 30 := by decide +kernel
theorem d_150_30 : m_dn M_150 30 (.iconst 0) 1 31 := by decide +kernel
theorem d_150_31 : m_dn M_150 31 (.istore_n 3) 1 32 := by decide +kernel
theorem d_150_32 : m_dn M_150 32 (.iload_n 3) 1 33 := by decide +kernel
theorem d_150_33 : m_dn M_150 33 (.ifCond .eq 12) 3 36 := by decide +kernel
theorem d_150_36 : m_dn M_150 36 (.aload_n 0) 1 37 := by decide +kernel
theorem d_150_37 : m_dn M_150 37 (.getfield 154) 3 40 := by decide +kernel
theorem d_150_4 : m_dn M_150 4 (.iload_n 2) 1 5 := by decide +kernel
theorem d_150_40 : m_dn M_150 40 (.bipush 60) 2 42 := by decide +kernel
theorem d_150_42 : m_dn M_150 42 (.if_icmp .lt 5) 3 45 := by decide +kernel
theorem d_150_45 : m_dn M_150 45 (.iconst (-1)) 1 46 := by decide +kernel
theorem d_150_46 : m_dn M_150 46 (.ireturn) 1 47 := by decide +kernel
theorem d_150_47 : m_dn M_150 47 (.aload_n 0) 1 48 := by decide +kernel
theorem d_150_48 : m_dn M_150 48 (.dup) 1 49 := by decide +kernel
theorem d_150_49 : m_dn M_150 49 (.getfield 154) 3 52 := by decide +kernel
theorem d_150_5 : m_dn M_150 5 (.invokestatic 80) 3 8 := by decide +kernel
theorem d_150_52 : m_dn M_150 52 (.iconst 1) 1 53 := by decide +kernel
theorem d_150_53 : m_dn M_150 53 (.iadd) 1 54 := by decide +kernel
theorem d_150_54 : m_dn M_150 54 (.putfield 154) 3 57 := by decide +kernel
theorem d_150_57 : m_dn M_150 57 (.aload_n 0) 1 58 := by decide +kernel
theorem d_150_58 : m_dn M_150 58 (.iconst 0) 1 59 := by decide +kernel
theorem d_150_59 : m_dn M_150 59 (.putfield 157) 3 62 := by decide +kernel
theorem d_150_62 : m_dn M_150 62 (.aload_n 0) 1 63 := by decide +kernel
theorem d_150_63 : m_dn M_150 63 (.getfield 35) 3 66 := by decide +kernel
theorem d_150_66 : m_dn M_150 66 (.aload_n 0) 1 67 := by decide +kernel
theorem d_150_67 : m_dn M_150 67 (.getfield 154) 3 70 := by decide +kernel
theorem d_150_70 : m_dn M_150 70 (.iload_n 1) 1 71 := by decide +kernel
theorem d_150_71 : m_dn M_150 71 (.iastore) 1 72 := by decide +kernel
theorem d_150_72 : m_dn M_150 72 (.aload_n 0) 1 73 := by decide +kernel
theorem d_150_73 : m_dn M_150 73 (.getfield 38) 3 76 := by decide +kernel
theorem d_150_76 : m_dn M_150 76 (.aload_n 0) 1 77 := by decide +kernel
theorem d_150_77 : m_dn M_150 77 (.getfield 154) 3 80 := by decide +kernel
theorem d_150_8 : m_dn M_150 8 (.ifCond .ne 18) 3 11 := by decide +kernel
theorem d_150_80 : m_dn M_150 80 (.iload_n 2) 1 81 := by decide +kernel
theorem d_150_81 : m_dn M_150 81 (.iastore) 1 82 := by decide +kernel
theorem d_150_82 : m_dn M_150 82 (.iconst 1) 1 83 := by decide +kernel
theorem d_150_83 : m_dn M_150 83 (.istore 4) 2 85 := by decide +kernel
theorem d_150_85 : m_dn M_150 85 (.iload 4) 2 87 := by decide +kernel
theorem d_150_87 : m_dn M_150 87 (.bipush 6) 2 89 := by decide +kernel
theorem d_150_89 : m_dn M_150 89 (.if_icmp .gt 57) 3 92 := by decide +kernel
theorem d_150_92 : m_dn M_150 92 (.aload_n 0) 1 93 := by decide +kernel
theorem d_150_93 : m_dn M_150 93 (.getfield 28) 3 96 := by decide +kernel
theorem d_150_96 : m_dn M_150 96 (.iload 4) 2 98 := by decide +kernel
theorem d_150_98 : m_dn M_150 98 (.aaload) 1 99 := by decide +kernel
theorem d_150_99 : m_dn M_150 99 (.getfield 160) 3 102 := by decide +kernel
theorem d_151_0 : m_dn M_151 0 (.iload_n 1) 1 1 := by decide +kernel
theorem d_151_1 : m_dn M_151 1 (.invokestatic 181) 3 4 := by decide +kernel
theorem d_151_100 : m_dn M_151 100 (.aaload) 1 101 := by decide +kernel
theorem d_151_101 : m_dn M_151 101 (.invokevirtual 199) 3 104 := by decide +kernel
theorem d_151_104 : m_dn M_151 104 (.iconst 1) 1 105 := by decide +kernel
theorem d_151_105 : m_dn M_151 105 (.ireturn) 1 106 := by decide +kernel
theorem d_151_11 : m_dn M_151 11 (.iload_n 1) 1 12 := by decide +kernel
theorem d_151_12 : m_dn M_151 12 (.aaload) 1 13 := by decide +kernel
theorem d_151_13 : m_dn M_151 13 (.getfield 160) 3 16 := by decide +kernel
theorem d_151_16 : m_dn M_151 16 (.ifCond .ne 5) 3 19 := by decide +kernel
theorem d_151_19 : m_dn M_151 19 (.iconst 0) 1 20 := by decide +kernel
theorem d_151_20 : m_dn M_151 20 (.ireturn) 1 21 := by decide +kernel
theorem d_151_21 : m_dn M_151 21 (.aload_n 0) 1 22 := by decide +kernel
theorem d_151_22 : m_dn M_151 22 (.getfield 28) 3 25 := by decide +kernel
theorem d_151_25 : m_dn M_151 25 (.iload_n 1) 1 26 := by decide +kernel
theorem d_151_26 : m_dn M_151 26 (.aaload) 1 27 := by decide +kernel
theorem d_151_27 : m_dn M_151 27 (.getfield 184) 3 30 := by decide +kernel
theorem d_151_30 : m_dn M_151 30 (.astore_n 2) 1 31 := by decide +kernel
theorem d_151_31 : m_dn M_151 31 (.iconst 0) 1 32 := by decide +kernel
theorem d_151_32 : m_dn M_151 32 (.istore_n 3) 1 33 := by decide +kernel
theorem d_151_33 : m_dn M_151 33 (.iload_n 3) 1 34 := by decide +kernel
theorem d_151_34 : m_dn M_151 34 (.aload_n 2) 1 35 := by decide +kernel
theorem d_151_35 : m_dn M_151 35 (.invokevirtual 94) 3 38 := by decide +kernel
theorem d_151_38 : m_dn M_151 38 (.if_icmp .ge 57) 3 41 := by decide +kernel
theorem d_151_4 : m_dn M_151 4 (.ifCond .eq 15) 3 7 := by decide +kernel
theorem d_151_41 : m_dn M_151 41 (.aload_n 2) 1 42 := by decide +kernel
theorem d_151_42 : m_dn M_151 42 (.iload_n 3) 1 43 := by decide +kernel
theorem d_151_43 : m_dn M_151 43 (.invokevirtual 187) 3 46 := by decide +kernel
theorem d_151_46 : m_dn M_151 46 (.checkcast 190) 3 49 := by decide +kernel
theorem d_151_49 : m_dn M_151 49 (.getfield 192) 3 52 := by decide +kernel
theorem d_151_52 : m_dn M_151 52 (.astore 4) 2 54 := by decide +kernel
theorem d_151_54 : m_dn M_151 54 (.aload 4) 2 56 := by decide +kernel
theorem d_151_56 : m_dn M_151 56 (.ifnull 33) 3 59 := by decide +kernel
theorem d_151_59 : m_dn M_151 59 (.aload 4) 2 61 := by decide +kernel
theorem d_151_61 : m_dn M_151 61 (.getfield 113) 3 64 := by decide +kernel
theorem d_151_64 : m_dn M_151 64 (.ifnull 15) 3 67 := by decide +kernel
theorem d_151_67 : m_dn M_151 67 (.aload_n 0) 1 68 := by decide +kernel
theorem d_151_68 : m_dn M_151 68 (.aload 4) 2 70 := by decide +kernel
theorem d_151_7 : m_dn M_151 7 (.aload_n 0) 1 8 := by decide +kernel
theorem d_151_70 : m_dn M_151 70 (.getfield 113) 3 73 := by decide +kernel
theorem d_151_73 : m_dn M_151 73 (.sipush 502) 3 76 := by decide +kernel
theorem d_151_76 : m_dn M_151 76 (.invokevirtual 109) 3 79 := by decide +kernel
theorem d_151_79 : m_dn M_151 79 (.aload 4) 2 81 := by decide +kernel
theorem d_151_8 : m_dn M_151 8 (.getfield 28) 3 11 := by decide +kernel
theorem d_151_81 : m_dn M_151 81 (.getfield 196) 3 84 := by decide +kernel
theorem d_151_84 : m_dn M_151 84 (.astore 4) 2 86 := by decide +kernel
theorem d_151_86 : m_dn M_151 86 (.goto (-32)) 3 89 := by decide +kernel
theorem d_151_89 : m_dn M_151 89 (.iinc 3 1) 3 92 := by decide +kernel
theorem d_151_92 : m_dn M_151 92 (.goto (-59)) 3 95 := by decide +kernel
theorem d_151_95 : m_dn M_151 95 (.aload_n 0) 1 96 := by decide +kernel
theorem d_151_96 : m_dn M_151 96 (.getfield 28) 3 99 := by decide +kernel
theorem d_151_99 : m_dn M_151 99 (.iload_n 1) 1 100 := by decide +kernel
theorem d_152_0 : m_dn M_152 0 (.aload_n 0) 1 1 := by decide +kernel
theorem d_152_1 : m_dn M_152 1 (.iconst 0) 1 2 := by decide +kernel
theorem d_152_10 : m_dn M_152 10 (.aload_n 0) 1 11 := by decide +kernel
theorem d_152_11 : m_dn M_152 11 (.getfield 12) 3 14 := by decide +kernel
theorem d_152_14 : m_dn M_152 14 (.invokevirtual 75) 3 17 := by decide +kernel
theorem d_152_17 : m_dn M_152 17 (.aload_n 0) 1 18 := by decide +kernel
theorem d_152_18 : m_dn M_152 18 (.getfield 21) 3 21 := by decide +kernel
theorem d_152_2 : m_dn M_152 2 (.putfield 36) 3 5 := by decide +kernel
theorem d_152_21 : m_dn M_152 21 (.invokevirtual 78) 3 24 := by decide +kernel
theorem d_152_24 : m_dn M_152 24 (.iconst 0) 1 25 := by decide +kernel
theorem d_152_25 : m_dn M_152 25 (.istore_n 1) 1 26 := by decide +kernel
theorem d_152_26 : m_dn M_152 26 (.iload_n 1) 1 27 := by decide +kernel
theorem d_152_27 : m_dn M_152 27 (.aload_n 0) 1 28 := by decide +kernel
theorem d_152_28 : m_dn M_152 28 (.getfield 25) 3 31 := by decide +kernel
theorem d_152_31 : m_dn M_152 31 (.arraylength) 1 32 := by decide +kernel
theorem d_152_32 : m_dn M_152 32 (.if_icmp .ge 16) 3 35 := by decide +kernel
theorem d_152_35 : m_dn M_152 35 (.aload_n 0) 1 36 := by decide +kernel
theorem d_152_36 : m_dn M_152 36 (.getfield 25) 3 39 := by decide +kernel
theorem d_152_39 : m_dn M_152 39 (.iload_n 1) 1 40 := by decide +kernel
theorem d_152_40 : m_dn M_152 40 (.iconst 0) 1 41 := by decide +kernel
theorem d_152_41 : m_dn M_152 41 (.bastore) 1 42 := by decide +kernel
theorem d_152_42 : m_dn M_152 42 (.iinc 1 1) 3 45 := by decide +kernel
theorem d_152_45 : m_dn M_152 45 (.goto (-19)) 3 48 := by decide +kernel
theorem d_152_48 : m_dn M_152 48 (.iconst 1) 1 49 := by decide +kernel
theorem d_152_49 : m_dn M_152 49 (.istore_n 1) 1 50 := by decide +kernel
theorem d_152_5 : m_dn M_152 5 (.aload_n 0) 1 6 := by decide +kernel
theorem d_152_50 : m_dn M_152 50 (.iload_n 1) 1 51 := by decide +kernel
theorem d_152_51 : m_dn M_152 51 (.iconst 2) 1 52 := by decide +kernel
theorem d_152_52 : m_dn M_152 52 (.if_icmp .gt 14) 3 55 := by decide +kernel
theorem d_152_55 : m_dn M_152 55 (.aload_n 0) 1 56 := by decide +kernel
theorem d_152_56 : m_dn M_152 56 (.iload_n 1) 1 57 := by decide +kernel
theorem d_152_57 : m_dn M_152 57 (.invokevirtual 79) 3 60 := by decide +kernel
theorem d_152_6 : m_dn M_152 6 (.iconst 0) 1 7 := by decide +kernel
theorem d_152_60 : m_dn M_152 60 (.iinc 1 1) 3 63 := by decide +kernel
theorem d_152_63 : m_dn M_152 63 (.goto (-13)) 3 66 := by decide +kernel
theorem d_152_66 : m_dn M_152 66 (.return_) 1 67 := by decide +kernel
theorem d_152_7 : m_dn M_152 7 (.putfield 66) 3 10 := by decide +kernel
theorem d_153_0 : m_dn M_153 0 (.aload_n 0) 1 1 := by decide +kernel
theorem d_153_1 : m_dn M_153 1 (.getfield 12) 3 4 := by decide +kernel
theorem d_153_11 : m_dn M_153 11 (.invokevirtual 114) 3 14 := by decide +kernel
theorem d_153_14 : m_dn M_153 14 (.return_) 1 15 := by decide +kernel
theorem d_153_4 : m_dn M_153 4 (.invokevirtual 114) 3 7 := by decide +kernel
theorem d_153_7 : m_dn M_153 7 (.aload_n 0) 1 8 := by decide +kernel
theorem d_153_8 : m_dn M_153 8 (.getfield 18) 3 11 := by decide +kernel
theorem d_155_0 : m_dn M_155 0 (.iload_n 1) 1 1 := by decide +kernel
theorem d_155_1 : m_dn M_155 1 (.invokestatic 181) 3 4 := by decide +kernel
theorem d_155_11 : m_dn M_155 11 (.iload_n 1) 1 12 := by decide +kernel
theorem d_155_12 : m_dn M_155 12 (.aaload) 1 13 := by decide +kernel
theorem d_155_13 : m_dn M_155 13 (.getfield 160) 3 16 := by decide +kernel
theorem d_155_16 : m_dn M_155 16 (.ifCond .eq 5) 3 19 := by decide +kernel
theorem d_155_19 : m_dn M_155 19 (.iconst 0) 1 20 := by decide +kernel
theorem d_155_20 : m_dn M_155 20 (.ireturn) 1 21 := by decide +kernel
theorem d_155_21 : m_dn M_155 21 (.aload_n 0) 1 22 := by decide +kernel
theorem d_155_22 : m_dn M_155 22 (.getfield 28) 3 25 := by decide +kernel
theorem d_155_25 : m_dn M_155 25 (.iload_n 1) 1 26 := by decide +kernel
theorem d_155_26 : m_dn M_155 26 (.aaload) 1 27 := by decide +kernel
theorem d_155_27 : m_dn M_155 27 (.iconst 1) 1 28 := by decide +kernel
theorem d_155_28 : m_dn M_155 28 (.putfield 160) 3 31 := by decide +kernel
theorem d_155_31 : m_dn M_155 31 (.aload_n 0) 1 32 := by decide +kernel
theorem d_155_32 : m_dn M_155 32 (.getfield 28) 3 35 := by decide +kernel
theorem d_155_35 : m_dn M_155 35 (.iload_n 1) 1 36 := by decide +kernel
theorem d_155_36 : m_dn M_155 36 (.aaload) 1 37 := by decide +kernel
theorem d_155_37 : m_dn M_155 37 (.aload_n 0) 1 38 := by decide +kernel
theorem d_155_38 : m_dn M_155 38 (.getfield 154) 3 41 := by decide +kernel
theorem d_155_4 : m_dn M_155 4 (.ifCond .eq 15) 3 7 := by decide +kernel
theorem d_155_41 : m_dn M_155 41 (.putfield 202) 3 44 := by decide +kernel
theorem d_155_44 : m_dn M_155 44 (.iconst 3) 1 45 := by decide +kernel
theorem d_155_45 : m_dn M_155 45 (.istore_n 2) 1 46 := by decide +kernel
theorem d_155_46 : m_dn M_155 46 (.iload_n 2) 1 47 := by decide +kernel
theorem d_155_47 : m_dn M_155 47 (.bipush 6) 2 49 := by decide +kernel
theorem d_155_49 : m_dn M_155 49 (.if_icmp .gt 19) 3 52 := by decide +kernel
theorem d_155_52 : m_dn M_155 52 (.aload_n 0) 1 53 := by decide +kernel
theorem d_155_53 : m_dn M_155 53 (.getfield 28) 3 56 := by decide +kernel
theorem d_155_56 : m_dn M_155 56 (.iload_n 2) 1 57 := by decide +kernel
theorem d_155_57 : m_dn M_155 57 (.aaload) 1 58 := by decide +kernel
theorem d_155_58 : m_dn M_155 58 (.iload_n 1) 1 59 := by decide +kernel
theorem d_155_59 : m_dn M_155 59 (.invokevirtual 205) 3 62 := by decide +kernel
theorem d_155_62 : m_dn M_155 62 (.iinc 2 1) 3 65 := by decide +kernel
theorem d_155_65 : m_dn M_155 65 (.goto (-19)) 3 68 := by decide +kernel
theorem d_155_68 : m_dn M_155 68 (.iconst 1) 1 69 := by decide +kernel
theorem d_155_69 : m_dn M_155 69 (.ireturn) 1 70 := by decide +kernel
theorem d_155_7 : m_dn M_155 7 (.aload_n 0) 1 8 := by decide +kernel
theorem d_155_8 : m_dn M_155 8 (.getfield 28) 3 11 := by decide +kernel
theorem d_156_0 : m_dn M_156 0 (.iload_n 1) 1 1 := by decide +kernel
theorem d_156_1 : m_dn M_156 1 (.invokestatic 181) 3 4 := by decide +kernel
theorem d_156_10 : m_dn M_156 10 (.if_icmp .lt 10) 3 13 := by decide +kernel
theorem d_156_13 : m_dn M_156 13 (.iload_n 2) 1 14 := by decide +kernel
theorem d_156_14 : m_dn M_156 14 (.sipush 2000) 3 17 := by decide +kernel
theorem d_156_17 : m_dn M_156 17 (.if_icmp .le 5) 3 20 := by decide +kernel
theorem d_156_20 : m_dn M_156 20 (.iconst 0) 1 21 := by decide +kernel
theorem d_156_21 : m_dn M_156 21 (.ireturn) 1 22 := by decide +kernel
theorem d_156_22 : m_dn M_156 22 (.aload_n 0) 1 23 := by decide +kernel
theorem d_156_23 : m_dn M_156 23 (.getfield 28) 3 26 := by decide +kernel
theorem d_156_26 : m_dn M_156 26 (.iload_n 1) 1 27 := by decide +kernel
theorem d_156_27 : m_dn M_156 27 (.aaload) 1 28 := by decide +kernel
theorem d_156_28 : m_dn M_156 28 (.getfield 208) 3 31 := by decide +kernel
theorem d_156_31 : m_dn M_156 31 (.iload_n 2) 1 32 := by decide +kernel
theorem d_156_32 : m_dn M_156 32 (.putfield 212) 3 35 := by decide +kernel
theorem d_156_35 : m_dn M_156 35 (.aload_n 0) 1 36 := by decide +kernel
theorem d_156_36 : m_dn M_156 36 (.getfield 28) 3 39 := by decide +kernel
theorem d_156_39 : m_dn M_156 39 (.iload_n 1) 1 40 := by decide +kernel
theorem d_156_4 : m_dn M_156 4 (.ifCond .eq 16) 3 7 := by decide +kernel
theorem d_156_40 : m_dn M_156 40 (.aaload) 1 41 := by decide +kernel
theorem d_156_41 : m_dn M_156 41 (.getfield 208) 3 44 := by decide +kernel
theorem d_156_44 : m_dn M_156 44 (.invokevirtual 217) 3 47 := by decide +kernel
theorem d_156_47 : m_dn M_156 47 (.iconst 1) 1 48 := by decide +kernel
theorem d_156_48 : m_dn M_156 48 (.ireturn) 1 49 := by decide +kernel
theorem d_156_7 : m_dn M_156 7 (.iload_n 2) 1 8 := by decide +kernel
theorem d_156_8 : m_dn M_156 8 (.bipush 32) 2 10 := by decide +kernel
theorem d_159_0 : m_dn M_159 0 (.aload_n 0) 1 1 := by decide +kernel
theorem d_159_1 : m_dn M_159 1 (.getfield 9) 3 4 := by decide +kernel
theorem d_159_12 : m_dn M_159 12 (.iconst 0) 1 13 := by decide +kernel
theorem d_159_13 : m_dn M_159 13 (.ireturn) 1 14 := by decide +kernel
theorem d_159_4 : m_dn M_159 4 (.arraylength) 1 5 := by decide +kernel
theorem d_159_5 : m_dn M_159 5 (.ifCond .ne 7) 3 8 := by decide +kernel
theorem d_159_8 : m_dn M_159 8 (.iconst 1) 1 9 := by decide +kernel
theorem d_159_9 : m_dn M_159 9 (.goto 4) 3 12 := by decide +kernel
theorem d_218_0 : m_dn M_218 0 (.aload_n 0) 1 1 := by decide +kernel
theorem d_218_1 : m_dn M_218 1 (.getfield 84) 3 4 := by decide +kernel
theorem d_218_100 : m_dn M_218 100 (.areturn) 1 101 := by decide +kernel
theorem d_218_101 : m_dn M_218 101 (.ldc 164) 2 103 := by decide +kernel
theorem d_218_103 : m_dn M_218 103 (.areturn) 1 104 := by decide +kernel
theorem d_218_104 : m_dn M_218 104 (.ldc 166) 2 106 := by decide +kernel
theorem d_218_106 : m_dn M_218 106 (.areturn) 1 107 := by decide +kernel
theorem d_218_4 : m_dn M_218 4 (.lookupswitch 100 #[(200, 76), (206, 79), (304, 82), (400, 85), (404, 88), (416, 91), (502, 94), (503, 97)]) 76 80 := by decide +kernel
theorem d_218_80 : m_dn M_218 80 (.ldc 150) 2 82 := by decide +kernel
theorem d_218_82 : m_dn M_218 82 (.areturn) 1 83 := by decide +kernel
theorem d_218_83 : m_dn M_218 83 (.ldc 152) 2 85 := by decide +kernel
theorem d_218_85 : m_dn M_218 85 (.areturn) 1 86 := by decide +kernel
theorem d_218_86 : m_dn M_218 86 (.ldc 154) 2 88 := by decide +kernel
theorem d_218_88 : m_dn M_218 88 (.areturn) 1 89 := by decide +kernel
theorem d_218_89 : m_dn M_218 89 (.ldc 156) 2 91 := by decide +kernel
theorem d_218_91 : m_dn M_218 91 (.areturn) 1 92 := by decide +kernel
theorem d_218_92 : m_dn M_218 92 (.ldc 158) 2 94 := by decide +kernel
theorem d_218_94 : m_dn M_218 94 (.areturn) 1 95 := by decide +kernel
theorem d_218_95 : m_dn M_218 95 (.ldc 160) 2 97 := by decide +kernel
theorem d_218_97 : m_dn M_218 97 (.areturn) 1 98 := by decide +kernel
theorem d_218_98 : m_dn M_218 98 (.ldc 162) 2 100 := by decide +kernel
theorem d_220_0 : m_dn M_220 0 (.iload_n 1) 1 1 := by decide +kernel
theorem d_220_1 : m_dn M_220 1 (.invokestatic 181) 3 4 := by decide +kernel
theorem d_220_11 : m_dn M_220 11 (.iload_n 2) 1 12 := by decide +kernel
theorem d_220_12 : m_dn M_220 12 (.bipush 12) 2 14 := by decide +kernel
theorem d_220_14 : m_dn M_220 14 (.if_icmp .le 5) 3 17 := by decide +kernel
theorem d_220_17 : m_dn M_220 17 (.iconst (-1)) 1 18 := by decide +kernel
theorem d_220_18 : m_dn M_220 18 (.ireturn) 1 19 := by decide +kernel
theorem d_220_19 : m_dn M_220 19 (.aload_n 0) 1 20 := by decide +kernel
theorem d_220_20 : m_dn M_220 20 (.getfield 28) 3 23 := by decide +kernel
theorem d_220_23 : m_dn M_220 23 (.iload_n 1) 1 24 := by decide +kernel
theorem d_220_24 : m_dn M_220 24 (.aaload) 1 25 := by decide +kernel
theorem d_220_25 : m_dn M_220 25 (.iload_n 2) 1 26 := by decide +kernel
theorem d_220_26 : m_dn M_220 26 (.aload_n 0) 1 27 := by decide +kernel
theorem d_220_27 : m_dn M_220 27 (.getfield 174) 3 30 := by decide +kernel
theorem d_220_30 : m_dn M_220 30 (.invokevirtual 247) 3 33 := by decide +kernel
theorem d_220_33 : m_dn M_220 33 (.ireturn) 1 34 := by decide +kernel
theorem d_220_4 : m_dn M_220 4 (.ifCond .eq 13) 3 7 := by decide +kernel
theorem d_220_7 : m_dn M_220 7 (.iload_n 2) 1 8 := by decide +kernel
theorem d_220_8 : m_dn M_220 8 (.ifCond .lt 9) 3 11 := by decide +kernel
theorem d_221_0 : m_dn M_221 0 (.iload_n 1) 1 1 := by decide +kernel
theorem d_221_1 : m_dn M_221 1 (.tableswitch 193 0 12 #[67, 80, 88, 118, 129, 134, 139, 147, 152, 157, 157, 167, 167]) 67 68 := by decide +kernel
theorem d_221_100 : m_dn M_221 100 (.invokevirtual 92) 3 103 := by decide +kernel
theorem d_221_103 : m_dn M_221 103 (.aload_n 0) 1 104 := by decide +kernel
theorem d_221_104 : m_dn M_221 104 (.getfield 12) 3 107 := by decide +kernel
theorem d_221_107 : m_dn M_221 107 (.aload_n 0) 1 108 := by decide +kernel
theorem d_221_108 : m_dn M_221 108 (.getfield 12) 3 111 := by decide +kernel
theorem d_221_111 : m_dn M_221 111 (.getfield 96) 3 114 := by decide +kernel
theorem d_221_114 : m_dn M_221 114 (.invokevirtual 92) 3 117 := by decide +kernel
theorem d_221_117 : m_dn M_221 117 (.iadd) 1 118 := by decide +kernel
theorem d_221_118 : m_dn M_221 118 (.ireturn) 1 119 := by decide +kernel
theorem d_221_119 : m_dn M_221 119 (.aload_n 0) 1 120 := by decide +kernel
theorem d_221_120 : m_dn M_221 120 (.getfield 12) 3 123 := by decide +kernel
theorem d_221_123 : m_dn M_221 123 (.getfield 96) 3 126 := by decide +kernel
theorem d_221_126 : m_dn M_221 126 (.invokevirtual 44) 3 129 := by decide +kernel
theorem d_221_129 : m_dn M_221 129 (.ireturn) 1 130 := by decide +kernel
theorem d_221_130 : m_dn M_221 130 (.aload_n 0) 1 131 := by decide +kernel
theorem d_221_131 : m_dn M_221 131 (.getfield 99) 3 134 := by decide +kernel
theorem d_221_134 : m_dn M_221 134 (.ireturn) 1 135 := by decide +kernel
theorem d_221_135 : m_dn M_221 135 (.aload_n 0) 1 136 := by decide +kernel
theorem d_221_136 : m_dn M_221 136 (.getfield 102) 3 139 := by decide +kernel
theorem d_221_139 : m_dn M_221 139 (.ireturn) 1 140 := by decide +kernel
theorem d_221_140 : m_dn M_221 140 (.aload_n 0) 1 141 := by decide +kernel
theorem d_221_141 : m_dn M_221 141 (.getfield 21) 3 144 := by decide +kernel
theorem d_221_144 : m_dn M_221 144 (.invokevirtual 44) 3 147 := by decide +kernel
theorem d_221_147 : m_dn M_221 147 (.ireturn) 1 148 := by decide +kernel
theorem d_221_148 : m_dn M_221 148 (.aload_n 0) 1 149 := by decide +kernel
theorem d_221_149 : m_dn M_221 149 (.invokevirtual 105) 3 152 := by decide +kernel
theorem d_221_152 : m_dn M_221 152 (.ireturn) 1 153 := by decide +kernel
theorem d_221_153 : m_dn M_221 153 (.aload_n 0) 1 154 := by decide +kernel
theorem d_221_154 : m_dn M_221 154 (.getfield 66) 3 157 := by decide +kernel
theorem d_221_157 : m_dn M_221 157 (.ireturn) 1 158 := by decide +kernel
theorem d_221_158 : m_dn M_221 158 (.aload_n 0) 1 159 := by decide +kernel
theorem d_221_159 : m_dn M_221 159 (.getfield 29) 3 162 := by decide +kernel
theorem d_221_162 : m_dn M_221 162 (.iload_n 1) 1 163 := by decide +kernel
theorem d_221_163 : m_dn M_221 163 (.bipush 8) 2 165 := by decide +kernel
theorem d_221_165 : m_dn M_221 165 (.isub) 1 166 := by decide +kernel
theorem d_221_166 : m_dn M_221 166 (.iaload) 1 167 := by decide +kernel
theorem d_221_167 : m_dn M_221 167 (.ireturn) 1 168 := by decide +kernel
theorem d_221_168 : m_dn M_221 168 (.aload_n 0) 1 169 := by decide +kernel
theorem d_221_169 : m_dn M_221 169 (.iload_n 1) 1 170 := by decide +kernel
theorem d_221_170 : m_dn M_221 170 (.bipush 10) 2 172 := by decide +kernel
theorem d_221_172 : m_dn M_221 172 (.isub) 1 173 := by decide +kernel
theorem d_221_173 : m_dn M_221 173 (.iload_n 2) 1 174 := by decide +kernel
theorem d_221_174 : m_dn M_221 174 (.invokevirtual 107) 3 177 := by decide +kernel
theorem d_221_177 : m_dn M_221 177 (.ifCond .eq 15) 3 180 := by decide +kernel
theorem d_221_180 : m_dn M_221 180 (.aload_n 0) 1 181 := by decide +kernel
theorem d_221_181 : m_dn M_221 181 (.getfield 33) 3 184 := by decide +kernel
theorem d_221_184 : m_dn M_221 184 (.iload_n 1) 1 185 := by decide +kernel
theorem d_221_185 : m_dn M_221 185 (.bipush 10) 2 187 := by decide +kernel
theorem d_221_187 : m_dn M_221 187 (.isub) 1 188 := by decide +kernel
theorem d_221_188 : m_dn M_221 188 (.iaload) 1 189 := by decide +kernel
theorem d_221_189 : m_dn M_221 189 (.goto 4) 3 192 := by decide +kernel
theorem d_221_192 : m_dn M_221 192 (.iconst 0) 1 193 := by decide +kernel
theorem d_221_193 : m_dn M_221 193 (.ireturn) 1 194 := by decide +kernel
theorem d_221_194 : m_dn M_221 194 (.iconst (-1)) 1 195 := by decide +kernel
theorem d_221_195 : m_dn M_221 195 (.ireturn) 1 196 := by decide +kernel
theorem d_221_68 : m_dn M_221 68 (.aload_n 0) 1 69 := by decide +kernel
theorem d_221_69 : m_dn M_221 69 (.getfield 36) 3 72 := by decide +kernel
theorem d_221_72 : m_dn M_221 72 (.ifCond .eq 7) 3 75 := by decide +kernel
theorem d_221_75 : m_dn M_221 75 (.iconst 1) 1 76 := by decide +kernel
theorem d_221_76 : m_dn M_221 76 (.goto 4) 3 79 := by decide +kernel
theorem d_221_79 : m_dn M_221 79 (.iconst 0) 1 80 := by decide +kernel
theorem d_221_80 : m_dn M_221 80 (.ireturn) 1 81 := by decide +kernel
theorem d_221_81 : m_dn M_221 81 (.aload_n 0) 1 82 := by decide +kernel
theorem d_221_82 : m_dn M_221 82 (.getfield 12) 3 85 := by decide +kernel
theorem d_221_85 : m_dn M_221 85 (.invokevirtual 86) 3 88 := by decide +kernel
theorem d_221_88 : m_dn M_221 88 (.ireturn) 1 89 := by decide +kernel
theorem d_221_89 : m_dn M_221 89 (.aload_n 0) 1 90 := by decide +kernel
theorem d_221_90 : m_dn M_221 90 (.getfield 12) 3 93 := by decide +kernel
theorem d_221_93 : m_dn M_221 93 (.aload_n 0) 1 94 := by decide +kernel
theorem d_221_94 : m_dn M_221 94 (.getfield 12) 3 97 := by decide +kernel
theorem d_221_97 : m_dn M_221 97 (.getfield 89) 3 100 := by decide +kernel
theorem d_222_0 : m_dn M_222 0 (.iconst 0) 1 1 := by decide +kernel
theorem d_222_1 : m_dn M_222 1 (.istore_n 1) 1 2 := by decide +kernel
theorem d_222_12 : m_dn M_222 12 (.if_icmp .ge 26) 3 15 := by decide +kernel
theorem d_222_15 : m_dn M_222 15 (.iload_n 1) 1 16 := by decide +kernel
theorem d_222_16 : m_dn M_222 16 (.aload_n 0) 1 17 := by decide +kernel
theorem d_222_17 : m_dn M_222 17 (.getfield 21) 3 20 := by decide +kernel
theorem d_222_2 : m_dn M_222 2 (.iconst 0) 1 3 := by decide +kernel
theorem d_222_20 : m_dn M_222 20 (.iload_n 2) 1 21 := by decide +kernel
theorem d_222_21 : m_dn M_222 21 (.invokevirtual 48) 3 24 := by decide +kernel
theorem d_222_24 : m_dn M_222 24 (.checkcast 52) 3 27 := by decide +kernel
theorem d_222_27 : m_dn M_222 27 (.getfield 83) 3 30 := by decide +kernel
theorem d_222_3 : m_dn M_222 3 (.istore_n 2) 1 4 := by decide +kernel
theorem d_222_30 : m_dn M_222 30 (.iadd) 1 31 := by decide +kernel
theorem d_222_31 : m_dn M_222 31 (.istore_n 1) 1 32 := by decide +kernel
theorem d_222_32 : m_dn M_222 32 (.iinc 2 1) 3 35 := by decide +kernel
theorem d_222_35 : m_dn M_222 35 (.goto (-31)) 3 38 := by decide +kernel
theorem d_222_38 : m_dn M_222 38 (.iload_n 1) 1 39 := by decide +kernel
theorem d_222_39 : m_dn M_222 39 (.ireturn) 1 40 := by decide +kernel
theorem d_222_4 : m_dn M_222 4 (.iload_n 2) 1 5 := by decide +kernel
theorem d_222_5 : m_dn M_222 5 (.aload_n 0) 1 6 := by decide +kernel
theorem d_222_6 : m_dn M_222 6 (.getfield 21) 3 9 := by decide +kernel
theorem d_222_9 : m_dn M_222 9 (.invokevirtual 44) 3 12 := by decide +kernel
theorem d_223_0 : m_dn M_223 0 (.iload_n 1) 1 1 := by decide +kernel
theorem d_223_1 : m_dn M_223 1 (.invokestatic 181) 3 4 := by decide +kernel
theorem d_223_10 : m_dn M_223 10 (.getfield 28) 3 13 := by decide +kernel
theorem d_223_13 : m_dn M_223 13 (.iload_n 1) 1 14 := by decide +kernel
theorem d_223_14 : m_dn M_223 14 (.aaload) 1 15 := by decide +kernel
theorem d_223_15 : m_dn M_223 15 (.getfield 208) 3 18 := by decide +kernel
theorem d_223_18 : m_dn M_223 18 (.astore 6) 2 20 := by decide +kernel
theorem d_223_20 : m_dn M_223 20 (.aload 6) 2 22 := by decide +kernel
theorem d_223_22 : m_dn M_223 22 (.iload_n 2) 1 23 := by decide +kernel
theorem d_223_23 : m_dn M_223 23 (.iload_n 3) 1 24 := by decide +kernel
theorem d_223_24 : m_dn M_223 24 (.iload 4) 2 26 := by decide +kernel
theorem d_223_26 : m_dn M_223 26 (.invokevirtual 249) 3 29 := by decide +kernel
theorem d_223_29 : m_dn M_223 29 (.astore 7) 2 31 := by decide +kernel
theorem d_223_31 : m_dn M_223 31 (.aload 7) 2 33 := by decide +kernel
theorem d_223_33 : m_dn M_223 33 (.ifnonnull 5) 3 36 := by decide +kernel
theorem d_223_36 : m_dn M_223 36 (.iconst (-1)) 1 37 := by decide +kernel
theorem d_223_37 : m_dn M_223 37 (.ireturn) 1 38 := by decide +kernel
theorem d_223_38 : m_dn M_223 38 (.iload 5) 2 40 := by decide +kernel
theorem d_223_4 : m_dn M_223 4 (.ifCond .ne 5) 3 7 := by decide +kernel
theorem d_223_40 : m_dn M_223 40 (.iconst 5) 1 41 := by decide +kernel
theorem d_223_41 : m_dn M_223 41 (.if_icmp .ne 11) 3 44 := by decide +kernel
theorem d_223_44 : m_dn M_223 44 (.aload 6) 2 46 := by decide +kernel
theorem d_223_46 : m_dn M_223 46 (.aload 7) 2 48 := by decide +kernel
theorem d_223_48 : m_dn M_223 48 (.invokevirtual 253) 3 51 := by decide +kernel
theorem d_223_51 : m_dn M_223 51 (.ireturn) 1 52 := by decide +kernel
theorem d_223_52 : m_dn M_223 52 (.aload 7) 2 54 := by decide +kernel
theorem d_223_54 : m_dn M_223 54 (.iload 5) 2 56 := by decide +kernel
theorem d_223_56 : m_dn M_223 56 (.aload_n 0) 1 57 := by decide +kernel
theorem d_223_57 : m_dn M_223 57 (.getfield 174) 3 60 := by decide +kernel
theorem d_223_60 : m_dn M_223 60 (.invokevirtual 257) 3 63 := by decide +kernel
theorem d_223_63 : m_dn M_223 63 (.ireturn) 1 64 := by decide +kernel
theorem d_223_7 : m_dn M_223 7 (.iconst (-1)) 1 8 := by decide +kernel
theorem d_223_8 : m_dn M_223 8 (.ireturn) 1 9 := by decide +kernel
theorem d_223_9 : m_dn M_223 9 (.aload_n 0) 1 10 := by decide +kernel
theorem d_224_0 : m_dn M_224 0 (.iload_n 1) 1 1 := by decide +kernel
theorem d_224_1 : m_dn M_224 1 (.bipush 16) 2 3 := by decide +kernel
theorem d_224_102 : m_dn M_224 102 (.iconst 1) 1 103 := by decide +kernel
theorem d_224_103 : m_dn M_224 103 (.goto 4) 3 106 := by decide +kernel
theorem d_224_106 : m_dn M_224 106 (.iconst 0) 1 107 := by decide +kernel
theorem d_224_107 : m_dn M_224 107 (.ireturn) 1 108 := by decide +kernel
theorem d_224_108 : m_dn M_224 108 (.aload_n 0) 1 109 := by decide +kernel
theorem d_224_109 : m_dn M_224 109 (.getfield 18) 3 112 := by decide +kernel
theorem d_224_112 : m_dn M_224 112 (.getfield 84) 3 115 := by decide +kernel
theorem d_224_115 : m_dn M_224 115 (.ireturn) 1 116 := by decide +kernel
theorem d_224_116 : m_dn M_224 116 (.iconst (-1)) 1 117 := by decide +kernel
theorem d_224_117 : m_dn M_224 117 (.ireturn) 1 118 := by decide +kernel
theorem d_224_12 : m_dn M_224 12 (.aload_n 0) 1 13 := by decide +kernel
theorem d_224_13 : m_dn M_224 13 (.getfield 68) 3 16 := by decide +kernel
theorem d_224_16 : m_dn M_224 16 (.iload_n 1) 1 17 := by decide +kernel
theorem d_224_17 : m_dn M_224 17 (.bipush 16) 2 19 := by decide +kernel
theorem d_224_19 : m_dn M_224 19 (.isub) 1 20 := by decide +kernel
theorem d_224_20 : m_dn M_224 20 (.ishr) 1 21 := by decide +kernel
theorem d_224_21 : m_dn M_224 21 (.iconst 1) 1 22 := by decide +kernel
theorem d_224_22 : m_dn M_224 22 (.iand) 1 23 := by decide +kernel
theorem d_224_23 : m_dn M_224 23 (.ireturn) 1 24 := by decide +kernel
theorem d_224_24 : m_dn M_224 24 (.iload_n 1) 1 25 := by decide +kernel
theorem d_224_25 : m_dn M_224 25 (.tableswitch 91 0 6 #[43, 51, 57, 65, 70, 91, 83]) 43 68 := by decide +kernel
theorem d_224_3 : m_dn M_224 3 (.if_icmp .lt 21) 3 6 := by decide +kernel
theorem d_224_6 : m_dn M_224 6 (.iload_n 1) 1 7 := by decide +kernel
theorem d_224_68 : m_dn M_224 68 (.aload_n 0) 1 69 := by decide +kernel
theorem d_224_69 : m_dn M_224 69 (.getfield 18) 3 72 := by decide +kernel
theorem d_224_7 : m_dn M_224 7 (.bipush 32) 2 9 := by decide +kernel
theorem d_224_72 : m_dn M_224 72 (.getfield 59) 3 75 := by decide +kernel
theorem d_224_75 : m_dn M_224 75 (.ireturn) 1 76 := by decide +kernel
theorem d_224_76 : m_dn M_224 76 (.aload_n 0) 1 77 := by decide +kernel
theorem d_224_77 : m_dn M_224 77 (.iload_n 2) 1 78 := by decide +kernel
theorem d_224_78 : m_dn M_224 78 (.invokevirtual 77) 3 81 := by decide +kernel
theorem d_224_81 : m_dn M_224 81 (.ireturn) 1 82 := by decide +kernel
theorem d_224_82 : m_dn M_224 82 (.aload_n 0) 1 83 := by decide +kernel
theorem d_224_83 : m_dn M_224 83 (.getfield 68) 3 86 := by decide +kernel
theorem d_224_86 : m_dn M_224 86 (.invokestatic 71) 3 89 := by decide +kernel
theorem d_224_89 : m_dn M_224 89 (.ireturn) 1 90 := by decide +kernel
theorem d_224_9 : m_dn M_224 9 (.if_icmp .ge 15) 3 12 := by decide +kernel
theorem d_224_90 : m_dn M_224 90 (.aload_n 0) 1 91 := by decide +kernel
theorem d_224_91 : m_dn M_224 91 (.getfield 49) 3 94 := by decide +kernel
theorem d_224_94 : m_dn M_224 94 (.ireturn) 1 95 := by decide +kernel
theorem d_224_95 : m_dn M_224 95 (.aload_n 0) 1 96 := by decide +kernel
theorem d_224_96 : m_dn M_224 96 (.getfield 80) 3 99 := by decide +kernel
theorem d_224_99 : m_dn M_224 99 (.ifCond .eq 7) 3 102 := by decide +kernel
theorem d_225_0 : m_dn M_225 0 (.iload_n 1) 1 1 := by decide +kernel
theorem d_225_1 : m_dn M_225 1 (.ifCond .lt 14) 3 4 := by decide +kernel
theorem d_225_12 : m_dn M_225 12 (.if_icmp .lt 5) 3 15 := by decide +kernel
theorem d_225_15 : m_dn M_225 15 (.iconst (-1)) 1 16 := by decide +kernel
theorem d_225_16 : m_dn M_225 16 (.ireturn) 1 17 := by decide +kernel
theorem d_225_17 : m_dn M_225 17 (.aload_n 0) 1 18 := by decide +kernel
theorem d_225_18 : m_dn M_225 18 (.getfield 44) 3 21 := by decide +kernel
theorem d_225_21 : m_dn M_225 21 (.iload_n 1) 1 22 := by decide +kernel
theorem d_225_22 : m_dn M_225 22 (.invokevirtual 187) 3 25 := by decide +kernel
theorem d_225_25 : m_dn M_225 25 (.checkcast 141) 3 28 := by decide +kernel
theorem d_225_28 : m_dn M_225 28 (.iload_n 2) 1 29 := by decide +kernel
theorem d_225_29 : m_dn M_225 29 (.invokevirtual 260) 3 32 := by decide +kernel
theorem d_225_32 : m_dn M_225 32 (.ireturn) 1 33 := by decide +kernel
theorem d_225_4 : m_dn M_225 4 (.iload_n 1) 1 5 := by decide +kernel
theorem d_225_5 : m_dn M_225 5 (.aload_n 0) 1 6 := by decide +kernel
theorem d_225_6 : m_dn M_225 6 (.getfield 44) 3 9 := by decide +kernel
theorem d_225_9 : m_dn M_225 9 (.invokevirtual 94) 3 12 := by decide +kernel
theorem d_226_0 : m_dn M_226 0 (.iload_n 1) 1 1 := by decide +kernel
theorem d_226_1 : m_dn M_226 1 (.tableswitch 183 0 11 #[63, 68, 73, 78, 83, 88, 93, 113, 133, 138, 151, 156]) 63 64 := by decide +kernel
theorem d_226_102 : m_dn M_226 102 (.aload_n 0) 1 103 := by decide +kernel
theorem d_226_103 : m_dn M_226 103 (.getfield 70) 3 106 := by decide +kernel
theorem d_226_106 : m_dn M_226 106 (.goto 7) 3 109 := by decide +kernel
theorem d_226_109 : m_dn M_226 109 (.aload_n 0) 1 110 := by decide +kernel
theorem d_226_110 : m_dn M_226 110 (.getfield 45) 3 113 := by decide +kernel
theorem d_226_113 : m_dn M_226 113 (.ireturn) 1 114 := by decide +kernel
theorem d_226_114 : m_dn M_226 114 (.aload_n 0) 1 115 := by decide +kernel
theorem d_226_115 : m_dn M_226 115 (.getfield 9) 3 118 := by decide +kernel
theorem d_226_118 : m_dn M_226 118 (.iconst 1) 1 119 := by decide +kernel
theorem d_226_119 : m_dn M_226 119 (.if_icmp .ne 10) 3 122 := by decide +kernel
theorem d_226_122 : m_dn M_226 122 (.aload_n 0) 1 123 := by decide +kernel
theorem d_226_123 : m_dn M_226 123 (.invokevirtual 73) 3 126 := by decide +kernel
theorem d_226_126 : m_dn M_226 126 (.goto 7) 3 129 := by decide +kernel
theorem d_226_129 : m_dn M_226 129 (.aload_n 0) 1 130 := by decide +kernel
theorem d_226_130 : m_dn M_226 130 (.getfield 49) 3 133 := by decide +kernel
theorem d_226_133 : m_dn M_226 133 (.ireturn) 1 134 := by decide +kernel
theorem d_226_134 : m_dn M_226 134 (.aload_n 0) 1 135 := by decide +kernel
theorem d_226_135 : m_dn M_226 135 (.getfield 58) 3 138 := by decide +kernel
theorem d_226_138 : m_dn M_226 138 (.ireturn) 1 139 := by decide +kernel
theorem d_226_139 : m_dn M_226 139 (.aload_n 0) 1 140 := by decide +kernel
theorem d_226_140 : m_dn M_226 140 (.getfield 54) 3 143 := by decide +kernel
theorem d_226_143 : m_dn M_226 143 (.ifCond .eq 7) 3 146 := by decide +kernel
theorem d_226_146 : m_dn M_226 146 (.iconst 1) 1 147 := by decide +kernel
theorem d_226_147 : m_dn M_226 147 (.goto 4) 3 150 := by decide +kernel
theorem d_226_150 : m_dn M_226 150 (.iconst 0) 1 151 := by decide +kernel
theorem d_226_151 : m_dn M_226 151 (.ireturn) 1 152 := by decide +kernel
theorem d_226_152 : m_dn M_226 152 (.aload_n 0) 1 153 := by decide +kernel
theorem d_226_153 : m_dn M_226 153 (.getfield 76) 3 156 := by decide +kernel
theorem d_226_156 : m_dn M_226 156 (.ireturn) 1 157 := by decide +kernel
theorem d_226_157 : m_dn M_226 157 (.aload_n 0) 1 158 := by decide +kernel
theorem d_226_158 : m_dn M_226 158 (.getfield 9) 3 161 := by decide +kernel
theorem d_226_161 : m_dn M_226 161 (.iconst 1) 1 162 := by decide +kernel
theorem d_226_162 : m_dn M_226 162 (.if_icmp .ne 10) 3 165 := by decide +kernel
theorem d_226_165 : m_dn M_226 165 (.aload_n 0) 1 166 := by decide +kernel
theorem d_226_166 : m_dn M_226 166 (.getfield 79) 3 169 := by decide +kernel
theorem d_226_169 : m_dn M_226 169 (.goto 14) 3 172 := by decide +kernel
theorem d_226_172 : m_dn M_226 172 (.aload_n 0) 1 173 := by decide +kernel
theorem d_226_173 : m_dn M_226 173 (.getfield 37) 3 176 := by decide +kernel
theorem d_226_176 : m_dn M_226 176 (.iconst 4) 1 177 := by decide +kernel
theorem d_226_177 : m_dn M_226 177 (.aload_n 0) 1 178 := by decide +kernel
theorem d_226_178 : m_dn M_226 178 (.getfield 41) 3 181 := by decide +kernel
theorem d_226_181 : m_dn M_226 181 (.imul) 1 182 := by decide +kernel
theorem d_226_182 : m_dn M_226 182 (.iadd) 1 183 := by decide +kernel
theorem d_226_183 : m_dn M_226 183 (.ireturn) 1 184 := by decide +kernel
theorem d_226_184 : m_dn M_226 184 (.iconst (-1)) 1 185 := by decide +kernel
theorem d_226_185 : m_dn M_226 185 (.ireturn) 1 186 := by decide +kernel
theorem d_226_64 : m_dn M_226 64 (.aload_n 0) 1 65 := by decide +kernel
theorem d_226_65 : m_dn M_226 65 (.getfield 9) 3 68 := by decide +kernel
theorem d_226_68 : m_dn M_226 68 (.ireturn) 1 69 := by decide +kernel
theorem d_226_69 : m_dn M_226 69 (.aload_n 0) 1 70 := by decide +kernel
theorem d_226_70 : m_dn M_226 70 (.getfield 15) 3 73 := by decide +kernel
theorem d_226_73 : m_dn M_226 73 (.ireturn) 1 74 := by decide +kernel
theorem d_226_74 : m_dn M_226 74 (.aload_n 0) 1 75 := by decide +kernel
theorem d_226_75 : m_dn M_226 75 (.getfield 18) 3 78 := by decide +kernel
theorem d_226_78 : m_dn M_226 78 (.ireturn) 1 79 := by decide +kernel
theorem d_226_79 : m_dn M_226 79 (.aload_n 0) 1 80 := by decide +kernel
theorem d_226_80 : m_dn M_226 80 (.getfield 21) 3 83 := by decide +kernel
theorem d_226_83 : m_dn M_226 83 (.ireturn) 1 84 := by decide +kernel
theorem d_226_84 : m_dn M_226 84 (.aload_n 0) 1 85 := by decide +kernel
theorem d_226_85 : m_dn M_226 85 (.getfield 29) 3 88 := by decide +kernel
theorem d_226_88 : m_dn M_226 88 (.ireturn) 1 89 := by decide +kernel
theorem d_226_89 : m_dn M_226 89 (.aload_n 0) 1 90 := by decide +kernel
theorem d_226_90 : m_dn M_226 90 (.getfield 33) 3 93 := by decide +kernel
theorem d_226_93 : m_dn M_226 93 (.ireturn) 1 94 := by decide +kernel
theorem d_226_94 : m_dn M_226 94 (.aload_n 0) 1 95 := by decide +kernel
theorem d_226_95 : m_dn M_226 95 (.getfield 9) 3 98 := by decide +kernel
theorem d_226_98 : m_dn M_226 98 (.iconst 1) 1 99 := by decide +kernel
theorem d_226_99 : m_dn M_226 99 (.if_icmp .ne 10) 3 102 := by decide +kernel
theorem d_227_0 : m_dn M_227 0 (.aload_n 0) 1 1 := by decide +kernel
theorem d_227_1 : m_dn M_227 1 (.getfield 61) 3 4 := by decide +kernel
theorem d_227_11 : m_dn M_227 11 (.aload_n 0) 1 12 := by decide +kernel
theorem d_227_12 : m_dn M_227 12 (.getfield 61) 3 15 := by decide +kernel
theorem d_227_15 : m_dn M_227 15 (.getfield 65) 3 18 := by decide +kernel
theorem d_227_18 : m_dn M_227 18 (.ireturn) 1 19 := by decide +kernel
theorem d_227_4 : m_dn M_227 4 (.ifnonnull 7) 3 7 := by decide +kernel
theorem d_227_7 : m_dn M_227 7 (.iconst 0) 1 8 := by decide +kernel
theorem d_227_8 : m_dn M_227 8 (.goto 10) 3 11 := by decide +kernel
theorem d_228_0 : m_dn M_228 0 (.iload_n 1) 1 1 := by decide +kernel
theorem d_228_1 : m_dn M_228 1 (.tableswitch 84 0 6 #[43, 51, 56, 64, 69, 74, 79]) 43 44 := by decide +kernel
theorem d_228_44 : m_dn M_228 44 (.aload_n 0) 1 45 := by decide +kernel
theorem d_228_45 : m_dn M_228 45 (.getfield 44) 3 48 := by decide +kernel
theorem d_228_48 : m_dn M_228 48 (.invokevirtual 94) 3 51 := by decide +kernel
theorem d_228_51 : m_dn M_228 51 (.ireturn) 1 52 := by decide +kernel
theorem d_228_52 : m_dn M_228 52 (.aload_n 0) 1 53 := by decide +kernel
theorem d_228_53 : m_dn M_228 53 (.getfield 154) 3 56 := by decide +kernel
theorem d_228_56 : m_dn M_228 56 (.ireturn) 1 57 := by decide +kernel
theorem d_228_57 : m_dn M_228 57 (.aload_n 0) 1 58 := by decide +kernel
theorem d_228_58 : m_dn M_228 58 (.getfield 48) 3 61 := by decide +kernel
theorem d_228_61 : m_dn M_228 61 (.invokevirtual 94) 3 64 := by decide +kernel
theorem d_228_64 : m_dn M_228 64 (.ireturn) 1 65 := by decide +kernel
theorem d_228_65 : m_dn M_228 65 (.aload_n 0) 1 66 := by decide +kernel
theorem d_228_66 : m_dn M_228 66 (.getfield 261) 3 69 := by decide +kernel
theorem d_228_69 : m_dn M_228 69 (.ireturn) 1 70 := by decide +kernel
theorem d_228_70 : m_dn M_228 70 (.aload_n 0) 1 71 := by decide +kernel
theorem d_228_71 : m_dn M_228 71 (.getfield 147) 3 74 := by decide +kernel
theorem d_228_74 : m_dn M_228 74 (.ireturn) 1 75 := by decide +kernel
theorem d_228_75 : m_dn M_228 75 (.aload_n 0) 1 76 := by decide +kernel
theorem d_228_76 : m_dn M_228 76 (.getfield 157) 3 79 := by decide +kernel
theorem d_228_79 : m_dn M_228 79 (.ireturn) 1 80 := by decide +kernel
theorem d_228_80 : m_dn M_228 80 (.aload_n 0) 1 81 := by decide +kernel
theorem d_228_81 : m_dn M_228 81 (.getfield 174) 3 84 := by decide +kernel
theorem d_228_84 : m_dn M_228 84 (.ireturn) 1 85 := by decide +kernel
theorem d_228_85 : m_dn M_228 85 (.iconst (-1)) 1 86 := by decide +kernel
theorem d_228_86 : m_dn M_228 86 (.ireturn) 1 87 := by decide +kernel
theorem d_231_0 : m_dn M_231 0 (.aload_n 0) 1 1 := by decide +kernel
theorem d_231_1 : m_dn M_231 1 (.invokespecial 1) 3 4 := by decide +kernel
theorem d_231_4 : m_dn M_231 4 (.return_) 1 5 := by decide +kernel
theorem d_232_0 : m_dn M_232 0 (.aload_n 0) 1 1 := by decide +kernel
theorem d_232_1 : m_dn M_232 1 (.ldc 157) 2 3 := by decide +kernel
theorem d_232_10 : m_dn M_232 10 (.sipush 255) 3 13 := by decide +kernel
theorem d_232_13 : m_dn M_232 13 (.invokevirtual 138) 3 16 := by decide +kernel
theorem d_232_16 : m_dn M_232 16 (.istore_n 1) 1 17 := by decide +kernel
theorem d_232_17 : m_dn M_232 17 (.aload_n 0) 1 18 := by decide +kernel
theorem d_232_18 : m_dn M_232 18 (.getfield 37) 3 21 := by decide +kernel
theorem d_232_21 : m_dn M_232 21 (.aload_n 0) 1 22 := by decide +kernel
theorem d_232_22 : m_dn M_232 22 (.getfield 132) 3 25 := by decide +kernel
theorem d_232_25 : m_dn M_232 25 (.putfield 161) 3 28 := by decide +kernel
theorem d_232_28 : m_dn M_232 28 (.iload_n 1) 1 29 := by decide +kernel
theorem d_232_29 : m_dn M_232 29 (.ireturn) 1 30 := by decide +kernel
theorem d_232_3 : m_dn M_232 3 (.invokevirtual 158) 3 6 := by decide +kernel
theorem d_232_30 : m_dn M_232 30 (.aload_n 0) 1 31 := by decide +kernel
theorem d_232_31 : m_dn M_232 31 (.ldc 162) 2 33 := by decide +kernel
theorem d_232_33 : m_dn M_232 33 (.invokevirtual 158) 3 36 := by decide +kernel
theorem d_232_36 : m_dn M_232 36 (.ifCond .eq 9) 3 39 := by decide +kernel
theorem d_232_39 : m_dn M_232 39 (.aload_n 0) 1 40 := by decide +kernel
theorem d_232_40 : m_dn M_232 40 (.iconst 3) 1 41 := by decide +kernel
theorem d_232_41 : m_dn M_232 41 (.invokevirtual 164) 3 44 := by decide +kernel
theorem d_232_44 : m_dn M_232 44 (.ireturn) 1 45 := by decide +kernel
theorem d_232_45 : m_dn M_232 45 (.aload_n 0) 1 46 := by decide +kernel
theorem d_232_46 : m_dn M_232 46 (.ldc 167) 2 48 := by decide +kernel
theorem d_232_48 : m_dn M_232 48 (.invokevirtual 158) 3 51 := by decide +kernel
theorem d_232_51 : m_dn M_232 51 (.ifCond .eq 9) 3 54 := by decide +kernel
theorem d_232_54 : m_dn M_232 54 (.aload_n 0) 1 55 := by decide +kernel
theorem d_232_55 : m_dn M_232 55 (.iconst 4) 1 56 := by decide +kernel
theorem d_232_56 : m_dn M_232 56 (.invokevirtual 164) 3 59 := by decide +kernel
theorem d_232_59 : m_dn M_232 59 (.ireturn) 1 60 := by decide +kernel
theorem d_232_6 : m_dn M_232 6 (.ifCond .eq 24) 3 9 := by decide +kernel
theorem d_232_60 : m_dn M_232 60 (.aload_n 0) 1 61 := by decide +kernel
theorem d_232_61 : m_dn M_232 61 (.ldc 169) 2 63 := by decide +kernel
theorem d_232_63 : m_dn M_232 63 (.invokevirtual 158) 3 66 := by decide +kernel
theorem d_232_66 : m_dn M_232 66 (.ifCond .eq 8) 3 69 := by decide +kernel
theorem d_232_69 : m_dn M_232 69 (.aload_n 0) 1 70 := by decide +kernel
theorem d_232_70 : m_dn M_232 70 (.invokevirtual 171) 3 73 := by decide +kernel
theorem d_232_73 : m_dn M_232 73 (.ireturn) 1 74 := by decide +kernel
theorem d_232_74 : m_dn M_232 74 (.aload_n 0) 1 75 := by decide +kernel
theorem d_232_75 : m_dn M_232 75 (.invokevirtual 174) 3 78 := by decide +kernel
theorem d_232_78 : m_dn M_232 78 (.ireturn) 1 79 := by decide +kernel
theorem d_232_9 : m_dn M_232 9 (.aload_n 0) 1 10 := by decide +kernel
theorem d_233_0 : m_dn M_233 0 (.iconst 0) 1 1 := by decide +kernel
theorem d_233_1 : m_dn M_233 1 (.istore_n 1) 1 2 := by decide +kernel
theorem d_233_12 : m_dn M_233 12 (.istore_n 2) 1 13 := by decide +kernel
theorem d_233_13 : m_dn M_233 13 (.iload_n 2) 1 14 := by decide +kernel
theorem d_233_14 : m_dn M_233 14 (.bipush 97) 2 16 := by decide +kernel
theorem d_233_16 : m_dn M_233 16 (.if_icmp .lt 9) 3 19 := by decide +kernel
theorem d_233_19 : m_dn M_233 19 (.iload_n 2) 1 20 := by decide +kernel
theorem d_233_2 : m_dn M_233 2 (.iload_n 1) 1 3 := by decide +kernel
theorem d_233_20 : m_dn M_233 20 (.bipush 104) 2 22 := by decide +kernel
theorem d_233_22 : m_dn M_233 22 (.if_icmp .le 12) 3 25 := by decide +kernel
theorem d_233_25 : m_dn M_233 25 (.aload_n 0) 1 26 := by decide +kernel
theorem d_233_26 : m_dn M_233 26 (.aload_n 0) 1 27 := by decide +kernel
theorem d_233_27 : m_dn M_233 27 (.getfield 114) 3 30 := by decide +kernel
theorem d_233_3 : m_dn M_233 3 (.bipush 8) 2 5 := by decide +kernel
theorem d_233_30 : m_dn M_233 30 (.invokevirtual 120) 3 33 := by decide +kernel
theorem d_233_33 : m_dn M_233 33 (.ireturn) 1 34 := by decide +kernel
theorem d_233_34 : m_dn M_233 34 (.aload_n 0) 1 35 := by decide +kernel
theorem d_233_35 : m_dn M_233 35 (.getfield 37) 3 38 := by decide +kernel
theorem d_233_38 : m_dn M_233 38 (.dup) 1 39 := by decide +kernel
theorem d_233_39 : m_dn M_233 39 (.getfield 197) 3 42 := by decide +kernel
theorem d_233_42 : m_dn M_233 42 (.iconst 1) 1 43 := by decide +kernel
theorem d_233_43 : m_dn M_233 43 (.iload_n 2) 1 44 := by decide +kernel
theorem d_233_44 : m_dn M_233 44 (.bipush 97) 2 46 := by decide +kernel
theorem d_233_46 : m_dn M_233 46 (.isub) 1 47 := by decide +kernel
theorem d_233_47 : m_dn M_233 47 (.ishl) 1 48 := by decide +kernel
theorem d_233_48 : m_dn M_233 48 (.ior) 1 49 := by decide +kernel
theorem d_233_49 : m_dn M_233 49 (.putfield 197) 3 52 := by decide +kernel
theorem d_233_5 : m_dn M_233 5 (.if_icmp .ge 91) 3 8 := by decide +kernel
theorem d_233_52 : m_dn M_233 52 (.aload_n 0) 1 53 := by decide +kernel
theorem d_233_53 : m_dn M_233 53 (.dup) 1 54 := by decide +kernel
theorem d_233_54 : m_dn M_233 54 (.getfield 114) 3 57 := by decide +kernel
theorem d_233_57 : m_dn M_233 57 (.iconst 1) 1 58 := by decide +kernel
theorem d_233_58 : m_dn M_233 58 (.iadd) 1 59 := by decide +kernel
theorem d_233_59 : m_dn M_233 59 (.putfield 114) 3 62 := by decide +kernel
theorem d_233_62 : m_dn M_233 62 (.iload_n 1) 1 63 := by decide +kernel
theorem d_233_63 : m_dn M_233 63 (.bipush 7) 2 65 := by decide +kernel
theorem d_233_65 : m_dn M_233 65 (.if_icmp .eq 31) 3 68 := by decide +kernel
theorem d_233_68 : m_dn M_233 68 (.aload_n 0) 1 69 := by decide +kernel
theorem d_233_69 : m_dn M_233 69 (.invokevirtual 51) 3 72 := by decide +kernel
theorem d_233_72 : m_dn M_233 72 (.bipush 32) 2 74 := by decide +kernel
theorem d_233_74 : m_dn M_233 74 (.if_icmp .eq 6) 3 77 := by decide +kernel
theorem d_233_77 : m_dn M_233 77 (.goto 19) 3 80 := by decide +kernel
theorem d_233_8 : m_dn M_233 8 (.aload_n 0) 1 9 := by decide +kernel
theorem d_233_80 : m_dn M_233 80 (.aload_n 0) 1 81 := by decide +kernel
theorem d_233_81 : m_dn M_233 81 (.dup) 1 82 := by decide +kernel
theorem d_233_82 : m_dn M_233 82 (.getfield 114) 3 85 := by decide +kernel
theorem d_233_85 : m_dn M_233 85 (.iconst 1) 1 86 := by decide +kernel
theorem d_233_86 : m_dn M_233 86 (.iadd) 1 87 := by decide +kernel
theorem d_233_87 : m_dn M_233 87 (.putfield 114) 3 90 := by decide +kernel
theorem d_233_9 : m_dn M_233 9 (.invokevirtual 51) 3 12 := by decide +kernel
theorem d_233_90 : m_dn M_233 90 (.iinc 1 1) 3 93 := by decide +kernel
theorem d_233_93 : m_dn M_233 93 (.goto (-91)) 3 96 := by decide +kernel
theorem d_233_96 : m_dn M_233 96 (.iconst 1) 1 97 := by decide +kernel
theorem d_233_97 : m_dn M_233 97 (.ireturn) 1 98 := by decide +kernel
def D_c_Store_removeOtherVary_58 (F : Nat) (rec7 : Nat → Option Nat → Int32 → tT → Option (tT)) (x0 : Nat) (x1 : Option Nat) (x2 : Int32) (T : tT) : Option (tT) := rec7 x0 x1 (x2 + Int32.ofInt (-1)) T
theorem T_c_Store_removeOtherVary_58 {l : Launch} {w0 : List mM} {F : Nat} {rec7 : Nat → Option Nat → Int32 → tT → Option (tT)} (hr7 : ∀ {x0 : Nat} {x1 : Option Nat} {x2 : Int32} {T : tT} {w : List mM} {Tz : tT}, okr T.2.1 (some x0) → okr T.2.1 x1 → RT T w → m_Fm w0 w → rec7 x0 x1 x2 T = some Tz → m_Rb l M_146 (7, [(0, .ref x0), (1, rv x1), (2, .int x2)], [], w) (fun v w' => v = none ∧ RT Tz w' ∧ m_Fm w0 w') T Tz 6 600) {x0 : Nat} {x1 : Option Nat} {x2 : Int32} {T : tT} {w : List mM} {Tz : tT} (hx0 : okr T.2.1 (some x0)) (hx1 : okr T.2.1 x1) (h : RT T w) (hF : m_Fm w0 w) (h0 : D_c_Store_removeOtherVary_58 F rec7 x0 x1 x2 T = some Tz) : m_Rb l M_146 (58, [(0, .ref x0), (1, rv x1), (2, .int x2)], [], w) (fun v w' => v = none ∧ RT Tz w' ∧ m_Fm w0 w') T Tz 6 600 := by
  rw [D_c_Store_removeOtherVary_58] at h0
  refine m_Rb.n0 b_146 (x_iinc d_146_58 rfl rfl rfl (show m_put1 _ _ _ = [(2, _), (0, _), (1, _)] from (m_p1r (by simp only [List.all_cons, List.all_nil, cat_rv]; rfl)).trans rfl)) ?_
  refine m_Rb.n0 b_146 (x_goto d_146_61 rfl) ?_
  exact m_Rb.pick [1, 2, 0] rfl (hr7 hx0 hx1 h hF h0)
def D_c_Store_removeOtherVary_7 (F : Nat) : Nat → Nat → Option Nat → Int32 → tT → Option (tT)
  | 0, _, _, _, _ => none
  | n + 1, x0, x1, x2, T => cond (m_c1 .lt x2) (some T) ((tcl T x0 5).bind fun _ => (D_c_Store_at F x0 x2 T).bind fun v13 => nc v13 (D_c_Store_removeOtherVary_58 F (D_c_Store_removeOtherVary_7 F n) x0 x1 x2 T) fun a17 => ((x1).bind fun a19 => (tgi T a19 11 0).bind fun v22 => (tgi T a19 11 1).bind fun v25 => (tcl T a17 11).bind fun _ => (D_c_Entry_isOf F a17 v22 v25 T).bind fun v31 => cond (m_c1 .eq v31) (D_c_Store_removeOtherVary_58 F (D_c_Store_removeOtherVary_7 F n) x0 (some a19) x2 T) ((tgr T a17 11 2).bind fun v41 => (v41).bind fun a45 => (tgi T a45 13 9).bind fun v48 => (tgr T a19 11 2).bind fun v51 => (v51).bind fun a55 => (tgi T a55 13 9).bind fun v58 => cond (m_c2 .eq v48 v58) (D_c_Store_removeOtherVary_58 F (D_c_Store_removeOtherVary_7 F n) x0 (some a19) x2 T) ((tcl T x0 5).bind fun _ => (D_c_Store_removeAt F x0 x2 T).bind fun T70 => D_c_Store_removeOtherVary_58 F (D_c_Store_removeOtherVary_7 F n) x0 (some a19) x2 T70))))
theorem T_c_Store_removeOtherVary_7 {l : Launch} {w0 : List mM} {F : Nat} : ∀ (n : Nat) {x0 : Nat} {x1 : Option Nat} {x2 : Int32} {T : tT} {w : List mM} {Tz : tT}, okr T.2.1 (some x0) → okr T.2.1 x1 → RT T w → m_Fm w0 w → D_c_Store_removeOtherVary_7 F n x0 x1 x2 T = some Tz → m_Rb l M_146 (7, [(0, .ref x0), (1, rv x1), (2, .int x2)], [], w) (fun v w' => v = none ∧ RT Tz w' ∧ m_Fm w0 w') T Tz 6 600 := by
  intro n
  induction n with
  | zero => intro x0 x1 x2 T w Tz hx0 hx1 h hF h0; cases h0
  | succ n ih =>
    intro x0 x1 x2 T w Tz hx0 hx1 h hF h0
    rw [D_c_Store_removeOtherVary_7] at h0
    refine m_Rb.n0 b_146 (x_iload_n d_146_7 rfl) ?_
    cases hc8 : m_c1 .lt x2 with
    | true =>
      have j9 := cT hc8 h0
      refine m_Rb.n0 b_146 (x_ift d_146_8 rfl hc8) ?_
      cases j9
      exact m_Rb.ret b_146 (m_rt_vr d_146_64 rfl) ⟨rfl, h, hF⟩
    | false =>
      have j9 := cF hc8 h0
      refine m_Rb.n0 b_146 (x_iff d_146_8 rfl hc8) ?_
      refine m_Rb.n0 b_146 (x_aload_n d_146_11 rfl) ?_
      refine m_Rb.n0 b_146 (x_iload_n d_146_12 rfl) ?_
      obtain ⟨_, e10, j11⟩ := bS j9
      obtain ⟨_, g12⟩ := RT.cls h e10
      obtain ⟨v13, e14, j15⟩ := bS j11
      refine m_Rb.callR b_146 (y_cv d_146_13 rfl q_76 (m_isRecv_of rfl g12) (show m_takeI _ _ = some (_, [_, _], []) from m_takeI_of rfl rfl rfl (Nat.le_of_ble_eq_true rfl)) (by simp only [m_okf, List.all_cons, List.all_nil, Bool.and_true, Bool.and_self, m_okv_i, m_okv_l, m_okv_0, m_okv_n0, m_okv_t, RT.okn h hx0, RT.okv h hx0, RT.okv h hx1]) rfl) (T_c_Store_at hx0 h e14) hF rfl (fun w16 o16 h16 f16 k16 => ?_) (by decide) (by decide)
      refine m_Rb.n0 b_146 (x_astorer_n (x := v13) d_146_16 rfl (show m_put1 _ _ _ = [(3, _), (0, _), (1, _), (2, _)] from rfl)) ?_
      refine m_Rb.n0 b_146 (x_aloadr_n (x := v13) d_146_17 rfl) ?_
      cases v13 with
      | none =>
        have j18 := nN j15
        refine m_Rb.n0 b_146 (x_ifnull0 d_146_18 rfl) ?_
        exact m_Rb.pick [1, 2, 3] rfl (T_c_Store_removeOtherVary_58 ih hx0 hx1 h16 f16 j18)
      | some a17 =>
        have j18 := nS j15
        refine m_Rb.n0 b_146 (x_ifnull1 d_146_18 rfl) ?_
        refine m_Rb.n0 b_146 (x_aload_n d_146_21 rfl) ?_
        refine m_Rb.n0 b_146 (x_aloadr_n (x := x1) d_146_22 rfl) ?_
        obtain ⟨a19, e20, j21⟩ := bS j18
        subst e20
        obtain ⟨v22, e23, j24⟩ := bS j21
        refine m_Rb.tgetI b_146 d_146_23 rfl h16 e23 ?_
        refine m_Rb.n0 b_146 (x_aload_n d_146_26 rfl) ?_
        obtain ⟨v25, e26, j27⟩ := bS j24
        refine m_Rb.tgetI b_146 d_146_27 rfl h16 e26 ?_
        obtain ⟨_, e28, j29⟩ := bS j27
        obtain ⟨_, g30⟩ := RT.cls h16 e28
        obtain ⟨v31, e32, j33⟩ := bS j29
        refine m_Rb.callI b_146 (y_cv d_146_30 rfl q_81 (m_isRecv_of rfl g30) (show m_takeI _ _ = some (_, [_, _, _], []) from m_takeI_of rfl rfl rfl (Nat.le_of_ble_eq_true rfl)) (by simp only [m_okf, List.all_cons, List.all_nil, Bool.and_true, Bool.and_self, m_okv_i, m_okv_l, m_okv_0, m_okv_n0, m_okv_t, RT.okn h16 o16, RT.okv h16 o16, RT.okn h16 hx0, RT.okv h16 hx0, RT.okn h16 hx1, RT.okv h16 hx1]) rfl) (T_c_Entry_isOf o16 h16 e32) f16 rfl (fun w34 h34 f34 k34 => ?_) (by decide) (by decide)
        cases hc39 : m_c1 .eq v31 with
        | true =>
          have j40 := cT hc39 j33
          refine m_Rb.n0 b_146 (x_ift d_146_33 rfl hc39) ?_
          exact m_Rb.pick [1, 2, 3] rfl (T_c_Store_removeOtherVary_58 ih hx0 hx1 h34 f34 j40)
        | false =>
          have j40 := cF hc39 j33
          refine m_Rb.n0 b_146 (x_iff d_146_33 rfl hc39) ?_
          refine m_Rb.n0 b_146 (x_aload_n d_146_36 rfl) ?_
          obtain ⟨v41, e42, j43⟩ := bS j40
          refine m_Rb.tgetR b_146 d_146_37 rfl h34 e42 (fun o44 => ?_)
          obtain ⟨a45, e46, j47⟩ := bS j43
          subst e46
          obtain ⟨v48, e49, j50⟩ := bS j47
          refine m_Rb.tgetI b_146 d_146_40 rfl h34 e49 ?_
          refine m_Rb.n0 b_146 (x_aload_n d_146_43 rfl) ?_
          obtain ⟨v51, e52, j53⟩ := bS j50
          refine m_Rb.tgetR b_146 d_146_44 rfl h34 e52 (fun o54 => ?_)
          obtain ⟨a55, e56, j57⟩ := bS j53
          subst e56
          obtain ⟨v58, e59, j60⟩ := bS j57
          refine m_Rb.tgetI b_146 d_146_47 rfl h34 e59 ?_
          cases hc65 : m_c2 .eq v48 v58 with
          | true =>
            have j66 := cT hc65 j60
            refine m_Rb.n0 b_146 (x_ict d_146_50 rfl hc65) ?_
            exact m_Rb.pick [1, 2, 3] rfl (T_c_Store_removeOtherVary_58 ih hx0 hx1 h34 f34 j66)
          | false =>
            have j66 := cF hc65 j60
            refine m_Rb.n0 b_146 (x_icf d_146_50 rfl hc65) ?_
            refine m_Rb.n0 b_146 (x_aload_n d_146_53 rfl) ?_
            refine m_Rb.n0 b_146 (x_iload_n d_146_54 rfl) ?_
            obtain ⟨_, e67, j68⟩ := bS j66
            obtain ⟨_, g69⟩ := RT.cls h34 e67
            obtain ⟨T70, e71, j72⟩ := bS j68
            refine m_Rb.callV b_146 (y_cv d_146_55 rfl q_136 (m_isRecv_of rfl g69) (show m_takeI _ _ = some (_, [_, _], []) from m_takeI_of rfl rfl rfl (Nat.le_of_ble_eq_true rfl)) (by simp only [m_okf, List.all_cons, List.all_nil, Bool.and_true, Bool.and_self, m_okv_i, m_okv_l, m_okv_0, m_okv_n0, m_okv_t, RT.okn h34 o16, RT.okv h34 o16, RT.okn h34 hx0, RT.okv h34 hx0, RT.okn h34 hx1, RT.okv h34 hx1]) rfl) (T_c_Store_removeAt hx0 h34 e71) f34 rfl (fun w73 h73 f73 k73 => ?_) (by decide) (by decide)
            exact m_Rb.pick [1, 2, 3] rfl (T_c_Store_removeOtherVary_58 ih (okm hx0 k73) (okm hx1 k73) h73 f73 j72)
def D_c_Store_removeOtherVary (F : Nat) (a0 : Nat) (p0 : Option Nat) (T : tT) : Option (tT) := (tcl T a0 5).bind fun _ => (D_c_Store_count F a0 T).bind fun v4 => D_c_Store_removeOtherVary_7 F F a0 p0 (v4 - (1 : Int32)) T
theorem T_c_Store_removeOtherVary {l : Launch} {w : List mM} {F : Nat} {a0 : Nat} {p0 : Option Nat} {T : tT} {Tz : tT} (ha0 : okr T.2.1 (some a0)) (hp0 : okr T.2.1 p0) (h : RT T w) (h0 : D_c_Store_removeOtherVary F a0 p0 T = some Tz) : m_Rb l M_146 (m_ent M_146 [.ref a0, rv p0] w) (fun v w' => v = none ∧ RT Tz w' ∧ m_Fm w w') T Tz 6 600 := by
  rw [show m_ent M_146 [.ref a0, rv p0] w = (0, [(0, .ref a0), (1, rv p0)], [], w) from by first | rfl | (simp only [m_ent, lv_args_r, lv_args_a, lv_args_i, lv_args_l, lv_args_0]; done) | (simp only [m_ent, lv_args_r, lv_args_a, lv_args_i, lv_args_l, lv_args_0]; rfl)]
  generalize hw0 : w = w0 at h ⊢
  have hF : m_Fm w0 w0 := m_Fm.refl
  rw [D_c_Store_removeOtherVary] at h0
  refine m_Rb.n0 b_146 (x_aload_n d_146_0 rfl) ?_
  obtain ⟨_, e1, j2⟩ := bS h0
  obtain ⟨_, g3⟩ := RT.cls h e1
  obtain ⟨v4, e5, j6⟩ := bS j2
  refine m_Rb.callI b_146 (y_cv d_146_1 rfl q_75 (m_isRecv_of rfl g3) (show m_takeI _ _ = some (_, [_], []) from m_takeI_of rfl rfl rfl (Nat.le_of_ble_eq_true rfl)) (by simp only [m_okf, List.all_cons, List.all_nil, Bool.and_true, Bool.and_self, m_okv_i, m_okv_l, m_okv_0, m_okv_n0, m_okv_t, RT.okn h ha0, RT.okv h ha0, RT.okv h hp0]) rfl) (T_c_Store_count ha0 h e5) hF rfl (fun w7 h7 f7 k7 => ?_) (by decide) (by decide)
  refine m_Rb.n0 b_146 (x_iconst (z := 1) d_146_4 (by decide)) ?_
  refine m_Rb.n0 b_146 (x_isub d_146_5 rfl) ?_
  refine m_Rb.n0 b_146 (x_istore_n d_146_6 rfl (show m_put1 _ _ _ = [(2, _), (0, _), (1, _)] from (m_p1r (by simp only [List.all_cons, List.all_nil, cat_rv]; rfl)).trans rfl)) ?_
  exact m_Rb.pick [1, 2, 0] rfl (T_c_Store_removeOtherVary_7 F ha0 hp0 h7 f7 j6)
def D_c_EdgeHouse_takeIn_187 (F : Nat) (x0 : Nat) (x5 : Option Nat) (y0 : Int32) (y1 : Option Nat) (T : tT) : Option (Option Nat × tT) := (y1).bind fun a185 => (tpz T a185 11 8 y0).bind fun T188 => some (x5, T188)
theorem T_c_EdgeHouse_takeIn_187 {l : Launch} {w0 : List mM} {F : Nat} {x0 : Nat} {x5 : Option Nat} {y0 : Int32} {y1 : Option Nat} {T : tT} {w : List mM} {yz : Option Nat} {Tz : tT} (hx0 : okr T.2.1 (some x0)) (hx5 : okr T.2.1 x5) (hy1 : okr T.2.1 y1) (h : RT T w) (hF : m_Fm w0 w) (h0 : D_c_EdgeHouse_takeIn_187 F x0 x5 y0 y1 T = some (yz, Tz)) : m_Rb l M_145 (187, [(0, .ref x0), (5, rv x5)], [.int y0, rv y1], w) (fun v w' => v = some (rv yz) ∧ okr Tz.2.1 yz ∧ RT Tz w' ∧ m_Fm w0 w') T Tz 7 700 := by
  rw [D_c_EdgeHouse_takeIn_187] at h0
  obtain ⟨a185, e186, j187⟩ := bS h0
  subst e186
  obtain ⟨T188, e189, j190⟩ := bS j187
  refine m_Rb.tputZ b_145 d_145_187 rfl rfl (by decide) h hF e189 (fun w191 h191 f191 k191 => ?_)
  refine m_Rb.n0 b_145 (x_aloadr (x := x5) d_145_190 rfl) ?_
  have o9 : okr T188.2.1 x5 := (okm hx5 k191)
  cases j190
  exact m_Rb.ret b_145 (m_rt_rr d_145_192 rfl) ⟨rfl, o9, h191, f191⟩
def D_c_EdgeHouse_takeIn_186 (F : Nat) (x0 : Nat) (x5 : Option Nat) (y0 : Option Nat) (T : tT) : Option (Option Nat × tT) := D_c_EdgeHouse_takeIn_187 F x0 x5 (0 : Int32) y0 T
theorem T_c_EdgeHouse_takeIn_186 {l : Launch} {w0 : List mM} {F : Nat} {x0 : Nat} {x5 : Option Nat} {y0 : Option Nat} {T : tT} {w : List mM} {yz : Option Nat} {Tz : tT} (hx0 : okr T.2.1 (some x0)) (hx5 : okr T.2.1 x5) (hy0 : okr T.2.1 y0) (h : RT T w) (hF : m_Fm w0 w) (h0 : D_c_EdgeHouse_takeIn_186 F x0 x5 y0 T = some (yz, Tz)) : m_Rb l M_145 (186, [(0, .ref x0), (5, rv x5)], [rv y0], w) (fun v w' => v = some (rv yz) ∧ okr Tz.2.1 yz ∧ RT Tz w' ∧ m_Fm w0 w') T Tz 7 700 := by
  rw [D_c_EdgeHouse_takeIn_186] at h0
  refine m_Rb.n0 b_145 (x_iconst (z := 0) d_145_186 (by decide)) ?_
  exact m_Rb.pick [0, 1] rfl (T_c_EdgeHouse_takeIn_187 hx0 hx5 hy0 h hF h0)
def D_c_EdgeHouse_takeIn_167 (F : Nat) (x0 : Nat) (x5 : Option Nat) (x6 : Option Nat) (T : tT) : Option (Option Nat × tT) := nc x6 (D_c_EdgeHouse_takeIn_186 F x0 x5 x5 T) fun a166 => ((tgi T a166 11 8).bind fun v168 => (cond (m_c1 .eq v168) (some (0 : Int32)) (some (1 : Int32))).bind fun v175 => (x5).bind fun a178 => (tpz T a178 11 8 v175).bind fun T181 => some ((some a178), T181))
theorem T_c_EdgeHouse_takeIn_167 {l : Launch} {w0 : List mM} {F : Nat} {x0 : Nat} {x5 : Option Nat} {x6 : Option Nat} {T : tT} {w : List mM} {yz : Option Nat} {Tz : tT} (hx0 : okr T.2.1 (some x0)) (hx5 : okr T.2.1 x5) (hx6 : okr T.2.1 x6) (h : RT T w) (hF : m_Fm w0 w) (h0 : D_c_EdgeHouse_takeIn_167 F x0 x5 x6 T = some (yz, Tz)) : m_Rb l M_145 (167, [(0, .ref x0), (5, rv x5), (6, rv x6)], [], w) (fun v w' => v = some (rv yz) ∧ okr Tz.2.1 yz ∧ RT Tz w' ∧ m_Fm w0 w') T Tz 7 700 := by
  rw [D_c_EdgeHouse_takeIn_167] at h0
  refine m_Rb.n0 b_145 (x_aloadr (x := x5) d_145_167 rfl) ?_
  refine m_Rb.n0 b_145 (x_aloadr (x := x6) d_145_169 rfl) ?_
  cases x6 with
  | none =>
    have j167 := nN h0
    refine m_Rb.n0 b_145 (x_ifnull0 d_145_171 rfl) ?_
    exact m_Rb.pick [0, 1] rfl (T_c_EdgeHouse_takeIn_186 hx0 hx5 hx5 h hF j167)
  | some a166 =>
    have j167 := nS h0
    refine m_Rb.n0 b_145 (x_ifnull1 d_145_171 rfl) ?_
    refine m_Rb.n0 b_145 (x_aload d_145_174 rfl) ?_
    obtain ⟨v168, e169, j170⟩ := bS j167
    refine m_Rb.tgetI b_145 d_145_176 rfl h e169 ?_
    obtain ⟨v175, e172, j176⟩ := bS j170
    have kk171 : ∀ (xz : Int32) (w1 : List mM), xz = v175 → RT T w1 → m_Fm w0 w1 → m_Rb l M_145 (187, [(0, .ref x0), (5, rv x5), (6, .ref a166)], [.int xz, rv x5], w1) (fun v w' => v = some (rv yz) ∧ okr Tz.2.1 yz ∧ RT Tz w' ∧ m_Fm w0 w') T Tz 7 700 := by
      intro xz w177 ez h177 f177
      rw [ez]
      obtain ⟨a178, e179, j180⟩ := bS j176
      subst e179
      obtain ⟨T181, e182, j183⟩ := bS j180
      refine m_Rb.tputZ b_145 d_145_187 rfl rfl (by decide) h177 f177 e182 (fun w184 h184 f184 k184 => ?_)
      refine m_Rb.n0 b_145 (x_aload d_145_190 rfl) ?_
      have o9 : okr T181.2.1 (some a178) := (okm hx5 k184)
      cases j183
      exact m_Rb.ret b_145 (m_rt_rr (x := (some a178)) d_145_192 rfl) ⟨rfl, o9, h184, f184⟩
    cases hc173 : m_c1 .eq v168 with
    | true =>
      have j174 := cT hc173 e172
      refine m_Rb.n0 b_145 (x_ift d_145_179 rfl hc173) ?_
      refine m_Rb.n0 b_145 (x_iconst (z := 0) d_145_186 (by decide)) ?_
      exact kk171 _ _ (Option.some.inj j174) h hF
    | false =>
      have j174 := cF hc173 e172
      refine m_Rb.n0 b_145 (x_iff d_145_179 rfl hc173) ?_
      refine m_Rb.n0 b_145 (x_iconst (z := 1) d_145_182 (by decide)) ?_
      refine m_Rb.n0 b_145 (x_goto d_145_183 rfl) ?_
      exact kk171 _ _ (Option.some.inj j174) h hF
def D_c_EdgeHouse_takeIn_153 (F : Nat) (x0 : Nat) (x1 : Option Nat) (x5 : Option Nat) (x6 : Option Nat) (T : tT) : Option (Option Nat × tT) := nc x6 (D_c_EdgeHouse_takeIn_167 F x0 x5 none T) fun a147 => ((x1).bind fun a149 => (tgr T a149 4 1).bind fun v152 => (v152).bind fun a156 => (tcl T a156 5).bind fun _ => (D_c_Store_remove F a156 (some a147) T).bind fun T162 => D_c_EdgeHouse_takeIn_167 F x0 x5 (some a147) T162)
theorem T_c_EdgeHouse_takeIn_153 {l : Launch} {w0 : List mM} {F : Nat} {x0 : Nat} {x1 : Option Nat} {x5 : Option Nat} {x6 : Option Nat} {T : tT} {w : List mM} {yz : Option Nat} {Tz : tT} (hx0 : okr T.2.1 (some x0)) (hx1 : okr T.2.1 x1) (hx5 : okr T.2.1 x5) (hx6 : okr T.2.1 x6) (h : RT T w) (hF : m_Fm w0 w) (h0 : D_c_EdgeHouse_takeIn_153 F x0 x1 x5 x6 T = some (yz, Tz)) : m_Rb l M_145 (153, [(0, .ref x0), (1, rv x1), (5, rv x5), (6, rv x6)], [], w) (fun v w' => v = some (rv yz) ∧ okr Tz.2.1 yz ∧ RT Tz w' ∧ m_Fm w0 w') T Tz 7 700 := by
  rw [D_c_EdgeHouse_takeIn_153] at h0
  refine m_Rb.n0 b_145 (x_aloadr (x := x6) d_145_153 rfl) ?_
  cases x6 with
  | none =>
    have j148 := nN h0
    refine m_Rb.n0 b_145 (x_ifnull0 d_145_155 rfl) ?_
    exact m_Rb.pick [0, 2, 3] rfl (T_c_EdgeHouse_takeIn_167 hx0 hx5 okr_none h hF j148)
  | some a147 =>
    have j148 := nS h0
    refine m_Rb.n0 b_145 (x_ifnull1 d_145_155 rfl) ?_
    refine m_Rb.n0 b_145 (x_aloadr_n (x := x1) d_145_158 rfl) ?_
    obtain ⟨a149, e150, j151⟩ := bS j148
    subst e150
    obtain ⟨v152, e153, j154⟩ := bS j151
    refine m_Rb.tgetR b_145 d_145_159 rfl h e153 (fun o155 => ?_)
    refine m_Rb.n0 b_145 (x_aload d_145_162 rfl) ?_
    obtain ⟨a156, e157, j158⟩ := bS j154
    subst e157
    obtain ⟨_, e159, j160⟩ := bS j158
    obtain ⟨_, g161⟩ := RT.cls h e159
    obtain ⟨T162, e163, j164⟩ := bS j160
    refine m_Rb.callV b_145 (y_cv d_145_164 rfl q_93 (m_isRecv_of rfl g161) (show m_takeI _ _ = some (_, [_, _], []) from m_takeI_of rfl rfl rfl (Nat.le_of_ble_eq_true rfl)) (by simp only [m_okf, List.all_cons, List.all_nil, Bool.and_true, Bool.and_self, m_okv_i, m_okv_l, m_okv_0, m_okv_n0, m_okv_t, RT.okn h hx0, RT.okv h hx0, RT.okn h hx1, RT.okv h hx1, RT.okv h hx5, RT.okn h hx6, RT.okv h hx6, RT.okn h o155, RT.okv h o155]) rfl) (T_c_Store_remove o155 hx6 h e163) hF rfl (fun w165 h165 f165 k165 => ?_) (by decide) (by decide)
    exact m_Rb.pick [0, 2, 3] rfl (T_c_EdgeHouse_takeIn_167 (okm hx0 k165) (okm hx5 k165) (okm hx6 k165) h165 f165 j164)
def D_c_EdgeHouse_takeIn (F : Nat) (a0 : Nat) (p0 : Option Nat) (p1 : Option Nat) (p2 : Option Nat) (T : tT) : Option (Option Nat × tT) := (p2).bind fun a1 => (tgr T a1 9 15).bind fun v4 => bd2 (tnw T 11) fun a8 T9 => (p1).bind fun a13 => (tgi T9 a13 10 0).bind fun v16 => (tgi T9 a13 10 1).bind fun v19 => (tgi T9 a13 10 2).bind fun v22 => (tgi T9 a13 10 3).bind fun v25 => (v4).bind fun a28 => (tcl T9 a28 13).bind fun _ => (D_c_Told_whichFor F a28 v22 v25 T9).bind fun v34 => (D_c_Entry_init F a8 v16 v19 (some a28) v34 T9).bind fun T38 => (tgi T38 a1 9 13).bind fun v42 => (tpi T38 a8 11 4 v42).bind fun T45 => (tgi T45 a1 9 16).bind fun v49 => (tgi T45 a0 0 14).bind fun v52 => (tgi T45 a1 9 18).bind fun v55 => (tpi T45 a8 11 5 ((v49 + v52) - v55)).bind fun T58 => (tgi T58 a0 0 14).bind fun v62 => (tpi T58 a8 11 6 v62).bind fun T65 => (tgi T65 a1 9 17).bind fun v69 => (tpi T65 a8 11 7 v69).bind fun T72 => (p0).bind fun a76 => (tgr T72 a76 4 1).bind fun v79 => (v79).bind fun a83 => (tcl T72 a83 5).bind fun _ => (D_c_Store_removeOtherVary F a83 (some a8) T72).bind fun T89 => (tgr T89 a76 4 1).bind fun v93 => (tgi T89 a8 11 0).bind fun v97 => (tgi T89 a8 11 1).bind fun v100 => (tgi T89 a8 11 3).bind fun v103 => (v93).bind fun a106 => (tcl T89 a106 5).bind fun _ => (D_c_Store_find F a106 v97 v100 v103 T89).bind fun v112 => nc v112 (D_c_EdgeHouse_takeIn_153 F a0 (some a76) (some a8) none T89) fun a116 => ((tgr T89 a116 11 2).bind fun v118 => (v118).bind fun a122 => (tgi T89 a122 13 1).bind fun v125 => (tgi T89 a28 13 1).bind fun v128 => cond (m_c2 .ne v125 v128) (D_c_EdgeHouse_takeIn_153 F a0 (some a76) (some a8) (some a116) T89) ((tgi T89 a8 11 7).bind fun v137 => (tgi T89 a116 11 7).bind fun v140 => (tpi T89 a8 11 7 (v137 ||| v140)).bind fun T143 => D_c_EdgeHouse_takeIn_153 F a0 (some a76) (some a8) (some a116) T143))
theorem T_c_EdgeHouse_takeIn {l : Launch} {w : List mM} {F : Nat} {a0 : Nat} {p0 : Option Nat} {p1 : Option Nat} {p2 : Option Nat} {T : tT} {yz : Option Nat} {Tz : tT} (ha0 : okr T.2.1 (some a0)) (hp0 : okr T.2.1 p0) (hp1 : okr T.2.1 p1) (hp2 : okr T.2.1 p2) (h : RT T w) (h0 : D_c_EdgeHouse_takeIn F a0 p0 p1 p2 T = some (yz, Tz)) : m_Rb l M_145 (m_ent M_145 [.ref a0, rv p0, rv p1, rv p2] w) (fun v w' => v = some (rv yz) ∧ okr Tz.2.1 yz ∧ RT Tz w' ∧ m_Fm w w') T Tz 7 700 := by
  rw [show m_ent M_145 [.ref a0, rv p0, rv p1, rv p2] w = (0, [(0, .ref a0), (1, rv p0), (2, rv p1), (3, rv p2)], [], w) from by first | rfl | (simp only [m_ent, lv_args_r, lv_args_a, lv_args_i, lv_args_l, lv_args_0]; done) | (simp only [m_ent, lv_args_r, lv_args_a, lv_args_i, lv_args_l, lv_args_0]; rfl)]
  generalize hw0 : w = w0 at h ⊢
  have hF : m_Fm w0 w0 := m_Fm.refl
  rw [D_c_EdgeHouse_takeIn] at h0
  refine m_Rb.n0 b_145 (x_aloadr_n (x := p2) d_145_0 rfl) ?_
  obtain ⟨a1, e2, j3⟩ := bS h0
  subst e2
  obtain ⟨v4, e5, j6⟩ := bS j3
  refine m_Rb.tgetR b_145 d_145_1 rfl h e5 (fun o7 => ?_)
  refine m_Rb.n0 b_145 (x_astorer (x := v4) d_145_4 rfl (show m_put1 _ _ _ = [(4, _), (0, _), (1, _), (2, _), (3, _)] from rfl)) ?_
  obtain ⟨a8, T9, e10, j11⟩ := bS2 j6
  refine m_Rb.tnew b_145 d_145_6 rfl (by simp only [m_okf, List.all_cons, List.all_nil, Bool.and_true, Bool.and_self, m_okv_i, m_okv_l, m_okv_0, m_okv_n0, m_okv_t, RT.okv h o7, RT.okn h ha0, RT.okv h ha0, RT.okv h hp0, RT.okv h hp1, RT.okn h hp2, RT.okv h hp2]) h hF e10 (fun w12 o12 h12 f12 k12 => ?_)
  refine m_Rb.n0 b_145 (x_dup d_145_9 rfl) ?_
  refine m_Rb.n0 b_145 (x_aloadr_n (x := p1) d_145_10 rfl) ?_
  obtain ⟨a13, e14, j15⟩ := bS j11
  subst e14
  obtain ⟨v16, e17, j18⟩ := bS j15
  refine m_Rb.tgetI b_145 d_145_11 rfl h12 e17 ?_
  refine m_Rb.n0 b_145 (x_aload_n d_145_14 rfl) ?_
  obtain ⟨v19, e20, j21⟩ := bS j18
  refine m_Rb.tgetI b_145 d_145_15 rfl h12 e20 ?_
  refine m_Rb.n0 b_145 (x_aloadr (x := v4) d_145_18 rfl) ?_
  refine m_Rb.n0 b_145 (x_aloadr (x := v4) d_145_20 rfl) ?_
  refine m_Rb.n0 b_145 (x_aload_n d_145_22 rfl) ?_
  obtain ⟨v22, e23, j24⟩ := bS j21
  refine m_Rb.tgetI b_145 d_145_23 rfl h12 e23 ?_
  refine m_Rb.n0 b_145 (x_aload_n d_145_26 rfl) ?_
  obtain ⟨v25, e26, j27⟩ := bS j24
  refine m_Rb.tgetI b_145 d_145_27 rfl h12 e26 ?_
  obtain ⟨a28, e29, j30⟩ := bS j27
  subst e29
  obtain ⟨_, e31, j32⟩ := bS j30
  obtain ⟨_, g33⟩ := RT.cls h12 e31
  obtain ⟨v34, e35, j36⟩ := bS j32
  refine m_Rb.callI b_145 (y_cv d_145_30 rfl q_82 (m_isRecv_of rfl g33) (show m_takeI _ _ = some (_, [_, _, _], [_, _, _, _, _]) from rfl) (by simp only [m_okf, List.all_cons, List.all_nil, Bool.and_true, Bool.and_self, m_okv_i, m_okv_l, m_okv_0, m_okv_n0, m_okv_t, RT.okn h12 (okm o7 k12), RT.okv h12 (okm o7 k12), RT.okn h12 (okm ha0 k12), RT.okv h12 (okm ha0 k12), RT.okv h12 (okm hp0 k12), RT.okn h12 (okm hp1 k12), RT.okv h12 (okm hp1 k12), RT.okn h12 (okm hp2 k12), RT.okv h12 (okm hp2 k12), RT.okn h12 o12, RT.okv h12 o12]) rfl) (T_c_Told_whichFor (okm o7 k12) h12 e35) f12 rfl (fun w37 h37 f37 k37 => ?_) (by decide) (by decide)
  obtain ⟨T38, e39, j40⟩ := bS j36
  refine m_Rb.callV b_145 (x_ci d_145_33 rfl (by decide) q_130 (show m_takeI _ _ = some (_, [_, _, _, _, _], [_]) from m_takeI_of rfl rfl rfl (Nat.le_of_ble_eq_true rfl)) (by simp only [m_okf, List.all_cons, List.all_nil, Bool.and_true, Bool.and_self, m_okv_i, m_okv_l, m_okv_0, m_okv_n0, m_okv_t, RT.okn h37 (okm o7 k12), RT.okv h37 (okm o7 k12), RT.okn h37 (okm ha0 k12), RT.okv h37 (okm ha0 k12), RT.okv h37 (okm hp0 k12), RT.okn h37 (okm hp1 k12), RT.okv h37 (okm hp1 k12), RT.okn h37 (okm hp2 k12), RT.okv h37 (okm hp2 k12), RT.okn h37 o12, RT.okv h37 o12]) rfl) (T_c_Entry_init o12 (okm o7 k12) h37 e39) f37 rfl (fun w41 h41 f41 k41 => ?_) (by decide) (by decide)
  refine m_Rb.n0 b_145 (x_astore d_145_36 rfl (show m_put1 _ _ _ = [(5, _), (4, _), (0, _), (1, _), (2, _), (3, _)] from rfl)) ?_
  refine m_Rb.n0 b_145 (x_aload d_145_38 rfl) ?_
  refine m_Rb.n0 b_145 (x_aload_n d_145_40 rfl) ?_
  obtain ⟨v42, e43, j44⟩ := bS j40
  refine m_Rb.tgetI b_145 d_145_41 rfl h41 e43 ?_
  obtain ⟨T45, e46, j47⟩ := bS j44
  refine m_Rb.tputI b_145 d_145_44 rfl rfl (by decide) h41 f41 e46 (fun w48 h48 f48 k48 => ?_)
  refine m_Rb.n0 b_145 (x_aload d_145_47 rfl) ?_
  refine m_Rb.n0 b_145 (x_aload_n d_145_49 rfl) ?_
  obtain ⟨v49, e50, j51⟩ := bS j47
  refine m_Rb.tgetI b_145 d_145_50 rfl h48 e50 ?_
  refine m_Rb.n0 b_145 (x_aload_n d_145_53 rfl) ?_
  obtain ⟨v52, e53, j54⟩ := bS j51
  refine m_Rb.tgetI b_145 d_145_54 rfl h48 e53 ?_
  refine m_Rb.n0 b_145 (x_iadd d_145_57 rfl) ?_
  refine m_Rb.n0 b_145 (x_aload_n d_145_58 rfl) ?_
  obtain ⟨v55, e56, j57⟩ := bS j54
  refine m_Rb.tgetI b_145 d_145_59 rfl h48 e56 ?_
  refine m_Rb.n0 b_145 (x_isub d_145_62 rfl) ?_
  obtain ⟨T58, e59, j60⟩ := bS j57
  refine m_Rb.tputI b_145 d_145_63 rfl rfl (by decide) h48 f48 e59 (fun w61 h61 f61 k61 => ?_)
  refine m_Rb.n0 b_145 (x_aload d_145_66 rfl) ?_
  refine m_Rb.n0 b_145 (x_aload_n d_145_68 rfl) ?_
  obtain ⟨v62, e63, j64⟩ := bS j60
  refine m_Rb.tgetI b_145 d_145_69 rfl h61 e63 ?_
  obtain ⟨T65, e66, j67⟩ := bS j64
  refine m_Rb.tputI b_145 d_145_72 rfl rfl (by decide) h61 f61 e66 (fun w68 h68 f68 k68 => ?_)
  refine m_Rb.n0 b_145 (x_aload d_145_75 rfl) ?_
  refine m_Rb.n0 b_145 (x_aload_n d_145_77 rfl) ?_
  obtain ⟨v69, e70, j71⟩ := bS j67
  refine m_Rb.tgetI b_145 d_145_78 rfl h68 e70 ?_
  obtain ⟨T72, e73, j74⟩ := bS j71
  refine m_Rb.tputI b_145 d_145_81 rfl rfl (by decide) h68 f68 e73 (fun w75 h75 f75 k75 => ?_)
  refine m_Rb.n0 b_145 (x_aloadr_n (x := p0) d_145_84 rfl) ?_
  obtain ⟨a76, e77, j78⟩ := bS j74
  subst e77
  obtain ⟨v79, e80, j81⟩ := bS j78
  refine m_Rb.tgetR b_145 d_145_85 rfl h75 e80 (fun o82 => ?_)
  refine m_Rb.n0 b_145 (x_aload d_145_88 rfl) ?_
  obtain ⟨a83, e84, j85⟩ := bS j81
  subst e84
  obtain ⟨_, e86, j87⟩ := bS j85
  obtain ⟨_, g88⟩ := RT.cls h75 e86
  obtain ⟨T89, e90, j91⟩ := bS j87
  refine m_Rb.callV b_145 (y_cv d_145_90 rfl q_146 (m_isRecv_of rfl g88) (show m_takeI _ _ = some (_, [_, _], []) from m_takeI_of rfl rfl rfl (Nat.le_of_ble_eq_true rfl)) (by simp only [m_okf, List.all_cons, List.all_nil, Bool.and_true, Bool.and_self, m_okv_i, m_okv_l, m_okv_0, m_okv_n0, m_okv_t, RT.okn h75 (okm (okm (okm (okm (okm o12 k41) k48) k61) k68) k75), RT.okv h75 (okm (okm (okm (okm (okm o12 k41) k48) k61) k68) k75), RT.okn h75 (okm (okm (okm (okm (okm (okm o7 k12) k41) k48) k61) k68) k75), RT.okv h75 (okm (okm (okm (okm (okm (okm o7 k12) k41) k48) k61) k68) k75), RT.okn h75 (okm (okm (okm (okm (okm (okm ha0 k12) k41) k48) k61) k68) k75), RT.okv h75 (okm (okm (okm (okm (okm (okm ha0 k12) k41) k48) k61) k68) k75), RT.okn h75 (okm (okm (okm (okm (okm (okm hp0 k12) k41) k48) k61) k68) k75), RT.okv h75 (okm (okm (okm (okm (okm (okm hp0 k12) k41) k48) k61) k68) k75), RT.okn h75 (okm (okm (okm (okm (okm (okm hp1 k12) k41) k48) k61) k68) k75), RT.okv h75 (okm (okm (okm (okm (okm (okm hp1 k12) k41) k48) k61) k68) k75), RT.okn h75 (okm (okm (okm (okm (okm (okm hp2 k12) k41) k48) k61) k68) k75), RT.okv h75 (okm (okm (okm (okm (okm (okm hp2 k12) k41) k48) k61) k68) k75), RT.okn h75 o82, RT.okv h75 o82]) rfl) (T_c_Store_removeOtherVary o82 (okm (okm (okm (okm (okm o12 k41) k48) k61) k68) k75) h75 e90) f75 rfl (fun w92 h92 f92 k92 => ?_) (by decide) (by decide)
  refine m_Rb.n0 b_145 (x_aload_n d_145_93 rfl) ?_
  obtain ⟨v93, e94, j95⟩ := bS j91
  refine m_Rb.tgetR b_145 d_145_94 rfl h92 e94 (fun o96 => ?_)
  refine m_Rb.n0 b_145 (x_aload d_145_97 rfl) ?_
  obtain ⟨v97, e98, j99⟩ := bS j95
  refine m_Rb.tgetI b_145 d_145_99 rfl h92 e98 ?_
  refine m_Rb.n0 b_145 (x_aload d_145_102 rfl) ?_
  obtain ⟨v100, e101, j102⟩ := bS j99
  refine m_Rb.tgetI b_145 d_145_104 rfl h92 e101 ?_
  refine m_Rb.n0 b_145 (x_aload d_145_107 rfl) ?_
  obtain ⟨v103, e104, j105⟩ := bS j102
  refine m_Rb.tgetI b_145 d_145_109 rfl h92 e104 ?_
  obtain ⟨a106, e107, j108⟩ := bS j105
  subst e107
  obtain ⟨_, e109, j110⟩ := bS j108
  obtain ⟨_, g111⟩ := RT.cls h92 e109
  obtain ⟨v112, e113, j114⟩ := bS j110
  refine m_Rb.callR b_145 (y_cv d_145_112 rfl q_144 (m_isRecv_of rfl g111) (show m_takeI _ _ = some (_, [_, _, _, _], []) from m_takeI_of rfl rfl rfl (Nat.le_of_ble_eq_true rfl)) (by simp only [m_okf, List.all_cons, List.all_nil, Bool.and_true, Bool.and_self, m_okv_i, m_okv_l, m_okv_0, m_okv_n0, m_okv_t, RT.okn h92 (okm (okm (okm (okm (okm (okm o12 k41) k48) k61) k68) k75) k92), RT.okv h92 (okm (okm (okm (okm (okm (okm o12 k41) k48) k61) k68) k75) k92), RT.okn h92 (okm (okm (okm (okm (okm (okm (okm o7 k12) k41) k48) k61) k68) k75) k92), RT.okv h92 (okm (okm (okm (okm (okm (okm (okm o7 k12) k41) k48) k61) k68) k75) k92), RT.okn h92 (okm (okm (okm (okm (okm (okm (okm ha0 k12) k41) k48) k61) k68) k75) k92), RT.okv h92 (okm (okm (okm (okm (okm (okm (okm ha0 k12) k41) k48) k61) k68) k75) k92), RT.okn h92 (okm (okm (okm (okm (okm (okm (okm hp0 k12) k41) k48) k61) k68) k75) k92), RT.okv h92 (okm (okm (okm (okm (okm (okm (okm hp0 k12) k41) k48) k61) k68) k75) k92), RT.okn h92 (okm (okm (okm (okm (okm (okm (okm hp1 k12) k41) k48) k61) k68) k75) k92), RT.okv h92 (okm (okm (okm (okm (okm (okm (okm hp1 k12) k41) k48) k61) k68) k75) k92), RT.okn h92 (okm (okm (okm (okm (okm (okm (okm hp2 k12) k41) k48) k61) k68) k75) k92), RT.okv h92 (okm (okm (okm (okm (okm (okm (okm hp2 k12) k41) k48) k61) k68) k75) k92), RT.okn h92 o96, RT.okv h92 o96]) rfl) (T_c_Store_find o96 h92 e113) f92 rfl (fun w115 o115 h115 f115 k115 => ?_) (by decide) (by decide)
  refine m_Rb.n0 b_145 (x_astorer (x := v112) d_145_115 rfl (show m_put1 _ _ _ = [(6, _), (5, _), (4, _), (0, _), (1, _), (2, _), (3, _)] from rfl)) ?_
  refine m_Rb.n0 b_145 (x_aloadr (x := v112) d_145_117 rfl) ?_
  cases v112 with
  | none =>
    have j117 := nN j114
    refine m_Rb.n0 b_145 (x_ifnull0 d_145_119 rfl) ?_
    exact m_Rb.pick [3, 4, 1, 0] rfl (T_c_EdgeHouse_takeIn_153 (okm (okm (okm (okm (okm (okm (okm ha0 k12) k41) k48) k61) k68) k75) k92) (okm (okm (okm (okm (okm (okm (okm hp0 k12) k41) k48) k61) k68) k75) k92) (okm (okm (okm (okm (okm (okm o12 k41) k48) k61) k68) k75) k92) okr_none h115 f115 j117)
  | some a116 =>
    have j117 := nS j114
    refine m_Rb.n0 b_145 (x_ifnull1 d_145_119 rfl) ?_
    refine m_Rb.n0 b_145 (x_aload d_145_122 rfl) ?_
    obtain ⟨v118, e119, j120⟩ := bS j117
    refine m_Rb.tgetR b_145 d_145_124 rfl h115 e119 (fun o121 => ?_)
    obtain ⟨a122, e123, j124⟩ := bS j120
    subst e123
    obtain ⟨v125, e126, j127⟩ := bS j124
    refine m_Rb.tgetI b_145 d_145_127 rfl h115 e126 ?_
    refine m_Rb.n0 b_145 (x_aload d_145_130 rfl) ?_
    obtain ⟨v128, e129, j130⟩ := bS j127
    refine m_Rb.tgetI b_145 d_145_132 rfl h115 e129 ?_
    cases hc135 : m_c2 .ne v125 v128 with
    | true =>
      have j136 := cT hc135 j130
      refine m_Rb.n0 b_145 (x_ict d_145_135 rfl hc135) ?_
      exact m_Rb.pick [3, 4, 1, 0] rfl (T_c_EdgeHouse_takeIn_153 (okm (okm (okm (okm (okm (okm (okm ha0 k12) k41) k48) k61) k68) k75) k92) (okm (okm (okm (okm (okm (okm (okm hp0 k12) k41) k48) k61) k68) k75) k92) (okm (okm (okm (okm (okm (okm o12 k41) k48) k61) k68) k75) k92) o115 h115 f115 j136)
    | false =>
      have j136 := cF hc135 j130
      refine m_Rb.n0 b_145 (x_icf d_145_135 rfl hc135) ?_
      refine m_Rb.n0 b_145 (x_aload d_145_138 rfl) ?_
      refine m_Rb.n0 b_145 (x_dup d_145_140 rfl) ?_
      obtain ⟨v137, e138, j139⟩ := bS j136
      refine m_Rb.tgetI b_145 d_145_141 rfl h115 e138 ?_
      refine m_Rb.n0 b_145 (x_aload d_145_144 rfl) ?_
      obtain ⟨v140, e141, j142⟩ := bS j139
      refine m_Rb.tgetI b_145 d_145_146 rfl h115 e141 ?_
      refine m_Rb.n0 b_145 (x_ior d_145_149 rfl) ?_
      obtain ⟨T143, e144, j145⟩ := bS j142
      refine m_Rb.tputI b_145 d_145_150 rfl rfl (by decide) h115 f115 e144 (fun w146 h146 f146 k146 => ?_)
      exact m_Rb.pick [3, 4, 1, 0] rfl (T_c_EdgeHouse_takeIn_153 (okm (okm (okm (okm (okm (okm (okm (okm ha0 k12) k41) k48) k61) k68) k75) k92) k146) (okm (okm (okm (okm (okm (okm (okm (okm hp0 k12) k41) k48) k61) k68) k75) k92) k146) (okm (okm (okm (okm (okm (okm (okm o12 k41) k48) k61) k68) k75) k92) k146) (okm o115 k146) h146 f146 j145)
def D_c_Store_place_28 (F : Nat) (x0 : Nat) (T : tT) : Option (tT) := (tcl T x0 5).bind fun _ => (D_c_Store_balance F x0 T).bind fun T49 => some T49
theorem T_c_Store_place_28 {l : Launch} {w0 : List mM} {F : Nat} {x0 : Nat} {T : tT} {w : List mM} {Tz : tT} (hx0 : okr T.2.1 (some x0)) (h : RT T w) (hF : m_Fm w0 w) (h0 : D_c_Store_place_28 F x0 T = some Tz) : m_Rb l M_147 (28, [(0, .ref x0)], [], w) (fun v w' => v = none ∧ RT Tz w' ∧ m_Fm w0 w') T Tz 14 1400 := by
  rw [D_c_Store_place_28] at h0
  refine m_Rb.n0 b_147 (x_aload_n d_147_28 rfl) ?_
  obtain ⟨_, e46, j47⟩ := bS h0
  obtain ⟨_, g48⟩ := RT.cls h e46
  obtain ⟨T49, e50, j51⟩ := bS j47
  refine m_Rb.callV b_147 (y_cv d_147_29 rfl q_97 (m_isRecv_of rfl g48) (show m_takeI _ _ = some (_, [_], []) from m_takeI_of rfl rfl rfl (Nat.le_of_ble_eq_true rfl)) (by simp only [m_okf, List.all_cons, List.all_nil, Bool.and_true, Bool.and_self, m_okv_i, m_okv_l, m_okv_0, m_okv_n0, m_okv_t, RT.okn h hx0, RT.okv h hx0]) rfl) (T_c_Store_balance hx0 h e50) hF rfl (fun w52 h52 f52 k52 => ?_) (by decide) (by decide)
  cases j51
  exact m_Rb.ret b_147 (m_rt_vr d_147_32 rfl) ⟨rfl, h52, f52⟩
def D_c_Store_place (F : Nat) (a0 : Nat) (p0 : Option Nat) (T : tT) : Option (tT) := (p0).bind fun a1 => (tgi T a1 11 8).bind fun v4 => cond (m_c1 .eq v4) ((tgr T a0 5 0).bind fun v24 => (v24).bind fun a28 => (tla T a28 a1).bind fun T31 => D_c_Store_place_28 F a0 T31) ((tgr T a0 5 1).bind fun v35 => (v35).bind fun a39 => (tla T a39 a1).bind fun T42 => D_c_Store_place_28 F a0 T42)
theorem T_c_Store_place {l : Launch} {w : List mM} {F : Nat} {a0 : Nat} {p0 : Option Nat} {T : tT} {Tz : tT} (ha0 : okr T.2.1 (some a0)) (hp0 : okr T.2.1 p0) (h : RT T w) (h0 : D_c_Store_place F a0 p0 T = some Tz) : m_Rb l M_147 (m_ent M_147 [.ref a0, rv p0] w) (fun v w' => v = none ∧ RT Tz w' ∧ m_Fm w w') T Tz 14 1400 := by
  rw [show m_ent M_147 [.ref a0, rv p0] w = (0, [(0, .ref a0), (1, rv p0)], [], w) from by first | rfl | (simp only [m_ent, lv_args_r, lv_args_a, lv_args_i, lv_args_l, lv_args_0]; done) | (simp only [m_ent, lv_args_r, lv_args_a, lv_args_i, lv_args_l, lv_args_0]; rfl)]
  generalize hw0 : w = w0 at h ⊢
  have hF : m_Fm w0 w0 := m_Fm.refl
  rw [D_c_Store_place] at h0
  refine m_Rb.n0 b_147 (x_aloadr_n (x := p0) d_147_0 rfl) ?_
  obtain ⟨a1, e2, j3⟩ := bS h0
  subst e2
  obtain ⟨v4, e5, j6⟩ := bS j3
  refine m_Rb.tgetI b_147 d_147_1 rfl h e5 ?_
  cases hc22 : m_c1 .eq v4 with
  | true =>
    have j23 := cT hc22 j6
    refine m_Rb.n0 b_147 (x_ift d_147_4 rfl hc22) ?_
    refine m_Rb.n0 b_147 (x_aload_n d_147_19 rfl) ?_
    obtain ⟨v24, e25, j26⟩ := bS j23
    refine m_Rb.tgetR b_147 d_147_20 rfl h e25 (fun o27 => ?_)
    refine m_Rb.n0 b_147 (x_aload_n d_147_23 rfl) ?_
    obtain ⟨a28, e29, j30⟩ := bS j26
    subst e29
    obtain ⟨T31, e32, j33⟩ := bS j30
    refine m_Rb.tladd b_147 d_147_24 rfl (by simp only [m_okf, List.all_cons, List.all_nil, Bool.and_true, Bool.and_self, m_okv_i, m_okv_l, m_okv_0, m_okv_n0, m_okv_t, RT.okn h ha0, RT.okv h ha0, RT.okn h hp0, RT.okv h hp0, RT.okn h o27, RT.okv h o27]) (Nat.le_of_ble_eq_true rfl) h hF e32 (fun w34 h34 f34 k34 => ?_) (by decide) (by decide)
    refine m_Rb.n0 b_147 (x_pop d_147_27 rfl) ?_
    exact m_Rb.pick [0] rfl (T_c_Store_place_28 (okm ha0 k34) h34 f34 j33)
  | false =>
    have j23 := cF hc22 j6
    refine m_Rb.n0 b_147 (x_iff d_147_4 rfl hc22) ?_
    refine m_Rb.n0 b_147 (x_aload_n d_147_7 rfl) ?_
    obtain ⟨v35, e36, j37⟩ := bS j23
    refine m_Rb.tgetR b_147 d_147_8 rfl h e36 (fun o38 => ?_)
    refine m_Rb.n0 b_147 (x_aload_n d_147_11 rfl) ?_
    obtain ⟨a39, e40, j41⟩ := bS j37
    subst e40
    obtain ⟨T42, e43, j44⟩ := bS j41
    refine m_Rb.tladd b_147 d_147_12 rfl (by simp only [m_okf, List.all_cons, List.all_nil, Bool.and_true, Bool.and_self, m_okv_i, m_okv_l, m_okv_0, m_okv_n0, m_okv_t, RT.okn h ha0, RT.okv h ha0, RT.okn h hp0, RT.okv h hp0, RT.okn h o38, RT.okv h o38]) (Nat.le_of_ble_eq_true rfl) h hF e43 (fun w45 h45 f45 k45 => ?_) (by decide) (by decide)
    refine m_Rb.n0 b_147 (x_pop d_147_15 rfl) ?_
    refine m_Rb.n0 b_147 (x_goto d_147_16 rfl) ?_
    exact m_Rb.pick [0] rfl (T_c_Store_place_28 (okm ha0 k45) h45 f45 j44)
def D_c_EdgeHouse_takeFill_61 (F : Nat) (x0 : Nat) (x1 : Option Nat) (x3 : Option Nat) (T : tT) : Option (Option Nat × tT) := (x1).bind fun a161 => (tgr T a161 4 1).bind fun v164 => (x3).bind fun a168 => (tgi T a168 10 0).bind fun v171 => (tgi T a168 10 1).bind fun v174 => (v164).bind fun a177 => (tcl T a177 5).bind fun _ => (D_c_Store_removeKey F a177 v171 v174 T).bind fun T183 => (tgr T183 a168 10 12).bind fun v187 => (tcl T183 x0 0).bind fun _ => (D_c_EdgeHouse_endAll F x0 (some a161) v187 (404 : Int32) T183).bind fun T194 => some (none, T194)
theorem T_c_EdgeHouse_takeFill_61 {l : Launch} {w0 : List mM} {F : Nat} {x0 : Nat} {x1 : Option Nat} {x3 : Option Nat} {T : tT} {w : List mM} {yz : Option Nat} {Tz : tT} (hx0 : okr T.2.1 (some x0)) (hx1 : okr T.2.1 x1) (hx3 : okr T.2.1 x3) (h : RT T w) (hF : m_Fm w0 w) (h0 : D_c_EdgeHouse_takeFill_61 F x0 x1 x3 T = some (yz, Tz)) : m_Rb l M_137 (61, [(0, .ref x0), (1, rv x1), (3, rv x3)], [], w) (fun v w' => v = some (rv yz) ∧ okr Tz.2.1 yz ∧ RT Tz w' ∧ m_Fm w0 w') T Tz 17 1700 := by
  rw [D_c_EdgeHouse_takeFill_61] at h0
  refine m_Rb.n0 b_137 (x_aloadr_n (x := x1) d_137_61 rfl) ?_
  obtain ⟨a161, e162, j163⟩ := bS h0
  subst e162
  obtain ⟨v164, e165, j166⟩ := bS j163
  refine m_Rb.tgetR b_137 d_137_62 rfl h e165 (fun o167 => ?_)
  refine m_Rb.n0 b_137 (x_aloadr_n (x := x3) d_137_65 rfl) ?_
  obtain ⟨a168, e169, j170⟩ := bS j166
  subst e169
  obtain ⟨v171, e172, j173⟩ := bS j170
  refine m_Rb.tgetI b_137 d_137_66 rfl h e172 ?_
  refine m_Rb.n0 b_137 (x_aload_n d_137_69 rfl) ?_
  obtain ⟨v174, e175, j176⟩ := bS j173
  refine m_Rb.tgetI b_137 d_137_70 rfl h e175 ?_
  obtain ⟨a177, e178, j179⟩ := bS j176
  subst e178
  obtain ⟨_, e180, j181⟩ := bS j179
  obtain ⟨_, g182⟩ := RT.cls h e180
  obtain ⟨T183, e184, j185⟩ := bS j181
  refine m_Rb.callV b_137 (y_cv d_137_73 rfl q_140 (m_isRecv_of rfl g182) (show m_takeI _ _ = some (_, [_, _, _], []) from m_takeI_of rfl rfl rfl (Nat.le_of_ble_eq_true rfl)) (by simp only [m_okf, List.all_cons, List.all_nil, Bool.and_true, Bool.and_self, m_okv_i, m_okv_l, m_okv_0, m_okv_n0, m_okv_t, RT.okn h hx0, RT.okv h hx0, RT.okn h hx1, RT.okv h hx1, RT.okn h hx3, RT.okv h hx3, RT.okn h o167, RT.okv h o167]) rfl) (T_c_Store_removeKey o167 h e184) hF rfl (fun w186 h186 f186 k186 => ?_) (by decide) (by decide)
  refine m_Rb.n0 b_137 (x_aload_n d_137_76 rfl) ?_
  refine m_Rb.n0 b_137 (x_aload_n d_137_77 rfl) ?_
  refine m_Rb.n0 b_137 (x_aload_n d_137_78 rfl) ?_
  obtain ⟨v187, e188, j189⟩ := bS j185
  refine m_Rb.tgetR b_137 d_137_79 rfl h186 e188 (fun o190 => ?_)
  refine m_Rb.n0 b_137 (x_sipush (z := 404) d_137_82 (by decide)) ?_
  obtain ⟨_, e191, j192⟩ := bS j189
  obtain ⟨_, g193⟩ := RT.cls h186 e191
  obtain ⟨T194, e195, j196⟩ := bS j192
  refine m_Rb.callV b_137 (y_cv d_137_85 rfl q_116 (m_isRecv_of rfl g193) (show m_takeI _ _ = some (_, [_, _, _, _], []) from m_takeI_of rfl rfl rfl (Nat.le_of_ble_eq_true rfl)) (by simp only [m_okf, List.all_cons, List.all_nil, Bool.and_true, Bool.and_self, m_okv_i, m_okv_l, m_okv_0, m_okv_n0, m_okv_t, RT.okn h186 (okm hx0 k186), RT.okv h186 (okm hx0 k186), RT.okn h186 (okm hx1 k186), RT.okv h186 (okm hx1 k186), RT.okn h186 (okm hx3 k186), RT.okv h186 (okm hx3 k186), RT.okv h186 o190]) (decide_eq_true (by simp only [lgs_r, lgs_a, lgs_i, lgs_l, lgs_0]; exact Nat.le_of_ble_eq_true rfl))) (T_c_EdgeHouse_endAll (okm hx0 k186) (okm hx1 k186) o190 h186 e195) f186 rfl (fun w197 h197 f197 k197 => ?_) (by decide) (by decide)
  refine m_Rb.n0 b_137 (x_null d_137_88) ?_
  have o9 : okr T194.2.1 none := okr_none
  cases j196
  exact m_Rb.ret b_137 (m_rt_rr (x := none) d_137_89 rfl) ⟨rfl, o9, h197, f197⟩
def D_c_EdgeHouse_takeFill_118 (F : Nat) (x0 : Nat) (T : tT) : Option (Option Nat × tT) := some (none, T)
theorem T_c_EdgeHouse_takeFill_118 {l : Launch} {w0 : List mM} {F : Nat} {x0 : Nat} {T : tT} {w : List mM} {yz : Option Nat} {Tz : tT} (hx0 : okr T.2.1 (some x0)) (h : RT T w) (hF : m_Fm w0 w) (h0 : D_c_EdgeHouse_takeFill_118 F x0 T = some (yz, Tz)) : m_Rb l M_137 (118, [(0, .ref x0)], [], w) (fun v w' => v = some (rv yz) ∧ okr Tz.2.1 yz ∧ RT Tz w' ∧ m_Fm w0 w') T Tz 17 1700 := by
  rw [D_c_EdgeHouse_takeFill_118] at h0
  refine m_Rb.n0 b_137 (x_null d_137_118) ?_
  have o9 : okr T.2.1 none := okr_none
  cases h0
  exact m_Rb.ret b_137 (m_rt_rr (x := none) d_137_119 rfl) ⟨rfl, o9, h, hF⟩
def D_c_EdgeHouse_takeFill_169 (F : Nat) (x0 : Nat) (x5 : Option Nat) (T : tT) : Option (Option Nat × tT) := some (x5, T)
theorem T_c_EdgeHouse_takeFill_169 {l : Launch} {w0 : List mM} {F : Nat} {x0 : Nat} {x5 : Option Nat} {T : tT} {w : List mM} {yz : Option Nat} {Tz : tT} (hx0 : okr T.2.1 (some x0)) (hx5 : okr T.2.1 x5) (h : RT T w) (hF : m_Fm w0 w) (h0 : D_c_EdgeHouse_takeFill_169 F x0 x5 T = some (yz, Tz)) : m_Rb l M_137 (169, [(0, .ref x0), (5, rv x5)], [], w) (fun v w' => v = some (rv yz) ∧ okr Tz.2.1 yz ∧ RT Tz w' ∧ m_Fm w0 w') T Tz 17 1700 := by
  rw [D_c_EdgeHouse_takeFill_169] at h0
  refine m_Rb.n0 b_137 (x_aloadr (x := x5) d_137_169 rfl) ?_
  have o9 : okr T.2.1 x5 := hx5
  cases h0
  exact m_Rb.ret b_137 (m_rt_rr d_137_171 rfl) ⟨rfl, o9, h, hF⟩
def D_c_EdgeHouse_takeFill_148 (F : Nat) (x0 : Nat) (x1 : Option Nat) (x3 : Option Nat) (x4 : Option Nat) (T : tT) : Option (Option Nat × tT) := (x3).bind fun a129 => (tgr T a129 10 12).bind fun v132 => nc v132 (D_c_EdgeHouse_takeFill_169 F x0 none T) fun a136 => ((x4).bind fun a138 => (tcl T a138 11).bind fun _ => (D_c_Entry_isEnoughFor F a138 (some a136) T).bind fun v144 => cond (m_c1 .ne v144) ((tcl T x0 0).bind fun _ => (D_c_EdgeHouse_serve F x0 x1 (some a136) (some a138) (0 : Int32) T).bind fun T153 => (tgr T153 a136 6 18).bind fun v157 => some (v157, T153)) (D_c_EdgeHouse_takeFill_169 F x0 (some a136) T))
theorem T_c_EdgeHouse_takeFill_148 {l : Launch} {w0 : List mM} {F : Nat} {x0 : Nat} {x1 : Option Nat} {x3 : Option Nat} {x4 : Option Nat} {T : tT} {w : List mM} {yz : Option Nat} {Tz : tT} (hx0 : okr T.2.1 (some x0)) (hx1 : okr T.2.1 x1) (hx3 : okr T.2.1 x3) (hx4 : okr T.2.1 x4) (h : RT T w) (hF : m_Fm w0 w) (h0 : D_c_EdgeHouse_takeFill_148 F x0 x1 x3 x4 T = some (yz, Tz)) : m_Rb l M_137 (148, [(0, .ref x0), (1, rv x1), (3, rv x3), (4, rv x4)], [], w) (fun v w' => v = some (rv yz) ∧ okr Tz.2.1 yz ∧ RT Tz w' ∧ m_Fm w0 w') T Tz 17 1700 := by
  rw [D_c_EdgeHouse_takeFill_148] at h0
  refine m_Rb.n0 b_137 (x_aloadr_n (x := x3) d_137_148 rfl) ?_
  obtain ⟨a129, e130, j131⟩ := bS h0
  subst e130
  obtain ⟨v132, e133, j134⟩ := bS j131
  refine m_Rb.tgetR b_137 d_137_149 rfl h e133 (fun o135 => ?_)
  refine m_Rb.n0 b_137 (x_astorer (x := v132) d_137_152 rfl (show m_put1 _ _ _ = [(5, _), (0, _), (1, _), (3, _), (4, _)] from (m_p1r (by simp only [List.all_cons, List.all_nil, cat_rv]; rfl)).trans rfl)) ?_
  refine m_Rb.n0 b_137 (x_aloadr (x := v132) d_137_154 rfl) ?_
  cases v132 with
  | none =>
    have j137 := nN j134
    refine m_Rb.n0 b_137 (x_ifnull0 d_137_156 rfl) ?_
    exact m_Rb.pick [1, 0] rfl (T_c_EdgeHouse_takeFill_169 hx0 okr_none h hF j137)
  | some a136 =>
    have j137 := nS j134
    refine m_Rb.n0 b_137 (x_ifnull1 d_137_156 rfl) ?_
    refine m_Rb.n0 b_137 (x_aloadr (x := x4) d_137_159 rfl) ?_
    refine m_Rb.n0 b_137 (x_aload d_137_161 rfl) ?_
    obtain ⟨a138, e139, j140⟩ := bS j137
    subst e139
    obtain ⟨_, e141, j142⟩ := bS j140
    obtain ⟨_, g143⟩ := RT.cls h e141
    obtain ⟨v144, e145, j146⟩ := bS j142
    refine m_Rb.callI b_137 (y_cv d_137_163 rfl q_123 (m_isRecv_of rfl g143) (show m_takeI _ _ = some (_, [_, _], []) from m_takeI_of rfl rfl rfl (Nat.le_of_ble_eq_true rfl)) (by simp only [m_okf, List.all_cons, List.all_nil, Bool.and_true, Bool.and_self, m_okv_i, m_okv_l, m_okv_0, m_okv_n0, m_okv_t, RT.okn h o135, RT.okv h o135, RT.okn h hx0, RT.okv h hx0, RT.okv h hx1, RT.okn h hx3, RT.okv h hx3, RT.okn h hx4, RT.okv h hx4]) rfl) (T_c_Entry_isEnoughFor hx4 o135 h e145) hF rfl (fun w147 h147 f147 k147 => ?_) (by decide) (by decide)
    cases hc148 : m_c1 .ne v144 with
    | true =>
      have j149 := cT hc148 j146
      refine m_Rb.n0 b_137 (x_ift d_137_166 rfl hc148) ?_
      refine m_Rb.n0 b_137 (x_aload_n d_137_172 rfl) ?_
      refine m_Rb.n0 b_137 (x_aloadr_n (x := x1) d_137_173 rfl) ?_
      refine m_Rb.n0 b_137 (x_aload d_137_174 rfl) ?_
      refine m_Rb.n0 b_137 (x_aload d_137_176 rfl) ?_
      refine m_Rb.n0 b_137 (x_iconst (z := 0) d_137_178 (by decide)) ?_
      obtain ⟨_, e150, j151⟩ := bS j149
      obtain ⟨_, g152⟩ := RT.cls h147 e150
      obtain ⟨T153, e154, j155⟩ := bS j151
      refine m_Rb.callV b_137 (y_cv d_137_179 rfl q_102 (m_isRecv_of rfl g152) (show m_takeI _ _ = some (_, [_, _, _, _, _], []) from m_takeI_of rfl rfl rfl (Nat.le_of_ble_eq_true rfl)) (by simp only [m_okf, List.all_cons, List.all_nil, Bool.and_true, Bool.and_self, m_okv_i, m_okv_l, m_okv_0, m_okv_n0, m_okv_t, RT.okn h147 o135, RT.okv h147 o135, RT.okn h147 hx0, RT.okv h147 hx0, RT.okv h147 hx1, RT.okn h147 hx3, RT.okv h147 hx3, RT.okn h147 hx4, RT.okv h147 hx4]) (decide_eq_true (by simp only [lgs_r, lgs_a, lgs_i, lgs_l, lgs_0]; exact Nat.le_of_ble_eq_true rfl))) (T_c_EdgeHouse_serve hx0 hx1 o135 hx4 h147 e154) f147 rfl (fun w156 h156 f156 k156 => ?_) (by decide) (by decide)
      refine m_Rb.n0 b_137 (x_aload d_137_182 rfl) ?_
      obtain ⟨v157, e158, j159⟩ := bS j155
      refine m_Rb.tgetR b_137 d_137_184 rfl h156 e158 (fun o160 => ?_)
      have o9 : okr T153.2.1 v157 := o160
      cases j159
      exact m_Rb.ret b_137 (m_rt_rr d_137_187 rfl) ⟨rfl, o9, h156, f156⟩
    | false =>
      have j149 := cF hc148 j146
      refine m_Rb.n0 b_137 (x_iff d_137_166 rfl hc148) ?_
      exact m_Rb.pick [1, 0] rfl (T_c_EdgeHouse_takeFill_169 hx0 o135 h147 f147 j149)
def D_c_EdgeHouse_takeFill (F : Nat) (a0 : Nat) (p0 : Option Nat) (p1 : Option Nat) (T : tT) : Option (Option Nat × tT) := (p1).bind fun a1 => (tgi T a1 9 3).bind fun v4 => (p0).bind fun a7 => (tcl T a7 4).bind fun _ => bd2 (D_c_Node_takeFetch F a7 v4 T) fun v13 T14 => nc v13 (some (none, T14)) fun a18 => ((tgi T14 a1 9 12).bind fun v20 => cond (m_c2 .ne v20 (504 : Int32)) ((tgi T14 a1 9 1).bind fun v25 => (tcl T14 a7 4).bind fun _ => (D_c_Node_trust F a7 v25 T14).bind fun T31 => (tgi T31 a1 9 12).bind fun v35 => cond (m_c2 .eq v35 (404 : Int32)) (D_c_EdgeHouse_takeFill_61 F a0 (some a7) (some a18) T31) ((tgr T31 a1 9 15).bind fun v40 => nc v40 (D_c_EdgeHouse_takeFill_61 F a0 (some a7) (some a18) T31) fun a44 => ((tcl T31 a0 0).bind fun _ => (D_c_EdgeHouse_isRefused F a0 (some a7) (some a18) (some a1) T31).bind fun v49 => cond (m_c1 .eq v49) ((tcl T31 a0 0).bind fun _ => bd2 (D_c_EdgeHouse_takeIn F a0 (some a7) (some a18) (some a1) T31) fun v58 T59 => (tgr T59 a1 9 15).bind fun v63 => (v63).bind fun a67 => (tgi T59 a67 13 6).bind fun v70 => cond (m_c1 .ne v70) (D_c_EdgeHouse_takeFill_148 F a0 (some a7) (some a18) v58 T59) ((tgr T59 a7 4 1).bind fun v79 => (v79).bind fun a83 => (tcl T59 a83 5).bind fun _ => (D_c_Store_place F a83 v58 T59).bind fun T89 => D_c_EdgeHouse_takeFill_148 F a0 (some a7) (some a18) v58 T89)) ((tcl T31 a0 0).bind fun _ => bd2 (D_c_EdgeHouse_sendFetch F a0 (some a7) (some a18) T31) fun v96 T97 => cond (m_c1 .ne v96) (D_c_EdgeHouse_takeFill_118 F a0 T97) ((tgr T97 a18 10 12).bind fun v107 => (tcl T97 a0 0).bind fun _ => (D_c_EdgeHouse_failAll F a0 (some a7) v107 T97).bind fun T114 => D_c_EdgeHouse_takeFill_118 F a0 T114))))) ((tgr T14 a18 10 12).bind fun v118 => (tcl T14 a0 0).bind fun _ => (D_c_EdgeHouse_failAll F a0 (some a7) v118 T14).bind fun T125 => some (none, T125)))
theorem T_c_EdgeHouse_takeFill {l : Launch} {w : List mM} {F : Nat} {a0 : Nat} {p0 : Option Nat} {p1 : Option Nat} {T : tT} {yz : Option Nat} {Tz : tT} (ha0 : okr T.2.1 (some a0)) (hp0 : okr T.2.1 p0) (hp1 : okr T.2.1 p1) (h : RT T w) (h0 : D_c_EdgeHouse_takeFill F a0 p0 p1 T = some (yz, Tz)) : m_Rb l M_137 (m_ent M_137 [.ref a0, rv p0, rv p1] w) (fun v w' => v = some (rv yz) ∧ okr Tz.2.1 yz ∧ RT Tz w' ∧ m_Fm w w') T Tz 17 1700 := by
  rw [show m_ent M_137 [.ref a0, rv p0, rv p1] w = (0, [(0, .ref a0), (1, rv p0), (2, rv p1)], [], w) from by first | rfl | (simp only [m_ent, lv_args_r, lv_args_a, lv_args_i, lv_args_l, lv_args_0]; done) | (simp only [m_ent, lv_args_r, lv_args_a, lv_args_i, lv_args_l, lv_args_0]; rfl)]
  generalize hw0 : w = w0 at h ⊢
  have hF : m_Fm w0 w0 := m_Fm.refl
  rw [D_c_EdgeHouse_takeFill] at h0
  refine m_Rb.n0 b_137 (x_aloadr_n (x := p0) d_137_0 rfl) ?_
  refine m_Rb.n0 b_137 (x_aloadr_n (x := p1) d_137_1 rfl) ?_
  obtain ⟨a1, e2, j3⟩ := bS h0
  subst e2
  obtain ⟨v4, e5, j6⟩ := bS j3
  refine m_Rb.tgetI b_137 d_137_2 rfl h e5 ?_
  obtain ⟨a7, e8, j9⟩ := bS j6
  subst e8
  obtain ⟨_, e10, j11⟩ := bS j9
  obtain ⟨_, g12⟩ := RT.cls h e10
  obtain ⟨v13, T14, e15, j16⟩ := bS2 j11
  refine m_Rb.callR b_137 (y_cv d_137_5 rfl q_138 (m_isRecv_of rfl g12) (show m_takeI _ _ = some (_, [_, _], []) from m_takeI_of rfl rfl rfl (Nat.le_of_ble_eq_true rfl)) (by simp only [m_okf, List.all_cons, List.all_nil, Bool.and_true, Bool.and_self, m_okv_i, m_okv_l, m_okv_0, m_okv_n0, m_okv_t, RT.okn h ha0, RT.okv h ha0, RT.okn h hp0, RT.okv h hp0, RT.okn h hp1, RT.okv h hp1]) rfl) (T_c_Node_takeFetch hp0 h e15) hF rfl (fun w17 o17 h17 f17 k17 => ?_) (by decide) (by decide)
  refine m_Rb.n0 b_137 (x_astorer_n (x := v13) d_137_8 rfl (show m_put1 _ _ _ = [(3, _), (0, _), (1, _), (2, _)] from rfl)) ?_
  refine m_Rb.n0 b_137 (x_aloadr_n (x := v13) d_137_9 rfl) ?_
  cases v13 with
  | none =>
    have j19 := nN j16
    refine m_Rb.n0 b_137 (x_ifnonnull0 d_137_10 rfl) ?_
    refine m_Rb.n0 b_137 (x_null d_137_13) ?_
    have o9 : okr T14.2.1 none := okr_none
    cases j19
    exact m_Rb.ret b_137 (m_rt_rr (x := none) d_137_14 rfl) ⟨rfl, o9, h17, f17⟩
  | some a18 =>
    have j19 := nS j16
    refine m_Rb.n0 b_137 (x_ifnonnull1 d_137_10 rfl) ?_
    refine m_Rb.n0 b_137 (x_aload_n d_137_15 rfl) ?_
    obtain ⟨v20, e21, j22⟩ := bS j19
    refine m_Rb.tgetI b_137 d_137_16 rfl h17 e21 ?_
    refine m_Rb.n0 b_137 (x_sipush (z := 504) d_137_19 (by decide)) ?_
    cases hc23 : m_c2 .ne v20 (504 : Int32) with
    | true =>
      have j24 := cT hc23 j22
      refine m_Rb.n0 b_137 (x_ict d_137_22 rfl hc23) ?_
      refine m_Rb.n0 b_137 (x_aload_n d_137_36 rfl) ?_
      refine m_Rb.n0 b_137 (x_aload_n d_137_37 rfl) ?_
      obtain ⟨v25, e26, j27⟩ := bS j24
      refine m_Rb.tgetI b_137 d_137_38 rfl h17 e26 ?_
      obtain ⟨_, e28, j29⟩ := bS j27
      obtain ⟨_, g30⟩ := RT.cls h17 e28
      obtain ⟨T31, e32, j33⟩ := bS j29
      refine m_Rb.callV b_137 (y_cv d_137_41 rfl q_139 (m_isRecv_of rfl g30) (show m_takeI _ _ = some (_, [_, _], []) from m_takeI_of rfl rfl rfl (Nat.le_of_ble_eq_true rfl)) (by simp only [m_okf, List.all_cons, List.all_nil, Bool.and_true, Bool.and_self, m_okv_i, m_okv_l, m_okv_0, m_okv_n0, m_okv_t, RT.okn h17 o17, RT.okv h17 o17, RT.okn h17 (okm ha0 k17), RT.okv h17 (okm ha0 k17), RT.okn h17 (okm hp0 k17), RT.okv h17 (okm hp0 k17), RT.okn h17 (okm hp1 k17), RT.okv h17 (okm hp1 k17)]) rfl) (T_c_Node_trust (okm hp0 k17) h17 e32) f17 rfl (fun w34 h34 f34 k34 => ?_) (by decide) (by decide)
      refine m_Rb.n0 b_137 (x_aload_n d_137_44 rfl) ?_
      obtain ⟨v35, e36, j37⟩ := bS j33
      refine m_Rb.tgetI b_137 d_137_45 rfl h34 e36 ?_
      refine m_Rb.n0 b_137 (x_sipush (z := 404) d_137_48 (by decide)) ?_
      cases hc38 : m_c2 .eq v35 (404 : Int32) with
      | true =>
        have j39 := cT hc38 j37
        refine m_Rb.n0 b_137 (x_ict d_137_51 rfl hc38) ?_
        exact m_Rb.pick [1, 2, 0] rfl (T_c_EdgeHouse_takeFill_61 (okm (okm ha0 k17) k34) (okm (okm hp0 k17) k34) (okm o17 k34) h34 f34 j39)
      | false =>
        have j39 := cF hc38 j37
        refine m_Rb.n0 b_137 (x_icf d_137_51 rfl hc38) ?_
        refine m_Rb.n0 b_137 (x_aload_n d_137_54 rfl) ?_
        obtain ⟨v40, e41, j42⟩ := bS j39
        refine m_Rb.tgetR b_137 d_137_55 rfl h34 e41 (fun o43 => ?_)
        cases v40 with
        | none =>
          have j45 := nN j42
          refine m_Rb.n0 b_137 (x_ifnonnull0 d_137_58 rfl) ?_
          exact m_Rb.pick [1, 2, 0] rfl (T_c_EdgeHouse_takeFill_61 (okm (okm ha0 k17) k34) (okm (okm hp0 k17) k34) (okm o17 k34) h34 f34 j45)
        | some a44 =>
          have j45 := nS j42
          refine m_Rb.n0 b_137 (x_ifnonnull1 d_137_58 rfl) ?_
          refine m_Rb.n0 b_137 (x_aload_n d_137_90 rfl) ?_
          refine m_Rb.n0 b_137 (x_aload_n d_137_91 rfl) ?_
          refine m_Rb.n0 b_137 (x_aload_n d_137_92 rfl) ?_
          refine m_Rb.n0 b_137 (x_aload_n d_137_93 rfl) ?_
          obtain ⟨_, e46, j47⟩ := bS j45
          obtain ⟨_, g48⟩ := RT.cls h34 e46
          obtain ⟨v49, e50, j51⟩ := bS j47
          refine m_Rb.callI b_137 (y_cv d_137_94 rfl q_141 (m_isRecv_of rfl g48) (show m_takeI _ _ = some (_, [_, _, _, _], []) from m_takeI_of rfl rfl rfl (Nat.le_of_ble_eq_true rfl)) (by simp only [m_okf, List.all_cons, List.all_nil, Bool.and_true, Bool.and_self, m_okv_i, m_okv_l, m_okv_0, m_okv_n0, m_okv_t, RT.okn h34 (okm o17 k34), RT.okv h34 (okm o17 k34), RT.okn h34 (okm (okm ha0 k17) k34), RT.okv h34 (okm (okm ha0 k17) k34), RT.okn h34 (okm (okm hp0 k17) k34), RT.okv h34 (okm (okm hp0 k17) k34), RT.okn h34 (okm (okm hp1 k17) k34), RT.okv h34 (okm (okm hp1 k17) k34)]) rfl) (T_c_EdgeHouse_isRefused (okm (okm ha0 k17) k34) (okm (okm hp0 k17) k34) (okm o17 k34) (okm (okm hp1 k17) k34) h34 e50) f34 rfl (fun w52 h52 f52 k52 => ?_) (by decide) (by decide)
          cases hc53 : m_c1 .eq v49 with
          | true =>
            have j54 := cT hc53 j51
            refine m_Rb.n0 b_137 (x_ift d_137_97 rfl hc53) ?_
            refine m_Rb.n0 b_137 (x_aload_n d_137_120 rfl) ?_
            refine m_Rb.n0 b_137 (x_aload_n d_137_121 rfl) ?_
            refine m_Rb.n0 b_137 (x_aload_n d_137_122 rfl) ?_
            refine m_Rb.n0 b_137 (x_aload_n d_137_123 rfl) ?_
            obtain ⟨_, e55, j56⟩ := bS j54
            obtain ⟨_, g57⟩ := RT.cls h52 e55
            obtain ⟨v58, T59, e60, j61⟩ := bS2 j56
            refine m_Rb.callR b_137 (y_cv d_137_124 rfl q_145 (m_isRecv_of rfl g57) (show m_takeI _ _ = some (_, [_, _, _, _], []) from m_takeI_of rfl rfl rfl (Nat.le_of_ble_eq_true rfl)) (by simp only [m_okf, List.all_cons, List.all_nil, Bool.and_true, Bool.and_self, m_okv_i, m_okv_l, m_okv_0, m_okv_n0, m_okv_t, RT.okn h52 (okm o17 k34), RT.okv h52 (okm o17 k34), RT.okn h52 (okm (okm ha0 k17) k34), RT.okv h52 (okm (okm ha0 k17) k34), RT.okn h52 (okm (okm hp0 k17) k34), RT.okv h52 (okm (okm hp0 k17) k34), RT.okn h52 (okm (okm hp1 k17) k34), RT.okv h52 (okm (okm hp1 k17) k34)]) rfl) (T_c_EdgeHouse_takeIn (okm (okm ha0 k17) k34) (okm (okm hp0 k17) k34) (okm o17 k34) (okm (okm hp1 k17) k34) h52 e60) f52 rfl (fun w62 o62 h62 f62 k62 => ?_) (by decide) (by decide)
            refine m_Rb.n0 b_137 (x_astorer (x := v58) d_137_127 rfl (show m_put1 _ _ _ = [(4, _), (3, _), (0, _), (1, _), (2, _)] from rfl)) ?_
            refine m_Rb.n0 b_137 (x_aload_n d_137_129 rfl) ?_
            obtain ⟨v63, e64, j65⟩ := bS j61
            refine m_Rb.tgetR b_137 d_137_130 rfl h62 e64 (fun o66 => ?_)
            obtain ⟨a67, e68, j69⟩ := bS j65
            subst e68
            obtain ⟨v70, e71, j72⟩ := bS j69
            refine m_Rb.tgetI b_137 d_137_133 rfl h62 e71 ?_
            cases hc77 : m_c1 .ne v70 with
            | true =>
              have j78 := cT hc77 j72
              refine m_Rb.n0 b_137 (x_ift d_137_136 rfl hc77) ?_
              exact m_Rb.pick [2, 3, 1, 0] rfl (T_c_EdgeHouse_takeFill_148 (okm (okm (okm ha0 k17) k34) k62) (okm (okm (okm hp0 k17) k34) k62) (okm (okm o17 k34) k62) o62 h62 f62 j78)
            | false =>
              have j78 := cF hc77 j72
              refine m_Rb.n0 b_137 (x_iff d_137_136 rfl hc77) ?_
              refine m_Rb.n0 b_137 (x_aload_n d_137_139 rfl) ?_
              obtain ⟨v79, e80, j81⟩ := bS j78
              refine m_Rb.tgetR b_137 d_137_140 rfl h62 e80 (fun o82 => ?_)
              refine m_Rb.n0 b_137 (x_aloadr (x := v58) d_137_143 rfl) ?_
              obtain ⟨a83, e84, j85⟩ := bS j81
              subst e84
              obtain ⟨_, e86, j87⟩ := bS j85
              obtain ⟨_, g88⟩ := RT.cls h62 e86
              obtain ⟨T89, e90, j91⟩ := bS j87
              refine m_Rb.callV b_137 (y_cv d_137_145 rfl q_147 (m_isRecv_of rfl g88) (show m_takeI _ _ = some (_, [_, _], []) from m_takeI_of rfl rfl rfl (Nat.le_of_ble_eq_true rfl)) (by simp only [m_okf, List.all_cons, List.all_nil, Bool.and_true, Bool.and_self, m_okv_i, m_okv_l, m_okv_0, m_okv_n0, m_okv_t, RT.okv h62 o62, RT.okn h62 (okm (okm o17 k34) k62), RT.okv h62 (okm (okm o17 k34) k62), RT.okn h62 (okm (okm (okm ha0 k17) k34) k62), RT.okv h62 (okm (okm (okm ha0 k17) k34) k62), RT.okn h62 (okm (okm (okm hp0 k17) k34) k62), RT.okv h62 (okm (okm (okm hp0 k17) k34) k62), RT.okn h62 (okm (okm (okm hp1 k17) k34) k62), RT.okv h62 (okm (okm (okm hp1 k17) k34) k62), RT.okn h62 o82, RT.okv h62 o82]) (decide_eq_true (by simp only [lgs_r, lgs_a, lgs_i, lgs_l, lgs_0]; exact Nat.le_of_ble_eq_true rfl))) (T_c_Store_place o82 o62 h62 e90) f62 rfl (fun w92 h92 f92 k92 => ?_) (by decide) (by decide)
              exact m_Rb.pick [2, 3, 1, 0] rfl (T_c_EdgeHouse_takeFill_148 (okm (okm (okm (okm ha0 k17) k34) k62) k92) (okm (okm (okm (okm hp0 k17) k34) k62) k92) (okm (okm (okm o17 k34) k62) k92) (okm o62 k92) h92 f92 j91)
          | false =>
            have j54 := cF hc53 j51
            refine m_Rb.n0 b_137 (x_iff d_137_97 rfl hc53) ?_
            refine m_Rb.n0 b_137 (x_aload_n d_137_100 rfl) ?_
            refine m_Rb.n0 b_137 (x_aload_n d_137_101 rfl) ?_
            refine m_Rb.n0 b_137 (x_aload_n d_137_102 rfl) ?_
            obtain ⟨_, e93, j94⟩ := bS j54
            obtain ⟨_, g95⟩ := RT.cls h52 e93
            obtain ⟨v96, T97, e98, j99⟩ := bS2 j94
            refine m_Rb.callI b_137 (y_cv d_137_103 rfl q_111 (m_isRecv_of rfl g95) (show m_takeI _ _ = some (_, [_, _, _], []) from m_takeI_of rfl rfl rfl (Nat.le_of_ble_eq_true rfl)) (by simp only [m_okf, List.all_cons, List.all_nil, Bool.and_true, Bool.and_self, m_okv_i, m_okv_l, m_okv_0, m_okv_n0, m_okv_t, RT.okn h52 (okm o17 k34), RT.okv h52 (okm o17 k34), RT.okn h52 (okm (okm ha0 k17) k34), RT.okv h52 (okm (okm ha0 k17) k34), RT.okn h52 (okm (okm hp0 k17) k34), RT.okv h52 (okm (okm hp0 k17) k34), RT.okn h52 (okm (okm hp1 k17) k34), RT.okv h52 (okm (okm hp1 k17) k34)]) rfl) (T_c_EdgeHouse_sendFetch (okm (okm ha0 k17) k34) (okm (okm hp0 k17) k34) (okm o17 k34) h52 e98) f52 rfl (fun w100 h100 f100 k100 => ?_) (by decide) (by decide)
            cases hc105 : m_c1 .ne v96 with
            | true =>
              have j106 := cT hc105 j99
              refine m_Rb.n0 b_137 (x_ift d_137_106 rfl hc105) ?_
              exact m_Rb.pick [1] rfl (T_c_EdgeHouse_takeFill_118 (okm (okm (okm ha0 k17) k34) k100) h100 f100 j106)
            | false =>
              have j106 := cF hc105 j99
              refine m_Rb.n0 b_137 (x_iff d_137_106 rfl hc105) ?_
              refine m_Rb.n0 b_137 (x_aload_n d_137_109 rfl) ?_
              refine m_Rb.n0 b_137 (x_aload_n d_137_110 rfl) ?_
              refine m_Rb.n0 b_137 (x_aload_n d_137_111 rfl) ?_
              obtain ⟨v107, e108, j109⟩ := bS j106
              refine m_Rb.tgetR b_137 d_137_112 rfl h100 e108 (fun o110 => ?_)
              obtain ⟨_, e111, j112⟩ := bS j109
              obtain ⟨_, g113⟩ := RT.cls h100 e111
              obtain ⟨T114, e115, j116⟩ := bS j112
              refine m_Rb.callV b_137 (y_cv d_137_115 rfl q_122 (m_isRecv_of rfl g113) (show m_takeI _ _ = some (_, [_, _, _], []) from m_takeI_of rfl rfl rfl (Nat.le_of_ble_eq_true rfl)) (by simp only [m_okf, List.all_cons, List.all_nil, Bool.and_true, Bool.and_self, m_okv_i, m_okv_l, m_okv_0, m_okv_n0, m_okv_t, RT.okn h100 (okm (okm o17 k34) k100), RT.okv h100 (okm (okm o17 k34) k100), RT.okn h100 (okm (okm (okm ha0 k17) k34) k100), RT.okv h100 (okm (okm (okm ha0 k17) k34) k100), RT.okn h100 (okm (okm (okm hp0 k17) k34) k100), RT.okv h100 (okm (okm (okm hp0 k17) k34) k100), RT.okn h100 (okm (okm (okm hp1 k17) k34) k100), RT.okv h100 (okm (okm (okm hp1 k17) k34) k100), RT.okv h100 o110]) (decide_eq_true (by simp only [lgs_r, lgs_a, lgs_i, lgs_l, lgs_0]; exact Nat.le_of_ble_eq_true rfl))) (T_c_EdgeHouse_failAll (okm (okm (okm ha0 k17) k34) k100) (okm (okm (okm hp0 k17) k34) k100) o110 h100 e115) f100 rfl (fun w117 h117 f117 k117 => ?_) (by decide) (by decide)
              exact m_Rb.pick [1] rfl (T_c_EdgeHouse_takeFill_118 (okm (okm (okm (okm ha0 k17) k34) k100) k117) h117 f117 j116)
    | false =>
      have j24 := cF hc23 j22
      refine m_Rb.n0 b_137 (x_icf d_137_22 rfl hc23) ?_
      refine m_Rb.n0 b_137 (x_aload_n d_137_25 rfl) ?_
      refine m_Rb.n0 b_137 (x_aload_n d_137_26 rfl) ?_
      refine m_Rb.n0 b_137 (x_aload_n d_137_27 rfl) ?_
      obtain ⟨v118, e119, j120⟩ := bS j24
      refine m_Rb.tgetR b_137 d_137_28 rfl h17 e119 (fun o121 => ?_)
      obtain ⟨_, e122, j123⟩ := bS j120
      obtain ⟨_, g124⟩ := RT.cls h17 e122
      obtain ⟨T125, e126, j127⟩ := bS j123
      refine m_Rb.callV b_137 (y_cv d_137_31 rfl q_122 (m_isRecv_of rfl g124) (show m_takeI _ _ = some (_, [_, _, _], []) from m_takeI_of rfl rfl rfl (Nat.le_of_ble_eq_true rfl)) (by simp only [m_okf, List.all_cons, List.all_nil, Bool.and_true, Bool.and_self, m_okv_i, m_okv_l, m_okv_0, m_okv_n0, m_okv_t, RT.okn h17 o17, RT.okv h17 o17, RT.okn h17 (okm ha0 k17), RT.okv h17 (okm ha0 k17), RT.okn h17 (okm hp0 k17), RT.okv h17 (okm hp0 k17), RT.okn h17 (okm hp1 k17), RT.okv h17 (okm hp1 k17), RT.okv h17 o121]) (decide_eq_true (by simp only [lgs_r, lgs_a, lgs_i, lgs_l, lgs_0]; exact Nat.le_of_ble_eq_true rfl))) (T_c_EdgeHouse_failAll (okm ha0 k17) (okm hp0 k17) o121 h17 e126) f17 rfl (fun w128 h128 f128 k128 => ?_) (by decide) (by decide)
      refine m_Rb.n0 b_137 (x_null d_137_34) ?_
      have o9 : okr T125.2.1 none := okr_none
      cases j127
      exact m_Rb.ret b_137 (m_rt_rr (x := none) d_137_35 rfl) ⟨rfl, o9, h128, f128⟩
def D_c_EdgeHouse_carry_101 (F : Nat) : Nat → Nat → Option Nat → Int32 → Option Nat → tT → Option (tT)
  | 0, _, _, _, _, _ => none
  | n + 1, x0, x2, x3, x4, T => nc x4 (some T) fun a115 => ((tgr T a115 6 18).bind fun v117 => (tpr T a115 6 18 none).bind fun T121 => (tpz T121 a115 6 12 x3).bind fun T125 => (tcl T125 x0 0).bind fun _ => (D_c_EdgeHouse_look F x0 x2 (some a115) T125).bind fun T132 => D_c_EdgeHouse_carry_101 F n x0 x2 x3 v117 T132)
theorem T_c_EdgeHouse_carry_101 {l : Launch} {w0 : List mM} {F : Nat} : ∀ (n : Nat) {x0 : Nat} {x2 : Option Nat} {x3 : Int32} {x4 : Option Nat} {T : tT} {w : List mM} {Tz : tT}, okr T.2.1 (some x0) → okr T.2.1 x2 → okr T.2.1 x4 → RT T w → m_Fm w0 w → D_c_EdgeHouse_carry_101 F n x0 x2 x3 x4 T = some Tz → m_Rb l M_127 (101, [(0, .ref x0), (2, rv x2), (3, .int x3), (4, rv x4)], [], w) (fun v w' => v = none ∧ RT Tz w' ∧ m_Fm w0 w') T Tz 18 1800 := by
  intro n
  induction n with
  | zero => intro x0 x2 x3 x4 T w Tz hx0 hx2 hx4 h hF h0; cases h0
  | succ n ih =>
    intro x0 x2 x3 x4 T w Tz hx0 hx2 hx4 h hF h0
    rw [D_c_EdgeHouse_carry_101] at h0
    refine m_Rb.n0 b_127 (x_aloadr (x := x4) d_127_101 rfl) ?_
    cases x4 with
    | none =>
      have j116 := nN h0
      refine m_Rb.n0 b_127 (x_ifnull0 d_127_103 rfl) ?_
      cases j116
      exact m_Rb.ret b_127 (m_rt_vr d_127_139 rfl) ⟨rfl, h, hF⟩
    | some a115 =>
      have j116 := nS h0
      refine m_Rb.n0 b_127 (x_ifnull1 d_127_103 rfl) ?_
      refine m_Rb.n0 b_127 (x_aload d_127_106 rfl) ?_
      refine m_Rb.n0 b_127 (x_astore d_127_108 rfl (show m_put1 _ _ _ = [(5, _), (0, _), (2, _), (3, _), (4, _)] from rfl)) ?_
      refine m_Rb.n0 b_127 (x_aload d_127_110 rfl) ?_
      obtain ⟨v117, e118, j119⟩ := bS j116
      refine m_Rb.tgetR b_127 d_127_112 rfl h e118 (fun o120 => ?_)
      refine m_Rb.n0 b_127 (x_astorer (x := v117) d_127_115 rfl (show m_put1 _ _ _ = [(4, _), (5, _), (0, _), (2, _), (3, _)] from rfl)) ?_
      refine m_Rb.n0 b_127 (x_aload d_127_117 rfl) ?_
      refine m_Rb.n0 b_127 (x_null d_127_119) ?_
      obtain ⟨T121, e122, j123⟩ := bS j119
      refine m_Rb.tputR (z := none) b_127 d_127_120 rfl rfl (by decide) h hF e122 okr_none (fun w124 h124 f124 k124 => ?_)
      refine m_Rb.n0 b_127 (x_aload d_127_123 rfl) ?_
      refine m_Rb.n0 b_127 (x_iload_n d_127_125 rfl) ?_
      obtain ⟨T125, e126, j127⟩ := bS j123
      refine m_Rb.tputZ b_127 d_127_126 rfl rfl (by decide) h124 f124 e126 (fun w128 h128 f128 k128 => ?_)
      refine m_Rb.n0 b_127 (x_aload_n d_127_129 rfl) ?_
      refine m_Rb.n0 b_127 (x_aloadr_n (x := x2) d_127_130 rfl) ?_
      refine m_Rb.n0 b_127 (x_aload d_127_131 rfl) ?_
      obtain ⟨_, e129, j130⟩ := bS j127
      obtain ⟨_, g131⟩ := RT.cls h128 e129
      obtain ⟨T132, e133, j134⟩ := bS j130
      refine m_Rb.callV b_127 (y_cv d_127_133 rfl q_73 (m_isRecv_of rfl g131) (show m_takeI _ _ = some (_, [_, _, _], []) from m_takeI_of rfl rfl rfl (Nat.le_of_ble_eq_true rfl)) (by simp only [m_okf, List.all_cons, List.all_nil, Bool.and_true, Bool.and_self, m_okv_i, m_okv_l, m_okv_0, m_okv_n0, m_okv_t, RT.okv h128 (okm (okm o120 k124) k128), RT.okn h128 (okm (okm hx4 k124) k128), RT.okv h128 (okm (okm hx4 k124) k128), RT.okn h128 (okm (okm hx0 k124) k128), RT.okv h128 (okm (okm hx0 k124) k128), RT.okv h128 (okm (okm hx2 k124) k128)]) (decide_eq_true (by simp only [lgs_r, lgs_a, lgs_i, lgs_l, lgs_0]; exact Nat.le_of_ble_eq_true rfl))) (T_c_EdgeHouse_look (okm (okm hx0 k124) k128) (okm (okm hx2 k124) k128) (okm (okm hx4 k124) k128) h128 e133) f128 rfl (fun w135 h135 f135 k135 => ?_) (by decide) (by decide)
      refine m_Rb.n0 b_127 (x_goto d_127_136 rfl) ?_
      exact m_Rb.pick [2, 3, 4, 0] rfl (ih (okm (okm (okm hx0 k124) k128) k135) (okm (okm (okm hx2 k124) k128) k135) (okm (okm (okm o120 k124) k128) k135) h135 f135 j134)
def D_c_EdgeHouse_carry_99 (F : Nat) (x0 : Nat) (x2 : Option Nat) (x3 : Int32) (y0 : Option Nat) (T : tT) : Option (tT) := D_c_EdgeHouse_carry_101 F F x0 x2 x3 y0 T
theorem T_c_EdgeHouse_carry_99 {l : Launch} {w0 : List mM} {F : Nat} {x0 : Nat} {x2 : Option Nat} {x3 : Int32} {y0 : Option Nat} {T : tT} {w : List mM} {Tz : tT} (hx0 : okr T.2.1 (some x0)) (hx2 : okr T.2.1 x2) (hy0 : okr T.2.1 y0) (h : RT T w) (hF : m_Fm w0 w) (h0 : D_c_EdgeHouse_carry_99 F x0 x2 x3 y0 T = some Tz) : m_Rb l M_127 (99, [(0, .ref x0), (2, rv x2), (3, .int x3)], [rv y0], w) (fun v w' => v = none ∧ RT Tz w' ∧ m_Fm w0 w') T Tz 18 1800 := by
  rw [D_c_EdgeHouse_carry_99] at h0
  refine m_Rb.n0 b_127 (x_astorer (x := y0) d_127_99 rfl (show m_put1 _ _ _ = [(4, _), (0, _), (2, _), (3, _)] from rfl)) ?_
  exact m_Rb.pick [1, 2, 3, 0] rfl (T_c_EdgeHouse_carry_101 F hx0 hx2 hy0 h hF h0)
def D_c_EdgeHouse_carry (F : Nat) (a0 : Nat) (p0 : Option Nat) (T : tT) : Option (tT) := (p0).bind fun a1 => (tgi T a1 9 2).bind fun v4 => cond (m_c1 .ne v4) ((tgi T a1 9 2).bind fun v9 => (D_c_EdgeHouse_isNode F v9 T).bind fun v12 => cond (m_c1 .eq v12) (some T) ((tgr T a0 0 3).bind fun v18 => (tgi T a1 9 2).bind fun v22 => (v18).bind fun a25 => (tar T a25 7 v22).bind fun v28 => (v28).bind fun a32 => (tgi T a32 4 6).bind fun v35 => cond (m_c1 .ne v35) ((tgr T a0 0 3).bind fun v40 => (tgi T a1 9 2).bind fun v44 => (v40).bind fun a47 => (tar T a47 7 v44).bind fun v50 => (tgi T a1 9 0).bind fun v54 => cond (m_c2 .ne v54 (2 : Int32)) ((tgi T a1 9 0).bind fun v59 => (cond (m_c2 .ne v59 (1 : Int32)) (some (0 : Int32)) (some (1 : Int32))).bind fun v66 => cond (m_c1 .eq v66) (bd2 (tnw T 6) fun a84 T85 => (D_c_Request_init129 F a84 (some a1) T85).bind fun T89 => D_c_EdgeHouse_carry_99 F a0 v50 v66 (some a84) T89) ((tcl T a0 0).bind fun _ => bd2 (D_c_EdgeHouse_takeFill F a0 v50 (some a1) T) fun v96 T97 => D_c_EdgeHouse_carry_99 F a0 v50 v66 v96 T97)) ((tcl T a0 0).bind fun _ => (D_c_EdgeHouse_takePurge F a0 v50 (some a1) T).bind fun T104 => some T104)) (some T))) ((tcl T a0 0).bind fun _ => (D_c_EdgeHouse_takeAtOrigin F a0 (some a1) T).bind fun T111 => some T111)
theorem T_c_EdgeHouse_carry {l : Launch} {w : List mM} {F : Nat} {a0 : Nat} {p0 : Option Nat} {T : tT} {Tz : tT} (ha0 : okr T.2.1 (some a0)) (hp0 : okr T.2.1 p0) (h : RT T w) (h0 : D_c_EdgeHouse_carry F a0 p0 T = some Tz) : m_Rb l M_127 (m_ent M_127 [.ref a0, rv p0] w) (fun v w' => v = none ∧ RT Tz w' ∧ m_Fm w w') T Tz 18 1800 := by
  rw [show m_ent M_127 [.ref a0, rv p0] w = (0, [(0, .ref a0), (1, rv p0)], [], w) from by first | rfl | (simp only [m_ent, lv_args_r, lv_args_a, lv_args_i, lv_args_l, lv_args_0]; done) | (simp only [m_ent, lv_args_r, lv_args_a, lv_args_i, lv_args_l, lv_args_0]; rfl)]
  generalize hw0 : w = w0 at h ⊢
  have hF : m_Fm w0 w0 := m_Fm.refl
  rw [D_c_EdgeHouse_carry] at h0
  refine m_Rb.n0 b_127 (x_aloadr_n (x := p0) d_127_0 rfl) ?_
  obtain ⟨a1, e2, j3⟩ := bS h0
  subst e2
  obtain ⟨v4, e5, j6⟩ := bS j3
  refine m_Rb.tgetI b_127 d_127_1 rfl h e5 ?_
  cases hc7 : m_c1 .ne v4 with
  | true =>
    have j8 := cT hc7 j6
    refine m_Rb.n0 b_127 (x_ift d_127_4 rfl hc7) ?_
    refine m_Rb.n0 b_127 (x_aload_n d_127_13 rfl) ?_
    obtain ⟨v9, e10, j11⟩ := bS j8
    refine m_Rb.tgetI b_127 d_127_14 rfl h e10 ?_
    obtain ⟨v12, e13, j14⟩ := bS j11
    refine m_Rb.callI b_127 (y_cs d_127_17 rfl q_131 (show m_takeS _ _ = some (_, [_], []) from m_takeS_of (Nat.le_of_ble_eq_true rfl) rfl rfl (Nat.le_of_ble_eq_true rfl)) (by simp only [m_okf, List.all_cons, List.all_nil, Bool.and_true, Bool.and_self, m_okv_i, m_okv_l, m_okv_0, m_okv_n0, m_okv_t, RT.okn h ha0, RT.okv h ha0, RT.okn h hp0, RT.okv h hp0]) rfl) (T_c_EdgeHouse_isNode h e13) hF rfl (fun w15 h15 f15 k15 => ?_) (by decide) (by decide)
    cases hc16 : m_c1 .eq v12 with
    | true =>
      have j17 := cT hc16 j14
      refine m_Rb.n0 b_127 (x_ift d_127_20 rfl hc16) ?_
      cases j17
      exact m_Rb.ret b_127 (m_rt_vr d_127_38 rfl) ⟨rfl, h15, f15⟩
    | false =>
      have j17 := cF hc16 j14
      refine m_Rb.n0 b_127 (x_iff d_127_20 rfl hc16) ?_
      refine m_Rb.n0 b_127 (x_aload_n d_127_23 rfl) ?_
      obtain ⟨v18, e19, j20⟩ := bS j17
      refine m_Rb.tgetR b_127 d_127_24 rfl h15 e19 (fun o21 => ?_)
      refine m_Rb.n0 b_127 (x_aload_n d_127_27 rfl) ?_
      obtain ⟨v22, e23, j24⟩ := bS j20
      refine m_Rb.tgetI b_127 d_127_28 rfl h15 e23 ?_
      obtain ⟨a25, e26, j27⟩ := bS j24
      subst e26
      obtain ⟨v28, e29, j30⟩ := bS j27
      refine m_Rb.tgetO (t := 7) b_127 d_127_31 rfl rfl h15 e29 (fun o31 => ?_)
      obtain ⟨a32, e33, j34⟩ := bS j30
      subst e33
      obtain ⟨v35, e36, j37⟩ := bS j34
      refine m_Rb.tgetI b_127 d_127_32 rfl h15 e36 ?_
      cases hc38 : m_c1 .ne v35 with
      | true =>
        have j39 := cT hc38 j37
        refine m_Rb.n0 b_127 (x_ift d_127_35 rfl hc38) ?_
        refine m_Rb.n0 b_127 (x_aload_n d_127_39 rfl) ?_
        obtain ⟨v40, e41, j42⟩ := bS j39
        refine m_Rb.tgetR b_127 d_127_40 rfl h15 e41 (fun o43 => ?_)
        refine m_Rb.n0 b_127 (x_aload_n d_127_43 rfl) ?_
        obtain ⟨v44, e45, j46⟩ := bS j42
        refine m_Rb.tgetI b_127 d_127_44 rfl h15 e45 ?_
        obtain ⟨a47, e48, j49⟩ := bS j46
        subst e48
        obtain ⟨v50, e51, j52⟩ := bS j49
        refine m_Rb.tgetO (t := 7) b_127 d_127_47 rfl rfl h15 e51 (fun o53 => ?_)
        refine m_Rb.n0 b_127 (x_astorer_n (x := v50) d_127_48 rfl (show m_put1 _ _ _ = [(2, _), (0, _), (1, _)] from rfl)) ?_
        refine m_Rb.n0 b_127 (x_aload_n d_127_49 rfl) ?_
        obtain ⟨v54, e55, j56⟩ := bS j52
        refine m_Rb.tgetI b_127 d_127_50 rfl h15 e55 ?_
        refine m_Rb.n0 b_127 (x_iconst (z := 2) d_127_53 (by decide)) ?_
        cases hc57 : m_c2 .ne v54 (2 : Int32) with
        | true =>
          have j58 := cT hc57 j56
          refine m_Rb.n0 b_127 (x_ict d_127_54 rfl hc57) ?_
          refine m_Rb.n0 b_127 (x_aload_n d_127_64 rfl) ?_
          obtain ⟨v59, e60, j61⟩ := bS j58
          refine m_Rb.tgetI b_127 d_127_65 rfl h15 e60 ?_
          refine m_Rb.n0 b_127 (x_iconst (z := 1) d_127_68 (by decide)) ?_
          obtain ⟨v66, e63, j67⟩ := bS j61
          have kk62 : ∀ (xz : Int32) (w1 : List mM), xz = v66 → RT T w1 → m_Fm w0 w1 → m_Rb l M_127 (77, [(2, rv v50), (0, .ref a0), (1, .ref a1)], [.int xz], w1) (fun v w' => v = none ∧ RT Tz w' ∧ m_Fm w0 w') T Tz 18 1800 := by
            intro xz w68 ez h68 f68
            rw [ez]
            refine m_Rb.n0 b_127 (x_istore_n d_127_77 rfl (show m_put1 _ _ _ = [(3, _), (2, _), (0, _), (1, _)] from (m_p1r (by simp only [List.all_cons, List.all_nil, cat_rv]; rfl)).trans rfl)) ?_
            refine m_Rb.n0 b_127 (x_iload_n d_127_78 rfl) ?_
            cases hc82 : m_c1 .eq v66 with
            | true =>
              have j83 := cT hc82 j67
              refine m_Rb.n0 b_127 (x_ift d_127_79 rfl hc82) ?_
              obtain ⟨a84, T85, e86, j87⟩ := bS2 j83
              refine m_Rb.tnew b_127 d_127_91 rfl (by simp only [m_okf, List.all_cons, List.all_nil, Bool.and_true, Bool.and_self, m_okv_i, m_okv_l, m_okv_0, m_okv_n0, m_okv_t, RT.okv h68 o53, RT.okn h68 ha0, RT.okv h68 ha0, RT.okn h68 hp0, RT.okv h68 hp0]) h68 f68 e86 (fun w88 o88 h88 f88 k88 => ?_)
              refine m_Rb.n0 b_127 (x_dup d_127_94 rfl) ?_
              refine m_Rb.n0 b_127 (x_aload_n d_127_95 rfl) ?_
              obtain ⟨T89, e90, j91⟩ := bS j87
              refine m_Rb.callV b_127 (x_ci d_127_96 rfl (by decide) q_129 (show m_takeI _ _ = some (_, [_, _], [_]) from m_takeI_of rfl rfl rfl (Nat.le_of_ble_eq_true rfl)) (by simp only [m_okf, List.all_cons, List.all_nil, Bool.and_true, Bool.and_self, m_okv_i, m_okv_l, m_okv_0, m_okv_n0, m_okv_t, RT.okv h88 (okm o53 k88), RT.okn h88 (okm ha0 k88), RT.okv h88 (okm ha0 k88), RT.okn h88 (okm hp0 k88), RT.okv h88 (okm hp0 k88), RT.okn h88 o88, RT.okv h88 o88]) rfl) (T_c_Request_init129 o88 (okm hp0 k88) h88 e90) f88 rfl (fun w92 h92 f92 k92 => ?_) (by decide) (by decide)
              exact m_Rb.pick [2, 1, 0] rfl (T_c_EdgeHouse_carry_99 (okm (okm ha0 k88) k92) (okm (okm o53 k88) k92) (okm o88 k92) h92 f92 j91)
            | false =>
              have j83 := cF hc82 j67
              refine m_Rb.n0 b_127 (x_iff d_127_79 rfl hc82) ?_
              refine m_Rb.n0 b_127 (x_aload_n d_127_82 rfl) ?_
              refine m_Rb.n0 b_127 (x_aloadr_n (x := v50) d_127_83 rfl) ?_
              refine m_Rb.n0 b_127 (x_aload_n d_127_84 rfl) ?_
              obtain ⟨_, e93, j94⟩ := bS j83
              obtain ⟨_, g95⟩ := RT.cls h68 e93
              obtain ⟨v96, T97, e98, j99⟩ := bS2 j94
              refine m_Rb.callR b_127 (y_cv d_127_85 rfl q_137 (m_isRecv_of rfl g95) (show m_takeI _ _ = some (_, [_, _, _], []) from m_takeI_of rfl rfl rfl (Nat.le_of_ble_eq_true rfl)) (by simp only [m_okf, List.all_cons, List.all_nil, Bool.and_true, Bool.and_self, m_okv_i, m_okv_l, m_okv_0, m_okv_n0, m_okv_t, RT.okv h68 o53, RT.okn h68 ha0, RT.okv h68 ha0, RT.okn h68 hp0, RT.okv h68 hp0]) (decide_eq_true (by simp only [lgs_r, lgs_a, lgs_i, lgs_l, lgs_0]; exact Nat.le_of_ble_eq_true rfl))) (T_c_EdgeHouse_takeFill ha0 o53 hp0 h68 e98) f68 rfl (fun w100 o100 h100 f100 k100 => ?_) (by decide) (by decide)
              refine m_Rb.n0 b_127 (x_goto d_127_88 rfl) ?_
              exact m_Rb.pick [2, 1, 0] rfl (T_c_EdgeHouse_carry_99 (okm ha0 k100) (okm o53 k100) o100 h100 f100 j99)
          cases hc64 : m_c2 .ne v59 (1 : Int32) with
          | true =>
            have j65 := cT hc64 e63
            refine m_Rb.n0 b_127 (x_ict d_127_69 rfl hc64) ?_
            refine m_Rb.n0 b_127 (x_iconst (z := 0) d_127_76 (by decide)) ?_
            exact kk62 _ _ (Option.some.inj j65) h15 f15
          | false =>
            have j65 := cF hc64 e63
            refine m_Rb.n0 b_127 (x_icf d_127_69 rfl hc64) ?_
            refine m_Rb.n0 b_127 (x_iconst (z := 1) d_127_72 (by decide)) ?_
            refine m_Rb.n0 b_127 (x_goto d_127_73 rfl) ?_
            exact kk62 _ _ (Option.some.inj j65) h15 f15
        | false =>
          have j58 := cF hc57 j56
          refine m_Rb.n0 b_127 (x_icf d_127_54 rfl hc57) ?_
          refine m_Rb.n0 b_127 (x_aload_n d_127_57 rfl) ?_
          refine m_Rb.n0 b_127 (x_aloadr_n (x := v50) d_127_58 rfl) ?_
          refine m_Rb.n0 b_127 (x_aload_n d_127_59 rfl) ?_
          obtain ⟨_, e101, j102⟩ := bS j58
          obtain ⟨_, g103⟩ := RT.cls h15 e101
          obtain ⟨T104, e105, j106⟩ := bS j102
          refine m_Rb.callV b_127 (y_cv d_127_60 rfl q_132 (m_isRecv_of rfl g103) (show m_takeI _ _ = some (_, [_, _, _], []) from m_takeI_of rfl rfl rfl (Nat.le_of_ble_eq_true rfl)) (by simp only [m_okf, List.all_cons, List.all_nil, Bool.and_true, Bool.and_self, m_okv_i, m_okv_l, m_okv_0, m_okv_n0, m_okv_t, RT.okv h15 o53, RT.okn h15 ha0, RT.okv h15 ha0, RT.okn h15 hp0, RT.okv h15 hp0]) (decide_eq_true (by simp only [lgs_r, lgs_a, lgs_i, lgs_l, lgs_0]; exact Nat.le_of_ble_eq_true rfl))) (T_c_EdgeHouse_takePurge ha0 o53 hp0 h15 e105) f15 rfl (fun w107 h107 f107 k107 => ?_) (by decide) (by decide)
          cases j106
          exact m_Rb.ret b_127 (m_rt_vr d_127_63 rfl) ⟨rfl, h107, f107⟩
      | false =>
        have j39 := cF hc38 j37
        refine m_Rb.n0 b_127 (x_iff d_127_35 rfl hc38) ?_
        cases j39
        exact m_Rb.ret b_127 (m_rt_vr d_127_38 rfl) ⟨rfl, h15, f15⟩
  | false =>
    have j8 := cF hc7 j6
    refine m_Rb.n0 b_127 (x_iff d_127_4 rfl hc7) ?_
    refine m_Rb.n0 b_127 (x_aload_n d_127_7 rfl) ?_
    refine m_Rb.n0 b_127 (x_aload_n d_127_8 rfl) ?_
    obtain ⟨_, e108, j109⟩ := bS j8
    obtain ⟨_, g110⟩ := RT.cls h e108
    obtain ⟨T111, e112, j113⟩ := bS j109
    refine m_Rb.callV b_127 (y_cv d_127_9 rfl q_128 (m_isRecv_of rfl g110) (show m_takeI _ _ = some (_, [_, _], []) from m_takeI_of rfl rfl rfl (Nat.le_of_ble_eq_true rfl)) (by simp only [m_okf, List.all_cons, List.all_nil, Bool.and_true, Bool.and_self, m_okv_i, m_okv_l, m_okv_0, m_okv_n0, m_okv_t, RT.okn h ha0, RT.okv h ha0, RT.okn h hp0, RT.okv h hp0]) rfl) (T_c_EdgeHouse_takeAtOrigin ha0 hp0 h e112) hF rfl (fun w114 h114 f114 k114 => ?_) (by decide) (by decide)
    cases j113
    exact m_Rb.ret b_127 (m_rt_vr d_127_12 rfl) ⟨rfl, h114, f114⟩
def D_c_EdgeHouse_deliver (F : Nat) (a0 : Nat) (p0 : Int32) (T : tT) : Option (Int32 × tT) := cond (m_c1 .lt p0) (some ((0 : Int32), T)) ((tgr T a0 0 7).bind fun v3 => (v3).bind fun a7 => (tls T a7).bind fun v10 => cond (m_c2 .lt p0 v10) ((tgr T a0 0 7).bind fun v15 => (v15).bind fun a19 => bd2 (tlr T a19 p0) fun b22 T23 => (tcc T23 (some b22) 9).bind fun _ => (tcl T23 a0 0).bind fun _ => (D_c_EdgeHouse_carry F a0 (some b22) T23).bind fun T32 => some ((1 : Int32), T32)) (some ((0 : Int32), T)))
theorem T_c_EdgeHouse_deliver {l : Launch} {w : List mM} {F : Nat} {a0 : Nat} {p0 : Int32} {T : tT} {yz : Int32} {Tz : tT} (ha0 : okr T.2.1 (some a0)) (h : RT T w) (h0 : D_c_EdgeHouse_deliver F a0 p0 T = some (yz, Tz)) : m_Rb l M_126 (m_ent M_126 [.ref a0, .int p0] w) (fun v w' => v = some (.int yz) ∧ RT Tz w' ∧ m_Fm w w') T Tz 19 1900 := by
  rw [show m_ent M_126 [.ref a0, .int p0] w = (0, [(0, .ref a0), (1, .int p0)], [], w) from by first | rfl | (simp only [m_ent, lv_args_r, lv_args_a, lv_args_i, lv_args_l, lv_args_0]; done) | (simp only [m_ent, lv_args_r, lv_args_a, lv_args_i, lv_args_l, lv_args_0]; rfl)]
  generalize hw0 : w = w0 at h ⊢
  have hF : m_Fm w0 w0 := m_Fm.refl
  rw [D_c_EdgeHouse_deliver] at h0
  refine m_Rb.n0 b_126 (x_iload_n d_126_0 rfl) ?_
  cases hc1 : m_c1 .lt p0 with
  | true =>
    have j2 := cT hc1 h0
    refine m_Rb.n0 b_126 (x_ift d_126_1 rfl hc1) ?_
    refine m_Rb.n0 b_126 (x_iconst (z := 0) d_126_15 (by decide)) ?_
    cases j2
    exact m_Rb.ret b_126 (m_rt_ir d_126_16 rfl m_nb0) ⟨rfl, h, hF⟩
  | false =>
    have j2 := cF hc1 h0
    refine m_Rb.n0 b_126 (x_iff d_126_1 rfl hc1) ?_
    refine m_Rb.n0 b_126 (x_iload_n d_126_4 rfl) ?_
    refine m_Rb.n0 b_126 (x_aload_n d_126_5 rfl) ?_
    obtain ⟨v3, e4, j5⟩ := bS j2
    refine m_Rb.tgetR b_126 d_126_6 rfl h e4 (fun o6 => ?_)
    obtain ⟨a7, e8, j9⟩ := bS j5
    subst e8
    obtain ⟨v10, e11, j12⟩ := bS j9
    refine m_Rb.tlsize b_126 d_126_9 rfl (by simp only [m_okf, List.all_cons, List.all_nil, Bool.and_true, Bool.and_self, m_okv_i, m_okv_l, m_okv_0, m_okv_n0, m_okv_t, RT.okn h ha0, RT.okv h ha0, RT.okn h o6, RT.okv h o6]) (Nat.le_of_ble_eq_true rfl) h e11 ?_ (by decide) (by decide)
    cases hc13 : m_c2 .lt p0 v10 with
    | true =>
      have j14 := cT hc13 j12
      refine m_Rb.n0 b_126 (x_ict d_126_12 rfl hc13) ?_
      refine m_Rb.n0 b_126 (x_aload_n d_126_17 rfl) ?_
      refine m_Rb.n0 b_126 (x_aload_n d_126_18 rfl) ?_
      obtain ⟨v15, e16, j17⟩ := bS j14
      refine m_Rb.tgetR b_126 d_126_19 rfl h e16 (fun o18 => ?_)
      refine m_Rb.n0 b_126 (x_iload_n d_126_22 rfl) ?_
      obtain ⟨a19, e20, j21⟩ := bS j17
      subst e20
      obtain ⟨b22, T23, e24, j25⟩ := bS2 j21
      refine m_Rb.tlrem b_126 d_126_23 rfl (by simp only [m_okf, List.all_cons, List.all_nil, Bool.and_true, Bool.and_self, m_okv_i, m_okv_l, m_okv_0, m_okv_n0, m_okv_t, RT.okn h ha0, RT.okv h ha0, RT.okn h o18, RT.okv h o18]) (Nat.le_of_ble_eq_true rfl) h hF e24 (fun w26 o26 h26 f26 k26 => ?_) (by decide) (by decide)
      obtain ⟨_, e27, j28⟩ := bS j25
      refine m_Rb.tcast (z := (some b22)) b_126 d_126_26 rfl h26 e27 ?_
      obtain ⟨_, e29, j30⟩ := bS j28
      obtain ⟨_, g31⟩ := RT.cls h26 e29
      obtain ⟨T32, e33, j34⟩ := bS j30
      refine m_Rb.callV b_126 (y_cv d_126_29 rfl q_127 (m_isRecv_of rfl g31) (show m_takeI _ _ = some (_, [_, _], []) from m_takeI_of rfl rfl rfl (Nat.le_of_ble_eq_true rfl)) (by simp only [m_okf, List.all_cons, List.all_nil, Bool.and_true, Bool.and_self, m_okv_i, m_okv_l, m_okv_0, m_okv_n0, m_okv_t, RT.okn h26 (okm ha0 k26), RT.okv h26 (okm ha0 k26), RT.okn h26 o26, RT.okv h26 o26]) rfl) (T_c_EdgeHouse_carry (okm ha0 k26) o26 h26 e33) f26 rfl (fun w35 h35 f35 k35 => ?_) (by decide) (by decide)
      refine m_Rb.n0 b_126 (x_iconst (z := 1) d_126_32 (by decide)) ?_
      cases j34
      exact m_Rb.ret b_126 (m_rt_ir d_126_33 rfl m_nb1) ⟨rfl, h35, f35⟩
    | false =>
      have j14 := cF hc13 j12
      refine m_Rb.n0 b_126 (x_icf d_126_12 rfl hc13) ?_
      refine m_Rb.n0 b_126 (x_iconst (z := 0) d_126_15 (by decide)) ?_
      cases j14
      exact m_Rb.ret b_126 (m_rt_ir d_126_16 rfl m_nb0) ⟨rfl, h, hF⟩
def D_c_EdgeHouse_lose (F : Nat) (a0 : Nat) (p0 : Int32) (T : tT) : Option (Int32 × tT) := cond (m_c1 .lt p0) (some ((0 : Int32), T)) ((tgr T a0 0 7).bind fun v3 => (v3).bind fun a7 => (tls T a7).bind fun v10 => cond (m_c2 .lt p0 v10) ((tgr T a0 0 7).bind fun v15 => (v15).bind fun a19 => bd2 (tlr T a19 p0) fun b22 T23 => (tgi T23 a0 0 11).bind fun v27 => (tpi T23 a0 0 11 (v27 + (1 : Int32))).bind fun T30 => some ((1 : Int32), T30)) (some ((0 : Int32), T)))
theorem T_c_EdgeHouse_lose {l : Launch} {w : List mM} {F : Nat} {a0 : Nat} {p0 : Int32} {T : tT} {yz : Int32} {Tz : tT} (ha0 : okr T.2.1 (some a0)) (h : RT T w) (h0 : D_c_EdgeHouse_lose F a0 p0 T = some (yz, Tz)) : m_Rb l M_148 (m_ent M_148 [.ref a0, .int p0] w) (fun v w' => v = some (.int yz) ∧ RT Tz w' ∧ m_Fm w w') T Tz 5 500 := by
  rw [show m_ent M_148 [.ref a0, .int p0] w = (0, [(0, .ref a0), (1, .int p0)], [], w) from by first | rfl | (simp only [m_ent, lv_args_r, lv_args_a, lv_args_i, lv_args_l, lv_args_0]; done) | (simp only [m_ent, lv_args_r, lv_args_a, lv_args_i, lv_args_l, lv_args_0]; rfl)]
  generalize hw0 : w = w0 at h ⊢
  have hF : m_Fm w0 w0 := m_Fm.refl
  rw [D_c_EdgeHouse_lose] at h0
  refine m_Rb.n0 b_148 (x_iload_n d_148_0 rfl) ?_
  cases hc1 : m_c1 .lt p0 with
  | true =>
    have j2 := cT hc1 h0
    refine m_Rb.n0 b_148 (x_ift d_148_1 rfl hc1) ?_
    refine m_Rb.n0 b_148 (x_iconst (z := 0) d_148_15 (by decide)) ?_
    cases j2
    exact m_Rb.ret b_148 (m_rt_ir d_148_16 rfl m_nb0) ⟨rfl, h, hF⟩
  | false =>
    have j2 := cF hc1 h0
    refine m_Rb.n0 b_148 (x_iff d_148_1 rfl hc1) ?_
    refine m_Rb.n0 b_148 (x_iload_n d_148_4 rfl) ?_
    refine m_Rb.n0 b_148 (x_aload_n d_148_5 rfl) ?_
    obtain ⟨v3, e4, j5⟩ := bS j2
    refine m_Rb.tgetR b_148 d_148_6 rfl h e4 (fun o6 => ?_)
    obtain ⟨a7, e8, j9⟩ := bS j5
    subst e8
    obtain ⟨v10, e11, j12⟩ := bS j9
    refine m_Rb.tlsize b_148 d_148_9 rfl (by simp only [m_okf, List.all_cons, List.all_nil, Bool.and_true, Bool.and_self, m_okv_i, m_okv_l, m_okv_0, m_okv_n0, m_okv_t, RT.okn h ha0, RT.okv h ha0, RT.okn h o6, RT.okv h o6]) (Nat.le_of_ble_eq_true rfl) h e11 ?_ (by decide) (by decide)
    cases hc13 : m_c2 .lt p0 v10 with
    | true =>
      have j14 := cT hc13 j12
      refine m_Rb.n0 b_148 (x_ict d_148_12 rfl hc13) ?_
      refine m_Rb.n0 b_148 (x_aload_n d_148_17 rfl) ?_
      obtain ⟨v15, e16, j17⟩ := bS j14
      refine m_Rb.tgetR b_148 d_148_18 rfl h e16 (fun o18 => ?_)
      refine m_Rb.n0 b_148 (x_iload_n d_148_21 rfl) ?_
      obtain ⟨a19, e20, j21⟩ := bS j17
      subst e20
      obtain ⟨b22, T23, e24, j25⟩ := bS2 j21
      refine m_Rb.tlrem b_148 d_148_22 rfl (by simp only [m_okf, List.all_cons, List.all_nil, Bool.and_true, Bool.and_self, m_okv_i, m_okv_l, m_okv_0, m_okv_n0, m_okv_t, RT.okn h ha0, RT.okv h ha0, RT.okn h o18, RT.okv h o18]) (Nat.le_of_ble_eq_true rfl) h hF e24 (fun w26 o26 h26 f26 k26 => ?_) (by decide) (by decide)
      refine m_Rb.n0 b_148 (x_pop d_148_25 rfl) ?_
      refine m_Rb.n0 b_148 (x_aload_n d_148_26 rfl) ?_
      refine m_Rb.n0 b_148 (x_dup d_148_27 rfl) ?_
      obtain ⟨v27, e28, j29⟩ := bS j25
      refine m_Rb.tgetI b_148 d_148_28 rfl h26 e28 ?_
      refine m_Rb.n0 b_148 (x_iconst (z := 1) d_148_31 (by decide)) ?_
      refine m_Rb.n0 b_148 (x_iadd d_148_32 rfl) ?_
      obtain ⟨T30, e31, j32⟩ := bS j29
      refine m_Rb.tputI b_148 d_148_33 rfl rfl (by decide) h26 f26 e31 (fun w33 h33 f33 k33 => ?_)
      refine m_Rb.n0 b_148 (x_iconst (z := 1) d_148_36 (by decide)) ?_
      cases j32
      exact m_Rb.ret b_148 (m_rt_ir d_148_37 rfl m_nb1) ⟨rfl, h33, f33⟩
    | false =>
      have j14 := cF hc13 j12
      refine m_Rb.n0 b_148 (x_icf d_148_12 rfl hc13) ?_
      refine m_Rb.n0 b_148 (x_iconst (z := 0) d_148_15 (by decide)) ?_
      cases j14
      exact m_Rb.ret b_148 (m_rt_ir d_148_16 rfl m_nb0) ⟨rfl, h, hF⟩
def D_c_EdgeHouse_settle_2 (F : Nat) : Nat → Nat → Int32 → tT → Option (Int32 × tT)
  | 0, _, _, _ => none
  | n + 1, x0, x1, T => cond (m_c2 .ge x1 (500 : Int32)) (some (x1, T)) ((tgr T x0 0 7).bind fun v3 => (v3).bind fun a7 => (tle T a7).bind fun v10 => cond (m_c1 .ne v10) (some (x1, T)) ((tgr T x0 0 7).bind fun v15 => (v15).bind fun a19 => bd2 (tlr T a19 (0 : Int32)) fun b22 T23 => (tcc T23 (some b22) 9).bind fun _ => (tcl T23 x0 0).bind fun _ => (D_c_EdgeHouse_carry F x0 (some b22) T23).bind fun T32 => D_c_EdgeHouse_settle_2 F n x0 (x1 + Int32.ofInt 1) T32))
theorem T_c_EdgeHouse_settle_2 {l : Launch} {w0 : List mM} {F : Nat} : ∀ (n : Nat) {x0 : Nat} {x1 : Int32} {T : tT} {w : List mM} {yz : Int32} {Tz : tT}, okr T.2.1 (some x0) → RT T w → m_Fm w0 w → D_c_EdgeHouse_settle_2 F n x0 x1 T = some (yz, Tz) → m_Rb l M_149 (2, [(0, .ref x0), (1, .int x1)], [], w) (fun v w' => v = some (.int yz) ∧ RT Tz w' ∧ m_Fm w0 w') T Tz 19 1900 := by
  intro n
  induction n with
  | zero => intro x0 x1 T w yz Tz hx0 h hF h0; cases h0
  | succ n ih =>
    intro x0 x1 T w yz Tz hx0 h hF h0
    rw [D_c_EdgeHouse_settle_2] at h0
    refine m_Rb.n0 b_149 (x_iload_n d_149_2 rfl) ?_
    refine m_Rb.n0 b_149 (x_sipush (z := 500) d_149_3 (by decide)) ?_
    cases hc1 : m_c2 .ge x1 (500 : Int32) with
    | true =>
      have j2 := cT hc1 h0
      refine m_Rb.n0 b_149 (x_ict d_149_6 rfl hc1) ?_
      refine m_Rb.n0 b_149 (x_iload_n d_149_40 rfl) ?_
      cases j2
      exact m_Rb.ret b_149 (m_rt_ir d_149_41 rfl rfl) ⟨rfl, h, hF⟩
    | false =>
      have j2 := cF hc1 h0
      refine m_Rb.n0 b_149 (x_icf d_149_6 rfl hc1) ?_
      refine m_Rb.n0 b_149 (x_aload_n d_149_9 rfl) ?_
      obtain ⟨v3, e4, j5⟩ := bS j2
      refine m_Rb.tgetR b_149 d_149_10 rfl h e4 (fun o6 => ?_)
      obtain ⟨a7, e8, j9⟩ := bS j5
      subst e8
      obtain ⟨v10, e11, j12⟩ := bS j9
      refine m_Rb.tlempty b_149 d_149_13 rfl (by simp only [m_okf, List.all_cons, List.all_nil, Bool.and_true, Bool.and_self, m_okv_i, m_okv_l, m_okv_0, m_okv_n0, m_okv_t, RT.okn h hx0, RT.okv h hx0, RT.okn h o6, RT.okv h o6]) (Nat.le_of_ble_eq_true rfl) h e11 ?_ (by decide) (by decide)
      cases hc13 : m_c1 .ne v10 with
      | true =>
        have j14 := cT hc13 j12
        refine m_Rb.n0 b_149 (x_ift d_149_16 rfl hc13) ?_
        refine m_Rb.n0 b_149 (x_iload_n d_149_40 rfl) ?_
        cases j14
        exact m_Rb.ret b_149 (m_rt_ir d_149_41 rfl rfl) ⟨rfl, h, hF⟩
      | false =>
        have j14 := cF hc13 j12
        refine m_Rb.n0 b_149 (x_iff d_149_16 rfl hc13) ?_
        refine m_Rb.n0 b_149 (x_aload_n d_149_19 rfl) ?_
        refine m_Rb.n0 b_149 (x_aload_n d_149_20 rfl) ?_
        obtain ⟨v15, e16, j17⟩ := bS j14
        refine m_Rb.tgetR b_149 d_149_21 rfl h e16 (fun o18 => ?_)
        refine m_Rb.n0 b_149 (x_iconst (z := 0) d_149_24 (by decide)) ?_
        obtain ⟨a19, e20, j21⟩ := bS j17
        subst e20
        obtain ⟨b22, T23, e24, j25⟩ := bS2 j21
        refine m_Rb.tlrem b_149 d_149_25 rfl (by simp only [m_okf, List.all_cons, List.all_nil, Bool.and_true, Bool.and_self, m_okv_i, m_okv_l, m_okv_0, m_okv_n0, m_okv_t, RT.okn h hx0, RT.okv h hx0, RT.okn h o18, RT.okv h o18]) (Nat.le_of_ble_eq_true rfl) h hF e24 (fun w26 o26 h26 f26 k26 => ?_) (by decide) (by decide)
        obtain ⟨_, e27, j28⟩ := bS j25
        refine m_Rb.tcast (z := (some b22)) b_149 d_149_28 rfl h26 e27 ?_
        obtain ⟨_, e29, j30⟩ := bS j28
        obtain ⟨_, g31⟩ := RT.cls h26 e29
        obtain ⟨T32, e33, j34⟩ := bS j30
        refine m_Rb.callV b_149 (y_cv d_149_31 rfl q_127 (m_isRecv_of rfl g31) (show m_takeI _ _ = some (_, [_, _], []) from m_takeI_of rfl rfl rfl (Nat.le_of_ble_eq_true rfl)) (by simp only [m_okf, List.all_cons, List.all_nil, Bool.and_true, Bool.and_self, m_okv_i, m_okv_l, m_okv_0, m_okv_n0, m_okv_t, RT.okn h26 (okm hx0 k26), RT.okv h26 (okm hx0 k26), RT.okn h26 o26, RT.okv h26 o26]) rfl) (T_c_EdgeHouse_carry (okm hx0 k26) o26 h26 e33) f26 rfl (fun w35 h35 f35 k35 => ?_) (by decide) (by decide)
        refine m_Rb.n0 b_149 (x_iinc d_149_34 rfl rfl rfl (show m_put1 _ _ _ = [(1, _), (0, _)] from rfl)) ?_
        refine m_Rb.n0 b_149 (x_goto d_149_37 rfl) ?_
        exact m_Rb.pick [1, 0] rfl (ih (okm (okm hx0 k26) k35) h35 f35 j34)
def D_c_EdgeHouse_settle (F : Nat) (a0 : Nat) (T : tT) : Option (Int32 × tT) := D_c_EdgeHouse_settle_2 F F a0 (0 : Int32) T
theorem T_c_EdgeHouse_settle {l : Launch} {w : List mM} {F : Nat} {a0 : Nat} {T : tT} {yz : Int32} {Tz : tT} (ha0 : okr T.2.1 (some a0)) (h : RT T w) (h0 : D_c_EdgeHouse_settle F a0 T = some (yz, Tz)) : m_Rb l M_149 (m_ent M_149 [.ref a0] w) (fun v w' => v = some (.int yz) ∧ RT Tz w' ∧ m_Fm w w') T Tz 19 1900 := by
  rw [show m_ent M_149 [.ref a0] w = (0, [(0, .ref a0)], [], w) from by first | rfl | (simp only [m_ent, lv_args_r, lv_args_a, lv_args_i, lv_args_l, lv_args_0]; done) | (simp only [m_ent, lv_args_r, lv_args_a, lv_args_i, lv_args_l, lv_args_0]; rfl)]
  generalize hw0 : w = w0 at h ⊢
  have hF : m_Fm w0 w0 := m_Fm.refl
  rw [D_c_EdgeHouse_settle] at h0
  refine m_Rb.n0 b_149 (x_iconst (z := 0) d_149_0 (by decide)) ?_
  refine m_Rb.n0 b_149 (x_istore_n d_149_1 rfl (show m_put1 _ _ _ = [(1, _), (0, _)] from rfl)) ?_
  exact m_Rb.pick [1, 0] rfl (T_c_EdgeHouse_settle_2 F ha0 h hF h0)
def D_c_EdgeHouse_purge_140 (F : Nat) (rec85 : Nat → Int32 → Int32 → Int32 → tT → Option (Int32 × tT)) (x0 : Nat) (x1 : Int32) (x2 : Int32) (x4 : Int32) (T : tT) : Option (Int32 × tT) := rec85 x0 x1 x2 (x4 + Int32.ofInt 1) T
theorem T_c_EdgeHouse_purge_140 {l : Launch} {w0 : List mM} {F : Nat} {rec85 : Nat → Int32 → Int32 → Int32 → tT → Option (Int32 × tT)} (hr85 : ∀ {x0 : Nat} {x1 : Int32} {x2 : Int32} {x4 : Int32} {T : tT} {w : List mM} {yz : Int32} {Tz : tT}, okr T.2.1 (some x0) → RT T w → m_Fm w0 w → rec85 x0 x1 x2 x4 T = some (yz, Tz) → m_Rb l M_150 (85, [(0, .ref x0), (1, .int x1), (2, .int x2), (4, .int x4)], [], w) (fun v w' => v = some (.int yz) ∧ RT Tz w' ∧ m_Fm w0 w') T Tz 14 1400) {x0 : Nat} {x1 : Int32} {x2 : Int32} {x4 : Int32} {T : tT} {w : List mM} {yz : Int32} {Tz : tT} (hx0 : okr T.2.1 (some x0)) (h : RT T w) (hF : m_Fm w0 w) (h0 : D_c_EdgeHouse_purge_140 F rec85 x0 x1 x2 x4 T = some (yz, Tz)) : m_Rb l M_150 (140, [(0, .ref x0), (1, .int x1), (2, .int x2), (4, .int x4)], [], w) (fun v w' => v = some (.int yz) ∧ RT Tz w' ∧ m_Fm w0 w') T Tz 14 1400 := by
  rw [D_c_EdgeHouse_purge_140] at h0
  refine m_Rb.n0 b_150 (x_iinc d_150_140 rfl rfl rfl (show m_put1 _ _ _ = [(4, _), (0, _), (1, _), (2, _)] from rfl)) ?_
  refine m_Rb.n0 b_150 (x_goto d_150_143 rfl) ?_
  exact m_Rb.pick [1, 2, 3, 0] rfl (hr85 hx0 h hF h0)
def D_c_EdgeHouse_purge_85 (F : Nat) : Nat → Nat → Int32 → Int32 → Int32 → tT → Option (Int32 × tT)
  | 0, _, _, _, _, _ => none
  | n + 1, x0, x1, x2, x4, T => cond (m_c2 .gt x4 (6 : Int32)) ((tgi T x0 0 13).bind fun v74 => some (v74, T)) ((tgr T x0 0 3).bind fun v77 => (v77).bind fun a81 => (tar T a81 7 x4).bind fun v84 => (v84).bind fun a88 => (tgi T a88 4 6).bind fun v91 => cond (m_c1 .eq v91) (D_c_EdgeHouse_purge_140 F (D_c_EdgeHouse_purge_85 F n) x0 x1 x2 x4 T) (bd2 (tnw T 9) fun a100 T101 => (tgi T101 x0 0 13).bind fun v105 => (D_c_Message_init F a100 (2 : Int32) (0 : Int32) x4 v105 T101).bind fun T108 => (tpi T108 a100 9 4 x2).bind fun T112 => (tpi T112 a100 9 5 x1).bind fun T116 => (tcl T116 x0 0).bind fun _ => (D_c_EdgeHouse_send F x0 (some a100) T116).bind fun T123 => D_c_EdgeHouse_purge_140 F (D_c_EdgeHouse_purge_85 F n) x0 x1 x2 x4 T123))
theorem T_c_EdgeHouse_purge_85 {l : Launch} {w0 : List mM} {F : Nat} : ∀ (n : Nat) {x0 : Nat} {x1 : Int32} {x2 : Int32} {x4 : Int32} {T : tT} {w : List mM} {yz : Int32} {Tz : tT}, okr T.2.1 (some x0) → RT T w → m_Fm w0 w → D_c_EdgeHouse_purge_85 F n x0 x1 x2 x4 T = some (yz, Tz) → m_Rb l M_150 (85, [(0, .ref x0), (1, .int x1), (2, .int x2), (4, .int x4)], [], w) (fun v w' => v = some (.int yz) ∧ RT Tz w' ∧ m_Fm w0 w') T Tz 14 1400 := by
  intro n
  induction n with
  | zero => intro x0 x1 x2 x4 T w yz Tz hx0 h hF h0; cases h0
  | succ n ih =>
    intro x0 x1 x2 x4 T w yz Tz hx0 h hF h0
    rw [D_c_EdgeHouse_purge_85] at h0
    refine m_Rb.n0 b_150 (x_iload d_150_85 rfl) ?_
    refine m_Rb.n0 b_150 (x_bipush (z := 6) d_150_87 (by decide)) ?_
    cases hc72 : m_c2 .gt x4 (6 : Int32) with
    | true =>
      have j73 := cT hc72 h0
      refine m_Rb.n0 b_150 (x_ict d_150_89 rfl hc72) ?_
      refine m_Rb.n0 b_150 (x_aload_n d_150_146 rfl) ?_
      obtain ⟨v74, e75, j76⟩ := bS j73
      refine m_Rb.tgetI b_150 d_150_147 rfl h e75 ?_
      cases j76
      exact m_Rb.ret b_150 (m_rt_ir d_150_150 rfl rfl) ⟨rfl, h, hF⟩
    | false =>
      have j73 := cF hc72 h0
      refine m_Rb.n0 b_150 (x_icf d_150_89 rfl hc72) ?_
      refine m_Rb.n0 b_150 (x_aload_n d_150_92 rfl) ?_
      obtain ⟨v77, e78, j79⟩ := bS j73
      refine m_Rb.tgetR b_150 d_150_93 rfl h e78 (fun o80 => ?_)
      refine m_Rb.n0 b_150 (x_iload d_150_96 rfl) ?_
      obtain ⟨a81, e82, j83⟩ := bS j79
      subst e82
      obtain ⟨v84, e85, j86⟩ := bS j83
      refine m_Rb.tgetO (t := 7) b_150 d_150_98 rfl rfl h e85 (fun o87 => ?_)
      obtain ⟨a88, e89, j90⟩ := bS j86
      subst e89
      obtain ⟨v91, e92, j93⟩ := bS j90
      refine m_Rb.tgetI b_150 d_150_99 rfl h e92 ?_
      cases hc98 : m_c1 .eq v91 with
      | true =>
        have j99 := cT hc98 j93
        refine m_Rb.n0 b_150 (x_ift d_150_102 rfl hc98) ?_
        exact m_Rb.pick [0, 1, 2, 3] rfl (T_c_EdgeHouse_purge_140 ih hx0 h hF j99)
      | false =>
        have j99 := cF hc98 j93
        refine m_Rb.n0 b_150 (x_iff d_150_102 rfl hc98) ?_
        obtain ⟨a100, T101, e102, j103⟩ := bS2 j99
        refine m_Rb.tnew b_150 d_150_105 rfl (by simp only [m_okf, List.all_cons, List.all_nil, Bool.and_true, Bool.and_self, m_okv_i, m_okv_l, m_okv_0, m_okv_n0, m_okv_t, RT.okn h hx0, RT.okv h hx0]) h hF e102 (fun w104 o104 h104 f104 k104 => ?_)
        refine m_Rb.n0 b_150 (x_dup d_150_108 rfl) ?_
        refine m_Rb.n0 b_150 (x_iconst (z := 2) d_150_109 (by decide)) ?_
        refine m_Rb.n0 b_150 (x_iconst (z := 0) d_150_110 (by decide)) ?_
        refine m_Rb.n0 b_150 (x_iload d_150_111 rfl) ?_
        refine m_Rb.n0 b_150 (x_aload_n d_150_113 rfl) ?_
        obtain ⟨v105, e106, j107⟩ := bS j103
        refine m_Rb.tgetI b_150 d_150_114 rfl h104 e106 ?_
        obtain ⟨T108, e109, j110⟩ := bS j107
        refine m_Rb.callV b_150 (x_ci d_150_117 rfl (by decide) q_104 (show m_takeI _ _ = some (_, [_, _, _, _, _], [_]) from m_takeI_of rfl rfl rfl (Nat.le_of_ble_eq_true rfl)) (by simp only [m_okf, List.all_cons, List.all_nil, Bool.and_true, Bool.and_self, m_okv_i, m_okv_l, m_okv_0, m_okv_n0, m_okv_t, RT.okn h104 (okm hx0 k104), RT.okv h104 (okm hx0 k104), RT.okn h104 o104, RT.okv h104 o104]) rfl) (T_c_Message_init o104 h104 e109) f104 rfl (fun w111 h111 f111 k111 => ?_) (by decide) (by decide)
        refine m_Rb.n0 b_150 (x_astore d_150_120 rfl (show m_put1 _ _ _ = [(5, _), (0, _), (1, _), (2, _), (4, _)] from rfl)) ?_
        refine m_Rb.n0 b_150 (x_aload d_150_122 rfl) ?_
        refine m_Rb.n0 b_150 (x_iload_n d_150_124 rfl) ?_
        obtain ⟨T112, e113, j114⟩ := bS j110
        refine m_Rb.tputI b_150 d_150_125 rfl rfl (by decide) h111 f111 e113 (fun w115 h115 f115 k115 => ?_)
        refine m_Rb.n0 b_150 (x_aload d_150_128 rfl) ?_
        refine m_Rb.n0 b_150 (x_iload_n d_150_130 rfl) ?_
        obtain ⟨T116, e117, j118⟩ := bS j114
        refine m_Rb.tputI b_150 d_150_131 rfl rfl (by decide) h115 f115 e117 (fun w119 h119 f119 k119 => ?_)
        refine m_Rb.n0 b_150 (x_aload_n d_150_134 rfl) ?_
        refine m_Rb.n0 b_150 (x_aload d_150_135 rfl) ?_
        obtain ⟨_, e120, j121⟩ := bS j118
        obtain ⟨_, g122⟩ := RT.cls h119 e120
        obtain ⟨T123, e124, j125⟩ := bS j121
        refine m_Rb.callV b_150 (y_cv d_150_137 rfl q_105 (m_isRecv_of rfl g122) (show m_takeI _ _ = some (_, [_, _], []) from m_takeI_of rfl rfl rfl (Nat.le_of_ble_eq_true rfl)) (by simp only [m_okf, List.all_cons, List.all_nil, Bool.and_true, Bool.and_self, m_okv_i, m_okv_l, m_okv_0, m_okv_n0, m_okv_t, RT.okn h119 (okm (okm (okm o104 k111) k115) k119), RT.okv h119 (okm (okm (okm o104 k111) k115) k119), RT.okn h119 (okm (okm (okm (okm hx0 k104) k111) k115) k119), RT.okv h119 (okm (okm (okm (okm hx0 k104) k111) k115) k119)]) rfl) (T_c_EdgeHouse_send (okm (okm (okm (okm hx0 k104) k111) k115) k119) (okm (okm (okm o104 k111) k115) k119) h119 e124) f119 rfl (fun w126 h126 f126 k126 => ?_) (by decide) (by decide)
        exact m_Rb.pick [1, 2, 3, 4] rfl (T_c_EdgeHouse_purge_140 ih (okm (okm (okm (okm (okm hx0 k104) k111) k115) k119) k126) h126 f126 j125)
def D_c_EdgeHouse_purge (F : Nat) (a0 : Nat) (p0 : Int32) (p1 : Int32) (T : tT) : Option (Int32 × tT) := (cond (m_c1 .ne p0) (cond (m_c2 .ne p0 (1 : Int32)) (some (0 : Int32)) (cond (m_c1 .lt p1) (some (0 : Int32)) (cond (m_c2 .ge p1 (8 : Int32)) (some (0 : Int32)) (some (1 : Int32))))) ((D_c_EdgeHouse_isPath F p1 T).bind fun v11 => cond (m_c1 .ne v11) (some (1 : Int32)) (cond (m_c2 .ne p0 (1 : Int32)) (some (0 : Int32)) (cond (m_c1 .lt p1) (some (0 : Int32)) (cond (m_c2 .ge p1 (8 : Int32)) (some (0 : Int32)) (some (1 : Int32))))))).bind fun v23 => cond (m_c1 .eq v23) (some (((-1) : Int32), T)) ((tgi T a0 0 13).bind fun v28 => cond (m_c2 .lt v28 (60 : Int32)) ((tgi T a0 0 13).bind fun v33 => (tpi T a0 0 13 (v33 + (1 : Int32))).bind fun T36 => (tpi T36 a0 0 12 (0 : Int32)).bind fun T40 => (tgr T40 a0 0 5).bind fun v44 => (tgi T40 a0 0 13).bind fun v48 => (v44).bind fun a51 => (tasi T40 a51 v48 p0).bind fun T54 => (tgr T54 a0 0 6).bind fun v58 => (tgi T54 a0 0 13).bind fun v62 => (v58).bind fun a65 => (tasi T54 a65 v62 p1).bind fun T68 => D_c_EdgeHouse_purge_85 F F a0 p0 p1 (1 : Int32) T68) (some (((-1) : Int32), T)))
theorem T_c_EdgeHouse_purge {l : Launch} {w : List mM} {F : Nat} {a0 : Nat} {p0 : Int32} {p1 : Int32} {T : tT} {yz : Int32} {Tz : tT} (ha0 : okr T.2.1 (some a0)) (h : RT T w) (h0 : D_c_EdgeHouse_purge F a0 p0 p1 T = some (yz, Tz)) : m_Rb l M_150 (m_ent M_150 [.ref a0, .int p0, .int p1] w) (fun v w' => v = some (.int yz) ∧ RT Tz w' ∧ m_Fm w w') T Tz 14 1400 := by
  rw [show m_ent M_150 [.ref a0, .int p0, .int p1] w = (0, [(0, .ref a0), (1, .int p0), (2, .int p1)], [], w) from by first | rfl | (simp only [m_ent, lv_args_r, lv_args_a, lv_args_i, lv_args_l, lv_args_0]; done) | (simp only [m_ent, lv_args_r, lv_args_a, lv_args_i, lv_args_l, lv_args_0]; rfl)]
  generalize hw0 : w = w0 at h ⊢
  have hF : m_Fm w0 w0 := m_Fm.refl
  rw [D_c_EdgeHouse_purge] at h0
  refine m_Rb.n0 b_150 (x_iload_n d_150_0 rfl) ?_
  obtain ⟨v23, e2, j24⟩ := bS h0
  have kk1 : ∀ (xz : Int32) (w1 : List mM), xz = v23 → RT T w1 → m_Fm w0 w1 → m_Rb l M_150 (31, [(0, .ref a0), (1, .int p0), (2, .int p1)], [.int xz], w1) (fun v w' => v = some (.int yz) ∧ RT Tz w' ∧ m_Fm w0 w') T Tz 14 1400 := by
    intro xz w25 ez h25 f25
    rw [ez]
    refine m_Rb.n0 b_150 (x_istore_n d_150_31 rfl (show m_put1 _ _ _ = [(3, _), (0, _), (1, _), (2, _)] from rfl)) ?_
    refine m_Rb.n0 b_150 (x_iload_n d_150_32 rfl) ?_
    cases hc26 : m_c1 .eq v23 with
    | true =>
      have j27 := cT hc26 j24
      refine m_Rb.n0 b_150 (x_ift d_150_33 rfl hc26) ?_
      refine m_Rb.n0 b_150 (x_iconst (z := (-1)) d_150_45 (by decide)) ?_
      cases j27
      exact m_Rb.ret b_150 (m_rt_ir d_150_46 rfl rfl) ⟨rfl, h25, f25⟩
    | false =>
      have j27 := cF hc26 j24
      refine m_Rb.n0 b_150 (x_iff d_150_33 rfl hc26) ?_
      refine m_Rb.n0 b_150 (x_aload_n d_150_36 rfl) ?_
      obtain ⟨v28, e29, j30⟩ := bS j27
      refine m_Rb.tgetI b_150 d_150_37 rfl h25 e29 ?_
      refine m_Rb.n0 b_150 (x_bipush (z := 60) d_150_40 (by decide)) ?_
      cases hc31 : m_c2 .lt v28 (60 : Int32) with
      | true =>
        have j32 := cT hc31 j30
        refine m_Rb.n0 b_150 (x_ict d_150_42 rfl hc31) ?_
        refine m_Rb.n0 b_150 (x_aload_n d_150_47 rfl) ?_
        refine m_Rb.n0 b_150 (x_dup d_150_48 rfl) ?_
        obtain ⟨v33, e34, j35⟩ := bS j32
        refine m_Rb.tgetI b_150 d_150_49 rfl h25 e34 ?_
        refine m_Rb.n0 b_150 (x_iconst (z := 1) d_150_52 (by decide)) ?_
        refine m_Rb.n0 b_150 (x_iadd d_150_53 rfl) ?_
        obtain ⟨T36, e37, j38⟩ := bS j35
        refine m_Rb.tputI b_150 d_150_54 rfl rfl (by decide) h25 f25 e37 (fun w39 h39 f39 k39 => ?_)
        refine m_Rb.n0 b_150 (x_aload_n d_150_57 rfl) ?_
        refine m_Rb.n0 b_150 (x_iconst (z := 0) d_150_58 (by decide)) ?_
        obtain ⟨T40, e41, j42⟩ := bS j38
        refine m_Rb.tputI b_150 d_150_59 rfl rfl (by decide) h39 f39 e41 (fun w43 h43 f43 k43 => ?_)
        refine m_Rb.n0 b_150 (x_aload_n d_150_62 rfl) ?_
        obtain ⟨v44, e45, j46⟩ := bS j42
        refine m_Rb.tgetR b_150 d_150_63 rfl h43 e45 (fun o47 => ?_)
        refine m_Rb.n0 b_150 (x_aload_n d_150_66 rfl) ?_
        obtain ⟨v48, e49, j50⟩ := bS j46
        refine m_Rb.tgetI b_150 d_150_67 rfl h43 e49 ?_
        refine m_Rb.n0 b_150 (x_iload_n d_150_70 rfl) ?_
        obtain ⟨a51, e52, j53⟩ := bS j50
        subst e52
        obtain ⟨T54, e55, j56⟩ := bS j53
        refine m_Rb.tputAI b_150 d_150_71 h43 f43 e55 (fun w57 h57 f57 k57 => ?_)
        refine m_Rb.n0 b_150 (x_aload_n d_150_72 rfl) ?_
        obtain ⟨v58, e59, j60⟩ := bS j56
        refine m_Rb.tgetR b_150 d_150_73 rfl h57 e59 (fun o61 => ?_)
        refine m_Rb.n0 b_150 (x_aload_n d_150_76 rfl) ?_
        obtain ⟨v62, e63, j64⟩ := bS j60
        refine m_Rb.tgetI b_150 d_150_77 rfl h57 e63 ?_
        refine m_Rb.n0 b_150 (x_iload_n d_150_80 rfl) ?_
        obtain ⟨a65, e66, j67⟩ := bS j64
        subst e66
        obtain ⟨T68, e69, j70⟩ := bS j67
        refine m_Rb.tputAI b_150 d_150_81 h57 f57 e69 (fun w71 h71 f71 k71 => ?_)
        refine m_Rb.n0 b_150 (x_iconst (z := 1) d_150_82 (by decide)) ?_
        refine m_Rb.n0 b_150 (x_istore d_150_83 rfl (show m_put1 _ _ _ = [(4, _), (3, _), (0, _), (1, _), (2, _)] from rfl)) ?_
        exact m_Rb.pick [2, 3, 4, 0] rfl (T_c_EdgeHouse_purge_85 F (okm (okm (okm (okm ha0 k39) k43) k57) k71) h71 f71 j70)
      | false =>
        have j32 := cF hc31 j30
        refine m_Rb.n0 b_150 (x_icf d_150_42 rfl hc31) ?_
        refine m_Rb.n0 b_150 (x_iconst (z := (-1)) d_150_45 (by decide)) ?_
        cases j32
        exact m_Rb.ret b_150 (m_rt_ir d_150_46 rfl rfl) ⟨rfl, h25, f25⟩
  cases hc3 : m_c1 .ne p0 with
  | true =>
    have j4 := cT hc3 e2
    refine m_Rb.n0 b_150 (x_ift d_150_1 rfl hc3) ?_
    refine m_Rb.n0 b_150 (x_iload_n d_150_11 rfl) ?_
    refine m_Rb.n0 b_150 (x_iconst (z := 1) d_150_12 (by decide)) ?_
    cases hc5 : m_c2 .ne p0 (1 : Int32) with
    | true =>
      have j6 := cT hc5 j4
      refine m_Rb.n0 b_150 (x_ict d_150_13 rfl hc5) ?_
      refine m_Rb.n0 b_150 (x_iconst (z := 0) d_150_30 (by decide)) ?_
      exact kk1 _ _ (Option.some.inj j6) h hF
    | false =>
      have j6 := cF hc5 j4
      refine m_Rb.n0 b_150 (x_icf d_150_13 rfl hc5) ?_
      refine m_Rb.n0 b_150 (x_iload_n d_150_16 rfl) ?_
      cases hc7 : m_c1 .lt p1 with
      | true =>
        have j8 := cT hc7 j6
        refine m_Rb.n0 b_150 (x_ift d_150_17 rfl hc7) ?_
        refine m_Rb.n0 b_150 (x_iconst (z := 0) d_150_30 (by decide)) ?_
        exact kk1 _ _ (Option.some.inj j8) h hF
      | false =>
        have j8 := cF hc7 j6
        refine m_Rb.n0 b_150 (x_iff d_150_17 rfl hc7) ?_
        refine m_Rb.n0 b_150 (x_iload_n d_150_20 rfl) ?_
        refine m_Rb.n0 b_150 (x_bipush (z := 8) d_150_21 (by decide)) ?_
        cases hc9 : m_c2 .ge p1 (8 : Int32) with
        | true =>
          have j10 := cT hc9 j8
          refine m_Rb.n0 b_150 (x_ict d_150_23 rfl hc9) ?_
          refine m_Rb.n0 b_150 (x_iconst (z := 0) d_150_30 (by decide)) ?_
          exact kk1 _ _ (Option.some.inj j10) h hF
        | false =>
          have j10 := cF hc9 j8
          refine m_Rb.n0 b_150 (x_icf d_150_23 rfl hc9) ?_
          refine m_Rb.n0 b_150 (x_iconst (z := 1) d_150_26 (by decide)) ?_
          refine m_Rb.n0 b_150 (x_goto d_150_27 rfl) ?_
          exact kk1 _ _ (Option.some.inj j10) h hF
  | false =>
    have j4 := cF hc3 e2
    refine m_Rb.n0 b_150 (x_iff d_150_1 rfl hc3) ?_
    refine m_Rb.n0 b_150 (x_iload_n d_150_4 rfl) ?_
    obtain ⟨v11, e12, j13⟩ := bS j4
    refine m_Rb.callI b_150 (y_cs d_150_5 rfl q_15 (show m_takeS _ _ = some (_, [_], []) from m_takeS_of (Nat.le_of_ble_eq_true rfl) rfl rfl (Nat.le_of_ble_eq_true rfl)) (by simp only [m_okf, List.all_cons, List.all_nil, Bool.and_true, Bool.and_self, m_okv_i, m_okv_l, m_okv_0, m_okv_n0, m_okv_t, RT.okn h ha0, RT.okv h ha0]) rfl) (T_c_EdgeHouse_isPath h e12) hF rfl (fun w14 h14 f14 k14 => ?_) (by decide) (by decide)
    cases hc15 : m_c1 .ne v11 with
    | true =>
      have j16 := cT hc15 j13
      refine m_Rb.n0 b_150 (x_ift d_150_8 rfl hc15) ?_
      refine m_Rb.n0 b_150 (x_iconst (z := 1) d_150_26 (by decide)) ?_
      refine m_Rb.n0 b_150 (x_goto d_150_27 rfl) ?_
      exact kk1 _ _ (Option.some.inj j16) h14 f14
    | false =>
      have j16 := cF hc15 j13
      refine m_Rb.n0 b_150 (x_iff d_150_8 rfl hc15) ?_
      refine m_Rb.n0 b_150 (x_iload_n d_150_11 rfl) ?_
      refine m_Rb.n0 b_150 (x_iconst (z := 1) d_150_12 (by decide)) ?_
      cases hc17 : m_c2 .ne p0 (1 : Int32) with
      | true =>
        have j18 := cT hc17 j16
        refine m_Rb.n0 b_150 (x_ict d_150_13 rfl hc17) ?_
        refine m_Rb.n0 b_150 (x_iconst (z := 0) d_150_30 (by decide)) ?_
        exact kk1 _ _ (Option.some.inj j18) h14 f14
      | false =>
        have j18 := cF hc17 j16
        refine m_Rb.n0 b_150 (x_icf d_150_13 rfl hc17) ?_
        refine m_Rb.n0 b_150 (x_iload_n d_150_16 rfl) ?_
        cases hc19 : m_c1 .lt p1 with
        | true =>
          have j20 := cT hc19 j18
          refine m_Rb.n0 b_150 (x_ift d_150_17 rfl hc19) ?_
          refine m_Rb.n0 b_150 (x_iconst (z := 0) d_150_30 (by decide)) ?_
          exact kk1 _ _ (Option.some.inj j20) h14 f14
        | false =>
          have j20 := cF hc19 j18
          refine m_Rb.n0 b_150 (x_iff d_150_17 rfl hc19) ?_
          refine m_Rb.n0 b_150 (x_iload_n d_150_20 rfl) ?_
          refine m_Rb.n0 b_150 (x_bipush (z := 8) d_150_21 (by decide)) ?_
          cases hc21 : m_c2 .ge p1 (8 : Int32) with
          | true =>
            have j22 := cT hc21 j20
            refine m_Rb.n0 b_150 (x_ict d_150_23 rfl hc21) ?_
            refine m_Rb.n0 b_150 (x_iconst (z := 0) d_150_30 (by decide)) ?_
            exact kk1 _ _ (Option.some.inj j22) h14 f14
          | false =>
            have j22 := cF hc21 j20
            refine m_Rb.n0 b_150 (x_icf d_150_23 rfl hc21) ?_
            refine m_Rb.n0 b_150 (x_iconst (z := 1) d_150_26 (by decide)) ?_
            refine m_Rb.n0 b_150 (x_goto d_150_27 rfl) ?_
            exact kk1 _ _ (Option.some.inj j22) h14 f14
def D_c_Store_clear (F : Nat) (a0 : Nat) (T : tT) : Option (tT) := (tgr T a0 5 0).bind fun v1 => (v1).bind fun a5 => (tlc T a5).bind fun T8 => (tgr T8 a0 5 1).bind fun v12 => (v12).bind fun a16 => (tlc T8 a16).bind fun T19 => some T19
theorem T_c_Store_clear {l : Launch} {w : List mM} {F : Nat} {a0 : Nat} {T : tT} {Tz : tT} (ha0 : okr T.2.1 (some a0)) (h : RT T w) (h0 : D_c_Store_clear F a0 T = some Tz) : m_Rb l M_153 (m_ent M_153 [.ref a0] w) (fun v w' => v = none ∧ RT Tz w' ∧ m_Fm w w') T Tz 2 200 := by
  rw [show m_ent M_153 [.ref a0] w = (0, [(0, .ref a0)], [], w) from by first | rfl | (simp only [m_ent, lv_args_r, lv_args_a, lv_args_i, lv_args_l, lv_args_0]; done) | (simp only [m_ent, lv_args_r, lv_args_a, lv_args_i, lv_args_l, lv_args_0]; rfl)]
  generalize hw0 : w = w0 at h ⊢
  have hF : m_Fm w0 w0 := m_Fm.refl
  rw [D_c_Store_clear] at h0
  refine m_Rb.n0 b_153 (x_aload_n d_153_0 rfl) ?_
  obtain ⟨v1, e2, j3⟩ := bS h0
  refine m_Rb.tgetR b_153 d_153_1 rfl h e2 (fun o4 => ?_)
  obtain ⟨a5, e6, j7⟩ := bS j3
  subst e6
  obtain ⟨T8, e9, j10⟩ := bS j7
  refine m_Rb.tlclear b_153 d_153_4 rfl (by simp only [m_okf, List.all_cons, List.all_nil, Bool.and_true, Bool.and_self, m_okv_i, m_okv_l, m_okv_0, m_okv_n0, m_okv_t, RT.okn h ha0, RT.okv h ha0, RT.okn h o4, RT.okv h o4]) (Nat.le_of_ble_eq_true rfl) h hF e9 (fun w11 h11 f11 k11 => ?_) (by decide) (by decide)
  refine m_Rb.n0 b_153 (x_aload_n d_153_7 rfl) ?_
  obtain ⟨v12, e13, j14⟩ := bS j10
  refine m_Rb.tgetR b_153 d_153_8 rfl h11 e13 (fun o15 => ?_)
  obtain ⟨a16, e17, j18⟩ := bS j14
  subst e17
  obtain ⟨T19, e20, j21⟩ := bS j18
  refine m_Rb.tlclear b_153 d_153_11 rfl (by simp only [m_okf, List.all_cons, List.all_nil, Bool.and_true, Bool.and_self, m_okv_i, m_okv_l, m_okv_0, m_okv_n0, m_okv_t, RT.okn h11 (okm ha0 k11), RT.okv h11 (okm ha0 k11), RT.okn h11 o15, RT.okv h11 o15]) (Nat.le_of_ble_eq_true rfl) h11 f11 e20 (fun w22 h22 f22 k22 => ?_) (by decide) (by decide)
  cases j21
  exact m_Rb.ret b_153 (m_rt_vr d_153_14 rfl) ⟨rfl, h22, f22⟩
def D_c_Node_goDown_50 (F : Nat) : Nat → Nat → Int32 → tT → Option (tT)
  | 0, _, _, _ => none
  | n + 1, x0, x1, T => cond (m_c2 .gt x1 (2 : Int32)) (some T) ((tcl T x0 4).bind fun _ => (D_c_Node_trust F x0 x1 T).bind fun T62 => D_c_Node_goDown_50 F n x0 (x1 + Int32.ofInt 1) T62)
theorem T_c_Node_goDown_50 {l : Launch} {w0 : List mM} {F : Nat} : ∀ (n : Nat) {x0 : Nat} {x1 : Int32} {T : tT} {w : List mM} {Tz : tT}, okr T.2.1 (some x0) → RT T w → m_Fm w0 w → D_c_Node_goDown_50 F n x0 x1 T = some Tz → m_Rb l M_152 (50, [(0, .ref x0), (1, .int x1)], [], w) (fun v w' => v = none ∧ RT Tz w' ∧ m_Fm w0 w') T Tz 3 300 := by
  intro n
  induction n with
  | zero => intro x0 x1 T w Tz hx0 h hF h0; cases h0
  | succ n ih =>
    intro x0 x1 T w Tz hx0 h hF h0
    rw [D_c_Node_goDown_50] at h0
    refine m_Rb.n0 b_152 (x_iload_n d_152_50 rfl) ?_
    refine m_Rb.n0 b_152 (x_iconst (z := 2) d_152_51 (by decide)) ?_
    cases hc57 : m_c2 .gt x1 (2 : Int32) with
    | true =>
      have j58 := cT hc57 h0
      refine m_Rb.n0 b_152 (x_ict d_152_52 rfl hc57) ?_
      cases j58
      exact m_Rb.ret b_152 (m_rt_vr d_152_66 rfl) ⟨rfl, h, hF⟩
    | false =>
      have j58 := cF hc57 h0
      refine m_Rb.n0 b_152 (x_icf d_152_52 rfl hc57) ?_
      refine m_Rb.n0 b_152 (x_aload_n d_152_55 rfl) ?_
      refine m_Rb.n0 b_152 (x_iload_n d_152_56 rfl) ?_
      obtain ⟨_, e59, j60⟩ := bS j58
      obtain ⟨_, g61⟩ := RT.cls h e59
      obtain ⟨T62, e63, j64⟩ := bS j60
      refine m_Rb.callV b_152 (y_cv d_152_57 rfl q_139 (m_isRecv_of rfl g61) (show m_takeI _ _ = some (_, [_, _], []) from m_takeI_of rfl rfl rfl (Nat.le_of_ble_eq_true rfl)) (by simp only [m_okf, List.all_cons, List.all_nil, Bool.and_true, Bool.and_self, m_okv_i, m_okv_l, m_okv_0, m_okv_n0, m_okv_t, RT.okn h hx0, RT.okv h hx0]) rfl) (T_c_Node_trust hx0 h e63) hF rfl (fun w65 h65 f65 k65 => ?_) (by decide) (by decide)
      refine m_Rb.n0 b_152 (x_iinc d_152_60 rfl rfl rfl (show m_put1 _ _ _ = [(1, _), (0, _)] from rfl)) ?_
      refine m_Rb.n0 b_152 (x_goto d_152_63 rfl) ?_
      exact m_Rb.pick [1, 0] rfl (ih (okm hx0 k65) h65 f65 j64)
def D_c_Node_goDown_26 (F : Nat) : Nat → Nat → Int32 → tT → Option (tT)
  | 0, _, _, _ => none
  | n + 1, x0, x1, T => (tgr T x0 4 3).bind fun v34 => (v34).bind fun a38 => (tal T a38).bind fun v41 => cond (m_c2 .ge x1 v41) (D_c_Node_goDown_50 F F x0 (1 : Int32) T) ((tgr T x0 4 3).bind fun v46 => (v46).bind fun a50 => (tasz T a50 x1 (0 : Int32)).bind fun T53 => D_c_Node_goDown_26 F n x0 (x1 + Int32.ofInt 1) T53)
theorem T_c_Node_goDown_26 {l : Launch} {w0 : List mM} {F : Nat} : ∀ (n : Nat) {x0 : Nat} {x1 : Int32} {T : tT} {w : List mM} {Tz : tT}, okr T.2.1 (some x0) → RT T w → m_Fm w0 w → D_c_Node_goDown_26 F n x0 x1 T = some Tz → m_Rb l M_152 (26, [(0, .ref x0), (1, .int x1)], [], w) (fun v w' => v = none ∧ RT Tz w' ∧ m_Fm w0 w') T Tz 3 300 := by
  intro n
  induction n with
  | zero => intro x0 x1 T w Tz hx0 h hF h0; cases h0
  | succ n ih =>
    intro x0 x1 T w Tz hx0 h hF h0
    rw [D_c_Node_goDown_26] at h0
    refine m_Rb.n0 b_152 (x_iload_n d_152_26 rfl) ?_
    refine m_Rb.n0 b_152 (x_aload_n d_152_27 rfl) ?_
    obtain ⟨v34, e35, j36⟩ := bS h0
    refine m_Rb.tgetR b_152 d_152_28 rfl h e35 (fun o37 => ?_)
    obtain ⟨a38, e39, j40⟩ := bS j36
    subst e39
    obtain ⟨v41, e42, j43⟩ := bS j40
    refine m_Rb.talen b_152 d_152_31 h e42 ?_
    cases hc44 : m_c2 .ge x1 v41 with
    | true =>
      have j45 := cT hc44 j43
      refine m_Rb.n0 b_152 (x_ict d_152_32 rfl hc44) ?_
      refine m_Rb.n0 b_152 (x_iconst (z := 1) d_152_48 (by decide)) ?_
      refine m_Rb.n0 b_152 (x_istore_n d_152_49 rfl (show m_put1 _ _ _ = [(1, _), (0, _)] from rfl)) ?_
      exact m_Rb.pick [1, 0] rfl (T_c_Node_goDown_50 F hx0 h hF j45)
    | false =>
      have j45 := cF hc44 j43
      refine m_Rb.n0 b_152 (x_icf d_152_32 rfl hc44) ?_
      refine m_Rb.n0 b_152 (x_aload_n d_152_35 rfl) ?_
      obtain ⟨v46, e47, j48⟩ := bS j45
      refine m_Rb.tgetR b_152 d_152_36 rfl h e47 (fun o49 => ?_)
      refine m_Rb.n0 b_152 (x_iload_n d_152_39 rfl) ?_
      refine m_Rb.n0 b_152 (x_iconst (z := 0) d_152_40 (by decide)) ?_
      obtain ⟨a50, e51, j52⟩ := bS j48
      subst e51
      obtain ⟨T53, e54, j55⟩ := bS j52
      refine m_Rb.tputAZ b_152 d_152_41 h hF e54 (fun w56 h56 f56 k56 => ?_)
      refine m_Rb.n0 b_152 (x_iinc d_152_42 rfl rfl rfl (show m_put1 _ _ _ = [(1, _), (0, _)] from rfl)) ?_
      refine m_Rb.n0 b_152 (x_goto d_152_45 rfl) ?_
      exact m_Rb.pick [1, 0] rfl (ih (okm hx0 k56) h56 f56 j55)
def D_c_Node_goDown (F : Nat) (a0 : Nat) (T : tT) : Option (tT) := (tpz T a0 4 6 (0 : Int32)).bind fun T1 => (tpi T1 a0 4 7 (0 : Int32)).bind fun T5 => (tgr T5 a0 4 1).bind fun v9 => (v9).bind fun a13 => (tcl T5 a13 5).bind fun _ => (D_c_Store_clear F a13 T5).bind fun T19 => (tgr T19 a0 4 2).bind fun v23 => (v23).bind fun a27 => (tlc T19 a27).bind fun T30 => D_c_Node_goDown_26 F F a0 (0 : Int32) T30
theorem T_c_Node_goDown {l : Launch} {w : List mM} {F : Nat} {a0 : Nat} {T : tT} {Tz : tT} (ha0 : okr T.2.1 (some a0)) (h : RT T w) (h0 : D_c_Node_goDown F a0 T = some Tz) : m_Rb l M_152 (m_ent M_152 [.ref a0] w) (fun v w' => v = none ∧ RT Tz w' ∧ m_Fm w w') T Tz 3 300 := by
  rw [show m_ent M_152 [.ref a0] w = (0, [(0, .ref a0)], [], w) from by first | rfl | (simp only [m_ent, lv_args_r, lv_args_a, lv_args_i, lv_args_l, lv_args_0]; done) | (simp only [m_ent, lv_args_r, lv_args_a, lv_args_i, lv_args_l, lv_args_0]; rfl)]
  generalize hw0 : w = w0 at h ⊢
  have hF : m_Fm w0 w0 := m_Fm.refl
  rw [D_c_Node_goDown] at h0
  refine m_Rb.n0 b_152 (x_aload_n d_152_0 rfl) ?_
  refine m_Rb.n0 b_152 (x_iconst (z := 0) d_152_1 (by decide)) ?_
  obtain ⟨T1, e2, j3⟩ := bS h0
  refine m_Rb.tputZ b_152 d_152_2 rfl rfl (by decide) h hF e2 (fun w4 h4 f4 k4 => ?_)
  refine m_Rb.n0 b_152 (x_aload_n d_152_5 rfl) ?_
  refine m_Rb.n0 b_152 (x_iconst (z := 0) d_152_6 (by decide)) ?_
  obtain ⟨T5, e6, j7⟩ := bS j3
  refine m_Rb.tputI b_152 d_152_7 rfl rfl (by decide) h4 f4 e6 (fun w8 h8 f8 k8 => ?_)
  refine m_Rb.n0 b_152 (x_aload_n d_152_10 rfl) ?_
  obtain ⟨v9, e10, j11⟩ := bS j7
  refine m_Rb.tgetR b_152 d_152_11 rfl h8 e10 (fun o12 => ?_)
  obtain ⟨a13, e14, j15⟩ := bS j11
  subst e14
  obtain ⟨_, e16, j17⟩ := bS j15
  obtain ⟨_, g18⟩ := RT.cls h8 e16
  obtain ⟨T19, e20, j21⟩ := bS j17
  refine m_Rb.callV b_152 (y_cv d_152_14 rfl q_153 (m_isRecv_of rfl g18) (show m_takeI _ _ = some (_, [_], []) from m_takeI_of rfl rfl rfl (Nat.le_of_ble_eq_true rfl)) (by simp only [m_okf, List.all_cons, List.all_nil, Bool.and_true, Bool.and_self, m_okv_i, m_okv_l, m_okv_0, m_okv_n0, m_okv_t, RT.okn h8 (okm (okm ha0 k4) k8), RT.okv h8 (okm (okm ha0 k4) k8), RT.okn h8 o12, RT.okv h8 o12]) rfl) (T_c_Store_clear o12 h8 e20) f8 rfl (fun w22 h22 f22 k22 => ?_) (by decide) (by decide)
  refine m_Rb.n0 b_152 (x_aload_n d_152_17 rfl) ?_
  obtain ⟨v23, e24, j25⟩ := bS j21
  refine m_Rb.tgetR b_152 d_152_18 rfl h22 e24 (fun o26 => ?_)
  obtain ⟨a27, e28, j29⟩ := bS j25
  subst e28
  obtain ⟨T30, e31, j32⟩ := bS j29
  refine m_Rb.tlclear b_152 d_152_21 rfl (by simp only [m_okf, List.all_cons, List.all_nil, Bool.and_true, Bool.and_self, m_okv_i, m_okv_l, m_okv_0, m_okv_n0, m_okv_t, RT.okn h22 (okm (okm (okm ha0 k4) k8) k22), RT.okv h22 (okm (okm (okm ha0 k4) k8) k22), RT.okn h22 o26, RT.okv h22 o26]) (Nat.le_of_ble_eq_true rfl) h22 f22 e31 (fun w33 h33 f33 k33 => ?_) (by decide) (by decide)
  refine m_Rb.n0 b_152 (x_iconst (z := 0) d_152_24 (by decide)) ?_
  refine m_Rb.n0 b_152 (x_istore_n d_152_25 rfl (show m_put1 _ _ _ = [(1, _), (0, _)] from rfl)) ?_
  exact m_Rb.pick [1, 0] rfl (T_c_Node_goDown_26 F (okm (okm (okm (okm ha0 k4) k8) k22) k33) h33 f33 j32)
def D_c_EdgeHouse_fail_79 (F : Nat) (rec33 : Nat → Int32 → Option Nat → Int32 → tT → Option (Int32 × tT)) (rec54 : Nat → Int32 → Option Nat → Int32 → Option Nat → tT → Option (Int32 × tT)) (x0 : Nat) (x1 : Int32) (x2 : Option Nat) (x3 : Int32) (x4 : Option Nat) (T : tT) : Option (Int32 × tT) := (x4).bind fun a102 => (tgr T a102 6 18).bind fun v105 => rec54 x0 x1 x2 x3 v105 T
theorem T_c_EdgeHouse_fail_79 {l : Launch} {w0 : List mM} {F : Nat} {rec33 : Nat → Int32 → Option Nat → Int32 → tT → Option (Int32 × tT)} {rec54 : Nat → Int32 → Option Nat → Int32 → Option Nat → tT → Option (Int32 × tT)} (hr33 : ∀ {x0 : Nat} {x1 : Int32} {x2 : Option Nat} {x3 : Int32} {T : tT} {w : List mM} {yz : Int32} {Tz : tT}, okr T.2.1 (some x0) → okr T.2.1 x2 → RT T w → m_Fm w0 w → rec33 x0 x1 x2 x3 T = some (yz, Tz) → m_Rb l M_151 (33, [(0, .ref x0), (1, .int x1), (2, rv x2), (3, .int x3)], [], w) (fun v w' => v = some (.int yz) ∧ RT Tz w' ∧ m_Fm w0 w') T Tz 4 400) (hr54 : ∀ {x0 : Nat} {x1 : Int32} {x2 : Option Nat} {x3 : Int32} {x4 : Option Nat} {T : tT} {w : List mM} {yz : Int32} {Tz : tT}, okr T.2.1 (some x0) → okr T.2.1 x2 → okr T.2.1 x4 → RT T w → m_Fm w0 w → rec54 x0 x1 x2 x3 x4 T = some (yz, Tz) → m_Rb l M_151 (54, [(0, .ref x0), (1, .int x1), (2, rv x2), (3, .int x3), (4, rv x4)], [], w) (fun v w' => v = some (.int yz) ∧ RT Tz w' ∧ m_Fm w0 w') T Tz 4 400) {x0 : Nat} {x1 : Int32} {x2 : Option Nat} {x3 : Int32} {x4 : Option Nat} {T : tT} {w : List mM} {yz : Int32} {Tz : tT} (hx0 : okr T.2.1 (some x0)) (hx2 : okr T.2.1 x2) (hx4 : okr T.2.1 x4) (h : RT T w) (hF : m_Fm w0 w) (h0 : D_c_EdgeHouse_fail_79 F rec33 rec54 x0 x1 x2 x3 x4 T = some (yz, Tz)) : m_Rb l M_151 (79, [(0, .ref x0), (1, .int x1), (2, rv x2), (3, .int x3), (4, rv x4)], [], w) (fun v w' => v = some (.int yz) ∧ RT Tz w' ∧ m_Fm w0 w') T Tz 4 400 := by
  rw [D_c_EdgeHouse_fail_79] at h0
  refine m_Rb.n0 b_151 (x_aloadr (x := x4) d_151_79 rfl) ?_
  obtain ⟨a102, e103, j104⟩ := bS h0
  subst e103
  obtain ⟨v105, e106, j107⟩ := bS j104
  refine m_Rb.tgetR b_151 d_151_81 rfl h e106 (fun o108 => ?_)
  refine m_Rb.n0 b_151 (x_astorer (x := v105) d_151_84 rfl (show m_put1 _ _ _ = [(4, _), (0, _), (1, _), (2, _), (3, _)] from rfl)) ?_
  refine m_Rb.n0 b_151 (x_goto d_151_86 rfl) ?_
  exact m_Rb.pick [1, 2, 3, 4, 0] rfl (hr54 hx0 hx2 o108 h hF j107)
def D_c_EdgeHouse_fail_54 (F : Nat) (rec33 : Nat → Int32 → Option Nat → Int32 → tT → Option (Int32 × tT)) : Nat → Nat → Int32 → Option Nat → Int32 → Option Nat → tT → Option (Int32 × tT)
  | 0, _, _, _, _, _, _ => none
  | n + 1, x0, x1, x2, x3, x4, T => nc x4 (rec33 x0 x1 x2 (x3 + Int32.ofInt 1) T) fun a83 => ((tgr T a83 6 14).bind fun v85 => nc v85 (D_c_EdgeHouse_fail_79 F rec33 (D_c_EdgeHouse_fail_54 F rec33 n) x0 x1 x2 x3 (some a83) T) fun a89 => ((tgr T a83 6 14).bind fun v91 => (tcl T x0 0).bind fun _ => (D_c_EdgeHouse_close F x0 v91 (502 : Int32) T).bind fun T98 => D_c_EdgeHouse_fail_79 F rec33 (D_c_EdgeHouse_fail_54 F rec33 n) x0 x1 x2 x3 (some a83) T98))
theorem T_c_EdgeHouse_fail_54 {l : Launch} {w0 : List mM} {F : Nat} {rec33 : Nat → Int32 → Option Nat → Int32 → tT → Option (Int32 × tT)} (hr33 : ∀ {x0 : Nat} {x1 : Int32} {x2 : Option Nat} {x3 : Int32} {T : tT} {w : List mM} {yz : Int32} {Tz : tT}, okr T.2.1 (some x0) → okr T.2.1 x2 → RT T w → m_Fm w0 w → rec33 x0 x1 x2 x3 T = some (yz, Tz) → m_Rb l M_151 (33, [(0, .ref x0), (1, .int x1), (2, rv x2), (3, .int x3)], [], w) (fun v w' => v = some (.int yz) ∧ RT Tz w' ∧ m_Fm w0 w') T Tz 4 400) : ∀ (n : Nat) {x0 : Nat} {x1 : Int32} {x2 : Option Nat} {x3 : Int32} {x4 : Option Nat} {T : tT} {w : List mM} {yz : Int32} {Tz : tT}, okr T.2.1 (some x0) → okr T.2.1 x2 → okr T.2.1 x4 → RT T w → m_Fm w0 w → D_c_EdgeHouse_fail_54 F rec33 n x0 x1 x2 x3 x4 T = some (yz, Tz) → m_Rb l M_151 (54, [(0, .ref x0), (1, .int x1), (2, rv x2), (3, .int x3), (4, rv x4)], [], w) (fun v w' => v = some (.int yz) ∧ RT Tz w' ∧ m_Fm w0 w') T Tz 4 400 := by
  intro n
  induction n with
  | zero => intro x0 x1 x2 x3 x4 T w yz Tz hx0 hx2 hx4 h hF h0; cases h0
  | succ n ih =>
    intro x0 x1 x2 x3 x4 T w yz Tz hx0 hx2 hx4 h hF h0
    rw [D_c_EdgeHouse_fail_54] at h0
    refine m_Rb.n0 b_151 (x_aloadr (x := x4) d_151_54 rfl) ?_
    cases x4 with
    | none =>
      have j84 := nN h0
      refine m_Rb.n0 b_151 (x_ifnull0 d_151_56 rfl) ?_
      refine m_Rb.n0 b_151 (x_iinc d_151_89 rfl rfl rfl (show m_put1 _ _ _ = [(3, _), (0, _), (1, _), (2, _), (4, _)] from (m_p1r (by simp only [List.all_cons, List.all_nil, cat_rv]; rfl)).trans rfl)) ?_
      refine m_Rb.n0 b_151 (x_goto d_151_92 rfl) ?_
      exact m_Rb.pick [1, 2, 3, 0] rfl (hr33 hx0 hx2 h hF j84)
    | some a83 =>
      have j84 := nS h0
      refine m_Rb.n0 b_151 (x_ifnull1 d_151_56 rfl) ?_
      refine m_Rb.n0 b_151 (x_aload d_151_59 rfl) ?_
      obtain ⟨v85, e86, j87⟩ := bS j84
      refine m_Rb.tgetR b_151 d_151_61 rfl h e86 (fun o88 => ?_)
      cases v85 with
      | none =>
        have j90 := nN j87
        refine m_Rb.n0 b_151 (x_ifnull0 d_151_64 rfl) ?_
        exact m_Rb.pick [0, 1, 2, 3, 4] rfl (T_c_EdgeHouse_fail_79 hr33 ih hx0 hx2 hx4 h hF j90)
      | some a89 =>
        have j90 := nS j87
        refine m_Rb.n0 b_151 (x_ifnull1 d_151_64 rfl) ?_
        refine m_Rb.n0 b_151 (x_aload_n d_151_67 rfl) ?_
        refine m_Rb.n0 b_151 (x_aload d_151_68 rfl) ?_
        obtain ⟨v91, e92, j93⟩ := bS j90
        refine m_Rb.tgetR b_151 d_151_70 rfl h e92 (fun o94 => ?_)
        refine m_Rb.n0 b_151 (x_sipush (z := 502) d_151_73 (by decide)) ?_
        obtain ⟨_, e95, j96⟩ := bS j93
        obtain ⟨_, g97⟩ := RT.cls h e95
        obtain ⟨T98, e99, j100⟩ := bS j96
        refine m_Rb.callV b_151 (y_cv d_151_76 rfl q_70 (m_isRecv_of rfl g97) (show m_takeI _ _ = some (_, [_, _, _], []) from m_takeI_of rfl rfl rfl (Nat.le_of_ble_eq_true rfl)) (by simp only [m_okf, List.all_cons, List.all_nil, Bool.and_true, Bool.and_self, m_okv_i, m_okv_l, m_okv_0, m_okv_n0, m_okv_t, RT.okn h hx0, RT.okv h hx0, RT.okv h hx2, RT.okn h hx4, RT.okv h hx4, RT.okv h o94]) (decide_eq_true (by simp only [lgs_r, lgs_a, lgs_i, lgs_l, lgs_0]; exact Nat.le_of_ble_eq_true rfl))) (T_c_EdgeHouse_close hx0 o94 h e99) hF rfl (fun w101 h101 f101 k101 => ?_) (by decide) (by decide)
        exact m_Rb.pick [0, 1, 2, 3, 4] rfl (T_c_EdgeHouse_fail_79 hr33 ih (okm hx0 k101) (okm hx2 k101) (okm hx4 k101) h101 f101 j100)
def D_c_EdgeHouse_fail_33 (F : Nat) : Nat → Nat → Int32 → Option Nat → Int32 → tT → Option (Int32 × tT)
  | 0, _, _, _, _, _ => none
  | n + 1, x0, x1, x2, x3, T => (x2).bind fun a44 => (tls T a44).bind fun v47 => cond (m_c2 .ge x3 v47) ((tgr T x0 0 3).bind fun v52 => (v52).bind fun a56 => (tar T a56 7 x1).bind fun v59 => (v59).bind fun a63 => (tcl T a63 4).bind fun _ => (D_c_Node_goDown F a63 T).bind fun T69 => some ((1 : Int32), T69)) ((tlg T a44 x3).bind fun b73 => (tcc T (some b73) 10).bind fun _ => (tgr T b73 10 12).bind fun v79 => D_c_EdgeHouse_fail_54 F (D_c_EdgeHouse_fail_33 F n) F x0 x1 (some a44) x3 v79 T)
theorem T_c_EdgeHouse_fail_33 {l : Launch} {w0 : List mM} {F : Nat} : ∀ (n : Nat) {x0 : Nat} {x1 : Int32} {x2 : Option Nat} {x3 : Int32} {T : tT} {w : List mM} {yz : Int32} {Tz : tT}, okr T.2.1 (some x0) → okr T.2.1 x2 → RT T w → m_Fm w0 w → D_c_EdgeHouse_fail_33 F n x0 x1 x2 x3 T = some (yz, Tz) → m_Rb l M_151 (33, [(0, .ref x0), (1, .int x1), (2, rv x2), (3, .int x3)], [], w) (fun v w' => v = some (.int yz) ∧ RT Tz w' ∧ m_Fm w0 w') T Tz 4 400 := by
  intro n
  induction n with
  | zero => intro x0 x1 x2 x3 T w yz Tz hx0 hx2 h hF h0; cases h0
  | succ n ih =>
    intro x0 x1 x2 x3 T w yz Tz hx0 hx2 h hF h0
    rw [D_c_EdgeHouse_fail_33] at h0
    refine m_Rb.n0 b_151 (x_iload_n d_151_33 rfl) ?_
    refine m_Rb.n0 b_151 (x_aloadr_n (x := x2) d_151_34 rfl) ?_
    obtain ⟨a44, e45, j46⟩ := bS h0
    subst e45
    obtain ⟨v47, e48, j49⟩ := bS j46
    refine m_Rb.tlsize b_151 d_151_35 rfl (by simp only [m_okf, List.all_cons, List.all_nil, Bool.and_true, Bool.and_self, m_okv_i, m_okv_l, m_okv_0, m_okv_n0, m_okv_t, RT.okn h hx0, RT.okv h hx0, RT.okn h hx2, RT.okv h hx2]) (Nat.le_of_ble_eq_true rfl) h e48 ?_ (by decide) (by decide)
    cases hc50 : m_c2 .ge x3 v47 with
    | true =>
      have j51 := cT hc50 j49
      refine m_Rb.n0 b_151 (x_ict d_151_38 rfl hc50) ?_
      refine m_Rb.n0 b_151 (x_aload_n d_151_95 rfl) ?_
      obtain ⟨v52, e53, j54⟩ := bS j51
      refine m_Rb.tgetR b_151 d_151_96 rfl h e53 (fun o55 => ?_)
      refine m_Rb.n0 b_151 (x_iload_n d_151_99 rfl) ?_
      obtain ⟨a56, e57, j58⟩ := bS j54
      subst e57
      obtain ⟨v59, e60, j61⟩ := bS j58
      refine m_Rb.tgetO (t := 7) b_151 d_151_100 rfl rfl h e60 (fun o62 => ?_)
      obtain ⟨a63, e64, j65⟩ := bS j61
      subst e64
      obtain ⟨_, e66, j67⟩ := bS j65
      obtain ⟨_, g68⟩ := RT.cls h e66
      obtain ⟨T69, e70, j71⟩ := bS j67
      refine m_Rb.callV b_151 (y_cv d_151_101 rfl q_152 (m_isRecv_of rfl g68) (show m_takeI _ _ = some (_, [_], []) from m_takeI_of rfl rfl rfl (Nat.le_of_ble_eq_true rfl)) (by simp only [m_okf, List.all_cons, List.all_nil, Bool.and_true, Bool.and_self, m_okv_i, m_okv_l, m_okv_0, m_okv_n0, m_okv_t, RT.okn h hx0, RT.okv h hx0, RT.okn h hx2, RT.okv h hx2, RT.okn h o62, RT.okv h o62]) rfl) (T_c_Node_goDown o62 h e70) hF rfl (fun w72 h72 f72 k72 => ?_) (by decide) (by decide)
      refine m_Rb.n0 b_151 (x_iconst (z := 1) d_151_104 (by decide)) ?_
      cases j71
      exact m_Rb.ret b_151 (m_rt_ir d_151_105 rfl m_nb1) ⟨rfl, h72, f72⟩
    | false =>
      have j51 := cF hc50 j49
      refine m_Rb.n0 b_151 (x_icf d_151_38 rfl hc50) ?_
      refine m_Rb.n0 b_151 (x_aload_n d_151_41 rfl) ?_
      refine m_Rb.n0 b_151 (x_iload_n d_151_42 rfl) ?_
      obtain ⟨b73, e74, j75⟩ := bS j51
      refine m_Rb.tlget b_151 d_151_43 rfl (by simp only [m_okf, List.all_cons, List.all_nil, Bool.and_true, Bool.and_self, m_okv_i, m_okv_l, m_okv_0, m_okv_n0, m_okv_t, RT.okn h hx0, RT.okv h hx0, RT.okn h hx2, RT.okv h hx2]) (Nat.le_of_ble_eq_true rfl) h e74 (fun o76 => ?_) (by decide) (by decide)
      obtain ⟨_, e77, j78⟩ := bS j75
      refine m_Rb.tcast (z := (some b73)) b_151 d_151_46 rfl h e77 ?_
      obtain ⟨v79, e80, j81⟩ := bS j78
      refine m_Rb.tgetR b_151 d_151_49 rfl h e80 (fun o82 => ?_)
      refine m_Rb.n0 b_151 (x_astorer (x := v79) d_151_52 rfl (show m_put1 _ _ _ = [(4, _), (0, _), (1, _), (2, _), (3, _)] from rfl)) ?_
      exact m_Rb.pick [1, 2, 3, 4, 0] rfl (T_c_EdgeHouse_fail_54 ih F hx0 hx2 o82 h hF j81)
def D_c_EdgeHouse_fail (F : Nat) (a0 : Nat) (p0 : Int32) (T : tT) : Option (Int32 × tT) := (D_c_EdgeHouse_isNode F p0 T).bind fun v1 => cond (m_c1 .eq v1) (some ((0 : Int32), T)) ((tgr T a0 0 3).bind fun v7 => (v7).bind fun a11 => (tar T a11 7 p0).bind fun v14 => (v14).bind fun a18 => (tgi T a18 4 6).bind fun v21 => cond (m_c1 .ne v21) ((tgr T a0 0 3).bind fun v26 => (v26).bind fun a30 => (tar T a30 7 p0).bind fun v33 => (v33).bind fun a37 => (tgr T a37 4 2).bind fun v40 => D_c_EdgeHouse_fail_33 F F a0 p0 v40 (0 : Int32) T) (some ((0 : Int32), T)))
theorem T_c_EdgeHouse_fail {l : Launch} {w : List mM} {F : Nat} {a0 : Nat} {p0 : Int32} {T : tT} {yz : Int32} {Tz : tT} (ha0 : okr T.2.1 (some a0)) (h : RT T w) (h0 : D_c_EdgeHouse_fail F a0 p0 T = some (yz, Tz)) : m_Rb l M_151 (m_ent M_151 [.ref a0, .int p0] w) (fun v w' => v = some (.int yz) ∧ RT Tz w' ∧ m_Fm w w') T Tz 4 400 := by
  rw [show m_ent M_151 [.ref a0, .int p0] w = (0, [(0, .ref a0), (1, .int p0)], [], w) from by first | rfl | (simp only [m_ent, lv_args_r, lv_args_a, lv_args_i, lv_args_l, lv_args_0]; done) | (simp only [m_ent, lv_args_r, lv_args_a, lv_args_i, lv_args_l, lv_args_0]; rfl)]
  generalize hw0 : w = w0 at h ⊢
  have hF : m_Fm w0 w0 := m_Fm.refl
  rw [D_c_EdgeHouse_fail] at h0
  refine m_Rb.n0 b_151 (x_iload_n d_151_0 rfl) ?_
  obtain ⟨v1, e2, j3⟩ := bS h0
  refine m_Rb.callI b_151 (y_cs d_151_1 rfl q_131 (show m_takeS _ _ = some (_, [_], []) from m_takeS_of (Nat.le_of_ble_eq_true rfl) rfl rfl (Nat.le_of_ble_eq_true rfl)) (by simp only [m_okf, List.all_cons, List.all_nil, Bool.and_true, Bool.and_self, m_okv_i, m_okv_l, m_okv_0, m_okv_n0, m_okv_t, RT.okn h ha0, RT.okv h ha0]) rfl) (T_c_EdgeHouse_isNode h e2) hF rfl (fun w4 h4 f4 k4 => ?_) (by decide) (by decide)
  cases hc5 : m_c1 .eq v1 with
  | true =>
    have j6 := cT hc5 j3
    refine m_Rb.n0 b_151 (x_ift d_151_4 rfl hc5) ?_
    refine m_Rb.n0 b_151 (x_iconst (z := 0) d_151_19 (by decide)) ?_
    cases j6
    exact m_Rb.ret b_151 (m_rt_ir d_151_20 rfl m_nb0) ⟨rfl, h4, f4⟩
  | false =>
    have j6 := cF hc5 j3
    refine m_Rb.n0 b_151 (x_iff d_151_4 rfl hc5) ?_
    refine m_Rb.n0 b_151 (x_aload_n d_151_7 rfl) ?_
    obtain ⟨v7, e8, j9⟩ := bS j6
    refine m_Rb.tgetR b_151 d_151_8 rfl h4 e8 (fun o10 => ?_)
    refine m_Rb.n0 b_151 (x_iload_n d_151_11 rfl) ?_
    obtain ⟨a11, e12, j13⟩ := bS j9
    subst e12
    obtain ⟨v14, e15, j16⟩ := bS j13
    refine m_Rb.tgetO (t := 7) b_151 d_151_12 rfl rfl h4 e15 (fun o17 => ?_)
    obtain ⟨a18, e19, j20⟩ := bS j16
    subst e19
    obtain ⟨v21, e22, j23⟩ := bS j20
    refine m_Rb.tgetI b_151 d_151_13 rfl h4 e22 ?_
    cases hc24 : m_c1 .ne v21 with
    | true =>
      have j25 := cT hc24 j23
      refine m_Rb.n0 b_151 (x_ift d_151_16 rfl hc24) ?_
      refine m_Rb.n0 b_151 (x_aload_n d_151_21 rfl) ?_
      obtain ⟨v26, e27, j28⟩ := bS j25
      refine m_Rb.tgetR b_151 d_151_22 rfl h4 e27 (fun o29 => ?_)
      refine m_Rb.n0 b_151 (x_iload_n d_151_25 rfl) ?_
      obtain ⟨a30, e31, j32⟩ := bS j28
      subst e31
      obtain ⟨v33, e34, j35⟩ := bS j32
      refine m_Rb.tgetO (t := 7) b_151 d_151_26 rfl rfl h4 e34 (fun o36 => ?_)
      obtain ⟨a37, e38, j39⟩ := bS j35
      subst e38
      obtain ⟨v40, e41, j42⟩ := bS j39
      refine m_Rb.tgetR b_151 d_151_27 rfl h4 e41 (fun o43 => ?_)
      refine m_Rb.n0 b_151 (x_astorer_n (x := v40) d_151_30 rfl (show m_put1 _ _ _ = [(2, _), (0, _), (1, _)] from rfl)) ?_
      refine m_Rb.n0 b_151 (x_iconst (z := 0) d_151_31 (by decide)) ?_
      refine m_Rb.n0 b_151 (x_istore_n d_151_32 rfl (show m_put1 _ _ _ = [(3, _), (2, _), (0, _), (1, _)] from (m_p1r (by simp only [List.all_cons, List.all_nil, cat_rv]; rfl)).trans rfl)) ?_
      exact m_Rb.pick [2, 3, 1, 0] rfl (T_c_EdgeHouse_fail_33 F ha0 o43 h4 f4 j42)
    | false =>
      have j25 := cF hc24 j23
      refine m_Rb.n0 b_151 (x_iff d_151_16 rfl hc24) ?_
      refine m_Rb.n0 b_151 (x_iconst (z := 0) d_151_19 (by decide)) ?_
      cases j25
      exact m_Rb.ret b_151 (m_rt_ir d_151_20 rfl m_nb0) ⟨rfl, h4, f4⟩
def D_c_EdgeHouse_back_46 (F : Nat) : Nat → Nat → Int32 → Int32 → tT → Option (Int32 × tT)
  | 0, _, _, _, _ => none
  | n + 1, x0, x1, x2, T => cond (m_c2 .gt x2 (6 : Int32)) (some ((1 : Int32), T)) ((tgr T x0 0 3).bind fun v67 => (v67).bind fun a71 => (tar T a71 7 x2).bind fun v74 => (v74).bind fun a78 => (tcl T a78 4).bind fun _ => (D_c_Node_trust F a78 x1 T).bind fun T84 => D_c_EdgeHouse_back_46 F n x0 x1 (x2 + Int32.ofInt 1) T84)
theorem T_c_EdgeHouse_back_46 {l : Launch} {w0 : List mM} {F : Nat} : ∀ (n : Nat) {x0 : Nat} {x1 : Int32} {x2 : Int32} {T : tT} {w : List mM} {yz : Int32} {Tz : tT}, okr T.2.1 (some x0) → RT T w → m_Fm w0 w → D_c_EdgeHouse_back_46 F n x0 x1 x2 T = some (yz, Tz) → m_Rb l M_155 (46, [(0, .ref x0), (1, .int x1), (2, .int x2)], [], w) (fun v w' => v = some (.int yz) ∧ RT Tz w' ∧ m_Fm w0 w') T Tz 1 100 := by
  intro n
  induction n with
  | zero => intro x0 x1 x2 T w yz Tz hx0 h hF h0; cases h0
  | succ n ih =>
    intro x0 x1 x2 T w yz Tz hx0 h hF h0
    rw [D_c_EdgeHouse_back_46] at h0
    refine m_Rb.n0 b_155 (x_iload_n d_155_46 rfl) ?_
    refine m_Rb.n0 b_155 (x_bipush (z := 6) d_155_47 (by decide)) ?_
    cases hc65 : m_c2 .gt x2 (6 : Int32) with
    | true =>
      have j66 := cT hc65 h0
      refine m_Rb.n0 b_155 (x_ict d_155_49 rfl hc65) ?_
      refine m_Rb.n0 b_155 (x_iconst (z := 1) d_155_68 (by decide)) ?_
      cases j66
      exact m_Rb.ret b_155 (m_rt_ir d_155_69 rfl m_nb1) ⟨rfl, h, hF⟩
    | false =>
      have j66 := cF hc65 h0
      refine m_Rb.n0 b_155 (x_icf d_155_49 rfl hc65) ?_
      refine m_Rb.n0 b_155 (x_aload_n d_155_52 rfl) ?_
      obtain ⟨v67, e68, j69⟩ := bS j66
      refine m_Rb.tgetR b_155 d_155_53 rfl h e68 (fun o70 => ?_)
      refine m_Rb.n0 b_155 (x_iload_n d_155_56 rfl) ?_
      obtain ⟨a71, e72, j73⟩ := bS j69
      subst e72
      obtain ⟨v74, e75, j76⟩ := bS j73
      refine m_Rb.tgetO (t := 7) b_155 d_155_57 rfl rfl h e75 (fun o77 => ?_)
      refine m_Rb.n0 b_155 (x_iload_n d_155_58 rfl) ?_
      obtain ⟨a78, e79, j80⟩ := bS j76
      subst e79
      obtain ⟨_, e81, j82⟩ := bS j80
      obtain ⟨_, g83⟩ := RT.cls h e81
      obtain ⟨T84, e85, j86⟩ := bS j82
      refine m_Rb.callV b_155 (y_cv d_155_59 rfl q_139 (m_isRecv_of rfl g83) (show m_takeI _ _ = some (_, [_, _], []) from m_takeI_of rfl rfl rfl (Nat.le_of_ble_eq_true rfl)) (by simp only [m_okf, List.all_cons, List.all_nil, Bool.and_true, Bool.and_self, m_okv_i, m_okv_l, m_okv_0, m_okv_n0, m_okv_t, RT.okn h hx0, RT.okv h hx0, RT.okn h o77, RT.okv h o77]) rfl) (T_c_Node_trust o77 h e85) hF rfl (fun w87 h87 f87 k87 => ?_) (by decide) (by decide)
      refine m_Rb.n0 b_155 (x_iinc d_155_62 rfl rfl rfl (show m_put1 _ _ _ = [(2, _), (0, _), (1, _)] from rfl)) ?_
      refine m_Rb.n0 b_155 (x_goto d_155_65 rfl) ?_
      exact m_Rb.pick [1, 2, 0] rfl (ih (okm hx0 k87) h87 f87 j86)
def D_c_EdgeHouse_back (F : Nat) (a0 : Nat) (p0 : Int32) (T : tT) : Option (Int32 × tT) := (D_c_EdgeHouse_isNode F p0 T).bind fun v1 => cond (m_c1 .eq v1) (some ((0 : Int32), T)) ((tgr T a0 0 3).bind fun v7 => (v7).bind fun a11 => (tar T a11 7 p0).bind fun v14 => (v14).bind fun a18 => (tgi T a18 4 6).bind fun v21 => cond (m_c1 .eq v21) ((tgr T a0 0 3).bind fun v26 => (v26).bind fun a30 => (tar T a30 7 p0).bind fun v33 => (v33).bind fun a37 => (tpz T a37 4 6 (1 : Int32)).bind fun T40 => (tgr T40 a0 0 3).bind fun v44 => (v44).bind fun a48 => (tar T40 a48 7 p0).bind fun v51 => (tgi T40 a0 0 13).bind fun v55 => (v51).bind fun a58 => (tpi T40 a58 4 7 v55).bind fun T61 => D_c_EdgeHouse_back_46 F F a0 p0 (3 : Int32) T61) (some ((0 : Int32), T)))
theorem T_c_EdgeHouse_back {l : Launch} {w : List mM} {F : Nat} {a0 : Nat} {p0 : Int32} {T : tT} {yz : Int32} {Tz : tT} (ha0 : okr T.2.1 (some a0)) (h : RT T w) (h0 : D_c_EdgeHouse_back F a0 p0 T = some (yz, Tz)) : m_Rb l M_155 (m_ent M_155 [.ref a0, .int p0] w) (fun v w' => v = some (.int yz) ∧ RT Tz w' ∧ m_Fm w w') T Tz 1 100 := by
  rw [show m_ent M_155 [.ref a0, .int p0] w = (0, [(0, .ref a0), (1, .int p0)], [], w) from by first | rfl | (simp only [m_ent, lv_args_r, lv_args_a, lv_args_i, lv_args_l, lv_args_0]; done) | (simp only [m_ent, lv_args_r, lv_args_a, lv_args_i, lv_args_l, lv_args_0]; rfl)]
  generalize hw0 : w = w0 at h ⊢
  have hF : m_Fm w0 w0 := m_Fm.refl
  rw [D_c_EdgeHouse_back] at h0
  refine m_Rb.n0 b_155 (x_iload_n d_155_0 rfl) ?_
  obtain ⟨v1, e2, j3⟩ := bS h0
  refine m_Rb.callI b_155 (y_cs d_155_1 rfl q_131 (show m_takeS _ _ = some (_, [_], []) from m_takeS_of (Nat.le_of_ble_eq_true rfl) rfl rfl (Nat.le_of_ble_eq_true rfl)) (by simp only [m_okf, List.all_cons, List.all_nil, Bool.and_true, Bool.and_self, m_okv_i, m_okv_l, m_okv_0, m_okv_n0, m_okv_t, RT.okn h ha0, RT.okv h ha0]) rfl) (T_c_EdgeHouse_isNode h e2) hF rfl (fun w4 h4 f4 k4 => ?_) (by decide) (by decide)
  cases hc5 : m_c1 .eq v1 with
  | true =>
    have j6 := cT hc5 j3
    refine m_Rb.n0 b_155 (x_ift d_155_4 rfl hc5) ?_
    refine m_Rb.n0 b_155 (x_iconst (z := 0) d_155_19 (by decide)) ?_
    cases j6
    exact m_Rb.ret b_155 (m_rt_ir d_155_20 rfl m_nb0) ⟨rfl, h4, f4⟩
  | false =>
    have j6 := cF hc5 j3
    refine m_Rb.n0 b_155 (x_iff d_155_4 rfl hc5) ?_
    refine m_Rb.n0 b_155 (x_aload_n d_155_7 rfl) ?_
    obtain ⟨v7, e8, j9⟩ := bS j6
    refine m_Rb.tgetR b_155 d_155_8 rfl h4 e8 (fun o10 => ?_)
    refine m_Rb.n0 b_155 (x_iload_n d_155_11 rfl) ?_
    obtain ⟨a11, e12, j13⟩ := bS j9
    subst e12
    obtain ⟨v14, e15, j16⟩ := bS j13
    refine m_Rb.tgetO (t := 7) b_155 d_155_12 rfl rfl h4 e15 (fun o17 => ?_)
    obtain ⟨a18, e19, j20⟩ := bS j16
    subst e19
    obtain ⟨v21, e22, j23⟩ := bS j20
    refine m_Rb.tgetI b_155 d_155_13 rfl h4 e22 ?_
    cases hc24 : m_c1 .eq v21 with
    | true =>
      have j25 := cT hc24 j23
      refine m_Rb.n0 b_155 (x_ift d_155_16 rfl hc24) ?_
      refine m_Rb.n0 b_155 (x_aload_n d_155_21 rfl) ?_
      obtain ⟨v26, e27, j28⟩ := bS j25
      refine m_Rb.tgetR b_155 d_155_22 rfl h4 e27 (fun o29 => ?_)
      refine m_Rb.n0 b_155 (x_iload_n d_155_25 rfl) ?_
      obtain ⟨a30, e31, j32⟩ := bS j28
      subst e31
      obtain ⟨v33, e34, j35⟩ := bS j32
      refine m_Rb.tgetO (t := 7) b_155 d_155_26 rfl rfl h4 e34 (fun o36 => ?_)
      refine m_Rb.n0 b_155 (x_iconst (z := 1) d_155_27 (by decide)) ?_
      obtain ⟨a37, e38, j39⟩ := bS j35
      subst e38
      obtain ⟨T40, e41, j42⟩ := bS j39
      refine m_Rb.tputZ b_155 d_155_28 rfl rfl (by decide) h4 f4 e41 (fun w43 h43 f43 k43 => ?_)
      refine m_Rb.n0 b_155 (x_aload_n d_155_31 rfl) ?_
      obtain ⟨v44, e45, j46⟩ := bS j42
      refine m_Rb.tgetR b_155 d_155_32 rfl h43 e45 (fun o47 => ?_)
      refine m_Rb.n0 b_155 (x_iload_n d_155_35 rfl) ?_
      obtain ⟨a48, e49, j50⟩ := bS j46
      subst e49
      obtain ⟨v51, e52, j53⟩ := bS j50
      refine m_Rb.tgetO (t := 7) b_155 d_155_36 rfl rfl h43 e52 (fun o54 => ?_)
      refine m_Rb.n0 b_155 (x_aload_n d_155_37 rfl) ?_
      obtain ⟨v55, e56, j57⟩ := bS j53
      refine m_Rb.tgetI b_155 d_155_38 rfl h43 e56 ?_
      obtain ⟨a58, e59, j60⟩ := bS j57
      subst e59
      obtain ⟨T61, e62, j63⟩ := bS j60
      refine m_Rb.tputI b_155 d_155_41 rfl rfl (by decide) h43 f43 e62 (fun w64 h64 f64 k64 => ?_)
      refine m_Rb.n0 b_155 (x_iconst (z := 3) d_155_44 (by decide)) ?_
      refine m_Rb.n0 b_155 (x_istore_n d_155_45 rfl (show m_put1 _ _ _ = [(2, _), (0, _), (1, _)] from rfl)) ?_
      exact m_Rb.pick [1, 2, 0] rfl (T_c_EdgeHouse_back_46 F (okm (okm ha0 k43) k64) h64 f64 j63)
    | false =>
      have j25 := cF hc24 j23
      refine m_Rb.n0 b_155 (x_iff d_155_16 rfl hc24) ?_
      refine m_Rb.n0 b_155 (x_iconst (z := 0) d_155_19 (by decide)) ?_
      cases j25
      exact m_Rb.ret b_155 (m_rt_ir d_155_20 rfl m_nb0) ⟨rfl, h4, f4⟩
def D_c_EdgeHouse_budget (F : Nat) (a0 : Nat) (p0 : Int32) (p1 : Int32) (T : tT) : Option (Int32 × tT) := (D_c_EdgeHouse_isNode F p0 T).bind fun v1 => cond (m_c1 .eq v1) (some ((0 : Int32), T)) (cond (m_c2 .lt p1 (32 : Int32)) (some ((0 : Int32), T)) (cond (m_c2 .le p1 (2000 : Int32)) ((tgr T a0 0 3).bind fun v11 => (v11).bind fun a15 => (tar T a15 7 p0).bind fun v18 => (v18).bind fun a22 => (tgr T a22 4 1).bind fun v25 => (v25).bind fun a29 => (tpi T a29 5 2 p1).bind fun T32 => (tgr T32 a0 0 3).bind fun v36 => (v36).bind fun a40 => (tar T32 a40 7 p0).bind fun v43 => (v43).bind fun a47 => (tgr T32 a47 4 1).bind fun v50 => (v50).bind fun a54 => (tcl T32 a54 5).bind fun _ => (D_c_Store_balance F a54 T32).bind fun T60 => some ((1 : Int32), T60)) (some ((0 : Int32), T))))
theorem T_c_EdgeHouse_budget {l : Launch} {w : List mM} {F : Nat} {a0 : Nat} {p0 : Int32} {p1 : Int32} {T : tT} {yz : Int32} {Tz : tT} (ha0 : okr T.2.1 (some a0)) (h : RT T w) (h0 : D_c_EdgeHouse_budget F a0 p0 p1 T = some (yz, Tz)) : m_Rb l M_156 (m_ent M_156 [.ref a0, .int p0, .int p1] w) (fun v w' => v = some (.int yz) ∧ RT Tz w' ∧ m_Fm w w') T Tz 14 1400 := by
  rw [show m_ent M_156 [.ref a0, .int p0, .int p1] w = (0, [(0, .ref a0), (1, .int p0), (2, .int p1)], [], w) from by first | rfl | (simp only [m_ent, lv_args_r, lv_args_a, lv_args_i, lv_args_l, lv_args_0]; done) | (simp only [m_ent, lv_args_r, lv_args_a, lv_args_i, lv_args_l, lv_args_0]; rfl)]
  generalize hw0 : w = w0 at h ⊢
  have hF : m_Fm w0 w0 := m_Fm.refl
  rw [D_c_EdgeHouse_budget] at h0
  refine m_Rb.n0 b_156 (x_iload_n d_156_0 rfl) ?_
  obtain ⟨v1, e2, j3⟩ := bS h0
  refine m_Rb.callI b_156 (y_cs d_156_1 rfl q_131 (show m_takeS _ _ = some (_, [_], []) from m_takeS_of (Nat.le_of_ble_eq_true rfl) rfl rfl (Nat.le_of_ble_eq_true rfl)) (by simp only [m_okf, List.all_cons, List.all_nil, Bool.and_true, Bool.and_self, m_okv_i, m_okv_l, m_okv_0, m_okv_n0, m_okv_t, RT.okn h ha0, RT.okv h ha0]) rfl) (T_c_EdgeHouse_isNode h e2) hF rfl (fun w4 h4 f4 k4 => ?_) (by decide) (by decide)
  cases hc5 : m_c1 .eq v1 with
  | true =>
    have j6 := cT hc5 j3
    refine m_Rb.n0 b_156 (x_ift d_156_4 rfl hc5) ?_
    refine m_Rb.n0 b_156 (x_iconst (z := 0) d_156_20 (by decide)) ?_
    cases j6
    exact m_Rb.ret b_156 (m_rt_ir d_156_21 rfl m_nb0) ⟨rfl, h4, f4⟩
  | false =>
    have j6 := cF hc5 j3
    refine m_Rb.n0 b_156 (x_iff d_156_4 rfl hc5) ?_
    refine m_Rb.n0 b_156 (x_iload_n d_156_7 rfl) ?_
    refine m_Rb.n0 b_156 (x_bipush (z := 32) d_156_8 (by decide)) ?_
    cases hc7 : m_c2 .lt p1 (32 : Int32) with
    | true =>
      have j8 := cT hc7 j6
      refine m_Rb.n0 b_156 (x_ict d_156_10 rfl hc7) ?_
      refine m_Rb.n0 b_156 (x_iconst (z := 0) d_156_20 (by decide)) ?_
      cases j8
      exact m_Rb.ret b_156 (m_rt_ir d_156_21 rfl m_nb0) ⟨rfl, h4, f4⟩
    | false =>
      have j8 := cF hc7 j6
      refine m_Rb.n0 b_156 (x_icf d_156_10 rfl hc7) ?_
      refine m_Rb.n0 b_156 (x_iload_n d_156_13 rfl) ?_
      refine m_Rb.n0 b_156 (x_sipush (z := 2000) d_156_14 (by decide)) ?_
      cases hc9 : m_c2 .le p1 (2000 : Int32) with
      | true =>
        have j10 := cT hc9 j8
        refine m_Rb.n0 b_156 (x_ict d_156_17 rfl hc9) ?_
        refine m_Rb.n0 b_156 (x_aload_n d_156_22 rfl) ?_
        obtain ⟨v11, e12, j13⟩ := bS j10
        refine m_Rb.tgetR b_156 d_156_23 rfl h4 e12 (fun o14 => ?_)
        refine m_Rb.n0 b_156 (x_iload_n d_156_26 rfl) ?_
        obtain ⟨a15, e16, j17⟩ := bS j13
        subst e16
        obtain ⟨v18, e19, j20⟩ := bS j17
        refine m_Rb.tgetO (t := 7) b_156 d_156_27 rfl rfl h4 e19 (fun o21 => ?_)
        obtain ⟨a22, e23, j24⟩ := bS j20
        subst e23
        obtain ⟨v25, e26, j27⟩ := bS j24
        refine m_Rb.tgetR b_156 d_156_28 rfl h4 e26 (fun o28 => ?_)
        refine m_Rb.n0 b_156 (x_iload_n d_156_31 rfl) ?_
        obtain ⟨a29, e30, j31⟩ := bS j27
        subst e30
        obtain ⟨T32, e33, j34⟩ := bS j31
        refine m_Rb.tputI b_156 d_156_32 rfl rfl (by decide) h4 f4 e33 (fun w35 h35 f35 k35 => ?_)
        refine m_Rb.n0 b_156 (x_aload_n d_156_35 rfl) ?_
        obtain ⟨v36, e37, j38⟩ := bS j34
        refine m_Rb.tgetR b_156 d_156_36 rfl h35 e37 (fun o39 => ?_)
        refine m_Rb.n0 b_156 (x_iload_n d_156_39 rfl) ?_
        obtain ⟨a40, e41, j42⟩ := bS j38
        subst e41
        obtain ⟨v43, e44, j45⟩ := bS j42
        refine m_Rb.tgetO (t := 7) b_156 d_156_40 rfl rfl h35 e44 (fun o46 => ?_)
        obtain ⟨a47, e48, j49⟩ := bS j45
        subst e48
        obtain ⟨v50, e51, j52⟩ := bS j49
        refine m_Rb.tgetR b_156 d_156_41 rfl h35 e51 (fun o53 => ?_)
        obtain ⟨a54, e55, j56⟩ := bS j52
        subst e55
        obtain ⟨_, e57, j58⟩ := bS j56
        obtain ⟨_, g59⟩ := RT.cls h35 e57
        obtain ⟨T60, e61, j62⟩ := bS j58
        refine m_Rb.callV b_156 (y_cv d_156_44 rfl q_97 (m_isRecv_of rfl g59) (show m_takeI _ _ = some (_, [_], []) from m_takeI_of rfl rfl rfl (Nat.le_of_ble_eq_true rfl)) (by simp only [m_okf, List.all_cons, List.all_nil, Bool.and_true, Bool.and_self, m_okv_i, m_okv_l, m_okv_0, m_okv_n0, m_okv_t, RT.okn h35 (okm ha0 k35), RT.okv h35 (okm ha0 k35), RT.okn h35 o53, RT.okv h35 o53]) rfl) (T_c_Store_balance o53 h35 e61) f35 rfl (fun w63 h63 f63 k63 => ?_) (by decide) (by decide)
        refine m_Rb.n0 b_156 (x_iconst (z := 1) d_156_47 (by decide)) ?_
        cases j62
        exact m_Rb.ret b_156 (m_rt_ir d_156_48 rfl m_nb1) ⟨rfl, h63, f63⟩
      | false =>
        have j10 := cF hc9 j8
        refine m_Rb.n0 b_156 (x_icf d_156_17 rfl hc9) ?_
        refine m_Rb.n0 b_156 (x_iconst (z := 0) d_156_20 (by decide)) ?_
        cases j10
        exact m_Rb.ret b_156 (m_rt_ir d_156_21 rfl m_nb0) ⟨rfl, h4, f4⟩
def D_c_String_isEmpty (F : Nat) (a0 : Nat) (T0 : tT) : Option (Int32) := (tgr T0 a0 12 0).bind fun v1 => (v1).bind fun a5 => (tal T0 a5).bind fun v8 => (cond (m_c1 .ne v8) (some (0 : Int32)) (some (1 : Int32))).bind fun v15 => (bret v15).bind fun v18 => some v18
theorem T_c_String_isEmpty {l : Launch} {w : List mM} {F : Nat} {a0 : Nat} {T0 : tT} {yz : Int32} (ha0 : okr T0.2.1 (some a0)) (h : RT T0 w) (h0 : D_c_String_isEmpty F a0 T0 = some yz) : m_Rb l M_159 (m_ent M_159 [.ref a0] w) (fun v w' => v = some (.int yz) ∧ RT T0 w' ∧ m_Fm w w') T0 T0 0 0 := by
  rw [show m_ent M_159 [.ref a0] w = (0, [(0, .ref a0)], [], w) from by first | rfl | (simp only [m_ent, lv_args_r, lv_args_a, lv_args_i, lv_args_l, lv_args_0]; done) | (simp only [m_ent, lv_args_r, lv_args_a, lv_args_i, lv_args_l, lv_args_0]; rfl)]
  generalize hw0 : w = w0 at h ⊢
  have hF : m_Fm w0 w0 := m_Fm.refl
  rw [D_c_String_isEmpty] at h0
  refine m_Rb.n0 b_159 (x_aload_n d_159_0 rfl) ?_
  obtain ⟨v1, e2, j3⟩ := bS h0
  refine m_Rb.tgetR b_159 d_159_1 rfl h e2 (fun o4 => ?_)
  obtain ⟨a5, e6, j7⟩ := bS j3
  subst e6
  obtain ⟨v8, e9, j10⟩ := bS j7
  refine m_Rb.talen b_159 d_159_4 h e9 ?_
  obtain ⟨v15, e12, j16⟩ := bS j10
  have kk11 : ∀ (xz : Int32) (w1 : List mM), xz = v15 → RT T0 w1 → m_Fm w0 w1 → m_Rb l M_159 (13, [(0, .ref a0)], [.int xz], w1) (fun v w' => v = some (.int yz) ∧ RT T0 w' ∧ m_Fm w0 w') T0 T0 0 0 := by
    intro xz w17 ez h17 f17
    rw [ez]
    obtain ⟨v18, e19, j20⟩ := bS j16
    cases j20
    exact m_Rb.retb b_159 d_159_13 rfl e19 ⟨rfl, h17, f17⟩
  cases hc13 : m_c1 .ne v8 with
  | true =>
    have j14 := cT hc13 e12
    refine m_Rb.n0 b_159 (x_ift d_159_5 rfl hc13) ?_
    refine m_Rb.n0 b_159 (x_iconst (z := 0) d_159_12 (by decide)) ?_
    exact kk11 _ _ (Option.some.inj j14) h hF
  | false =>
    have j14 := cF hc13 e12
    refine m_Rb.n0 b_159 (x_iff d_159_5 rfl hc13) ?_
    refine m_Rb.n0 b_159 (x_iconst (z := 1) d_159_8 (by decide)) ?_
    refine m_Rb.n0 b_159 (x_goto d_159_9 rfl) ?_
    exact kk11 _ _ (Option.some.inj j14) h hF
def D_c_Reply_words (F : Nat) (a0 : Nat) (T0 : tT) : Option (Option Nat) := (tgi T0 a0 8 1).bind fun v1 => cond (decide (v1 = (200 : Int32))) (some (some 46)) (cond (decide (v1 = (206 : Int32))) (some (some 47)) (cond (decide (v1 = (304 : Int32))) (some (some 48)) (cond (decide (v1 = (400 : Int32))) (some (some 49)) (cond (decide (v1 = (404 : Int32))) (some (some 50)) (cond (decide (v1 = (416 : Int32))) (some (some 51)) (cond (decide (v1 = (502 : Int32))) (some (some 52)) (cond (decide (v1 = (503 : Int32))) (some (some 53)) (some (some 54)))))))))
theorem T_c_Reply_words {l : Launch} {w : List mM} {F : Nat} {a0 : Nat} {T0 : tT} {yz : Option Nat} (ha0 : okr T0.2.1 (some a0)) (h : RT T0 w) (h0 : D_c_Reply_words F a0 T0 = some yz) : m_Rb l M_218 (m_ent M_218 [.ref a0] w) (fun v w' => v = some (rv yz) ∧ okr T0.2.1 yz ∧ RT T0 w' ∧ m_Fm w w') T0 T0 0 0 := by
  rw [show m_ent M_218 [.ref a0] w = (0, [(0, .ref a0)], [], w) from by first | rfl | (simp only [m_ent, lv_args_r, lv_args_a, lv_args_i, lv_args_l, lv_args_0]; done) | (simp only [m_ent, lv_args_r, lv_args_a, lv_args_i, lv_args_l, lv_args_0]; rfl)]
  generalize hw0 : w = w0 at h ⊢
  have hF : m_Fm w0 w0 := m_Fm.refl
  rw [D_c_Reply_words] at h0
  refine m_Rb.n0 b_218 (x_aload_n d_218_0 rfl) ?_
  obtain ⟨v1, e2, j3⟩ := bS h0
  refine m_Rb.tgetI b_218 d_218_1 rfl h e2 ?_
  cases hc4 : decide (v1 = (200 : Int32)) with
  | true =>
    have j5 := cT hc4 j3
    refine m_Rb.n0 b_218 (x_lsw (t := 80) d_218_4 (by rw [of_decide_eq_true hc4]; decide)) ?_
    refine m_Rb.n0 b_218 (x_text d_218_80 rfl rfl) ?_
    have o9 : okr T0.2.1 (some 46) := (RT.out h (by decide))
    cases j5
    exact m_Rb.ret b_218 (m_rt_rr (x := (some 46)) d_218_82 rfl) ⟨rfl, o9, h, hF⟩
  | false =>
    have j5 := cF hc4 j3
    cases hc6 : decide (v1 = (206 : Int32)) with
    | true =>
      have j7 := cT hc6 j5
      refine m_Rb.n0 b_218 (x_lsw (t := 83) d_218_4 (by rw [of_decide_eq_true hc6]; decide)) ?_
      refine m_Rb.n0 b_218 (x_text d_218_83 rfl rfl) ?_
      have o9 : okr T0.2.1 (some 47) := (RT.out h (by decide))
      cases j7
      exact m_Rb.ret b_218 (m_rt_rr (x := (some 47)) d_218_85 rfl) ⟨rfl, o9, h, hF⟩
    | false =>
      have j7 := cF hc6 j5
      cases hc8 : decide (v1 = (304 : Int32)) with
      | true =>
        have j9 := cT hc8 j7
        refine m_Rb.n0 b_218 (x_lsw (t := 86) d_218_4 (by rw [of_decide_eq_true hc8]; decide)) ?_
        refine m_Rb.n0 b_218 (x_text d_218_86 rfl rfl) ?_
        have o9 : okr T0.2.1 (some 48) := (RT.out h (by decide))
        cases j9
        exact m_Rb.ret b_218 (m_rt_rr (x := (some 48)) d_218_88 rfl) ⟨rfl, o9, h, hF⟩
      | false =>
        have j9 := cF hc8 j7
        cases hc10 : decide (v1 = (400 : Int32)) with
        | true =>
          have j11 := cT hc10 j9
          refine m_Rb.n0 b_218 (x_lsw (t := 89) d_218_4 (by rw [of_decide_eq_true hc10]; decide)) ?_
          refine m_Rb.n0 b_218 (x_text d_218_89 rfl rfl) ?_
          have o9 : okr T0.2.1 (some 49) := (RT.out h (by decide))
          cases j11
          exact m_Rb.ret b_218 (m_rt_rr (x := (some 49)) d_218_91 rfl) ⟨rfl, o9, h, hF⟩
        | false =>
          have j11 := cF hc10 j9
          cases hc12 : decide (v1 = (404 : Int32)) with
          | true =>
            have j13 := cT hc12 j11
            refine m_Rb.n0 b_218 (x_lsw (t := 92) d_218_4 (by rw [of_decide_eq_true hc12]; decide)) ?_
            refine m_Rb.n0 b_218 (x_text d_218_92 rfl rfl) ?_
            have o9 : okr T0.2.1 (some 50) := (RT.out h (by decide))
            cases j13
            exact m_Rb.ret b_218 (m_rt_rr (x := (some 50)) d_218_94 rfl) ⟨rfl, o9, h, hF⟩
          | false =>
            have j13 := cF hc12 j11
            cases hc14 : decide (v1 = (416 : Int32)) with
            | true =>
              have j15 := cT hc14 j13
              refine m_Rb.n0 b_218 (x_lsw (t := 95) d_218_4 (by rw [of_decide_eq_true hc14]; decide)) ?_
              refine m_Rb.n0 b_218 (x_text d_218_95 rfl rfl) ?_
              have o9 : okr T0.2.1 (some 51) := (RT.out h (by decide))
              cases j15
              exact m_Rb.ret b_218 (m_rt_rr (x := (some 51)) d_218_97 rfl) ⟨rfl, o9, h, hF⟩
            | false =>
              have j15 := cF hc14 j13
              cases hc16 : decide (v1 = (502 : Int32)) with
              | true =>
                have j17 := cT hc16 j15
                refine m_Rb.n0 b_218 (x_lsw (t := 98) d_218_4 (by rw [of_decide_eq_true hc16]; decide)) ?_
                refine m_Rb.n0 b_218 (x_text d_218_98 rfl rfl) ?_
                have o9 : okr T0.2.1 (some 52) := (RT.out h (by decide))
                cases j17
                exact m_Rb.ret b_218 (m_rt_rr (x := (some 52)) d_218_100 rfl) ⟨rfl, o9, h, hF⟩
              | false =>
                have j17 := cF hc16 j15
                cases hc18 : decide (v1 = (503 : Int32)) with
                | true =>
                  have j19 := cT hc18 j17
                  refine m_Rb.n0 b_218 (x_lsw (t := 101) d_218_4 (by rw [of_decide_eq_true hc18]; decide)) ?_
                  refine m_Rb.n0 b_218 (x_text d_218_101 rfl rfl) ?_
                  have o9 : okr T0.2.1 (some 53) := (RT.out h (by decide))
                  cases j19
                  exact m_Rb.ret b_218 (m_rt_rr (x := (some 53)) d_218_103 rfl) ⟨rfl, o9, h, hF⟩
                | false =>
                  have j19 := cF hc18 j17
                  refine m_Rb.n0 b_218 (x_lsw (t := 104) d_218_4 (m_lsw_d (by decide) (by simp only [List.forall_mem_cons]; exact ⟨m_lsw_n (of_decide_eq_false hc4) rfl, m_lsw_n (of_decide_eq_false hc6) rfl, m_lsw_n (of_decide_eq_false hc8) rfl, m_lsw_n (of_decide_eq_false hc10) rfl, m_lsw_n (of_decide_eq_false hc12) rfl, m_lsw_n (of_decide_eq_false hc14) rfl, m_lsw_n (of_decide_eq_false hc16) rfl, m_lsw_n (of_decide_eq_false hc18) rfl, fun _ hz => by cases hz⟩) rfl)) ?_
                  refine m_Rb.n0 b_218 (x_text d_218_104 rfl rfl) ?_
                  have o9 : okr T0.2.1 (some 54) := (RT.out h (by decide))
                  cases j19
                  exact m_Rb.ret b_218 (m_rt_rr (x := (some 54)) d_218_106 rfl) ⟨rfl, o9, h, hF⟩
def D_c_Node_waiting_4 (F : Nat) : Nat → Nat → Int32 → Int32 → tT → Option (Int32)
  | 0, _, _, _, _ => none
  | n + 1, x0, x1, x2, T0 => (tgr T0 x0 4 2).bind fun v1 => (v1).bind fun a5 => (tls T0 a5).bind fun v8 => cond (m_c2 .ge x2 v8) (some x1) ((tgr T0 x0 4 2).bind fun v13 => (v13).bind fun a17 => (tlg T0 a17 x2).bind fun b20 => (tcc T0 (some b20) 10).bind fun _ => (tgi T0 b20 10 11).bind fun v26 => D_c_Node_waiting_4 F n x0 (x1 + v26) (x2 + Int32.ofInt 1) T0)
theorem T_c_Node_waiting_4 {l : Launch} {w0 : List mM} {F : Nat} {T0 : tT} : ∀ (n : Nat) {x0 : Nat} {x1 : Int32} {x2 : Int32} {w : List mM} {yz : Int32}, okr T0.2.1 (some x0) → RT T0 w → m_Fm w0 w → D_c_Node_waiting_4 F n x0 x1 x2 T0 = some yz → m_Rb l M_222 (4, [(0, .ref x0), (1, .int x1), (2, .int x2)], [], w) (fun v w' => v = some (.int yz) ∧ RT T0 w' ∧ m_Fm w0 w') T0 T0 3 300 := by
  intro n
  induction n with
  | zero => intro x0 x1 x2 w yz hx0 h hF h0; cases h0
  | succ n ih =>
    intro x0 x1 x2 w yz hx0 h hF h0
    rw [D_c_Node_waiting_4] at h0
    refine m_Rb.n0 b_222 (x_iload_n d_222_4 rfl) ?_
    refine m_Rb.n0 b_222 (x_aload_n d_222_5 rfl) ?_
    obtain ⟨v1, e2, j3⟩ := bS h0
    refine m_Rb.tgetR b_222 d_222_6 rfl h e2 (fun o4 => ?_)
    obtain ⟨a5, e6, j7⟩ := bS j3
    subst e6
    obtain ⟨v8, e9, j10⟩ := bS j7
    refine m_Rb.tlsize b_222 d_222_9 rfl (by simp only [m_okf, List.all_cons, List.all_nil, Bool.and_true, Bool.and_self, m_okv_i, m_okv_l, m_okv_0, m_okv_n0, m_okv_t, RT.okn h hx0, RT.okv h hx0, RT.okn h o4, RT.okv h o4]) (Nat.le_of_ble_eq_true rfl) h e9 ?_ (by decide) (by decide)
    cases hc11 : m_c2 .ge x2 v8 with
    | true =>
      have j12 := cT hc11 j10
      refine m_Rb.n0 b_222 (x_ict d_222_12 rfl hc11) ?_
      refine m_Rb.n0 b_222 (x_iload_n d_222_38 rfl) ?_
      cases j12
      exact m_Rb.ret b_222 (m_rt_ir d_222_39 rfl rfl) ⟨rfl, h, hF⟩
    | false =>
      have j12 := cF hc11 j10
      refine m_Rb.n0 b_222 (x_icf d_222_12 rfl hc11) ?_
      refine m_Rb.n0 b_222 (x_iload_n d_222_15 rfl) ?_
      refine m_Rb.n0 b_222 (x_aload_n d_222_16 rfl) ?_
      obtain ⟨v13, e14, j15⟩ := bS j12
      refine m_Rb.tgetR b_222 d_222_17 rfl h e14 (fun o16 => ?_)
      refine m_Rb.n0 b_222 (x_iload_n d_222_20 rfl) ?_
      obtain ⟨a17, e18, j19⟩ := bS j15
      subst e18
      obtain ⟨b20, e21, j22⟩ := bS j19
      refine m_Rb.tlget b_222 d_222_21 rfl (by simp only [m_okf, List.all_cons, List.all_nil, Bool.and_true, Bool.and_self, m_okv_i, m_okv_l, m_okv_0, m_okv_n0, m_okv_t, RT.okn h hx0, RT.okv h hx0, RT.okn h o16, RT.okv h o16]) (Nat.le_of_ble_eq_true rfl) h e21 (fun o23 => ?_) (by decide) (by decide)
      obtain ⟨_, e24, j25⟩ := bS j22
      refine m_Rb.tcast (z := (some b20)) b_222 d_222_24 rfl h e24 ?_
      obtain ⟨v26, e27, j28⟩ := bS j25
      refine m_Rb.tgetI b_222 d_222_27 rfl h e27 ?_
      refine m_Rb.n0 b_222 (x_iadd d_222_30 rfl) ?_
      refine m_Rb.n0 b_222 (x_istore_n d_222_31 rfl (show m_put1 _ _ _ = [(1, _), (0, _), (2, _)] from rfl)) ?_
      refine m_Rb.n0 b_222 (x_iinc d_222_32 rfl rfl rfl (show m_put1 _ _ _ = [(2, _), (1, _), (0, _)] from rfl)) ?_
      refine m_Rb.n0 b_222 (x_goto d_222_35 rfl) ?_
      exact m_Rb.pick [2, 1, 0] rfl (ih hx0 h hF j28)
def D_c_Node_waiting (F : Nat) (a0 : Nat) (T0 : tT) : Option (Int32) := D_c_Node_waiting_4 F F a0 (0 : Int32) (0 : Int32) T0
theorem T_c_Node_waiting {l : Launch} {w : List mM} {F : Nat} {a0 : Nat} {T0 : tT} {yz : Int32} (ha0 : okr T0.2.1 (some a0)) (h : RT T0 w) (h0 : D_c_Node_waiting F a0 T0 = some yz) : m_Rb l M_222 (m_ent M_222 [.ref a0] w) (fun v w' => v = some (.int yz) ∧ RT T0 w' ∧ m_Fm w w') T0 T0 3 300 := by
  rw [show m_ent M_222 [.ref a0] w = (0, [(0, .ref a0)], [], w) from by first | rfl | (simp only [m_ent, lv_args_r, lv_args_a, lv_args_i, lv_args_l, lv_args_0]; done) | (simp only [m_ent, lv_args_r, lv_args_a, lv_args_i, lv_args_l, lv_args_0]; rfl)]
  generalize hw0 : w = w0 at h ⊢
  have hF : m_Fm w0 w0 := m_Fm.refl
  rw [D_c_Node_waiting] at h0
  refine m_Rb.n0 b_222 (x_iconst (z := 0) d_222_0 (by decide)) ?_
  refine m_Rb.n0 b_222 (x_istore_n d_222_1 rfl (show m_put1 _ _ _ = [(1, _), (0, _)] from rfl)) ?_
  refine m_Rb.n0 b_222 (x_iconst (z := 0) d_222_2 (by decide)) ?_
  refine m_Rb.n0 b_222 (x_istore_n d_222_3 rfl (show m_put1 _ _ _ = [(2, _), (1, _), (0, _)] from rfl)) ?_
  exact m_Rb.pick [2, 1, 0] rfl (T_c_Node_waiting_4 F ha0 h hF h0)
def D_c_Node_tell (F : Nat) (a0 : Nat) (p0 : Int32) (p1 : Int32) (T0 : tT) : Option (Int32) := cond (decide (p0 = (0 : Int32))) ((tgi T0 a0 4 6).bind fun v3 => (cond (m_c1 .eq v3) (some (0 : Int32)) (some (1 : Int32))).bind fun v10 => some v10) (cond (decide (p0 = (1 : Int32))) ((tgr T0 a0 4 1).bind fun v15 => (v15).bind fun a19 => (tcl T0 a19 5).bind fun _ => (D_c_Store_count F a19 T0).bind fun v25 => some v25) (cond (decide (p0 = (2 : Int32))) ((tgr T0 a0 4 1).bind fun v31 => (tgr T0 a0 4 1).bind fun v35 => (v35).bind fun a39 => (tgr T0 a39 5 0).bind fun v42 => (v31).bind fun a46 => (tcl T0 a46 5).bind fun _ => (D_c_Store_sizeOf F a46 v42 T0).bind fun v52 => (tgr T0 a0 4 1).bind fun v56 => (tgr T0 a0 4 1).bind fun v60 => (v60).bind fun a64 => (tgr T0 a64 5 1).bind fun v67 => (v56).bind fun a71 => (tcl T0 a71 5).bind fun _ => (D_c_Store_sizeOf F a71 v67 T0).bind fun v77 => some (v52 + v77)) (cond (decide (p0 = (3 : Int32))) ((tgr T0 a0 4 1).bind fun v83 => (v83).bind fun a87 => (tgr T0 a87 5 1).bind fun v90 => (v90).bind fun a94 => (tls T0 a94).bind fun v97 => some v97) (cond (decide (p0 = (4 : Int32))) ((tgi T0 a0 4 8).bind fun v102 => some v102) (cond (decide (p0 = (5 : Int32))) ((tgi T0 a0 4 9).bind fun v107 => some v107) (cond (decide (p0 = (6 : Int32))) ((tgr T0 a0 4 2).bind fun v112 => (v112).bind fun a116 => (tls T0 a116).bind fun v119 => some v119) (cond (decide (p0 = (7 : Int32))) ((tcl T0 a0 4).bind fun _ => (D_c_Node_waiting F a0 T0).bind fun v127 => some v127) (cond (decide (p0 = (8 : Int32))) ((tgi T0 a0 4 7).bind fun v133 => some v133) (cond (decide (p0 = (9 : Int32))) ((tgr T0 a0 4 4).bind fun v138 => (v138).bind fun a142 => (tai T0 a142 0 (p0 - (8 : Int32))).bind fun v145 => some v145) (cond (decide (p0 = (10 : Int32))) ((tgr T0 a0 4 4).bind fun v150 => (v150).bind fun a154 => (tai T0 a154 0 (p0 - (8 : Int32))).bind fun v157 => some v157) (cond (decide (p0 = (11 : Int32))) ((tcl T0 a0 4).bind fun _ => (D_c_Node_shuns F a0 (p0 - (10 : Int32)) p1 T0).bind fun v165 => (cond (m_c1 .eq v165) (some (0 : Int32)) ((tgr T0 a0 4 5).bind fun v173 => (v173).bind fun a177 => (tai T0 a177 0 (p0 - (10 : Int32))).bind fun v180 => some v180)).bind fun v183 => some v183) (cond (decide (p0 = (12 : Int32))) ((tcl T0 a0 4).bind fun _ => (D_c_Node_shuns F a0 (p0 - (10 : Int32)) p1 T0).bind fun v191 => (cond (m_c1 .eq v191) (some (0 : Int32)) ((tgr T0 a0 4 5).bind fun v199 => (v199).bind fun a203 => (tai T0 a203 0 (p0 - (10 : Int32))).bind fun v206 => some v206)).bind fun v209 => some v209) (some ((-1) : Int32))))))))))))))
theorem T_c_Node_tell {l : Launch} {w : List mM} {F : Nat} {a0 : Nat} {p0 : Int32} {p1 : Int32} {T0 : tT} {yz : Int32} (ha0 : okr T0.2.1 (some a0)) (h : RT T0 w) (h0 : D_c_Node_tell F a0 p0 p1 T0 = some yz) : m_Rb l M_221 (m_ent M_221 [.ref a0, .int p0, .int p1] w) (fun v w' => v = some (.int yz) ∧ RT T0 w' ∧ m_Fm w w') T0 T0 4 400 := by
  rw [show m_ent M_221 [.ref a0, .int p0, .int p1] w = (0, [(0, .ref a0), (1, .int p0), (2, .int p1)], [], w) from by first | rfl | (simp only [m_ent, lv_args_r, lv_args_a, lv_args_i, lv_args_l, lv_args_0]; done) | (simp only [m_ent, lv_args_r, lv_args_a, lv_args_i, lv_args_l, lv_args_0]; rfl)]
  generalize hw0 : w = w0 at h ⊢
  have hF : m_Fm w0 w0 := m_Fm.refl
  rw [D_c_Node_tell] at h0
  refine m_Rb.n0 b_221 (x_iload_n d_221_0 rfl) ?_
  cases hc1 : decide (p0 = (0 : Int32)) with
  | true =>
    have j2 := cT hc1 h0
    refine m_Rb.n0 b_221 (x_tsw (t := 68) d_221_1 (by rw [of_decide_eq_true hc1]; rfl)) ?_
    refine m_Rb.n0 b_221 (x_aload_n d_221_68 rfl) ?_
    obtain ⟨v3, e4, j5⟩ := bS j2
    refine m_Rb.tgetI b_221 d_221_69 rfl h e4 ?_
    obtain ⟨v10, e7, j11⟩ := bS j5
    have kk6 : ∀ (xz : Int32) (w1 : List mM), xz = v10 → RT T0 w1 → m_Fm w0 w1 → m_Rb l M_221 (80, [(0, .ref a0), (1, .int p0), (2, .int p1)], [.int xz], w1) (fun v w' => v = some (.int yz) ∧ RT T0 w' ∧ m_Fm w0 w') T0 T0 4 400 := by
      intro xz w12 ez h12 f12
      rw [ez]
      cases j11
      exact m_Rb.ret b_221 (m_rt_ir d_221_80 rfl rfl) ⟨rfl, h12, f12⟩
    cases hc8 : m_c1 .eq v3 with
    | true =>
      have j9 := cT hc8 e7
      refine m_Rb.n0 b_221 (x_ift d_221_72 rfl hc8) ?_
      refine m_Rb.n0 b_221 (x_iconst (z := 0) d_221_79 (by decide)) ?_
      exact kk6 _ _ (Option.some.inj j9) h hF
    | false =>
      have j9 := cF hc8 e7
      refine m_Rb.n0 b_221 (x_iff d_221_72 rfl hc8) ?_
      refine m_Rb.n0 b_221 (x_iconst (z := 1) d_221_75 (by decide)) ?_
      refine m_Rb.n0 b_221 (x_goto d_221_76 rfl) ?_
      exact kk6 _ _ (Option.some.inj j9) h hF
  | false =>
    have j2 := cF hc1 h0
    cases hc13 : decide (p0 = (1 : Int32)) with
    | true =>
      have j14 := cT hc13 j2
      refine m_Rb.n0 b_221 (x_tsw (t := 81) d_221_1 (by rw [of_decide_eq_true hc13]; rfl)) ?_
      refine m_Rb.n0 b_221 (x_aload_n d_221_81 rfl) ?_
      obtain ⟨v15, e16, j17⟩ := bS j14
      refine m_Rb.tgetR b_221 d_221_82 rfl h e16 (fun o18 => ?_)
      obtain ⟨a19, e20, j21⟩ := bS j17
      subst e20
      obtain ⟨_, e22, j23⟩ := bS j21
      obtain ⟨_, g24⟩ := RT.cls h e22
      obtain ⟨v25, e26, j27⟩ := bS j23
      refine m_Rb.callI b_221 (y_cv d_221_85 rfl q_75 (m_isRecv_of rfl g24) (show m_takeI _ _ = some (_, [_], []) from m_takeI_of rfl rfl rfl (Nat.le_of_ble_eq_true rfl)) (by simp only [m_okf, List.all_cons, List.all_nil, Bool.and_true, Bool.and_self, m_okv_i, m_okv_l, m_okv_0, m_okv_n0, m_okv_t, RT.okn h ha0, RT.okv h ha0, RT.okn h o18, RT.okv h o18]) rfl) (T_c_Store_count o18 h e26) hF rfl (fun w28 h28 f28 k28 => ?_) (by decide) (by decide)
      cases j27
      exact m_Rb.ret b_221 (m_rt_ir d_221_88 rfl rfl) ⟨rfl, h28, f28⟩
    | false =>
      have j14 := cF hc13 j2
      cases hc29 : decide (p0 = (2 : Int32)) with
      | true =>
        have j30 := cT hc29 j14
        refine m_Rb.n0 b_221 (x_tsw (t := 89) d_221_1 (by rw [of_decide_eq_true hc29]; rfl)) ?_
        refine m_Rb.n0 b_221 (x_aload_n d_221_89 rfl) ?_
        obtain ⟨v31, e32, j33⟩ := bS j30
        refine m_Rb.tgetR b_221 d_221_90 rfl h e32 (fun o34 => ?_)
        refine m_Rb.n0 b_221 (x_aload_n d_221_93 rfl) ?_
        obtain ⟨v35, e36, j37⟩ := bS j33
        refine m_Rb.tgetR b_221 d_221_94 rfl h e36 (fun o38 => ?_)
        obtain ⟨a39, e40, j41⟩ := bS j37
        subst e40
        obtain ⟨v42, e43, j44⟩ := bS j41
        refine m_Rb.tgetR b_221 d_221_97 rfl h e43 (fun o45 => ?_)
        obtain ⟨a46, e47, j48⟩ := bS j44
        subst e47
        obtain ⟨_, e49, j50⟩ := bS j48
        obtain ⟨_, g51⟩ := RT.cls h e49
        obtain ⟨v52, e53, j54⟩ := bS j50
        refine m_Rb.callI b_221 (y_cv d_221_100 rfl q_98 (m_isRecv_of rfl g51) (show m_takeI _ _ = some (_, [_, _], []) from m_takeI_of rfl rfl rfl (Nat.le_of_ble_eq_true rfl)) (by simp only [m_okf, List.all_cons, List.all_nil, Bool.and_true, Bool.and_self, m_okv_i, m_okv_l, m_okv_0, m_okv_n0, m_okv_t, RT.okn h ha0, RT.okv h ha0, RT.okv h o45, RT.okn h o34, RT.okv h o34]) (decide_eq_true (by simp only [lgs_r, lgs_a, lgs_i, lgs_l, lgs_0]; exact Nat.le_of_ble_eq_true rfl))) (T_c_Store_sizeOf o34 o45 h e53) hF rfl (fun w55 h55 f55 k55 => ?_) (by decide) (by decide)
        refine m_Rb.n0 b_221 (x_aload_n d_221_103 rfl) ?_
        obtain ⟨v56, e57, j58⟩ := bS j54
        refine m_Rb.tgetR b_221 d_221_104 rfl h55 e57 (fun o59 => ?_)
        refine m_Rb.n0 b_221 (x_aload_n d_221_107 rfl) ?_
        obtain ⟨v60, e61, j62⟩ := bS j58
        refine m_Rb.tgetR b_221 d_221_108 rfl h55 e61 (fun o63 => ?_)
        obtain ⟨a64, e65, j66⟩ := bS j62
        subst e65
        obtain ⟨v67, e68, j69⟩ := bS j66
        refine m_Rb.tgetR b_221 d_221_111 rfl h55 e68 (fun o70 => ?_)
        obtain ⟨a71, e72, j73⟩ := bS j69
        subst e72
        obtain ⟨_, e74, j75⟩ := bS j73
        obtain ⟨_, g76⟩ := RT.cls h55 e74
        obtain ⟨v77, e78, j79⟩ := bS j75
        refine m_Rb.callI b_221 (y_cv d_221_114 rfl q_98 (m_isRecv_of rfl g76) (show m_takeI _ _ = some (_, [_, _], [_]) from m_takeI_of rfl rfl rfl (Nat.le_of_ble_eq_true rfl)) (by simp only [m_okf, List.all_cons, List.all_nil, Bool.and_true, Bool.and_self, m_okv_i, m_okv_l, m_okv_0, m_okv_n0, m_okv_t, RT.okn h55 ha0, RT.okv h55 ha0, RT.okv h55 o70, RT.okn h55 o59, RT.okv h55 o59]) (decide_eq_true (by simp only [lgs_r, lgs_a, lgs_i, lgs_l, lgs_0]; exact Nat.le_of_ble_eq_true rfl))) (T_c_Store_sizeOf o59 o70 h55 e78) f55 rfl (fun w80 h80 f80 k80 => ?_) (by decide) (by decide)
        refine m_Rb.n0 b_221 (x_iadd d_221_117 rfl) ?_
        cases j79
        exact m_Rb.ret b_221 (m_rt_ir d_221_118 rfl rfl) ⟨rfl, h80, f80⟩
      | false =>
        have j30 := cF hc29 j14
        cases hc81 : decide (p0 = (3 : Int32)) with
        | true =>
          have j82 := cT hc81 j30
          refine m_Rb.n0 b_221 (x_tsw (t := 119) d_221_1 (by rw [of_decide_eq_true hc81]; rfl)) ?_
          refine m_Rb.n0 b_221 (x_aload_n d_221_119 rfl) ?_
          obtain ⟨v83, e84, j85⟩ := bS j82
          refine m_Rb.tgetR b_221 d_221_120 rfl h e84 (fun o86 => ?_)
          obtain ⟨a87, e88, j89⟩ := bS j85
          subst e88
          obtain ⟨v90, e91, j92⟩ := bS j89
          refine m_Rb.tgetR b_221 d_221_123 rfl h e91 (fun o93 => ?_)
          obtain ⟨a94, e95, j96⟩ := bS j92
          subst e95
          obtain ⟨v97, e98, j99⟩ := bS j96
          refine m_Rb.tlsize b_221 d_221_126 rfl (by simp only [m_okf, List.all_cons, List.all_nil, Bool.and_true, Bool.and_self, m_okv_i, m_okv_l, m_okv_0, m_okv_n0, m_okv_t, RT.okn h ha0, RT.okv h ha0, RT.okn h o93, RT.okv h o93]) (Nat.le_of_ble_eq_true rfl) h e98 ?_ (by decide) (by decide)
          cases j99
          exact m_Rb.ret b_221 (m_rt_ir d_221_129 rfl rfl) ⟨rfl, h, hF⟩
        | false =>
          have j82 := cF hc81 j30
          cases hc100 : decide (p0 = (4 : Int32)) with
          | true =>
            have j101 := cT hc100 j82
            refine m_Rb.n0 b_221 (x_tsw (t := 130) d_221_1 (by rw [of_decide_eq_true hc100]; rfl)) ?_
            refine m_Rb.n0 b_221 (x_aload_n d_221_130 rfl) ?_
            obtain ⟨v102, e103, j104⟩ := bS j101
            refine m_Rb.tgetI b_221 d_221_131 rfl h e103 ?_
            cases j104
            exact m_Rb.ret b_221 (m_rt_ir d_221_134 rfl rfl) ⟨rfl, h, hF⟩
          | false =>
            have j101 := cF hc100 j82
            cases hc105 : decide (p0 = (5 : Int32)) with
            | true =>
              have j106 := cT hc105 j101
              refine m_Rb.n0 b_221 (x_tsw (t := 135) d_221_1 (by rw [of_decide_eq_true hc105]; rfl)) ?_
              refine m_Rb.n0 b_221 (x_aload_n d_221_135 rfl) ?_
              obtain ⟨v107, e108, j109⟩ := bS j106
              refine m_Rb.tgetI b_221 d_221_136 rfl h e108 ?_
              cases j109
              exact m_Rb.ret b_221 (m_rt_ir d_221_139 rfl rfl) ⟨rfl, h, hF⟩
            | false =>
              have j106 := cF hc105 j101
              cases hc110 : decide (p0 = (6 : Int32)) with
              | true =>
                have j111 := cT hc110 j106
                refine m_Rb.n0 b_221 (x_tsw (t := 140) d_221_1 (by rw [of_decide_eq_true hc110]; rfl)) ?_
                refine m_Rb.n0 b_221 (x_aload_n d_221_140 rfl) ?_
                obtain ⟨v112, e113, j114⟩ := bS j111
                refine m_Rb.tgetR b_221 d_221_141 rfl h e113 (fun o115 => ?_)
                obtain ⟨a116, e117, j118⟩ := bS j114
                subst e117
                obtain ⟨v119, e120, j121⟩ := bS j118
                refine m_Rb.tlsize b_221 d_221_144 rfl (by simp only [m_okf, List.all_cons, List.all_nil, Bool.and_true, Bool.and_self, m_okv_i, m_okv_l, m_okv_0, m_okv_n0, m_okv_t, RT.okn h ha0, RT.okv h ha0, RT.okn h o115, RT.okv h o115]) (Nat.le_of_ble_eq_true rfl) h e120 ?_ (by decide) (by decide)
                cases j121
                exact m_Rb.ret b_221 (m_rt_ir d_221_147 rfl rfl) ⟨rfl, h, hF⟩
              | false =>
                have j111 := cF hc110 j106
                cases hc122 : decide (p0 = (7 : Int32)) with
                | true =>
                  have j123 := cT hc122 j111
                  refine m_Rb.n0 b_221 (x_tsw (t := 148) d_221_1 (by rw [of_decide_eq_true hc122]; rfl)) ?_
                  refine m_Rb.n0 b_221 (x_aload_n d_221_148 rfl) ?_
                  obtain ⟨_, e124, j125⟩ := bS j123
                  obtain ⟨_, g126⟩ := RT.cls h e124
                  obtain ⟨v127, e128, j129⟩ := bS j125
                  refine m_Rb.callI b_221 (y_cv d_221_149 rfl q_222 (m_isRecv_of rfl g126) (show m_takeI _ _ = some (_, [_], []) from m_takeI_of rfl rfl rfl (Nat.le_of_ble_eq_true rfl)) (by simp only [m_okf, List.all_cons, List.all_nil, Bool.and_true, Bool.and_self, m_okv_i, m_okv_l, m_okv_0, m_okv_n0, m_okv_t, RT.okn h ha0, RT.okv h ha0]) rfl) (T_c_Node_waiting ha0 h e128) hF rfl (fun w130 h130 f130 k130 => ?_) (by decide) (by decide)
                  cases j129
                  exact m_Rb.ret b_221 (m_rt_ir d_221_152 rfl rfl) ⟨rfl, h130, f130⟩
                | false =>
                  have j123 := cF hc122 j111
                  cases hc131 : decide (p0 = (8 : Int32)) with
                  | true =>
                    have j132 := cT hc131 j123
                    refine m_Rb.n0 b_221 (x_tsw (t := 153) d_221_1 (by rw [of_decide_eq_true hc131]; rfl)) ?_
                    refine m_Rb.n0 b_221 (x_aload_n d_221_153 rfl) ?_
                    obtain ⟨v133, e134, j135⟩ := bS j132
                    refine m_Rb.tgetI b_221 d_221_154 rfl h e134 ?_
                    cases j135
                    exact m_Rb.ret b_221 (m_rt_ir d_221_157 rfl rfl) ⟨rfl, h, hF⟩
                  | false =>
                    have j132 := cF hc131 j123
                    cases hc136 : decide (p0 = (9 : Int32)) with
                    | true =>
                      have j137 := cT hc136 j132
                      refine m_Rb.n0 b_221 (x_tsw (t := 158) d_221_1 (by rw [of_decide_eq_true hc136]; rfl)) ?_
                      refine m_Rb.n0 b_221 (x_aload_n d_221_158 rfl) ?_
                      obtain ⟨v138, e139, j140⟩ := bS j137
                      refine m_Rb.tgetR b_221 d_221_159 rfl h e139 (fun o141 => ?_)
                      refine m_Rb.n0 b_221 (x_iload_n d_221_162 rfl) ?_
                      refine m_Rb.n0 b_221 (x_bipush (z := 8) d_221_163 (by decide)) ?_
                      refine m_Rb.n0 b_221 (x_isub d_221_165 rfl) ?_
                      obtain ⟨a142, e143, j144⟩ := bS j140
                      subst e143
                      obtain ⟨v145, e146, j147⟩ := bS j144
                      refine m_Rb.tgetA b_221 d_221_166 h e146 ?_
                      cases j147
                      exact m_Rb.ret b_221 (m_rt_ir d_221_167 rfl rfl) ⟨rfl, h, hF⟩
                    | false =>
                      have j137 := cF hc136 j132
                      cases hc148 : decide (p0 = (10 : Int32)) with
                      | true =>
                        have j149 := cT hc148 j137
                        refine m_Rb.n0 b_221 (x_tsw (t := 158) d_221_1 (by rw [of_decide_eq_true hc148]; rfl)) ?_
                        refine m_Rb.n0 b_221 (x_aload_n d_221_158 rfl) ?_
                        obtain ⟨v150, e151, j152⟩ := bS j149
                        refine m_Rb.tgetR b_221 d_221_159 rfl h e151 (fun o153 => ?_)
                        refine m_Rb.n0 b_221 (x_iload_n d_221_162 rfl) ?_
                        refine m_Rb.n0 b_221 (x_bipush (z := 8) d_221_163 (by decide)) ?_
                        refine m_Rb.n0 b_221 (x_isub d_221_165 rfl) ?_
                        obtain ⟨a154, e155, j156⟩ := bS j152
                        subst e155
                        obtain ⟨v157, e158, j159⟩ := bS j156
                        refine m_Rb.tgetA b_221 d_221_166 h e158 ?_
                        cases j159
                        exact m_Rb.ret b_221 (m_rt_ir d_221_167 rfl rfl) ⟨rfl, h, hF⟩
                      | false =>
                        have j149 := cF hc148 j137
                        cases hc160 : decide (p0 = (11 : Int32)) with
                        | true =>
                          have j161 := cT hc160 j149
                          refine m_Rb.n0 b_221 (x_tsw (t := 168) d_221_1 (by rw [of_decide_eq_true hc160]; rfl)) ?_
                          refine m_Rb.n0 b_221 (x_aload_n d_221_168 rfl) ?_
                          refine m_Rb.n0 b_221 (x_iload_n d_221_169 rfl) ?_
                          refine m_Rb.n0 b_221 (x_bipush (z := 10) d_221_170 (by decide)) ?_
                          refine m_Rb.n0 b_221 (x_isub d_221_172 rfl) ?_
                          refine m_Rb.n0 b_221 (x_iload_n d_221_173 rfl) ?_
                          obtain ⟨_, e162, j163⟩ := bS j161
                          obtain ⟨_, g164⟩ := RT.cls h e162
                          obtain ⟨v165, e166, j167⟩ := bS j163
                          refine m_Rb.callI b_221 (y_cv d_221_174 rfl q_72 (m_isRecv_of rfl g164) (show m_takeI _ _ = some (_, [_, _, _], []) from m_takeI_of rfl rfl rfl (Nat.le_of_ble_eq_true rfl)) (by simp only [m_okf, List.all_cons, List.all_nil, Bool.and_true, Bool.and_self, m_okv_i, m_okv_l, m_okv_0, m_okv_n0, m_okv_t, RT.okn h ha0, RT.okv h ha0]) rfl) (T_c_Node_shuns ha0 h e166) hF rfl (fun w168 h168 f168 k168 => ?_) (by decide) (by decide)
                          obtain ⟨v183, e170, j184⟩ := bS j167
                          have kk169 : ∀ (xz : Int32) (w1 : List mM), xz = v183 → RT T0 w1 → m_Fm w0 w1 → m_Rb l M_221 (193, [(0, .ref a0), (1, .int p0), (2, .int p1)], [.int xz], w1) (fun v w' => v = some (.int yz) ∧ RT T0 w' ∧ m_Fm w0 w') T0 T0 4 400 := by
                            intro xz w185 ez h185 f185
                            rw [ez]
                            cases j184
                            exact m_Rb.ret b_221 (m_rt_ir d_221_193 rfl rfl) ⟨rfl, h185, f185⟩
                          cases hc171 : m_c1 .eq v165 with
                          | true =>
                            have j172 := cT hc171 e170
                            refine m_Rb.n0 b_221 (x_ift d_221_177 rfl hc171) ?_
                            refine m_Rb.n0 b_221 (x_iconst (z := 0) d_221_192 (by decide)) ?_
                            exact kk169 _ _ (Option.some.inj j172) h168 f168
                          | false =>
                            have j172 := cF hc171 e170
                            refine m_Rb.n0 b_221 (x_iff d_221_177 rfl hc171) ?_
                            refine m_Rb.n0 b_221 (x_aload_n d_221_180 rfl) ?_
                            obtain ⟨v173, e174, j175⟩ := bS j172
                            refine m_Rb.tgetR b_221 d_221_181 rfl h168 e174 (fun o176 => ?_)
                            refine m_Rb.n0 b_221 (x_iload_n d_221_184 rfl) ?_
                            refine m_Rb.n0 b_221 (x_bipush (z := 10) d_221_185 (by decide)) ?_
                            refine m_Rb.n0 b_221 (x_isub d_221_187 rfl) ?_
                            obtain ⟨a177, e178, j179⟩ := bS j175
                            subst e178
                            obtain ⟨v180, e181, j182⟩ := bS j179
                            refine m_Rb.tgetA b_221 d_221_188 h168 e181 ?_
                            refine m_Rb.n0 b_221 (x_goto d_221_189 rfl) ?_
                            exact kk169 _ _ (Option.some.inj j182) h168 f168
                        | false =>
                          have j161 := cF hc160 j149
                          cases hc186 : decide (p0 = (12 : Int32)) with
                          | true =>
                            have j187 := cT hc186 j161
                            refine m_Rb.n0 b_221 (x_tsw (t := 168) d_221_1 (by rw [of_decide_eq_true hc186]; rfl)) ?_
                            refine m_Rb.n0 b_221 (x_aload_n d_221_168 rfl) ?_
                            refine m_Rb.n0 b_221 (x_iload_n d_221_169 rfl) ?_
                            refine m_Rb.n0 b_221 (x_bipush (z := 10) d_221_170 (by decide)) ?_
                            refine m_Rb.n0 b_221 (x_isub d_221_172 rfl) ?_
                            refine m_Rb.n0 b_221 (x_iload_n d_221_173 rfl) ?_
                            obtain ⟨_, e188, j189⟩ := bS j187
                            obtain ⟨_, g190⟩ := RT.cls h e188
                            obtain ⟨v191, e192, j193⟩ := bS j189
                            refine m_Rb.callI b_221 (y_cv d_221_174 rfl q_72 (m_isRecv_of rfl g190) (show m_takeI _ _ = some (_, [_, _, _], []) from m_takeI_of rfl rfl rfl (Nat.le_of_ble_eq_true rfl)) (by simp only [m_okf, List.all_cons, List.all_nil, Bool.and_true, Bool.and_self, m_okv_i, m_okv_l, m_okv_0, m_okv_n0, m_okv_t, RT.okn h ha0, RT.okv h ha0]) rfl) (T_c_Node_shuns ha0 h e192) hF rfl (fun w194 h194 f194 k194 => ?_) (by decide) (by decide)
                            obtain ⟨v209, e196, j210⟩ := bS j193
                            have kk195 : ∀ (xz : Int32) (w1 : List mM), xz = v209 → RT T0 w1 → m_Fm w0 w1 → m_Rb l M_221 (193, [(0, .ref a0), (1, .int p0), (2, .int p1)], [.int xz], w1) (fun v w' => v = some (.int yz) ∧ RT T0 w' ∧ m_Fm w0 w') T0 T0 4 400 := by
                              intro xz w211 ez h211 f211
                              rw [ez]
                              cases j210
                              exact m_Rb.ret b_221 (m_rt_ir d_221_193 rfl rfl) ⟨rfl, h211, f211⟩
                            cases hc197 : m_c1 .eq v191 with
                            | true =>
                              have j198 := cT hc197 e196
                              refine m_Rb.n0 b_221 (x_ift d_221_177 rfl hc197) ?_
                              refine m_Rb.n0 b_221 (x_iconst (z := 0) d_221_192 (by decide)) ?_
                              exact kk195 _ _ (Option.some.inj j198) h194 f194
                            | false =>
                              have j198 := cF hc197 e196
                              refine m_Rb.n0 b_221 (x_iff d_221_177 rfl hc197) ?_
                              refine m_Rb.n0 b_221 (x_aload_n d_221_180 rfl) ?_
                              obtain ⟨v199, e200, j201⟩ := bS j198
                              refine m_Rb.tgetR b_221 d_221_181 rfl h194 e200 (fun o202 => ?_)
                              refine m_Rb.n0 b_221 (x_iload_n d_221_184 rfl) ?_
                              refine m_Rb.n0 b_221 (x_bipush (z := 10) d_221_185 (by decide)) ?_
                              refine m_Rb.n0 b_221 (x_isub d_221_187 rfl) ?_
                              obtain ⟨a203, e204, j205⟩ := bS j201
                              subst e204
                              obtain ⟨v206, e207, j208⟩ := bS j205
                              refine m_Rb.tgetA b_221 d_221_188 h194 e207 ?_
                              refine m_Rb.n0 b_221 (x_goto d_221_189 rfl) ?_
                              exact kk195 _ _ (Option.some.inj j208) h194 f194
                          | false =>
                            have j187 := cF hc186 j161
                            refine m_Rb.n0 b_221 (x_tsw (t := 194) d_221_1 (m_tsw_0 (n := 13) rfl (fun k hk => by match k, hk with | 0, _ => exact of_decide_eq_false hc1 | 1, _ => exact of_decide_eq_false hc13 | 2, _ => exact of_decide_eq_false hc29 | 3, _ => exact of_decide_eq_false hc81 | 4, _ => exact of_decide_eq_false hc100 | 5, _ => exact of_decide_eq_false hc105 | 6, _ => exact of_decide_eq_false hc110 | 7, _ => exact of_decide_eq_false hc122 | 8, _ => exact of_decide_eq_false hc131 | 9, _ => exact of_decide_eq_false hc136 | 10, _ => exact of_decide_eq_false hc148 | 11, _ => exact of_decide_eq_false hc160 | 12, _ => exact of_decide_eq_false hc186 | k + 13, hk => omega) rfl)) ?_
                            refine m_Rb.n0 b_221 (x_iconst (z := (-1)) d_221_194 (by decide)) ?_
                            cases j187
                            exact m_Rb.ret b_221 (m_rt_ir d_221_195 rfl rfl) ⟨rfl, h, hF⟩
def D_c_EdgeHouse_node (F : Nat) (a0 : Nat) (p0 : Int32) (p1 : Int32) (T0 : tT) : Option (Int32) := (D_c_EdgeHouse_isNode F p0 T0).bind fun v1 => cond (m_c1 .eq v1) (some ((-1) : Int32)) (cond (m_c1 .lt p1) (some ((-1) : Int32)) (cond (m_c2 .le p1 (12 : Int32)) ((tgr T0 a0 0 3).bind fun v11 => (v11).bind fun a15 => (tar T0 a15 7 p0).bind fun v18 => (tgi T0 a0 0 14).bind fun v22 => (v18).bind fun a25 => (tcl T0 a25 4).bind fun _ => (D_c_Node_tell F a25 p1 v22 T0).bind fun v31 => some v31) (some ((-1) : Int32))))
theorem T_c_EdgeHouse_node {l : Launch} {w : List mM} {F : Nat} {a0 : Nat} {p0 : Int32} {p1 : Int32} {T0 : tT} {yz : Int32} (ha0 : okr T0.2.1 (some a0)) (h : RT T0 w) (h0 : D_c_EdgeHouse_node F a0 p0 p1 T0 = some yz) : m_Rb l M_220 (m_ent M_220 [.ref a0, .int p0, .int p1] w) (fun v w' => v = some (.int yz) ∧ RT T0 w' ∧ m_Fm w w') T0 T0 5 500 := by
  rw [show m_ent M_220 [.ref a0, .int p0, .int p1] w = (0, [(0, .ref a0), (1, .int p0), (2, .int p1)], [], w) from by first | rfl | (simp only [m_ent, lv_args_r, lv_args_a, lv_args_i, lv_args_l, lv_args_0]; done) | (simp only [m_ent, lv_args_r, lv_args_a, lv_args_i, lv_args_l, lv_args_0]; rfl)]
  generalize hw0 : w = w0 at h ⊢
  have hF : m_Fm w0 w0 := m_Fm.refl
  rw [D_c_EdgeHouse_node] at h0
  refine m_Rb.n0 b_220 (x_iload_n d_220_0 rfl) ?_
  obtain ⟨v1, e2, j3⟩ := bS h0
  refine m_Rb.callI b_220 (y_cs d_220_1 rfl q_131 (show m_takeS _ _ = some (_, [_], []) from m_takeS_of (Nat.le_of_ble_eq_true rfl) rfl rfl (Nat.le_of_ble_eq_true rfl)) (by simp only [m_okf, List.all_cons, List.all_nil, Bool.and_true, Bool.and_self, m_okv_i, m_okv_l, m_okv_0, m_okv_n0, m_okv_t, RT.okn h ha0, RT.okv h ha0]) rfl) (T_c_EdgeHouse_isNode h e2) hF rfl (fun w4 h4 f4 k4 => ?_) (by decide) (by decide)
  cases hc5 : m_c1 .eq v1 with
  | true =>
    have j6 := cT hc5 j3
    refine m_Rb.n0 b_220 (x_ift d_220_4 rfl hc5) ?_
    refine m_Rb.n0 b_220 (x_iconst (z := (-1)) d_220_17 (by decide)) ?_
    cases j6
    exact m_Rb.ret b_220 (m_rt_ir d_220_18 rfl rfl) ⟨rfl, h4, f4⟩
  | false =>
    have j6 := cF hc5 j3
    refine m_Rb.n0 b_220 (x_iff d_220_4 rfl hc5) ?_
    refine m_Rb.n0 b_220 (x_iload_n d_220_7 rfl) ?_
    cases hc7 : m_c1 .lt p1 with
    | true =>
      have j8 := cT hc7 j6
      refine m_Rb.n0 b_220 (x_ift d_220_8 rfl hc7) ?_
      refine m_Rb.n0 b_220 (x_iconst (z := (-1)) d_220_17 (by decide)) ?_
      cases j8
      exact m_Rb.ret b_220 (m_rt_ir d_220_18 rfl rfl) ⟨rfl, h4, f4⟩
    | false =>
      have j8 := cF hc7 j6
      refine m_Rb.n0 b_220 (x_iff d_220_8 rfl hc7) ?_
      refine m_Rb.n0 b_220 (x_iload_n d_220_11 rfl) ?_
      refine m_Rb.n0 b_220 (x_bipush (z := 12) d_220_12 (by decide)) ?_
      cases hc9 : m_c2 .le p1 (12 : Int32) with
      | true =>
        have j10 := cT hc9 j8
        refine m_Rb.n0 b_220 (x_ict d_220_14 rfl hc9) ?_
        refine m_Rb.n0 b_220 (x_aload_n d_220_19 rfl) ?_
        obtain ⟨v11, e12, j13⟩ := bS j10
        refine m_Rb.tgetR b_220 d_220_20 rfl h4 e12 (fun o14 => ?_)
        refine m_Rb.n0 b_220 (x_iload_n d_220_23 rfl) ?_
        obtain ⟨a15, e16, j17⟩ := bS j13
        subst e16
        obtain ⟨v18, e19, j20⟩ := bS j17
        refine m_Rb.tgetO (t := 7) b_220 d_220_24 rfl rfl h4 e19 (fun o21 => ?_)
        refine m_Rb.n0 b_220 (x_iload_n d_220_25 rfl) ?_
        refine m_Rb.n0 b_220 (x_aload_n d_220_26 rfl) ?_
        obtain ⟨v22, e23, j24⟩ := bS j20
        refine m_Rb.tgetI b_220 d_220_27 rfl h4 e23 ?_
        obtain ⟨a25, e26, j27⟩ := bS j24
        subst e26
        obtain ⟨_, e28, j29⟩ := bS j27
        obtain ⟨_, g30⟩ := RT.cls h4 e28
        obtain ⟨v31, e32, j33⟩ := bS j29
        refine m_Rb.callI b_220 (y_cv d_220_30 rfl q_221 (m_isRecv_of rfl g30) (show m_takeI _ _ = some (_, [_, _, _], []) from m_takeI_of rfl rfl rfl (Nat.le_of_ble_eq_true rfl)) (by simp only [m_okf, List.all_cons, List.all_nil, Bool.and_true, Bool.and_self, m_okv_i, m_okv_l, m_okv_0, m_okv_n0, m_okv_t, RT.okn h4 ha0, RT.okv h4 ha0, RT.okn h4 o21, RT.okv h4 o21]) rfl) (T_c_Node_tell o21 h4 e32) f4 rfl (fun w34 h34 f34 k34 => ?_) (by decide) (by decide)
        cases j33
        exact m_Rb.ret b_220 (m_rt_ir d_220_33 rfl rfl) ⟨rfl, h34, f34⟩
      | false =>
        have j10 := cF hc9 j8
        refine m_Rb.n0 b_220 (x_icf d_220_14 rfl hc9) ?_
        refine m_Rb.n0 b_220 (x_iconst (z := (-1)) d_220_17 (by decide)) ?_
        cases j10
        exact m_Rb.ret b_220 (m_rt_ir d_220_18 rfl rfl) ⟨rfl, h4, f4⟩
def D_c_Entry_tell_24 (F : Nat) (x0 : Nat) (x1 : Int32) (x2 : Int32) (T0 : tT) : Option (Int32) := cond (decide (x1 = (0 : Int32))) ((tgr T0 x0 11 2).bind fun v10 => (v10).bind fun a14 => (tgi T0 a14 13 1).bind fun v17 => some v17) (cond (decide (x1 = (1 : Int32))) ((tcl T0 x0 11).bind fun _ => (D_c_Entry_ageAt F x0 x2 T0).bind fun v25 => some v25) (cond (decide (x1 = (2 : Int32))) ((tgi T0 x0 11 7).bind fun v31 => some (F_bc v31)) (cond (decide (x1 = (3 : Int32))) ((tgi T0 x0 11 4).bind fun v36 => some v36) (cond (decide (x1 = (4 : Int32))) ((tgi T0 x0 11 8).bind fun v41 => (cond (m_c1 .eq v41) (some (0 : Int32)) (some (1 : Int32))).bind fun v48 => some v48) (cond (decide (x1 = (5 : Int32))) (some ((-1) : Int32)) (cond (decide (x1 = (6 : Int32))) ((tgr T0 x0 11 2).bind fun v55 => (v55).bind fun a59 => (tgi T0 a59 13 9).bind fun v62 => some v62) (some ((-1) : Int32))))))))
theorem T_c_Entry_tell_24 {l : Launch} {w0 : List mM} {F : Nat} {T0 : tT} {x0 : Nat} {x1 : Int32} {x2 : Int32} {w : List mM} {yz : Int32} (hx0 : okr T0.2.1 (some x0)) (h : RT T0 w) (hF : m_Fm w0 w) (h0 : D_c_Entry_tell_24 F x0 x1 x2 T0 = some yz) : m_Rb l M_224 (24, [(0, .ref x0), (1, .int x1), (2, .int x2)], [], w) (fun v w' => v = some (.int yz) ∧ RT T0 w' ∧ m_Fm w0 w') T0 T0 1 100 := by
  rw [D_c_Entry_tell_24] at h0
  refine m_Rb.n0 b_224 (x_iload_n d_224_24 rfl) ?_
  cases hc8 : decide (x1 = (0 : Int32)) with
  | true =>
    have j9 := cT hc8 h0
    refine m_Rb.n0 b_224 (x_tsw (t := 68) d_224_25 (by rw [of_decide_eq_true hc8]; rfl)) ?_
    refine m_Rb.n0 b_224 (x_aload_n d_224_68 rfl) ?_
    obtain ⟨v10, e11, j12⟩ := bS j9
    refine m_Rb.tgetR b_224 d_224_69 rfl h e11 (fun o13 => ?_)
    obtain ⟨a14, e15, j16⟩ := bS j12
    subst e15
    obtain ⟨v17, e18, j19⟩ := bS j16
    refine m_Rb.tgetI b_224 d_224_72 rfl h e18 ?_
    cases j19
    exact m_Rb.ret b_224 (m_rt_ir d_224_75 rfl rfl) ⟨rfl, h, hF⟩
  | false =>
    have j9 := cF hc8 h0
    cases hc20 : decide (x1 = (1 : Int32)) with
    | true =>
      have j21 := cT hc20 j9
      refine m_Rb.n0 b_224 (x_tsw (t := 76) d_224_25 (by rw [of_decide_eq_true hc20]; rfl)) ?_
      refine m_Rb.n0 b_224 (x_aload_n d_224_76 rfl) ?_
      refine m_Rb.n0 b_224 (x_iload_n d_224_77 rfl) ?_
      obtain ⟨_, e22, j23⟩ := bS j21
      obtain ⟨_, g24⟩ := RT.cls h e22
      obtain ⟨v25, e26, j27⟩ := bS j23
      refine m_Rb.callI b_224 (y_cv d_224_78 rfl q_83 (m_isRecv_of rfl g24) (show m_takeI _ _ = some (_, [_, _], []) from m_takeI_of rfl rfl rfl (Nat.le_of_ble_eq_true rfl)) (by simp only [m_okf, List.all_cons, List.all_nil, Bool.and_true, Bool.and_self, m_okv_i, m_okv_l, m_okv_0, m_okv_n0, m_okv_t, RT.okn h hx0, RT.okv h hx0]) rfl) (T_c_Entry_ageAt hx0 h e26) hF rfl (fun w28 h28 f28 k28 => ?_) (by decide) (by decide)
      cases j27
      exact m_Rb.ret b_224 (m_rt_ir d_224_81 rfl rfl) ⟨rfl, h28, f28⟩
    | false =>
      have j21 := cF hc20 j9
      cases hc29 : decide (x1 = (2 : Int32)) with
      | true =>
        have j30 := cT hc29 j21
        refine m_Rb.n0 b_224 (x_tsw (t := 82) d_224_25 (by rw [of_decide_eq_true hc29]; rfl)) ?_
        refine m_Rb.n0 b_224 (x_aload_n d_224_82 rfl) ?_
        obtain ⟨v31, e32, j33⟩ := bS j30
        refine m_Rb.tgetI b_224 d_224_83 rfl h e32 ?_
        refine m_Rb.callE b_224 (y_cs d_224_86 rfl q_100 (show m_takeS _ _ = some (_, [_], []) from m_takeS_of (Nat.le_of_ble_eq_true rfl) rfl rfl (Nat.le_of_ble_eq_true rfl)) (by simp only [m_okf, List.all_cons, List.all_nil, Bool.and_true, Bool.and_self, m_okv_i, m_okv_l, m_okv_0, m_okv_n0, m_okv_t, RT.okn h hx0, RT.okv h hx0]) rfl) P_bc rfl ?_ (by decide) (by decide)
        cases j33
        exact m_Rb.ret b_224 (m_rt_ir d_224_89 rfl rfl) ⟨rfl, h, hF⟩
      | false =>
        have j30 := cF hc29 j21
        cases hc34 : decide (x1 = (3 : Int32)) with
        | true =>
          have j35 := cT hc34 j30
          refine m_Rb.n0 b_224 (x_tsw (t := 90) d_224_25 (by rw [of_decide_eq_true hc34]; rfl)) ?_
          refine m_Rb.n0 b_224 (x_aload_n d_224_90 rfl) ?_
          obtain ⟨v36, e37, j38⟩ := bS j35
          refine m_Rb.tgetI b_224 d_224_91 rfl h e37 ?_
          cases j38
          exact m_Rb.ret b_224 (m_rt_ir d_224_94 rfl rfl) ⟨rfl, h, hF⟩
        | false =>
          have j35 := cF hc34 j30
          cases hc39 : decide (x1 = (4 : Int32)) with
          | true =>
            have j40 := cT hc39 j35
            refine m_Rb.n0 b_224 (x_tsw (t := 95) d_224_25 (by rw [of_decide_eq_true hc39]; rfl)) ?_
            refine m_Rb.n0 b_224 (x_aload_n d_224_95 rfl) ?_
            obtain ⟨v41, e42, j43⟩ := bS j40
            refine m_Rb.tgetI b_224 d_224_96 rfl h e42 ?_
            obtain ⟨v48, e45, j49⟩ := bS j43
            have kk44 : ∀ (xz : Int32) (w1 : List mM), xz = v48 → RT T0 w1 → m_Fm w0 w1 → m_Rb l M_224 (107, [(0, .ref x0), (1, .int x1), (2, .int x2)], [.int xz], w1) (fun v w' => v = some (.int yz) ∧ RT T0 w' ∧ m_Fm w0 w') T0 T0 1 100 := by
              intro xz w50 ez h50 f50
              rw [ez]
              cases j49
              exact m_Rb.ret b_224 (m_rt_ir d_224_107 rfl rfl) ⟨rfl, h50, f50⟩
            cases hc46 : m_c1 .eq v41 with
            | true =>
              have j47 := cT hc46 e45
              refine m_Rb.n0 b_224 (x_ift d_224_99 rfl hc46) ?_
              refine m_Rb.n0 b_224 (x_iconst (z := 0) d_224_106 (by decide)) ?_
              exact kk44 _ _ (Option.some.inj j47) h hF
            | false =>
              have j47 := cF hc46 e45
              refine m_Rb.n0 b_224 (x_iff d_224_99 rfl hc46) ?_
              refine m_Rb.n0 b_224 (x_iconst (z := 1) d_224_102 (by decide)) ?_
              refine m_Rb.n0 b_224 (x_goto d_224_103 rfl) ?_
              exact kk44 _ _ (Option.some.inj j47) h hF
          | false =>
            have j40 := cF hc39 j35
            cases hc51 : decide (x1 = (5 : Int32)) with
            | true =>
              have j52 := cT hc51 j40
              refine m_Rb.n0 b_224 (x_tsw (t := 116) d_224_25 (by rw [of_decide_eq_true hc51]; rfl)) ?_
              refine m_Rb.n0 b_224 (x_iconst (z := (-1)) d_224_116 (by decide)) ?_
              cases j52
              exact m_Rb.ret b_224 (m_rt_ir d_224_117 rfl rfl) ⟨rfl, h, hF⟩
            | false =>
              have j52 := cF hc51 j40
              cases hc53 : decide (x1 = (6 : Int32)) with
              | true =>
                have j54 := cT hc53 j52
                refine m_Rb.n0 b_224 (x_tsw (t := 108) d_224_25 (by rw [of_decide_eq_true hc53]; rfl)) ?_
                refine m_Rb.n0 b_224 (x_aload_n d_224_108 rfl) ?_
                obtain ⟨v55, e56, j57⟩ := bS j54
                refine m_Rb.tgetR b_224 d_224_109 rfl h e56 (fun o58 => ?_)
                obtain ⟨a59, e60, j61⟩ := bS j57
                subst e60
                obtain ⟨v62, e63, j64⟩ := bS j61
                refine m_Rb.tgetI b_224 d_224_112 rfl h e63 ?_
                cases j64
                exact m_Rb.ret b_224 (m_rt_ir d_224_115 rfl rfl) ⟨rfl, h, hF⟩
              | false =>
                have j54 := cF hc53 j52
                refine m_Rb.n0 b_224 (x_tsw (t := 116) d_224_25 (m_tsw_0 (n := 7) rfl (fun k hk => by match k, hk with | 0, _ => exact of_decide_eq_false hc8 | 1, _ => exact of_decide_eq_false hc20 | 2, _ => exact of_decide_eq_false hc29 | 3, _ => exact of_decide_eq_false hc34 | 4, _ => exact of_decide_eq_false hc39 | 5, _ => exact of_decide_eq_false hc51 | 6, _ => exact of_decide_eq_false hc53 | k + 7, hk => omega) rfl)) ?_
                refine m_Rb.n0 b_224 (x_iconst (z := (-1)) d_224_116 (by decide)) ?_
                cases j54
                exact m_Rb.ret b_224 (m_rt_ir d_224_117 rfl rfl) ⟨rfl, h, hF⟩
def D_c_Entry_tell (F : Nat) (a0 : Nat) (p0 : Int32) (p1 : Int32) (T0 : tT) : Option (Int32) := cond (m_c2 .lt p0 (16 : Int32)) (D_c_Entry_tell_24 F a0 p0 p1 T0) (cond (m_c2 .ge p0 (32 : Int32)) (D_c_Entry_tell_24 F a0 p0 p1 T0) ((tgi T0 a0 11 7).bind fun v5 => some ((v5 >>> ((p0 - (16 : Int32)) &&& 31)) &&& (1 : Int32))))
theorem T_c_Entry_tell {l : Launch} {w : List mM} {F : Nat} {a0 : Nat} {p0 : Int32} {p1 : Int32} {T0 : tT} {yz : Int32} (ha0 : okr T0.2.1 (some a0)) (h : RT T0 w) (h0 : D_c_Entry_tell F a0 p0 p1 T0 = some yz) : m_Rb l M_224 (m_ent M_224 [.ref a0, .int p0, .int p1] w) (fun v w' => v = some (.int yz) ∧ RT T0 w' ∧ m_Fm w w') T0 T0 1 100 := by
  rw [show m_ent M_224 [.ref a0, .int p0, .int p1] w = (0, [(0, .ref a0), (1, .int p0), (2, .int p1)], [], w) from by first | rfl | (simp only [m_ent, lv_args_r, lv_args_a, lv_args_i, lv_args_l, lv_args_0]; done) | (simp only [m_ent, lv_args_r, lv_args_a, lv_args_i, lv_args_l, lv_args_0]; rfl)]
  generalize hw0 : w = w0 at h ⊢
  have hF : m_Fm w0 w0 := m_Fm.refl
  rw [D_c_Entry_tell] at h0
  refine m_Rb.n0 b_224 (x_iload_n d_224_0 rfl) ?_
  refine m_Rb.n0 b_224 (x_bipush (z := 16) d_224_1 (by decide)) ?_
  cases hc1 : m_c2 .lt p0 (16 : Int32) with
  | true =>
    have j2 := cT hc1 h0
    refine m_Rb.n0 b_224 (x_ict d_224_3 rfl hc1) ?_
    exact m_Rb.pick [0, 1, 2] rfl (T_c_Entry_tell_24 ha0 h hF j2)
  | false =>
    have j2 := cF hc1 h0
    refine m_Rb.n0 b_224 (x_icf d_224_3 rfl hc1) ?_
    refine m_Rb.n0 b_224 (x_iload_n d_224_6 rfl) ?_
    refine m_Rb.n0 b_224 (x_bipush (z := 32) d_224_7 (by decide)) ?_
    cases hc3 : m_c2 .ge p0 (32 : Int32) with
    | true =>
      have j4 := cT hc3 j2
      refine m_Rb.n0 b_224 (x_ict d_224_9 rfl hc3) ?_
      exact m_Rb.pick [0, 1, 2] rfl (T_c_Entry_tell_24 ha0 h hF j4)
    | false =>
      have j4 := cF hc3 j2
      refine m_Rb.n0 b_224 (x_icf d_224_9 rfl hc3) ?_
      refine m_Rb.n0 b_224 (x_aload_n d_224_12 rfl) ?_
      obtain ⟨v5, e6, j7⟩ := bS j4
      refine m_Rb.tgetI b_224 d_224_13 rfl h e6 ?_
      refine m_Rb.n0 b_224 (x_iload_n d_224_16 rfl) ?_
      refine m_Rb.n0 b_224 (x_bipush (z := 16) d_224_17 (by decide)) ?_
      refine m_Rb.n0 b_224 (x_isub d_224_19 rfl) ?_
      refine m_Rb.n0 b_224 (x_ishr d_224_20 rfl) ?_
      refine m_Rb.n0 b_224 (x_iconst (z := 1) d_224_21 (by decide)) ?_
      refine m_Rb.n0 b_224 (x_iand d_224_22 rfl) ?_
      cases j7
      exact m_Rb.ret b_224 (m_rt_ir d_224_23 rfl rfl) ⟨rfl, h, hF⟩
def D_c_EdgeHouse_entry (F : Nat) (a0 : Nat) (p0 : Int32) (p1 : Int32) (p2 : Int32) (p3 : Int32) (p4 : Int32) (T0 : tT) : Option (Int32) := (D_c_EdgeHouse_isNode F p0 T0).bind fun v1 => cond (m_c1 .ne v1) ((tgr T0 a0 0 3).bind fun v7 => (v7).bind fun a11 => (tar T0 a11 7 p0).bind fun v14 => (v14).bind fun a18 => (tgr T0 a18 4 1).bind fun v21 => (v21).bind fun a25 => (tcl T0 a25 5).bind fun _ => (D_c_Store_find F a25 p1 p2 p3 T0).bind fun v31 => nc v31 (some ((-1) : Int32)) fun a35 => (cond (m_c2 .ne p4 (5 : Int32)) ((tgi T0 a0 0 14).bind fun v39 => (tcl T0 a35 11).bind fun _ => (D_c_Entry_tell F a35 p4 v39 T0).bind fun v45 => some v45) ((tcl T0 a25 5).bind fun _ => (D_c_Store_placeOf F a25 (some a35) T0).bind fun v52 => some v52))) (some ((-1) : Int32))
theorem T_c_EdgeHouse_entry {l : Launch} {w : List mM} {F : Nat} {a0 : Nat} {p0 : Int32} {p1 : Int32} {p2 : Int32} {p3 : Int32} {p4 : Int32} {T0 : tT} {yz : Int32} (ha0 : okr T0.2.1 (some a0)) (h : RT T0 w) (h0 : D_c_EdgeHouse_entry F a0 p0 p1 p2 p3 p4 T0 = some yz) : m_Rb l M_223 (m_ent M_223 [.ref a0, .int p0, .int p1, .int p2, .int p3, .int p4] w) (fun v w' => v = some (.int yz) ∧ RT T0 w' ∧ m_Fm w w') T0 T0 5 500 := by
  rw [show m_ent M_223 [.ref a0, .int p0, .int p1, .int p2, .int p3, .int p4] w = (0, [(0, .ref a0), (1, .int p0), (2, .int p1), (3, .int p2), (4, .int p3), (5, .int p4)], [], w) from by first | rfl | (simp only [m_ent, lv_args_r, lv_args_a, lv_args_i, lv_args_l, lv_args_0]; done) | (simp only [m_ent, lv_args_r, lv_args_a, lv_args_i, lv_args_l, lv_args_0]; rfl)]
  generalize hw0 : w = w0 at h ⊢
  have hF : m_Fm w0 w0 := m_Fm.refl
  rw [D_c_EdgeHouse_entry] at h0
  refine m_Rb.n0 b_223 (x_iload_n d_223_0 rfl) ?_
  obtain ⟨v1, e2, j3⟩ := bS h0
  refine m_Rb.callI b_223 (y_cs d_223_1 rfl q_131 (show m_takeS _ _ = some (_, [_], []) from m_takeS_of (Nat.le_of_ble_eq_true rfl) rfl rfl (Nat.le_of_ble_eq_true rfl)) (by simp only [m_okf, List.all_cons, List.all_nil, Bool.and_true, Bool.and_self, m_okv_i, m_okv_l, m_okv_0, m_okv_n0, m_okv_t, RT.okn h ha0, RT.okv h ha0]) rfl) (T_c_EdgeHouse_isNode h e2) hF rfl (fun w4 h4 f4 k4 => ?_) (by decide) (by decide)
  cases hc5 : m_c1 .ne v1 with
  | true =>
    have j6 := cT hc5 j3
    refine m_Rb.n0 b_223 (x_ift d_223_4 rfl hc5) ?_
    refine m_Rb.n0 b_223 (x_aload_n d_223_9 rfl) ?_
    obtain ⟨v7, e8, j9⟩ := bS j6
    refine m_Rb.tgetR b_223 d_223_10 rfl h4 e8 (fun o10 => ?_)
    refine m_Rb.n0 b_223 (x_iload_n d_223_13 rfl) ?_
    obtain ⟨a11, e12, j13⟩ := bS j9
    subst e12
    obtain ⟨v14, e15, j16⟩ := bS j13
    refine m_Rb.tgetO (t := 7) b_223 d_223_14 rfl rfl h4 e15 (fun o17 => ?_)
    obtain ⟨a18, e19, j20⟩ := bS j16
    subst e19
    obtain ⟨v21, e22, j23⟩ := bS j20
    refine m_Rb.tgetR b_223 d_223_15 rfl h4 e22 (fun o24 => ?_)
    refine m_Rb.n0 b_223 (x_astorer (x := v21) d_223_18 rfl (show m_put1 _ _ _ = [(6, _), (0, _), (1, _), (2, _), (3, _), (4, _), (5, _)] from rfl)) ?_
    refine m_Rb.n0 b_223 (x_aloadr (x := v21) d_223_20 rfl) ?_
    refine m_Rb.n0 b_223 (x_iload_n d_223_22 rfl) ?_
    refine m_Rb.n0 b_223 (x_iload_n d_223_23 rfl) ?_
    refine m_Rb.n0 b_223 (x_iload d_223_24 rfl) ?_
    obtain ⟨a25, e26, j27⟩ := bS j23
    subst e26
    obtain ⟨_, e28, j29⟩ := bS j27
    obtain ⟨_, g30⟩ := RT.cls h4 e28
    obtain ⟨v31, e32, j33⟩ := bS j29
    refine m_Rb.callR b_223 (y_cv d_223_26 rfl q_144 (m_isRecv_of rfl g30) (show m_takeI _ _ = some (_, [_, _, _, _], []) from m_takeI_of rfl rfl rfl (Nat.le_of_ble_eq_true rfl)) (by simp only [m_okf, List.all_cons, List.all_nil, Bool.and_true, Bool.and_self, m_okv_i, m_okv_l, m_okv_0, m_okv_n0, m_okv_t, RT.okn h4 o24, RT.okv h4 o24, RT.okn h4 ha0, RT.okv h4 ha0]) rfl) (T_c_Store_find o24 h4 e32) f4 rfl (fun w34 o34 h34 f34 k34 => ?_) (by decide) (by decide)
    refine m_Rb.n0 b_223 (x_astorer (x := v31) d_223_29 rfl (show m_put1 _ _ _ = [(7, _), (6, _), (0, _), (1, _), (2, _), (3, _), (4, _), (5, _)] from rfl)) ?_
    refine m_Rb.n0 b_223 (x_aloadr (x := v31) d_223_31 rfl) ?_
    cases v31 with
    | none =>
      have j36 := nN j33
      refine m_Rb.n0 b_223 (x_ifnonnull0 d_223_33 rfl) ?_
      refine m_Rb.n0 b_223 (x_iconst (z := (-1)) d_223_36 (by decide)) ?_
      cases j36
      exact m_Rb.ret b_223 (m_rt_ir d_223_37 rfl rfl) ⟨rfl, h34, f34⟩
    | some a35 =>
      have j36 := nS j33
      refine m_Rb.n0 b_223 (x_ifnonnull1 d_223_33 rfl) ?_
      refine m_Rb.n0 b_223 (x_iload d_223_38 rfl) ?_
      refine m_Rb.n0 b_223 (x_iconst (z := 5) d_223_40 (by decide)) ?_
      cases hc37 : m_c2 .ne p4 (5 : Int32) with
      | true =>
        have j38 := cT hc37 j36
        refine m_Rb.n0 b_223 (x_ict d_223_41 rfl hc37) ?_
        refine m_Rb.n0 b_223 (x_aload d_223_52 rfl) ?_
        refine m_Rb.n0 b_223 (x_iload d_223_54 rfl) ?_
        refine m_Rb.n0 b_223 (x_aload_n d_223_56 rfl) ?_
        obtain ⟨v39, e40, j41⟩ := bS j38
        refine m_Rb.tgetI b_223 d_223_57 rfl h34 e40 ?_
        obtain ⟨_, e42, j43⟩ := bS j41
        obtain ⟨_, g44⟩ := RT.cls h34 e42
        obtain ⟨v45, e46, j47⟩ := bS j43
        refine m_Rb.callI b_223 (y_cv d_223_60 rfl q_224 (m_isRecv_of rfl g44) (show m_takeI _ _ = some (_, [_, _, _], []) from m_takeI_of rfl rfl rfl (Nat.le_of_ble_eq_true rfl)) (by simp only [m_okf, List.all_cons, List.all_nil, Bool.and_true, Bool.and_self, m_okv_i, m_okv_l, m_okv_0, m_okv_n0, m_okv_t, RT.okn h34 o34, RT.okv h34 o34, RT.okn h34 o24, RT.okv h34 o24, RT.okn h34 ha0, RT.okv h34 ha0]) rfl) (T_c_Entry_tell o34 h34 e46) f34 rfl (fun w48 h48 f48 k48 => ?_) (by decide) (by decide)
        cases j47
        exact m_Rb.ret b_223 (m_rt_ir d_223_63 rfl rfl) ⟨rfl, h48, f48⟩
      | false =>
        have j38 := cF hc37 j36
        refine m_Rb.n0 b_223 (x_icf d_223_41 rfl hc37) ?_
        refine m_Rb.n0 b_223 (x_aload d_223_44 rfl) ?_
        refine m_Rb.n0 b_223 (x_aload d_223_46 rfl) ?_
        obtain ⟨_, e49, j50⟩ := bS j38
        obtain ⟨_, g51⟩ := RT.cls h34 e49
        obtain ⟨v52, e53, j54⟩ := bS j50
        refine m_Rb.callI b_223 (y_cv d_223_48 rfl q_94 (m_isRecv_of rfl g51) (show m_takeI _ _ = some (_, [_, _], []) from m_takeI_of rfl rfl rfl (Nat.le_of_ble_eq_true rfl)) (by simp only [m_okf, List.all_cons, List.all_nil, Bool.and_true, Bool.and_self, m_okv_i, m_okv_l, m_okv_0, m_okv_n0, m_okv_t, RT.okn h34 o34, RT.okv h34 o34, RT.okn h34 o24, RT.okv h34 o24, RT.okn h34 ha0, RT.okv h34 ha0]) rfl) (T_c_Store_placeOf o24 o34 h34 e53) f34 rfl (fun w55 h55 f55 k55 => ?_) (by decide) (by decide)
        cases j54
        exact m_Rb.ret b_223 (m_rt_ir d_223_51 rfl rfl) ⟨rfl, h55, f55⟩
  | false =>
    have j6 := cF hc5 j3
    refine m_Rb.n0 b_223 (x_iff d_223_4 rfl hc5) ?_
    refine m_Rb.n0 b_223 (x_iconst (z := (-1)) d_223_7 (by decide)) ?_
    cases j6
    exact m_Rb.ret b_223 (m_rt_ir d_223_8 rfl rfl) ⟨rfl, h4, f4⟩
def D_c_Message_version (F : Nat) (a0 : Nat) (T0 : tT) : Option (Int32) := (tgr T0 a0 9 15).bind fun v1 => nc v1 (some (0 : Int32)) fun a5 => ((tgr T0 a0 9 15).bind fun v7 => (v7).bind fun a11 => (tgi T0 a11 13 1).bind fun v14 => some v14)
theorem T_c_Message_version {l : Launch} {w : List mM} {F : Nat} {a0 : Nat} {T0 : tT} {yz : Int32} (ha0 : okr T0.2.1 (some a0)) (h : RT T0 w) (h0 : D_c_Message_version F a0 T0 = some yz) : m_Rb l M_227 (m_ent M_227 [.ref a0] w) (fun v w' => v = some (.int yz) ∧ RT T0 w' ∧ m_Fm w w') T0 T0 0 0 := by
  rw [show m_ent M_227 [.ref a0] w = (0, [(0, .ref a0)], [], w) from by first | rfl | (simp only [m_ent, lv_args_r, lv_args_a, lv_args_i, lv_args_l, lv_args_0]; done) | (simp only [m_ent, lv_args_r, lv_args_a, lv_args_i, lv_args_l, lv_args_0]; rfl)]
  generalize hw0 : w = w0 at h ⊢
  have hF : m_Fm w0 w0 := m_Fm.refl
  rw [D_c_Message_version] at h0
  refine m_Rb.n0 b_227 (x_aload_n d_227_0 rfl) ?_
  obtain ⟨v1, e2, j3⟩ := bS h0
  refine m_Rb.tgetR b_227 d_227_1 rfl h e2 (fun o4 => ?_)
  cases v1 with
  | none =>
    have j6 := nN j3
    refine m_Rb.n0 b_227 (x_ifnonnull0 d_227_4 rfl) ?_
    refine m_Rb.n0 b_227 (x_iconst (z := 0) d_227_7 (by decide)) ?_
    refine m_Rb.n0 b_227 (x_goto d_227_8 rfl) ?_
    cases j6
    exact m_Rb.ret b_227 (m_rt_ir d_227_18 rfl rfl) ⟨rfl, h, hF⟩
  | some a5 =>
    have j6 := nS j3
    refine m_Rb.n0 b_227 (x_ifnonnull1 d_227_4 rfl) ?_
    refine m_Rb.n0 b_227 (x_aload_n d_227_11 rfl) ?_
    obtain ⟨v7, e8, j9⟩ := bS j6
    refine m_Rb.tgetR b_227 d_227_12 rfl h e8 (fun o10 => ?_)
    obtain ⟨a11, e12, j13⟩ := bS j9
    subst e12
    obtain ⟨v14, e15, j16⟩ := bS j13
    refine m_Rb.tgetI b_227 d_227_15 rfl h e15 ?_
    cases j16
    exact m_Rb.ret b_227 (m_rt_ir d_227_18 rfl rfl) ⟨rfl, h, hF⟩
def D_c_Message_tell (F : Nat) (a0 : Nat) (p0 : Int32) (T0 : tT) : Option (Int32) := cond (decide (p0 = (0 : Int32))) ((tgi T0 a0 9 0).bind fun v3 => some v3) (cond (decide (p0 = (1 : Int32))) ((tgi T0 a0 9 1).bind fun v8 => some v8) (cond (decide (p0 = (2 : Int32))) ((tgi T0 a0 9 2).bind fun v13 => some v13) (cond (decide (p0 = (3 : Int32))) ((tgi T0 a0 9 3).bind fun v18 => some v18) (cond (decide (p0 = (4 : Int32))) ((tgi T0 a0 9 4).bind fun v23 => some v23) (cond (decide (p0 = (5 : Int32))) ((tgi T0 a0 9 5).bind fun v28 => some v28) (cond (decide (p0 = (6 : Int32))) ((tgi T0 a0 9 0).bind fun v33 => (cond (m_c2 .ne v33 (1 : Int32)) ((tgi T0 a0 9 8).bind fun v40 => some v40) ((tgi T0 a0 9 12).bind fun v43 => some v43)).bind fun v46 => some v46) (cond (decide (p0 = (7 : Int32))) ((tgi T0 a0 9 0).bind fun v51 => (cond (m_c2 .ne v51 (1 : Int32)) ((tgi T0 a0 9 9).bind fun v58 => some v58) ((tcl T0 a0 9).bind fun _ => (D_c_Message_version F a0 T0).bind fun v64 => some v64)).bind fun v68 => some v68) (cond (decide (p0 = (8 : Int32))) ((tgi T0 a0 9 13).bind fun v73 => some v73) (cond (decide (p0 = (9 : Int32))) ((tgi T0 a0 9 10).bind fun v78 => (cond (m_c1 .eq v78) (some (0 : Int32)) (some (1 : Int32))).bind fun v85 => some v85) (cond (decide (p0 = (10 : Int32))) ((tgi T0 a0 9 11).bind fun v90 => some v90) (cond (decide (p0 = (11 : Int32))) ((tgi T0 a0 9 0).bind fun v95 => (cond (m_c2 .ne v95 (1 : Int32)) ((tgi T0 a0 9 6).bind fun v102 => (tgi T0 a0 9 7).bind fun v105 => some (v102 + ((4 : Int32) * v105))) ((tgi T0 a0 9 14).bind fun v108 => some v108)).bind fun v111 => some v111) (some ((-1) : Int32)))))))))))))
theorem T_c_Message_tell {l : Launch} {w : List mM} {F : Nat} {a0 : Nat} {p0 : Int32} {T0 : tT} {yz : Int32} (ha0 : okr T0.2.1 (some a0)) (h : RT T0 w) (h0 : D_c_Message_tell F a0 p0 T0 = some yz) : m_Rb l M_226 (m_ent M_226 [.ref a0, .int p0] w) (fun v w' => v = some (.int yz) ∧ RT T0 w' ∧ m_Fm w w') T0 T0 1 100 := by
  rw [show m_ent M_226 [.ref a0, .int p0] w = (0, [(0, .ref a0), (1, .int p0)], [], w) from by first | rfl | (simp only [m_ent, lv_args_r, lv_args_a, lv_args_i, lv_args_l, lv_args_0]; done) | (simp only [m_ent, lv_args_r, lv_args_a, lv_args_i, lv_args_l, lv_args_0]; rfl)]
  generalize hw0 : w = w0 at h ⊢
  have hF : m_Fm w0 w0 := m_Fm.refl
  rw [D_c_Message_tell] at h0
  refine m_Rb.n0 b_226 (x_iload_n d_226_0 rfl) ?_
  cases hc1 : decide (p0 = (0 : Int32)) with
  | true =>
    have j2 := cT hc1 h0
    refine m_Rb.n0 b_226 (x_tsw (t := 64) d_226_1 (by rw [of_decide_eq_true hc1]; rfl)) ?_
    refine m_Rb.n0 b_226 (x_aload_n d_226_64 rfl) ?_
    obtain ⟨v3, e4, j5⟩ := bS j2
    refine m_Rb.tgetI b_226 d_226_65 rfl h e4 ?_
    cases j5
    exact m_Rb.ret b_226 (m_rt_ir d_226_68 rfl rfl) ⟨rfl, h, hF⟩
  | false =>
    have j2 := cF hc1 h0
    cases hc6 : decide (p0 = (1 : Int32)) with
    | true =>
      have j7 := cT hc6 j2
      refine m_Rb.n0 b_226 (x_tsw (t := 69) d_226_1 (by rw [of_decide_eq_true hc6]; rfl)) ?_
      refine m_Rb.n0 b_226 (x_aload_n d_226_69 rfl) ?_
      obtain ⟨v8, e9, j10⟩ := bS j7
      refine m_Rb.tgetI b_226 d_226_70 rfl h e9 ?_
      cases j10
      exact m_Rb.ret b_226 (m_rt_ir d_226_73 rfl rfl) ⟨rfl, h, hF⟩
    | false =>
      have j7 := cF hc6 j2
      cases hc11 : decide (p0 = (2 : Int32)) with
      | true =>
        have j12 := cT hc11 j7
        refine m_Rb.n0 b_226 (x_tsw (t := 74) d_226_1 (by rw [of_decide_eq_true hc11]; rfl)) ?_
        refine m_Rb.n0 b_226 (x_aload_n d_226_74 rfl) ?_
        obtain ⟨v13, e14, j15⟩ := bS j12
        refine m_Rb.tgetI b_226 d_226_75 rfl h e14 ?_
        cases j15
        exact m_Rb.ret b_226 (m_rt_ir d_226_78 rfl rfl) ⟨rfl, h, hF⟩
      | false =>
        have j12 := cF hc11 j7
        cases hc16 : decide (p0 = (3 : Int32)) with
        | true =>
          have j17 := cT hc16 j12
          refine m_Rb.n0 b_226 (x_tsw (t := 79) d_226_1 (by rw [of_decide_eq_true hc16]; rfl)) ?_
          refine m_Rb.n0 b_226 (x_aload_n d_226_79 rfl) ?_
          obtain ⟨v18, e19, j20⟩ := bS j17
          refine m_Rb.tgetI b_226 d_226_80 rfl h e19 ?_
          cases j20
          exact m_Rb.ret b_226 (m_rt_ir d_226_83 rfl rfl) ⟨rfl, h, hF⟩
        | false =>
          have j17 := cF hc16 j12
          cases hc21 : decide (p0 = (4 : Int32)) with
          | true =>
            have j22 := cT hc21 j17
            refine m_Rb.n0 b_226 (x_tsw (t := 84) d_226_1 (by rw [of_decide_eq_true hc21]; rfl)) ?_
            refine m_Rb.n0 b_226 (x_aload_n d_226_84 rfl) ?_
            obtain ⟨v23, e24, j25⟩ := bS j22
            refine m_Rb.tgetI b_226 d_226_85 rfl h e24 ?_
            cases j25
            exact m_Rb.ret b_226 (m_rt_ir d_226_88 rfl rfl) ⟨rfl, h, hF⟩
          | false =>
            have j22 := cF hc21 j17
            cases hc26 : decide (p0 = (5 : Int32)) with
            | true =>
              have j27 := cT hc26 j22
              refine m_Rb.n0 b_226 (x_tsw (t := 89) d_226_1 (by rw [of_decide_eq_true hc26]; rfl)) ?_
              refine m_Rb.n0 b_226 (x_aload_n d_226_89 rfl) ?_
              obtain ⟨v28, e29, j30⟩ := bS j27
              refine m_Rb.tgetI b_226 d_226_90 rfl h e29 ?_
              cases j30
              exact m_Rb.ret b_226 (m_rt_ir d_226_93 rfl rfl) ⟨rfl, h, hF⟩
            | false =>
              have j27 := cF hc26 j22
              cases hc31 : decide (p0 = (6 : Int32)) with
              | true =>
                have j32 := cT hc31 j27
                refine m_Rb.n0 b_226 (x_tsw (t := 94) d_226_1 (by rw [of_decide_eq_true hc31]; rfl)) ?_
                refine m_Rb.n0 b_226 (x_aload_n d_226_94 rfl) ?_
                obtain ⟨v33, e34, j35⟩ := bS j32
                refine m_Rb.tgetI b_226 d_226_95 rfl h e34 ?_
                refine m_Rb.n0 b_226 (x_iconst (z := 1) d_226_98 (by decide)) ?_
                obtain ⟨v46, e37, j47⟩ := bS j35
                have kk36 : ∀ (xz : Int32) (w1 : List mM), xz = v46 → RT T0 w1 → m_Fm w0 w1 → m_Rb l M_226 (113, [(0, .ref a0), (1, .int p0)], [.int xz], w1) (fun v w' => v = some (.int yz) ∧ RT T0 w' ∧ m_Fm w0 w') T0 T0 1 100 := by
                  intro xz w48 ez h48 f48
                  rw [ez]
                  cases j47
                  exact m_Rb.ret b_226 (m_rt_ir d_226_113 rfl rfl) ⟨rfl, h48, f48⟩
                cases hc38 : m_c2 .ne v33 (1 : Int32) with
                | true =>
                  have j39 := cT hc38 e37
                  refine m_Rb.n0 b_226 (x_ict d_226_99 rfl hc38) ?_
                  refine m_Rb.n0 b_226 (x_aload_n d_226_109 rfl) ?_
                  obtain ⟨v40, e41, j42⟩ := bS j39
                  refine m_Rb.tgetI b_226 d_226_110 rfl h e41 ?_
                  exact kk36 _ _ (Option.some.inj j42) h hF
                | false =>
                  have j39 := cF hc38 e37
                  refine m_Rb.n0 b_226 (x_icf d_226_99 rfl hc38) ?_
                  refine m_Rb.n0 b_226 (x_aload_n d_226_102 rfl) ?_
                  obtain ⟨v43, e44, j45⟩ := bS j39
                  refine m_Rb.tgetI b_226 d_226_103 rfl h e44 ?_
                  refine m_Rb.n0 b_226 (x_goto d_226_106 rfl) ?_
                  exact kk36 _ _ (Option.some.inj j45) h hF
              | false =>
                have j32 := cF hc31 j27
                cases hc49 : decide (p0 = (7 : Int32)) with
                | true =>
                  have j50 := cT hc49 j32
                  refine m_Rb.n0 b_226 (x_tsw (t := 114) d_226_1 (by rw [of_decide_eq_true hc49]; rfl)) ?_
                  refine m_Rb.n0 b_226 (x_aload_n d_226_114 rfl) ?_
                  obtain ⟨v51, e52, j53⟩ := bS j50
                  refine m_Rb.tgetI b_226 d_226_115 rfl h e52 ?_
                  refine m_Rb.n0 b_226 (x_iconst (z := 1) d_226_118 (by decide)) ?_
                  obtain ⟨v68, e55, j69⟩ := bS j53
                  have kk54 : ∀ (xz : Int32) (w1 : List mM), xz = v68 → RT T0 w1 → m_Fm w0 w1 → m_Rb l M_226 (133, [(0, .ref a0), (1, .int p0)], [.int xz], w1) (fun v w' => v = some (.int yz) ∧ RT T0 w' ∧ m_Fm w0 w') T0 T0 1 100 := by
                    intro xz w70 ez h70 f70
                    rw [ez]
                    cases j69
                    exact m_Rb.ret b_226 (m_rt_ir d_226_133 rfl rfl) ⟨rfl, h70, f70⟩
                  cases hc56 : m_c2 .ne v51 (1 : Int32) with
                  | true =>
                    have j57 := cT hc56 e55
                    refine m_Rb.n0 b_226 (x_ict d_226_119 rfl hc56) ?_
                    refine m_Rb.n0 b_226 (x_aload_n d_226_129 rfl) ?_
                    obtain ⟨v58, e59, j60⟩ := bS j57
                    refine m_Rb.tgetI b_226 d_226_130 rfl h e59 ?_
                    exact kk54 _ _ (Option.some.inj j60) h hF
                  | false =>
                    have j57 := cF hc56 e55
                    refine m_Rb.n0 b_226 (x_icf d_226_119 rfl hc56) ?_
                    refine m_Rb.n0 b_226 (x_aload_n d_226_122 rfl) ?_
                    obtain ⟨_, e61, j62⟩ := bS j57
                    obtain ⟨_, g63⟩ := RT.cls h e61
                    obtain ⟨v64, e65, j66⟩ := bS j62
                    refine m_Rb.callI b_226 (y_cv d_226_123 rfl q_227 (m_isRecv_of rfl g63) (show m_takeI _ _ = some (_, [_], []) from m_takeI_of rfl rfl rfl (Nat.le_of_ble_eq_true rfl)) (by simp only [m_okf, List.all_cons, List.all_nil, Bool.and_true, Bool.and_self, m_okv_i, m_okv_l, m_okv_0, m_okv_n0, m_okv_t, RT.okn h ha0, RT.okv h ha0]) rfl) (T_c_Message_version ha0 h e65) hF rfl (fun w67 h67 f67 k67 => ?_) (by decide) (by decide)
                    refine m_Rb.n0 b_226 (x_goto d_226_126 rfl) ?_
                    exact kk54 _ _ (Option.some.inj j66) h67 f67
                | false =>
                  have j50 := cF hc49 j32
                  cases hc71 : decide (p0 = (8 : Int32)) with
                  | true =>
                    have j72 := cT hc71 j50
                    refine m_Rb.n0 b_226 (x_tsw (t := 134) d_226_1 (by rw [of_decide_eq_true hc71]; rfl)) ?_
                    refine m_Rb.n0 b_226 (x_aload_n d_226_134 rfl) ?_
                    obtain ⟨v73, e74, j75⟩ := bS j72
                    refine m_Rb.tgetI b_226 d_226_135 rfl h e74 ?_
                    cases j75
                    exact m_Rb.ret b_226 (m_rt_ir d_226_138 rfl rfl) ⟨rfl, h, hF⟩
                  | false =>
                    have j72 := cF hc71 j50
                    cases hc76 : decide (p0 = (9 : Int32)) with
                    | true =>
                      have j77 := cT hc76 j72
                      refine m_Rb.n0 b_226 (x_tsw (t := 139) d_226_1 (by rw [of_decide_eq_true hc76]; rfl)) ?_
                      refine m_Rb.n0 b_226 (x_aload_n d_226_139 rfl) ?_
                      obtain ⟨v78, e79, j80⟩ := bS j77
                      refine m_Rb.tgetI b_226 d_226_140 rfl h e79 ?_
                      obtain ⟨v85, e82, j86⟩ := bS j80
                      have kk81 : ∀ (xz : Int32) (w1 : List mM), xz = v85 → RT T0 w1 → m_Fm w0 w1 → m_Rb l M_226 (151, [(0, .ref a0), (1, .int p0)], [.int xz], w1) (fun v w' => v = some (.int yz) ∧ RT T0 w' ∧ m_Fm w0 w') T0 T0 1 100 := by
                        intro xz w87 ez h87 f87
                        rw [ez]
                        cases j86
                        exact m_Rb.ret b_226 (m_rt_ir d_226_151 rfl rfl) ⟨rfl, h87, f87⟩
                      cases hc83 : m_c1 .eq v78 with
                      | true =>
                        have j84 := cT hc83 e82
                        refine m_Rb.n0 b_226 (x_ift d_226_143 rfl hc83) ?_
                        refine m_Rb.n0 b_226 (x_iconst (z := 0) d_226_150 (by decide)) ?_
                        exact kk81 _ _ (Option.some.inj j84) h hF
                      | false =>
                        have j84 := cF hc83 e82
                        refine m_Rb.n0 b_226 (x_iff d_226_143 rfl hc83) ?_
                        refine m_Rb.n0 b_226 (x_iconst (z := 1) d_226_146 (by decide)) ?_
                        refine m_Rb.n0 b_226 (x_goto d_226_147 rfl) ?_
                        exact kk81 _ _ (Option.some.inj j84) h hF
                    | false =>
                      have j77 := cF hc76 j72
                      cases hc88 : decide (p0 = (10 : Int32)) with
                      | true =>
                        have j89 := cT hc88 j77
                        refine m_Rb.n0 b_226 (x_tsw (t := 152) d_226_1 (by rw [of_decide_eq_true hc88]; rfl)) ?_
                        refine m_Rb.n0 b_226 (x_aload_n d_226_152 rfl) ?_
                        obtain ⟨v90, e91, j92⟩ := bS j89
                        refine m_Rb.tgetI b_226 d_226_153 rfl h e91 ?_
                        cases j92
                        exact m_Rb.ret b_226 (m_rt_ir d_226_156 rfl rfl) ⟨rfl, h, hF⟩
                      | false =>
                        have j89 := cF hc88 j77
                        cases hc93 : decide (p0 = (11 : Int32)) with
                        | true =>
                          have j94 := cT hc93 j89
                          refine m_Rb.n0 b_226 (x_tsw (t := 157) d_226_1 (by rw [of_decide_eq_true hc93]; rfl)) ?_
                          refine m_Rb.n0 b_226 (x_aload_n d_226_157 rfl) ?_
                          obtain ⟨v95, e96, j97⟩ := bS j94
                          refine m_Rb.tgetI b_226 d_226_158 rfl h e96 ?_
                          refine m_Rb.n0 b_226 (x_iconst (z := 1) d_226_161 (by decide)) ?_
                          obtain ⟨v111, e99, j112⟩ := bS j97
                          have kk98 : ∀ (xz : Int32) (w1 : List mM), xz = v111 → RT T0 w1 → m_Fm w0 w1 → m_Rb l M_226 (183, [(0, .ref a0), (1, .int p0)], [.int xz], w1) (fun v w' => v = some (.int yz) ∧ RT T0 w' ∧ m_Fm w0 w') T0 T0 1 100 := by
                            intro xz w113 ez h113 f113
                            rw [ez]
                            cases j112
                            exact m_Rb.ret b_226 (m_rt_ir d_226_183 rfl rfl) ⟨rfl, h113, f113⟩
                          cases hc100 : m_c2 .ne v95 (1 : Int32) with
                          | true =>
                            have j101 := cT hc100 e99
                            refine m_Rb.n0 b_226 (x_ict d_226_162 rfl hc100) ?_
                            refine m_Rb.n0 b_226 (x_aload_n d_226_172 rfl) ?_
                            obtain ⟨v102, e103, j104⟩ := bS j101
                            refine m_Rb.tgetI b_226 d_226_173 rfl h e103 ?_
                            refine m_Rb.n0 b_226 (x_iconst (z := 4) d_226_176 (by decide)) ?_
                            refine m_Rb.n0 b_226 (x_aload_n d_226_177 rfl) ?_
                            obtain ⟨v105, e106, j107⟩ := bS j104
                            refine m_Rb.tgetI b_226 d_226_178 rfl h e106 ?_
                            refine m_Rb.n0 b_226 (x_imul d_226_181 rfl) ?_
                            refine m_Rb.n0 b_226 (x_iadd d_226_182 rfl) ?_
                            exact kk98 _ _ (Option.some.inj j107) h hF
                          | false =>
                            have j101 := cF hc100 e99
                            refine m_Rb.n0 b_226 (x_icf d_226_162 rfl hc100) ?_
                            refine m_Rb.n0 b_226 (x_aload_n d_226_165 rfl) ?_
                            obtain ⟨v108, e109, j110⟩ := bS j101
                            refine m_Rb.tgetI b_226 d_226_166 rfl h e109 ?_
                            refine m_Rb.n0 b_226 (x_goto d_226_169 rfl) ?_
                            exact kk98 _ _ (Option.some.inj j110) h hF
                        | false =>
                          have j94 := cF hc93 j89
                          refine m_Rb.n0 b_226 (x_tsw (t := 184) d_226_1 (m_tsw_0 (n := 12) rfl (fun k hk => by match k, hk with | 0, _ => exact of_decide_eq_false hc1 | 1, _ => exact of_decide_eq_false hc6 | 2, _ => exact of_decide_eq_false hc11 | 3, _ => exact of_decide_eq_false hc16 | 4, _ => exact of_decide_eq_false hc21 | 5, _ => exact of_decide_eq_false hc26 | 6, _ => exact of_decide_eq_false hc31 | 7, _ => exact of_decide_eq_false hc49 | 8, _ => exact of_decide_eq_false hc71 | 9, _ => exact of_decide_eq_false hc76 | 10, _ => exact of_decide_eq_false hc88 | 11, _ => exact of_decide_eq_false hc93 | k + 12, hk => omega) rfl)) ?_
                          refine m_Rb.n0 b_226 (x_iconst (z := (-1)) d_226_184 (by decide)) ?_
                          cases j94
                          exact m_Rb.ret b_226 (m_rt_ir d_226_185 rfl rfl) ⟨rfl, h, hF⟩
def D_c_EdgeHouse_message (F : Nat) (a0 : Nat) (p0 : Int32) (p1 : Int32) (T0 : tT) : Option (Int32) := cond (m_c1 .lt p0) (some ((-1) : Int32)) ((tgr T0 a0 0 7).bind fun v3 => (v3).bind fun a7 => (tls T0 a7).bind fun v10 => cond (m_c2 .lt p0 v10) ((tgr T0 a0 0 7).bind fun v15 => (v15).bind fun a19 => (tlg T0 a19 p0).bind fun b22 => (tcc T0 (some b22) 9).bind fun _ => (tcl T0 b22 9).bind fun _ => (D_c_Message_tell F b22 p1 T0).bind fun v31 => some v31) (some ((-1) : Int32)))
theorem T_c_EdgeHouse_message {l : Launch} {w : List mM} {F : Nat} {a0 : Nat} {p0 : Int32} {p1 : Int32} {T0 : tT} {yz : Int32} (ha0 : okr T0.2.1 (some a0)) (h : RT T0 w) (h0 : D_c_EdgeHouse_message F a0 p0 p1 T0 = some yz) : m_Rb l M_225 (m_ent M_225 [.ref a0, .int p0, .int p1] w) (fun v w' => v = some (.int yz) ∧ RT T0 w' ∧ m_Fm w w') T0 T0 3 300 := by
  rw [show m_ent M_225 [.ref a0, .int p0, .int p1] w = (0, [(0, .ref a0), (1, .int p0), (2, .int p1)], [], w) from by first | rfl | (simp only [m_ent, lv_args_r, lv_args_a, lv_args_i, lv_args_l, lv_args_0]; done) | (simp only [m_ent, lv_args_r, lv_args_a, lv_args_i, lv_args_l, lv_args_0]; rfl)]
  generalize hw0 : w = w0 at h ⊢
  have hF : m_Fm w0 w0 := m_Fm.refl
  rw [D_c_EdgeHouse_message] at h0
  refine m_Rb.n0 b_225 (x_iload_n d_225_0 rfl) ?_
  cases hc1 : m_c1 .lt p0 with
  | true =>
    have j2 := cT hc1 h0
    refine m_Rb.n0 b_225 (x_ift d_225_1 rfl hc1) ?_
    refine m_Rb.n0 b_225 (x_iconst (z := (-1)) d_225_15 (by decide)) ?_
    cases j2
    exact m_Rb.ret b_225 (m_rt_ir d_225_16 rfl rfl) ⟨rfl, h, hF⟩
  | false =>
    have j2 := cF hc1 h0
    refine m_Rb.n0 b_225 (x_iff d_225_1 rfl hc1) ?_
    refine m_Rb.n0 b_225 (x_iload_n d_225_4 rfl) ?_
    refine m_Rb.n0 b_225 (x_aload_n d_225_5 rfl) ?_
    obtain ⟨v3, e4, j5⟩ := bS j2
    refine m_Rb.tgetR b_225 d_225_6 rfl h e4 (fun o6 => ?_)
    obtain ⟨a7, e8, j9⟩ := bS j5
    subst e8
    obtain ⟨v10, e11, j12⟩ := bS j9
    refine m_Rb.tlsize b_225 d_225_9 rfl (by simp only [m_okf, List.all_cons, List.all_nil, Bool.and_true, Bool.and_self, m_okv_i, m_okv_l, m_okv_0, m_okv_n0, m_okv_t, RT.okn h ha0, RT.okv h ha0, RT.okn h o6, RT.okv h o6]) (Nat.le_of_ble_eq_true rfl) h e11 ?_ (by decide) (by decide)
    cases hc13 : m_c2 .lt p0 v10 with
    | true =>
      have j14 := cT hc13 j12
      refine m_Rb.n0 b_225 (x_ict d_225_12 rfl hc13) ?_
      refine m_Rb.n0 b_225 (x_aload_n d_225_17 rfl) ?_
      obtain ⟨v15, e16, j17⟩ := bS j14
      refine m_Rb.tgetR b_225 d_225_18 rfl h e16 (fun o18 => ?_)
      refine m_Rb.n0 b_225 (x_iload_n d_225_21 rfl) ?_
      obtain ⟨a19, e20, j21⟩ := bS j17
      subst e20
      obtain ⟨b22, e23, j24⟩ := bS j21
      refine m_Rb.tlget b_225 d_225_22 rfl (by simp only [m_okf, List.all_cons, List.all_nil, Bool.and_true, Bool.and_self, m_okv_i, m_okv_l, m_okv_0, m_okv_n0, m_okv_t, RT.okn h ha0, RT.okv h ha0, RT.okn h o18, RT.okv h o18]) (Nat.le_of_ble_eq_true rfl) h e23 (fun o25 => ?_) (by decide) (by decide)
      obtain ⟨_, e26, j27⟩ := bS j24
      refine m_Rb.tcast (z := (some b22)) b_225 d_225_25 rfl h e26 ?_
      refine m_Rb.n0 b_225 (x_iload_n d_225_28 rfl) ?_
      obtain ⟨_, e28, j29⟩ := bS j27
      obtain ⟨_, g30⟩ := RT.cls h e28
      obtain ⟨v31, e32, j33⟩ := bS j29
      refine m_Rb.callI b_225 (y_cv d_225_29 rfl q_226 (m_isRecv_of rfl g30) (show m_takeI _ _ = some (_, [_, _], []) from m_takeI_of rfl rfl rfl (Nat.le_of_ble_eq_true rfl)) (by simp only [m_okf, List.all_cons, List.all_nil, Bool.and_true, Bool.and_self, m_okv_i, m_okv_l, m_okv_0, m_okv_n0, m_okv_t, RT.okn h ha0, RT.okv h ha0, RT.okn h o25, RT.okv h o25]) rfl) (T_c_Message_tell o25 h e32) hF rfl (fun w34 h34 f34 k34 => ?_) (by decide) (by decide)
      cases j33
      exact m_Rb.ret b_225 (m_rt_ir d_225_32 rfl rfl) ⟨rfl, h34, f34⟩
    | false =>
      have j14 := cF hc13 j12
      refine m_Rb.n0 b_225 (x_icf d_225_12 rfl hc13) ?_
      refine m_Rb.n0 b_225 (x_iconst (z := (-1)) d_225_15 (by decide)) ?_
      cases j14
      exact m_Rb.ret b_225 (m_rt_ir d_225_16 rfl rfl) ⟨rfl, h, hF⟩
def D_c_EdgeHouse_total (F : Nat) (a0 : Nat) (p0 : Int32) (T0 : tT) : Option (Int32) := cond (decide (p0 = (0 : Int32))) ((tgr T0 a0 0 7).bind fun v3 => (v3).bind fun a7 => (tls T0 a7).bind fun v10 => some v10) (cond (decide (p0 = (1 : Int32))) ((tgi T0 a0 0 13).bind fun v15 => some v15) (cond (decide (p0 = (2 : Int32))) ((tgr T0 a0 0 8).bind fun v20 => (v20).bind fun a24 => (tls T0 a24).bind fun v27 => some v27) (cond (decide (p0 = (3 : Int32))) ((tgi T0 a0 0 10).bind fun v32 => some v32) (cond (decide (p0 = (4 : Int32))) ((tgi T0 a0 0 11).bind fun v37 => some v37) (cond (decide (p0 = (5 : Int32))) ((tgi T0 a0 0 12).bind fun v42 => some v42) (cond (decide (p0 = (6 : Int32))) ((tgi T0 a0 0 14).bind fun v47 => some v47) (some ((-1) : Int32))))))))
theorem T_c_EdgeHouse_total {l : Launch} {w : List mM} {F : Nat} {a0 : Nat} {p0 : Int32} {T0 : tT} {yz : Int32} (ha0 : okr T0.2.1 (some a0)) (h : RT T0 w) (h0 : D_c_EdgeHouse_total F a0 p0 T0 = some yz) : m_Rb l M_228 (m_ent M_228 [.ref a0, .int p0] w) (fun v w' => v = some (.int yz) ∧ RT T0 w' ∧ m_Fm w w') T0 T0 1 100 := by
  rw [show m_ent M_228 [.ref a0, .int p0] w = (0, [(0, .ref a0), (1, .int p0)], [], w) from by first | rfl | (simp only [m_ent, lv_args_r, lv_args_a, lv_args_i, lv_args_l, lv_args_0]; done) | (simp only [m_ent, lv_args_r, lv_args_a, lv_args_i, lv_args_l, lv_args_0]; rfl)]
  generalize hw0 : w = w0 at h ⊢
  have hF : m_Fm w0 w0 := m_Fm.refl
  rw [D_c_EdgeHouse_total] at h0
  refine m_Rb.n0 b_228 (x_iload_n d_228_0 rfl) ?_
  cases hc1 : decide (p0 = (0 : Int32)) with
  | true =>
    have j2 := cT hc1 h0
    refine m_Rb.n0 b_228 (x_tsw (t := 44) d_228_1 (by rw [of_decide_eq_true hc1]; rfl)) ?_
    refine m_Rb.n0 b_228 (x_aload_n d_228_44 rfl) ?_
    obtain ⟨v3, e4, j5⟩ := bS j2
    refine m_Rb.tgetR b_228 d_228_45 rfl h e4 (fun o6 => ?_)
    obtain ⟨a7, e8, j9⟩ := bS j5
    subst e8
    obtain ⟨v10, e11, j12⟩ := bS j9
    refine m_Rb.tlsize b_228 d_228_48 rfl (by simp only [m_okf, List.all_cons, List.all_nil, Bool.and_true, Bool.and_self, m_okv_i, m_okv_l, m_okv_0, m_okv_n0, m_okv_t, RT.okn h ha0, RT.okv h ha0, RT.okn h o6, RT.okv h o6]) (Nat.le_of_ble_eq_true rfl) h e11 ?_ (by decide) (by decide)
    cases j12
    exact m_Rb.ret b_228 (m_rt_ir d_228_51 rfl rfl) ⟨rfl, h, hF⟩
  | false =>
    have j2 := cF hc1 h0
    cases hc13 : decide (p0 = (1 : Int32)) with
    | true =>
      have j14 := cT hc13 j2
      refine m_Rb.n0 b_228 (x_tsw (t := 52) d_228_1 (by rw [of_decide_eq_true hc13]; rfl)) ?_
      refine m_Rb.n0 b_228 (x_aload_n d_228_52 rfl) ?_
      obtain ⟨v15, e16, j17⟩ := bS j14
      refine m_Rb.tgetI b_228 d_228_53 rfl h e16 ?_
      cases j17
      exact m_Rb.ret b_228 (m_rt_ir d_228_56 rfl rfl) ⟨rfl, h, hF⟩
    | false =>
      have j14 := cF hc13 j2
      cases hc18 : decide (p0 = (2 : Int32)) with
      | true =>
        have j19 := cT hc18 j14
        refine m_Rb.n0 b_228 (x_tsw (t := 57) d_228_1 (by rw [of_decide_eq_true hc18]; rfl)) ?_
        refine m_Rb.n0 b_228 (x_aload_n d_228_57 rfl) ?_
        obtain ⟨v20, e21, j22⟩ := bS j19
        refine m_Rb.tgetR b_228 d_228_58 rfl h e21 (fun o23 => ?_)
        obtain ⟨a24, e25, j26⟩ := bS j22
        subst e25
        obtain ⟨v27, e28, j29⟩ := bS j26
        refine m_Rb.tlsize b_228 d_228_61 rfl (by simp only [m_okf, List.all_cons, List.all_nil, Bool.and_true, Bool.and_self, m_okv_i, m_okv_l, m_okv_0, m_okv_n0, m_okv_t, RT.okn h ha0, RT.okv h ha0, RT.okn h o23, RT.okv h o23]) (Nat.le_of_ble_eq_true rfl) h e28 ?_ (by decide) (by decide)
        cases j29
        exact m_Rb.ret b_228 (m_rt_ir d_228_64 rfl rfl) ⟨rfl, h, hF⟩
      | false =>
        have j19 := cF hc18 j14
        cases hc30 : decide (p0 = (3 : Int32)) with
        | true =>
          have j31 := cT hc30 j19
          refine m_Rb.n0 b_228 (x_tsw (t := 65) d_228_1 (by rw [of_decide_eq_true hc30]; rfl)) ?_
          refine m_Rb.n0 b_228 (x_aload_n d_228_65 rfl) ?_
          obtain ⟨v32, e33, j34⟩ := bS j31
          refine m_Rb.tgetI b_228 d_228_66 rfl h e33 ?_
          cases j34
          exact m_Rb.ret b_228 (m_rt_ir d_228_69 rfl rfl) ⟨rfl, h, hF⟩
        | false =>
          have j31 := cF hc30 j19
          cases hc35 : decide (p0 = (4 : Int32)) with
          | true =>
            have j36 := cT hc35 j31
            refine m_Rb.n0 b_228 (x_tsw (t := 70) d_228_1 (by rw [of_decide_eq_true hc35]; rfl)) ?_
            refine m_Rb.n0 b_228 (x_aload_n d_228_70 rfl) ?_
            obtain ⟨v37, e38, j39⟩ := bS j36
            refine m_Rb.tgetI b_228 d_228_71 rfl h e38 ?_
            cases j39
            exact m_Rb.ret b_228 (m_rt_ir d_228_74 rfl rfl) ⟨rfl, h, hF⟩
          | false =>
            have j36 := cF hc35 j31
            cases hc40 : decide (p0 = (5 : Int32)) with
            | true =>
              have j41 := cT hc40 j36
              refine m_Rb.n0 b_228 (x_tsw (t := 75) d_228_1 (by rw [of_decide_eq_true hc40]; rfl)) ?_
              refine m_Rb.n0 b_228 (x_aload_n d_228_75 rfl) ?_
              obtain ⟨v42, e43, j44⟩ := bS j41
              refine m_Rb.tgetI b_228 d_228_76 rfl h e43 ?_
              cases j44
              exact m_Rb.ret b_228 (m_rt_ir d_228_79 rfl rfl) ⟨rfl, h, hF⟩
            | false =>
              have j41 := cF hc40 j36
              cases hc45 : decide (p0 = (6 : Int32)) with
              | true =>
                have j46 := cT hc45 j41
                refine m_Rb.n0 b_228 (x_tsw (t := 80) d_228_1 (by rw [of_decide_eq_true hc45]; rfl)) ?_
                refine m_Rb.n0 b_228 (x_aload_n d_228_80 rfl) ?_
                obtain ⟨v47, e48, j49⟩ := bS j46
                refine m_Rb.tgetI b_228 d_228_81 rfl h e48 ?_
                cases j49
                exact m_Rb.ret b_228 (m_rt_ir d_228_84 rfl rfl) ⟨rfl, h, hF⟩
              | false =>
                have j46 := cF hc45 j41
                refine m_Rb.n0 b_228 (x_tsw (t := 85) d_228_1 (m_tsw_0 (n := 7) rfl (fun k hk => by match k, hk with | 0, _ => exact of_decide_eq_false hc1 | 1, _ => exact of_decide_eq_false hc13 | 2, _ => exact of_decide_eq_false hc18 | 3, _ => exact of_decide_eq_false hc30 | 4, _ => exact of_decide_eq_false hc35 | 5, _ => exact of_decide_eq_false hc40 | 6, _ => exact of_decide_eq_false hc45 | k + 7, hk => omega) rfl)) ?_
                refine m_Rb.n0 b_228 (x_iconst (z := (-1)) d_228_85 (by decide)) ?_
                cases j46
                exact m_Rb.ret b_228 (m_rt_ir d_228_86 rfl rfl) ⟨rfl, h, hF⟩
def D_c_Told_init (F : Nat) (a0 : Nat) (T : tT) : Option (tT) := some T
theorem T_c_Told_init {l : Launch} {w : List mM} {F : Nat} {a0 : Nat} {T : tT} {Tz : tT} (ha0 : okr T.2.1 (some a0)) (h : RT T w) (h0 : D_c_Told_init F a0 T = some Tz) : m_Rb l M_231 (m_ent M_231 [.ref a0] w) (fun v w' => v = none ∧ RT Tz w' ∧ m_Fm w w') T Tz 1 100 := by
  rw [show m_ent M_231 [.ref a0] w = (0, [(0, .ref a0)], [], w) from by first | rfl | (simp only [m_ent, lv_args_r, lv_args_a, lv_args_i, lv_args_l, lv_args_0]; done) | (simp only [m_ent, lv_args_r, lv_args_a, lv_args_i, lv_args_l, lv_args_0]; rfl)]
  generalize hw0 : w = w0 at h ⊢
  have hF : m_Fm w0 w0 := m_Fm.refl
  rw [D_c_Told_init] at h0
  refine m_Rb.n0 b_231 (x_aload_n d_231_0 rfl) ?_
  refine m_Rb.toinit b_231 d_231_1 rfl (Nat.le_of_ble_eq_true rfl) ?_ (by decide) (by decide)
  cases h0
  exact m_Rb.ret b_231 (m_rt_vr d_231_4 rfl) ⟨rfl, h, hF⟩
def D_c_Reader_readKeys_25 (F : Nat) (x0 : Nat) (T : tT) : Option (Int32 × tT) := (tgi T x0 1 2).bind fun v53 => (tcl T x0 1).bind fun _ => bd2 (D_c_Reader_no F x0 v53 T) fun v59 T60 => (bret v59).bind fun v64 => some (v64, T60)
theorem T_c_Reader_readKeys_25 {l : Launch} {w0 : List mM} {F : Nat} {x0 : Nat} {T : tT} {w : List mM} {yz : Int32} {Tz : tT} (hx0 : okr T.2.1 (some x0)) (h : RT T w) (hF : m_Fm w0 w) (h0 : D_c_Reader_readKeys_25 F x0 T = some (yz, Tz)) : m_Rb l M_233 (25, [(0, .ref x0)], [], w) (fun v w' => v = some (.int yz) ∧ RT Tz w' ∧ m_Fm w0 w') T Tz 1 100 := by
  rw [D_c_Reader_readKeys_25] at h0
  refine m_Rb.n0 b_233 (x_aload_n d_233_25 rfl) ?_
  refine m_Rb.n0 b_233 (x_aload_n d_233_26 rfl) ?_
  obtain ⟨v53, e54, j55⟩ := bS h0
  refine m_Rb.tgetI b_233 d_233_27 rfl h e54 ?_
  obtain ⟨_, e56, j57⟩ := bS j55
  obtain ⟨_, g58⟩ := RT.cls h e56
  obtain ⟨v59, T60, e61, j62⟩ := bS2 j57
  refine m_Rb.callI b_233 (y_cv d_233_30 rfl q_36 (m_isRecv_of rfl g58) (show m_takeI _ _ = some (_, [_, _], []) from m_takeI_of rfl rfl rfl (Nat.le_of_ble_eq_true rfl)) (by simp only [m_okf, List.all_cons, List.all_nil, Bool.and_true, Bool.and_self, m_okv_i, m_okv_l, m_okv_0, m_okv_n0, m_okv_t, RT.okn h hx0, RT.okv h hx0]) rfl) (T_c_Reader_no hx0 h e61) hF rfl (fun w63 h63 f63 k63 => ?_) (by decide) (by decide)
  obtain ⟨v64, e65, j66⟩ := bS j62
  cases j66
  exact m_Rb.retb b_233 d_233_33 rfl e65 ⟨rfl, h63, f63⟩
def D_c_Reader_readKeys_2 (F : Nat) : Nat → Nat → Int32 → tT → Option (Int32 × tT)
  | 0, _, _, _ => none
  | n + 1, x0, x1, T => cond (m_c2 .ge x1 (8 : Int32)) (some ((1 : Int32), T)) ((tcl T x0 1).bind fun _ => (D_c_Reader_here F x0 T).bind fun v6 => cond (m_c2 .lt v6 (97 : Int32)) (D_c_Reader_readKeys_25 F x0 T) (cond (m_c2 .le v6 (104 : Int32)) ((tgr T x0 1 15).bind fun v14 => (v14).bind fun a18 => (tgi T a18 13 8).bind fun v21 => (tpi T a18 13 8 (v21 ||| ((1 : Int32) <<< ((v6 - (97 : Int32)) &&& 31)))).bind fun T24 => (tgi T24 x0 1 2).bind fun v28 => (tpi T24 x0 1 2 (v28 + (1 : Int32))).bind fun T31 => cond (m_c2 .eq x1 (7 : Int32)) (some ((1 : Int32), T31)) ((tcl T31 x0 1).bind fun _ => (D_c_Reader_here F x0 T31).bind fun v40 => cond (m_c2 .eq v40 (32 : Int32)) ((tgi T31 x0 1 2).bind fun v46 => (tpi T31 x0 1 2 (v46 + (1 : Int32))).bind fun T49 => D_c_Reader_readKeys_2 F n x0 (x1 + Int32.ofInt 1) T49) (some ((1 : Int32), T31)))) (D_c_Reader_readKeys_25 F x0 T)))
theorem T_c_Reader_readKeys_2 {l : Launch} {w0 : List mM} {F : Nat} : ∀ (n : Nat) {x0 : Nat} {x1 : Int32} {T : tT} {w : List mM} {yz : Int32} {Tz : tT}, okr T.2.1 (some x0) → RT T w → m_Fm w0 w → D_c_Reader_readKeys_2 F n x0 x1 T = some (yz, Tz) → m_Rb l M_233 (2, [(0, .ref x0), (1, .int x1)], [], w) (fun v w' => v = some (.int yz) ∧ RT Tz w' ∧ m_Fm w0 w') T Tz 1 100 := by
  intro n
  induction n with
  | zero => intro x0 x1 T w yz Tz hx0 h hF h0; cases h0
  | succ n ih =>
    intro x0 x1 T w yz Tz hx0 h hF h0
    rw [D_c_Reader_readKeys_2] at h0
    refine m_Rb.n0 b_233 (x_iload_n d_233_2 rfl) ?_
    refine m_Rb.n0 b_233 (x_bipush (z := 8) d_233_3 (by decide)) ?_
    cases hc1 : m_c2 .ge x1 (8 : Int32) with
    | true =>
      have j2 := cT hc1 h0
      refine m_Rb.n0 b_233 (x_ict d_233_5 rfl hc1) ?_
      refine m_Rb.n0 b_233 (x_iconst (z := 1) d_233_96 (by decide)) ?_
      cases j2
      exact m_Rb.ret b_233 (m_rt_ir d_233_97 rfl m_nb1) ⟨rfl, h, hF⟩
    | false =>
      have j2 := cF hc1 h0
      refine m_Rb.n0 b_233 (x_icf d_233_5 rfl hc1) ?_
      refine m_Rb.n0 b_233 (x_aload_n d_233_8 rfl) ?_
      obtain ⟨_, e3, j4⟩ := bS j2
      obtain ⟨_, g5⟩ := RT.cls h e3
      obtain ⟨v6, e7, j8⟩ := bS j4
      refine m_Rb.callI b_233 (y_cv d_233_9 rfl q_22 (m_isRecv_of rfl g5) (show m_takeI _ _ = some (_, [_], []) from m_takeI_of rfl rfl rfl (Nat.le_of_ble_eq_true rfl)) (by simp only [m_okf, List.all_cons, List.all_nil, Bool.and_true, Bool.and_self, m_okv_i, m_okv_l, m_okv_0, m_okv_n0, m_okv_t, RT.okn h hx0, RT.okv h hx0]) rfl) (T_c_Reader_here hx0 h e7) hF rfl (fun w9 h9 f9 k9 => ?_) (by decide) (by decide)
      refine m_Rb.n0 b_233 (x_istore_n d_233_12 rfl (show m_put1 _ _ _ = [(2, _), (0, _), (1, _)] from rfl)) ?_
      refine m_Rb.n0 b_233 (x_iload_n d_233_13 rfl) ?_
      refine m_Rb.n0 b_233 (x_bipush (z := 97) d_233_14 (by decide)) ?_
      cases hc10 : m_c2 .lt v6 (97 : Int32) with
      | true =>
        have j11 := cT hc10 j8
        refine m_Rb.n0 b_233 (x_ict d_233_16 rfl hc10) ?_
        exact m_Rb.pick [1] rfl (T_c_Reader_readKeys_25 hx0 h9 f9 j11)
      | false =>
        have j11 := cF hc10 j8
        refine m_Rb.n0 b_233 (x_icf d_233_16 rfl hc10) ?_
        refine m_Rb.n0 b_233 (x_iload_n d_233_19 rfl) ?_
        refine m_Rb.n0 b_233 (x_bipush (z := 104) d_233_20 (by decide)) ?_
        cases hc12 : m_c2 .le v6 (104 : Int32) with
        | true =>
          have j13 := cT hc12 j11
          refine m_Rb.n0 b_233 (x_ict d_233_22 rfl hc12) ?_
          refine m_Rb.n0 b_233 (x_aload_n d_233_34 rfl) ?_
          obtain ⟨v14, e15, j16⟩ := bS j13
          refine m_Rb.tgetR b_233 d_233_35 rfl h9 e15 (fun o17 => ?_)
          refine m_Rb.n0 b_233 (x_dup d_233_38 (cat_rv v14)) ?_
          obtain ⟨a18, e19, j20⟩ := bS j16
          subst e19
          obtain ⟨v21, e22, j23⟩ := bS j20
          refine m_Rb.tgetI b_233 d_233_39 rfl h9 e22 ?_
          refine m_Rb.n0 b_233 (x_iconst (z := 1) d_233_42 (by decide)) ?_
          refine m_Rb.n0 b_233 (x_iload_n d_233_43 rfl) ?_
          refine m_Rb.n0 b_233 (x_bipush (z := 97) d_233_44 (by decide)) ?_
          refine m_Rb.n0 b_233 (x_isub d_233_46 rfl) ?_
          refine m_Rb.n0 b_233 (x_ishl d_233_47 rfl) ?_
          refine m_Rb.n0 b_233 (x_ior d_233_48 rfl) ?_
          obtain ⟨T24, e25, j26⟩ := bS j23
          refine m_Rb.tputI b_233 d_233_49 rfl rfl (by decide) h9 f9 e25 (fun w27 h27 f27 k27 => ?_)
          refine m_Rb.n0 b_233 (x_aload_n d_233_52 rfl) ?_
          refine m_Rb.n0 b_233 (x_dup d_233_53 rfl) ?_
          obtain ⟨v28, e29, j30⟩ := bS j26
          refine m_Rb.tgetI b_233 d_233_54 rfl h27 e29 ?_
          refine m_Rb.n0 b_233 (x_iconst (z := 1) d_233_57 (by decide)) ?_
          refine m_Rb.n0 b_233 (x_iadd d_233_58 rfl) ?_
          obtain ⟨T31, e32, j33⟩ := bS j30
          refine m_Rb.tputI b_233 d_233_59 rfl rfl (by decide) h27 f27 e32 (fun w34 h34 f34 k34 => ?_)
          refine m_Rb.n0 b_233 (x_iload_n d_233_62 rfl) ?_
          refine m_Rb.n0 b_233 (x_bipush (z := 7) d_233_63 (by decide)) ?_
          cases hc35 : m_c2 .eq x1 (7 : Int32) with
          | true =>
            have j36 := cT hc35 j33
            refine m_Rb.n0 b_233 (x_ict d_233_65 rfl hc35) ?_
            refine m_Rb.n0 b_233 (x_iconst (z := 1) d_233_96 (by decide)) ?_
            cases j36
            exact m_Rb.ret b_233 (m_rt_ir d_233_97 rfl m_nb1) ⟨rfl, h34, f34⟩
          | false =>
            have j36 := cF hc35 j33
            refine m_Rb.n0 b_233 (x_icf d_233_65 rfl hc35) ?_
            refine m_Rb.n0 b_233 (x_aload_n d_233_68 rfl) ?_
            obtain ⟨_, e37, j38⟩ := bS j36
            obtain ⟨_, g39⟩ := RT.cls h34 e37
            obtain ⟨v40, e41, j42⟩ := bS j38
            refine m_Rb.callI b_233 (y_cv d_233_69 rfl q_22 (m_isRecv_of rfl g39) (show m_takeI _ _ = some (_, [_], []) from m_takeI_of rfl rfl rfl (Nat.le_of_ble_eq_true rfl)) (by simp only [m_okf, List.all_cons, List.all_nil, Bool.and_true, Bool.and_self, m_okv_i, m_okv_l, m_okv_0, m_okv_n0, m_okv_t, RT.okn h34 (okm (okm hx0 k27) k34), RT.okv h34 (okm (okm hx0 k27) k34)]) rfl) (T_c_Reader_here (okm (okm hx0 k27) k34) h34 e41) f34 rfl (fun w43 h43 f43 k43 => ?_) (by decide) (by decide)
            refine m_Rb.n0 b_233 (x_bipush (z := 32) d_233_72 (by decide)) ?_
            cases hc44 : m_c2 .eq v40 (32 : Int32) with
            | true =>
              have j45 := cT hc44 j42
              refine m_Rb.n0 b_233 (x_ict d_233_74 rfl hc44) ?_
              refine m_Rb.n0 b_233 (x_aload_n d_233_80 rfl) ?_
              refine m_Rb.n0 b_233 (x_dup d_233_81 rfl) ?_
              obtain ⟨v46, e47, j48⟩ := bS j45
              refine m_Rb.tgetI b_233 d_233_82 rfl h43 e47 ?_
              refine m_Rb.n0 b_233 (x_iconst (z := 1) d_233_85 (by decide)) ?_
              refine m_Rb.n0 b_233 (x_iadd d_233_86 rfl) ?_
              obtain ⟨T49, e50, j51⟩ := bS j48
              refine m_Rb.tputI b_233 d_233_87 rfl rfl (by decide) h43 f43 e50 (fun w52 h52 f52 k52 => ?_)
              refine m_Rb.n0 b_233 (x_iinc d_233_90 rfl rfl rfl (show m_put1 _ _ _ = [(1, _), (2, _), (0, _)] from rfl)) ?_
              refine m_Rb.n0 b_233 (x_goto d_233_93 rfl) ?_
              exact m_Rb.pick [2, 0] rfl (ih (okm (okm (okm hx0 k27) k34) k52) h52 f52 j51)
            | false =>
              have j45 := cF hc44 j42
              refine m_Rb.n0 b_233 (x_icf d_233_74 rfl hc44) ?_
              refine m_Rb.n0 b_233 (x_goto d_233_77 rfl) ?_
              refine m_Rb.n0 b_233 (x_iconst (z := 1) d_233_96 (by decide)) ?_
              cases j45
              exact m_Rb.ret b_233 (m_rt_ir d_233_97 rfl m_nb1) ⟨rfl, h43, f43⟩
        | false =>
          have j13 := cF hc12 j11
          refine m_Rb.n0 b_233 (x_icf d_233_22 rfl hc12) ?_
          exact m_Rb.pick [1] rfl (T_c_Reader_readKeys_25 hx0 h9 f9 j13)
def D_c_Reader_readKeys (F : Nat) (a0 : Nat) (T : tT) : Option (Int32 × tT) := D_c_Reader_readKeys_2 F F a0 (0 : Int32) T
theorem T_c_Reader_readKeys {l : Launch} {w : List mM} {F : Nat} {a0 : Nat} {T : tT} {yz : Int32} {Tz : tT} (ha0 : okr T.2.1 (some a0)) (h : RT T w) (h0 : D_c_Reader_readKeys F a0 T = some (yz, Tz)) : m_Rb l M_233 (m_ent M_233 [.ref a0] w) (fun v w' => v = some (.int yz) ∧ RT Tz w' ∧ m_Fm w w') T Tz 1 100 := by
  rw [show m_ent M_233 [.ref a0] w = (0, [(0, .ref a0)], [], w) from by first | rfl | (simp only [m_ent, lv_args_r, lv_args_a, lv_args_i, lv_args_l, lv_args_0]; done) | (simp only [m_ent, lv_args_r, lv_args_a, lv_args_i, lv_args_l, lv_args_0]; rfl)]
  generalize hw0 : w = w0 at h ⊢
  have hF : m_Fm w0 w0 := m_Fm.refl
  rw [D_c_Reader_readKeys] at h0
  refine m_Rb.n0 b_233 (x_iconst (z := 0) d_233_0 (by decide)) ?_
  refine m_Rb.n0 b_233 (x_istore_n d_233_1 rfl (show m_put1 _ _ _ = [(1, _), (0, _)] from rfl)) ?_
  exact m_Rb.pick [1, 0] rfl (T_c_Reader_readKeys_2 F ha0 h hF h0)
def D_c_Reader_readToldValue (F : Nat) (a0 : Nat) (T : tT) : Option (Int32 × tT) := (tcl T a0 1).bind fun _ => (D_c_Reader_isWord F a0 8 T).bind fun v4 => cond (m_c1 .eq v4) ((tcl T a0 1).bind fun _ => (D_c_Reader_isWord F a0 9 T).bind fun v13 => cond (m_c1 .eq v13) ((tcl T a0 1).bind fun _ => (D_c_Reader_isWord F a0 10 T).bind fun v22 => cond (m_c1 .eq v22) ((tcl T a0 1).bind fun _ => (D_c_Reader_isWord F a0 11 T).bind fun v31 => cond (m_c1 .eq v31) ((tcl T a0 1).bind fun _ => bd2 (D_c_Reader_skipValue F a0 T) fun v40 T41 => (bret v40).bind fun v45 => some (v45, T41)) ((tcl T a0 1).bind fun _ => bd2 (D_c_Reader_readKeys F a0 T) fun v51 T52 => (bret v51).bind fun v56 => some (v56, T52))) ((tcl T a0 1).bind fun _ => bd2 (D_c_Reader_readList F a0 (4 : Int32) T) fun v62 T63 => (bret v62).bind fun v67 => some (v67, T63))) ((tcl T a0 1).bind fun _ => bd2 (D_c_Reader_readList F a0 (3 : Int32) T) fun v73 T74 => (bret v73).bind fun v78 => some (v78, T74))) ((tcl T a0 1).bind fun _ => bd2 (D_c_Reader_readNumber F a0 (255 : Int32) T) fun v84 T85 => (tgr T85 a0 1 15).bind fun v89 => (tgi T85 a0 1 9).bind fun v93 => (v89).bind fun a96 => (tpi T85 a96 13 2 v93).bind fun T99 => (bret v84).bind fun v103 => some (v103, T99))
theorem T_c_Reader_readToldValue {l : Launch} {w : List mM} {F : Nat} {a0 : Nat} {T : tT} {yz : Int32} {Tz : tT} (ha0 : okr T.2.1 (some a0)) (h : RT T w) (h0 : D_c_Reader_readToldValue F a0 T = some (yz, Tz)) : m_Rb l M_232 (m_ent M_232 [.ref a0] w) (fun v w' => v = some (.int yz) ∧ RT Tz w' ∧ m_Fm w w') T Tz 7 700 := by
  rw [show m_ent M_232 [.ref a0] w = (0, [(0, .ref a0)], [], w) from by first | rfl | (simp only [m_ent, lv_args_r, lv_args_a, lv_args_i, lv_args_l, lv_args_0]; done) | (simp only [m_ent, lv_args_r, lv_args_a, lv_args_i, lv_args_l, lv_args_0]; rfl)]
  generalize hw0 : w = w0 at h ⊢
  have hF : m_Fm w0 w0 := m_Fm.refl
  rw [D_c_Reader_readToldValue] at h0
  refine m_Rb.n0 b_232 (x_aload_n d_232_0 rfl) ?_
  refine m_Rb.n0 b_232 (x_text d_232_1 rfl rfl) ?_
  obtain ⟨_, e1, j2⟩ := bS h0
  obtain ⟨_, g3⟩ := RT.cls h e1
  obtain ⟨v4, e5, j6⟩ := bS j2
  refine m_Rb.callI b_232 (y_cv d_232_3 rfl q_45 (m_isRecv_of rfl g3) (show m_takeI _ _ = some (_, [_, _], []) from m_takeI_of rfl rfl rfl (Nat.le_of_ble_eq_true rfl)) (by simp only [m_okf, List.all_cons, List.all_nil, Bool.and_true, Bool.and_self, m_okv_i, m_okv_l, m_okv_0, m_okv_n0, m_okv_t, RT.okn h ha0, RT.okv h ha0, m_okv_out (a := 8) (by decide)]) rfl) (T_c_Reader_isWord ha0 (by decide) h e5) hF rfl (fun w7 h7 f7 k7 => ?_) (by decide) (by decide)
  cases hc8 : m_c1 .eq v4 with
  | true =>
    have j9 := cT hc8 j6
    refine m_Rb.n0 b_232 (x_ift d_232_6 rfl hc8) ?_
    refine m_Rb.n0 b_232 (x_aload_n d_232_30 rfl) ?_
    refine m_Rb.n0 b_232 (x_text d_232_31 rfl rfl) ?_
    obtain ⟨_, e10, j11⟩ := bS j9
    obtain ⟨_, g12⟩ := RT.cls h7 e10
    obtain ⟨v13, e14, j15⟩ := bS j11
    refine m_Rb.callI b_232 (y_cv d_232_33 rfl q_45 (m_isRecv_of rfl g12) (show m_takeI _ _ = some (_, [_, _], []) from m_takeI_of rfl rfl rfl (Nat.le_of_ble_eq_true rfl)) (by simp only [m_okf, List.all_cons, List.all_nil, Bool.and_true, Bool.and_self, m_okv_i, m_okv_l, m_okv_0, m_okv_n0, m_okv_t, RT.okn h7 ha0, RT.okv h7 ha0, m_okv_out (a := 9) (by decide)]) rfl) (T_c_Reader_isWord ha0 (by decide) h7 e14) f7 rfl (fun w16 h16 f16 k16 => ?_) (by decide) (by decide)
    cases hc17 : m_c1 .eq v13 with
    | true =>
      have j18 := cT hc17 j15
      refine m_Rb.n0 b_232 (x_ift d_232_36 rfl hc17) ?_
      refine m_Rb.n0 b_232 (x_aload_n d_232_45 rfl) ?_
      refine m_Rb.n0 b_232 (x_text d_232_46 rfl rfl) ?_
      obtain ⟨_, e19, j20⟩ := bS j18
      obtain ⟨_, g21⟩ := RT.cls h16 e19
      obtain ⟨v22, e23, j24⟩ := bS j20
      refine m_Rb.callI b_232 (y_cv d_232_48 rfl q_45 (m_isRecv_of rfl g21) (show m_takeI _ _ = some (_, [_, _], []) from m_takeI_of rfl rfl rfl (Nat.le_of_ble_eq_true rfl)) (by simp only [m_okf, List.all_cons, List.all_nil, Bool.and_true, Bool.and_self, m_okv_i, m_okv_l, m_okv_0, m_okv_n0, m_okv_t, RT.okn h16 ha0, RT.okv h16 ha0, m_okv_out (a := 10) (by decide)]) rfl) (T_c_Reader_isWord ha0 (by decide) h16 e23) f16 rfl (fun w25 h25 f25 k25 => ?_) (by decide) (by decide)
      cases hc26 : m_c1 .eq v22 with
      | true =>
        have j27 := cT hc26 j24
        refine m_Rb.n0 b_232 (x_ift d_232_51 rfl hc26) ?_
        refine m_Rb.n0 b_232 (x_aload_n d_232_60 rfl) ?_
        refine m_Rb.n0 b_232 (x_text d_232_61 rfl rfl) ?_
        obtain ⟨_, e28, j29⟩ := bS j27
        obtain ⟨_, g30⟩ := RT.cls h25 e28
        obtain ⟨v31, e32, j33⟩ := bS j29
        refine m_Rb.callI b_232 (y_cv d_232_63 rfl q_45 (m_isRecv_of rfl g30) (show m_takeI _ _ = some (_, [_, _], []) from m_takeI_of rfl rfl rfl (Nat.le_of_ble_eq_true rfl)) (by simp only [m_okf, List.all_cons, List.all_nil, Bool.and_true, Bool.and_self, m_okv_i, m_okv_l, m_okv_0, m_okv_n0, m_okv_t, RT.okn h25 ha0, RT.okv h25 ha0, m_okv_out (a := 11) (by decide)]) rfl) (T_c_Reader_isWord ha0 (by decide) h25 e32) f25 rfl (fun w34 h34 f34 k34 => ?_) (by decide) (by decide)
        cases hc35 : m_c1 .eq v31 with
        | true =>
          have j36 := cT hc35 j33
          refine m_Rb.n0 b_232 (x_ift d_232_66 rfl hc35) ?_
          refine m_Rb.n0 b_232 (x_aload_n d_232_74 rfl) ?_
          obtain ⟨_, e37, j38⟩ := bS j36
          obtain ⟨_, g39⟩ := RT.cls h34 e37
          obtain ⟨v40, T41, e42, j43⟩ := bS2 j38
          refine m_Rb.callI b_232 (y_cv d_232_75 rfl q_56 (m_isRecv_of rfl g39) (show m_takeI _ _ = some (_, [_], []) from m_takeI_of rfl rfl rfl (Nat.le_of_ble_eq_true rfl)) (by simp only [m_okf, List.all_cons, List.all_nil, Bool.and_true, Bool.and_self, m_okv_i, m_okv_l, m_okv_0, m_okv_n0, m_okv_t, RT.okn h34 ha0, RT.okv h34 ha0]) rfl) (T_c_Reader_skipValue ha0 h34 e42) f34 rfl (fun w44 h44 f44 k44 => ?_) (by decide) (by decide)
          obtain ⟨v45, e46, j47⟩ := bS j43
          cases j47
          exact m_Rb.retb b_232 d_232_78 rfl e46 ⟨rfl, h44, f44⟩
        | false =>
          have j36 := cF hc35 j33
          refine m_Rb.n0 b_232 (x_iff d_232_66 rfl hc35) ?_
          refine m_Rb.n0 b_232 (x_aload_n d_232_69 rfl) ?_
          obtain ⟨_, e48, j49⟩ := bS j36
          obtain ⟨_, g50⟩ := RT.cls h34 e48
          obtain ⟨v51, T52, e53, j54⟩ := bS2 j49
          refine m_Rb.callI b_232 (y_cv d_232_70 rfl q_233 (m_isRecv_of rfl g50) (show m_takeI _ _ = some (_, [_], []) from m_takeI_of rfl rfl rfl (Nat.le_of_ble_eq_true rfl)) (by simp only [m_okf, List.all_cons, List.all_nil, Bool.and_true, Bool.and_self, m_okv_i, m_okv_l, m_okv_0, m_okv_n0, m_okv_t, RT.okn h34 ha0, RT.okv h34 ha0]) rfl) (T_c_Reader_readKeys ha0 h34 e53) f34 rfl (fun w55 h55 f55 k55 => ?_) (by decide) (by decide)
          obtain ⟨v56, e57, j58⟩ := bS j54
          cases j58
          exact m_Rb.retb b_232 d_232_73 rfl e57 ⟨rfl, h55, f55⟩
      | false =>
        have j27 := cF hc26 j24
        refine m_Rb.n0 b_232 (x_iff d_232_51 rfl hc26) ?_
        refine m_Rb.n0 b_232 (x_aload_n d_232_54 rfl) ?_
        refine m_Rb.n0 b_232 (x_iconst (z := 4) d_232_55 (by decide)) ?_
        obtain ⟨_, e59, j60⟩ := bS j27
        obtain ⟨_, g61⟩ := RT.cls h25 e59
        obtain ⟨v62, T63, e64, j65⟩ := bS2 j60
        refine m_Rb.callI b_232 (y_cv d_232_56 rfl q_49 (m_isRecv_of rfl g61) (show m_takeI _ _ = some (_, [_, _], []) from m_takeI_of rfl rfl rfl (Nat.le_of_ble_eq_true rfl)) (by simp only [m_okf, List.all_cons, List.all_nil, Bool.and_true, Bool.and_self, m_okv_i, m_okv_l, m_okv_0, m_okv_n0, m_okv_t, RT.okn h25 ha0, RT.okv h25 ha0]) rfl) (T_c_Reader_readList ha0 h25 e64) f25 rfl (fun w66 h66 f66 k66 => ?_) (by decide) (by decide)
        obtain ⟨v67, e68, j69⟩ := bS j65
        cases j69
        exact m_Rb.retb b_232 d_232_59 rfl e68 ⟨rfl, h66, f66⟩
    | false =>
      have j18 := cF hc17 j15
      refine m_Rb.n0 b_232 (x_iff d_232_36 rfl hc17) ?_
      refine m_Rb.n0 b_232 (x_aload_n d_232_39 rfl) ?_
      refine m_Rb.n0 b_232 (x_iconst (z := 3) d_232_40 (by decide)) ?_
      obtain ⟨_, e70, j71⟩ := bS j18
      obtain ⟨_, g72⟩ := RT.cls h16 e70
      obtain ⟨v73, T74, e75, j76⟩ := bS2 j71
      refine m_Rb.callI b_232 (y_cv d_232_41 rfl q_49 (m_isRecv_of rfl g72) (show m_takeI _ _ = some (_, [_, _], []) from m_takeI_of rfl rfl rfl (Nat.le_of_ble_eq_true rfl)) (by simp only [m_okf, List.all_cons, List.all_nil, Bool.and_true, Bool.and_self, m_okv_i, m_okv_l, m_okv_0, m_okv_n0, m_okv_t, RT.okn h16 ha0, RT.okv h16 ha0]) rfl) (T_c_Reader_readList ha0 h16 e75) f16 rfl (fun w77 h77 f77 k77 => ?_) (by decide) (by decide)
      obtain ⟨v78, e79, j80⟩ := bS j76
      cases j80
      exact m_Rb.retb b_232 d_232_44 rfl e79 ⟨rfl, h77, f77⟩
  | false =>
    have j9 := cF hc8 j6
    refine m_Rb.n0 b_232 (x_iff d_232_6 rfl hc8) ?_
    refine m_Rb.n0 b_232 (x_aload_n d_232_9 rfl) ?_
    refine m_Rb.n0 b_232 (x_sipush (z := 255) d_232_10 (by decide)) ?_
    obtain ⟨_, e81, j82⟩ := bS j9
    obtain ⟨_, g83⟩ := RT.cls h7 e81
    obtain ⟨v84, T85, e86, j87⟩ := bS2 j82
    refine m_Rb.callI b_232 (y_cv d_232_13 rfl q_38 (m_isRecv_of rfl g83) (show m_takeI _ _ = some (_, [_, _], []) from m_takeI_of rfl rfl rfl (Nat.le_of_ble_eq_true rfl)) (by simp only [m_okf, List.all_cons, List.all_nil, Bool.and_true, Bool.and_self, m_okv_i, m_okv_l, m_okv_0, m_okv_n0, m_okv_t, RT.okn h7 ha0, RT.okv h7 ha0]) rfl) (T_c_Reader_readNumber ha0 h7 e86) f7 rfl (fun w88 h88 f88 k88 => ?_) (by decide) (by decide)
    refine m_Rb.n0 b_232 (x_istore_n d_232_16 rfl (show m_put1 _ _ _ = [(1, _), (0, _)] from rfl)) ?_
    refine m_Rb.n0 b_232 (x_aload_n d_232_17 rfl) ?_
    obtain ⟨v89, e90, j91⟩ := bS j87
    refine m_Rb.tgetR b_232 d_232_18 rfl h88 e90 (fun o92 => ?_)
    refine m_Rb.n0 b_232 (x_aload_n d_232_21 rfl) ?_
    obtain ⟨v93, e94, j95⟩ := bS j91
    refine m_Rb.tgetI b_232 d_232_22 rfl h88 e94 ?_
    obtain ⟨a96, e97, j98⟩ := bS j95
    subst e97
    obtain ⟨T99, e100, j101⟩ := bS j98
    refine m_Rb.tputI b_232 d_232_25 rfl rfl (by decide) h88 f88 e100 (fun w102 h102 f102 k102 => ?_)
    refine m_Rb.n0 b_232 (x_iload_n d_232_28 rfl) ?_
    obtain ⟨v103, e104, j105⟩ := bS j101
    cases j105
    exact m_Rb.retb b_232 d_232_29 rfl e104 ⟨rfl, h102, f102⟩
