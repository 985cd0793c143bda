/-! The reference's methods as guarded functions. Written by wip/tool/dec2.py. -/
theorem q_241 : m_mt[241]? = some M_241 := by rfl
theorem q_242 : m_mt[242]? = some M_242 := by rfl
theorem q_246 : m_mt[246]? = some M_246 := by rfl
theorem q_256 : m_mt[256]? = some M_256 := by rfl
theorem q_257 : m_mt[257]? = some M_257 := by rfl
theorem q_258 : m_mt[258]? = some M_258 := by rfl
theorem q_259 : m_mt[259]? = some M_259 := by rfl
theorem q_262 : m_mt[262]? = some M_262 := by rfl
theorem q_261 : m_mt[261]? = some M_261 := by rfl
theorem q_263 : m_mt[263]? = some M_263 := by rfl
theorem q_264 : m_mt[264]? = some M_264 := by rfl
theorem q_265 : m_mt[265]? = some M_265 := by rfl
theorem q_260 : m_mt[260]? = some M_260 := by rfl
theorem q_266 : m_mt[266]? = some M_266 := by rfl
theorem q_252 : m_mt[252]? = some M_252 := by rfl
theorem q_244 : m_mt[244]? = some M_244 := by rfl
theorem q_243 : m_mt[243]? = some M_243 := by rfl
theorem q_268 : m_mt[268]? = some M_268 := by rfl
theorem q_270 : m_mt[270]? = some M_270 := by rfl
theorem q_271 : m_mt[271]? = some M_271 := by rfl
theorem q_273 : m_mt[273]? = some M_273 := by rfl
theorem q_274 : m_mt[274]? = some M_274 := by rfl
theorem q_272 : m_mt[272]? = some M_272 := by rfl
theorem q_275 : m_mt[275]? = some M_275 := by rfl
theorem q_278 : m_mt[278]? = some M_278 := by rfl
theorem q_279 : m_mt[279]? = some M_279 := by rfl
theorem q_277 : m_mt[277]? = some M_277 := by rfl
theorem q_280 : m_mt[280]? = some M_280 := by rfl
theorem q_282 : m_mt[282]? = some M_282 := by rfl
theorem q_281 : m_mt[281]? = some M_281 := by rfl
theorem q_284 : m_mt[284]? = some M_284 := by rfl
theorem b_241 : m_bOk M_241 := (m_mt_ok M_241 (List.mem_of_getElem? q_241)).body
theorem b_242 : m_bOk M_242 := (m_mt_ok M_242 (List.mem_of_getElem? q_242)).body
theorem b_246 : m_bOk M_246 := (m_mt_ok M_246 (List.mem_of_getElem? q_246)).body
theorem b_256 : m_bOk M_256 := (m_mt_ok M_256 (List.mem_of_getElem? q_256)).body
theorem b_257 : m_bOk M_257 := (m_mt_ok M_257 (List.mem_of_getElem? q_257)).body
theorem b_258 : m_bOk M_258 := (m_mt_ok M_258 (List.mem_of_getElem? q_258)).body
theorem b_259 : m_bOk M_259 := (m_mt_ok M_259 (List.mem_of_getElem? q_259)).body
theorem b_262 : m_bOk M_262 := (m_mt_ok M_262 (List.mem_of_getElem? q_262)).body
theorem b_261 : m_bOk M_261 := (m_mt_ok M_261 (List.mem_of_getElem? q_261)).body
theorem b_263 : m_bOk M_263 := (m_mt_ok M_263 (List.mem_of_getElem? q_263)).body
theorem b_264 : m_bOk M_264 := (m_mt_ok M_264 (List.mem_of_getElem? q_264)).body
theorem b_265 : m_bOk M_265 := (m_mt_ok M_265 (List.mem_of_getElem? q_265)).body
theorem b_260 : m_bOk M_260 := (m_mt_ok M_260 (List.mem_of_getElem? q_260)).body
theorem b_266 : m_bOk M_266 := (m_mt_ok M_266 (List.mem_of_getElem? q_266)).body
theorem b_252 : m_bOk M_252 := (m_mt_ok M_252 (List.mem_of_getElem? q_252)).body
theorem b_244 : m_bOk M_244 := (m_mt_ok M_244 (List.mem_of_getElem? q_244)).body
theorem b_243 : m_bOk M_243 := (m_mt_ok M_243 (List.mem_of_getElem? q_243)).body
theorem b_268 : m_bOk M_268 := (m_mt_ok M_268 (List.mem_of_getElem? q_268)).body
theorem b_270 : m_bOk M_270 := (m_mt_ok M_270 (List.mem_of_getElem? q_270)).body
theorem b_271 : m_bOk M_271 := (m_mt_ok M_271 (List.mem_of_getElem? q_271)).body
theorem b_273 : m_bOk M_273 := (m_mt_ok M_273 (List.mem_of_getElem? q_273)).body
theorem b_274 : m_bOk M_274 := (m_mt_ok M_274 (List.mem_of_getElem? q_274)).body
theorem b_272 : m_bOk M_272 := (m_mt_ok M_272 (List.mem_of_getElem? q_272)).body
theorem b_275 : m_bOk M_275 := (m_mt_ok M_275 (List.mem_of_getElem? q_275)).body
theorem b_278 : m_bOk M_278 := (m_mt_ok M_278 (List.mem_of_getElem? q_278)).body
theorem b_279 : m_bOk M_279 := (m_mt_ok M_279 (List.mem_of_getElem? q_279)).body
theorem b_277 : m_bOk M_277 := (m_mt_ok M_277 (List.mem_of_getElem? q_277)).body
theorem b_280 : m_bOk M_280 := (m_mt_ok M_280 (List.mem_of_getElem? q_280)).body
theorem b_282 : m_bOk M_282 := (m_mt_ok M_282 (List.mem_of_getElem? q_282)).body
theorem b_281 : m_bOk M_281 := (m_mt_ok M_281 (List.mem_of_getElem? q_281)).body
theorem b_284 : m_bOk M_284 := (m_mt_ok M_284 (List.mem_of_getElem? q_284)).body
theorem d_241_0 : m_dn M_241 0 (.aload_n 0) 1 1 := by decide +kernel
theorem d_241_1 : m_dn M_241 1 (.getfield 155) 3 4 := by decide +kernel
theorem d_241_4 : m_dn M_241 4 (.ireturn) 1 5 := by decide +kernel
theorem d_242_0 : m_dn M_242 0 (.aload_n 0) 1 1 := by decide +kernel
theorem d_242_1 : m_dn M_242 1 (.iconst 0) 1 2 := by decide +kernel
theorem d_242_10 : m_dn M_242 10 (.iload_n 3) 1 11 := by decide +kernel
theorem d_242_100 : m_dn M_242 100 (.lload_n 1) 1 101 := by decide +kernel
theorem d_242_101 : m_dn M_242 101 (.bipush 8) 2 103 := by decide +kernel
theorem d_242_103 : m_dn M_242 103 (.iload 4) 2 105 := by decide +kernel
theorem d_242_105 : m_dn M_242 105 (.imul) 1 106 := by decide +kernel
theorem d_242_106 : m_dn M_242 106 (.lshr) 1 107 := by decide +kernel
theorem d_242_107 : m_dn M_242 107 (.ldc2_w 161) 3 110 := by decide +kernel
theorem d_242_11 : m_dn M_242 11 (.bipush 8) 2 13 := by decide +kernel
theorem d_242_110 : m_dn M_242 110 (.land) 1 111 := by decide +kernel
theorem d_242_111 : m_dn M_242 111 (.l2i) 1 112 := by decide +kernel
theorem d_242_112 : m_dn M_242 112 (.iastore) 1 113 := by decide +kernel
theorem d_242_113 : m_dn M_242 113 (.aload_n 0) 1 114 := by decide +kernel
theorem d_242_114 : m_dn M_242 114 (.dup) 1 115 := by decide +kernel
theorem d_242_115 : m_dn M_242 115 (.getfield 158) 3 118 := by decide +kernel
theorem d_242_118 : m_dn M_242 118 (.iconst 1) 1 119 := by decide +kernel
theorem d_242_119 : m_dn M_242 119 (.iadd) 1 120 := by decide +kernel
theorem d_242_120 : m_dn M_242 120 (.putfield 158) 3 123 := by decide +kernel
theorem d_242_123 : m_dn M_242 123 (.iinc 4 (-1)) 3 126 := by decide +kernel
theorem d_242_126 : m_dn M_242 126 (.goto (-39)) 3 129 := by decide +kernel
theorem d_242_129 : m_dn M_242 129 (.iconst 1) 1 130 := by decide +kernel
theorem d_242_13 : m_dn M_242 13 (.if_icmp .gt 15) 3 16 := by decide +kernel
theorem d_242_130 : m_dn M_242 130 (.ireturn) 1 131 := by decide +kernel
theorem d_242_16 : m_dn M_242 16 (.aload_n 0) 1 17 := by decide +kernel
theorem d_242_17 : m_dn M_242 17 (.getfield 158) 3 20 := by decide +kernel
theorem d_242_2 : m_dn M_242 2 (.putfield 155) 3 5 := by decide +kernel
theorem d_242_20 : m_dn M_242 20 (.iload_n 3) 1 21 := by decide +kernel
theorem d_242_21 : m_dn M_242 21 (.iadd) 1 22 := by decide +kernel
theorem d_242_22 : m_dn M_242 22 (.sipush 300) 3 25 := by decide +kernel
theorem d_242_25 : m_dn M_242 25 (.if_icmp .le 5) 3 28 := by decide +kernel
theorem d_242_28 : m_dn M_242 28 (.iconst 0) 1 29 := by decide +kernel
theorem d_242_29 : m_dn M_242 29 (.ireturn) 1 30 := by decide +kernel
theorem d_242_30 : m_dn M_242 30 (.iconst 0) 1 31 := by decide +kernel
theorem d_242_31 : m_dn M_242 31 (.istore 4) 2 33 := by decide +kernel
theorem d_242_33 : m_dn M_242 33 (.iload 4) 2 35 := by decide +kernel
theorem d_242_35 : m_dn M_242 35 (.iload_n 3) 1 36 := by decide +kernel
theorem d_242_36 : m_dn M_242 36 (.if_icmp .ge 46) 3 39 := by decide +kernel
theorem d_242_39 : m_dn M_242 39 (.lload_n 1) 1 40 := by decide +kernel
theorem d_242_40 : m_dn M_242 40 (.bipush 8) 2 42 := by decide +kernel
theorem d_242_42 : m_dn M_242 42 (.iload 4) 2 44 := by decide +kernel
theorem d_242_44 : m_dn M_242 44 (.imul) 1 45 := by decide +kernel
theorem d_242_45 : m_dn M_242 45 (.lshr) 1 46 := by decide +kernel
theorem d_242_46 : m_dn M_242 46 (.ldc2_w 161) 3 49 := by decide +kernel
theorem d_242_49 : m_dn M_242 49 (.land) 1 50 := by decide +kernel
theorem d_242_5 : m_dn M_242 5 (.iload_n 3) 1 6 := by decide +kernel
theorem d_242_50 : m_dn M_242 50 (.l2i) 1 51 := by decide +kernel
theorem d_242_51 : m_dn M_242 51 (.istore 5) 2 53 := by decide +kernel
theorem d_242_53 : m_dn M_242 53 (.iload 5) 2 55 := by decide +kernel
theorem d_242_55 : m_dn M_242 55 (.bipush 10) 2 57 := by decide +kernel
theorem d_242_57 : m_dn M_242 57 (.if_icmp .eq 19) 3 60 := by decide +kernel
theorem d_242_6 : m_dn M_242 6 (.iconst 1) 1 7 := by decide +kernel
theorem d_242_60 : m_dn M_242 60 (.iload 5) 2 62 := by decide +kernel
theorem d_242_62 : m_dn M_242 62 (.bipush 32) 2 64 := by decide +kernel
theorem d_242_64 : m_dn M_242 64 (.if_icmp .lt 10) 3 67 := by decide +kernel
theorem d_242_67 : m_dn M_242 67 (.iload 5) 2 69 := by decide +kernel
theorem d_242_69 : m_dn M_242 69 (.bipush 126) 2 71 := by decide +kernel
theorem d_242_7 : m_dn M_242 7 (.if_icmp .lt 21) 3 10 := by decide +kernel
theorem d_242_71 : m_dn M_242 71 (.if_icmp .le 5) 3 74 := by decide +kernel
theorem d_242_74 : m_dn M_242 74 (.iconst 0) 1 75 := by decide +kernel
theorem d_242_75 : m_dn M_242 75 (.ireturn) 1 76 := by decide +kernel
theorem d_242_76 : m_dn M_242 76 (.iinc 4 1) 3 79 := by decide +kernel
theorem d_242_79 : m_dn M_242 79 (.goto (-46)) 3 82 := by decide +kernel
theorem d_242_82 : m_dn M_242 82 (.iload_n 3) 1 83 := by decide +kernel
theorem d_242_83 : m_dn M_242 83 (.iconst 1) 1 84 := by decide +kernel
theorem d_242_84 : m_dn M_242 84 (.isub) 1 85 := by decide +kernel
theorem d_242_85 : m_dn M_242 85 (.istore 4) 2 87 := by decide +kernel
theorem d_242_87 : m_dn M_242 87 (.iload 4) 2 89 := by decide +kernel
theorem d_242_89 : m_dn M_242 89 (.ifCond .lt 40) 3 92 := by decide +kernel
theorem d_242_92 : m_dn M_242 92 (.aload_n 0) 1 93 := by decide +kernel
theorem d_242_93 : m_dn M_242 93 (.getfield 7) 3 96 := by decide +kernel
theorem d_242_96 : m_dn M_242 96 (.aload_n 0) 1 97 := by decide +kernel
theorem d_242_97 : m_dn M_242 97 (.getfield 158) 3 100 := by decide +kernel
theorem d_243_0 : m_dn M_243 0 (.aload_n 0) 1 1 := by decide +kernel
theorem d_243_1 : m_dn M_243 1 (.iconst 0) 1 2 := by decide +kernel
theorem d_243_10 : m_dn M_243 10 (.putfield 155) 3 13 := by decide +kernel
theorem d_243_100 : m_dn M_243 100 (.getfield 308) 3 103 := by decide +kernel
theorem d_243_103 : m_dn M_243 103 (.iastore) 1 104 := by decide +kernel
theorem d_243_104 : m_dn M_243 104 (.aload_n 0) 1 105 := by decide +kernel
theorem d_243_105 : m_dn M_243 105 (.getfield 29) 3 108 := by decide +kernel
theorem d_243_108 : m_dn M_243 108 (.iload_n 1) 1 109 := by decide +kernel
theorem d_243_109 : m_dn M_243 109 (.iconst 5) 1 110 := by decide +kernel
theorem d_243_110 : m_dn M_243 110 (.iadd) 1 111 := by decide +kernel
theorem d_243_111 : m_dn M_243 111 (.aload_n 0) 1 112 := by decide +kernel
theorem d_243_112 : m_dn M_243 112 (.getfield 292) 3 115 := by decide +kernel
theorem d_243_115 : m_dn M_243 115 (.ifCond .eq 7) 3 118 := by decide +kernel
theorem d_243_118 : m_dn M_243 118 (.iconst 1) 1 119 := by decide +kernel
theorem d_243_119 : m_dn M_243 119 (.goto 4) 3 122 := by decide +kernel
theorem d_243_122 : m_dn M_243 122 (.iconst 0) 1 123 := by decide +kernel
theorem d_243_123 : m_dn M_243 123 (.iastore) 1 124 := by decide +kernel
theorem d_243_124 : m_dn M_243 124 (.aload_n 0) 1 125 := by decide +kernel
theorem d_243_125 : m_dn M_243 125 (.getfield 29) 3 128 := by decide +kernel
theorem d_243_128 : m_dn M_243 128 (.iload_n 1) 1 129 := by decide +kernel
theorem d_243_129 : m_dn M_243 129 (.bipush 6) 2 131 := by decide +kernel
theorem d_243_13 : m_dn M_243 13 (.iconst 0) 1 14 := by decide +kernel
theorem d_243_131 : m_dn M_243 131 (.iadd) 1 132 := by decide +kernel
theorem d_243_132 : m_dn M_243 132 (.aload_n 0) 1 133 := by decide +kernel
theorem d_243_133 : m_dn M_243 133 (.getfield 295) 3 136 := by decide +kernel
theorem d_243_136 : m_dn M_243 136 (.ifCond .eq 7) 3 139 := by decide +kernel
theorem d_243_139 : m_dn M_243 139 (.iconst 1) 1 140 := by decide +kernel
theorem d_243_14 : m_dn M_243 14 (.ireturn) 1 15 := by decide +kernel
theorem d_243_140 : m_dn M_243 140 (.goto 4) 3 143 := by decide +kernel
theorem d_243_143 : m_dn M_243 143 (.iconst 0) 1 144 := by decide +kernel
theorem d_243_144 : m_dn M_243 144 (.iastore) 1 145 := by decide +kernel
theorem d_243_145 : m_dn M_243 145 (.aload_n 0) 1 146 := by decide +kernel
theorem d_243_146 : m_dn M_243 146 (.getfield 29) 3 149 := by decide +kernel
theorem d_243_149 : m_dn M_243 149 (.iload_n 1) 1 150 := by decide +kernel
theorem d_243_15 : m_dn M_243 15 (.aload_n 0) 1 16 := by decide +kernel
theorem d_243_150 : m_dn M_243 150 (.bipush 7) 2 152 := by decide +kernel
theorem d_243_152 : m_dn M_243 152 (.iadd) 1 153 := by decide +kernel
theorem d_243_153 : m_dn M_243 153 (.aload_n 0) 1 154 := by decide +kernel
theorem d_243_154 : m_dn M_243 154 (.getfield 326) 3 157 := by decide +kernel
theorem d_243_157 : m_dn M_243 157 (.iastore) 1 158 := by decide +kernel
theorem d_243_158 : m_dn M_243 158 (.aload_n 0) 1 159 := by decide +kernel
theorem d_243_159 : m_dn M_243 159 (.getfield 29) 3 162 := by decide +kernel
theorem d_243_16 : m_dn M_243 16 (.iconst 0) 1 17 := by decide +kernel
theorem d_243_162 : m_dn M_243 162 (.iload_n 1) 1 163 := by decide +kernel
theorem d_243_163 : m_dn M_243 163 (.bipush 8) 2 165 := by decide +kernel
theorem d_243_165 : m_dn M_243 165 (.iadd) 1 166 := by decide +kernel
theorem d_243_166 : m_dn M_243 166 (.aload_n 0) 1 167 := by decide +kernel
theorem d_243_167 : m_dn M_243 167 (.getfield 319) 3 170 := by decide +kernel
theorem d_243_17 : m_dn M_243 17 (.putfield 155) 3 20 := by decide +kernel
theorem d_243_170 : m_dn M_243 170 (.iastore) 1 171 := by decide +kernel
theorem d_243_171 : m_dn M_243 171 (.aload_n 0) 1 172 := by decide +kernel
theorem d_243_172 : m_dn M_243 172 (.getfield 32) 3 175 := by decide +kernel
theorem d_243_175 : m_dn M_243 175 (.aload_n 0) 1 176 := by decide +kernel
theorem d_243_176 : m_dn M_243 176 (.getfield 200) 3 179 := by decide +kernel
theorem d_243_179 : m_dn M_243 179 (.iaload) 1 180 := by decide +kernel
theorem d_243_180 : m_dn M_243 180 (.ireturn) 1 181 := by decide +kernel
theorem d_243_2 : m_dn M_243 2 (.invokevirtual 608) 3 5 := by decide +kernel
theorem d_243_20 : m_dn M_243 20 (.bipush 9) 2 22 := by decide +kernel
theorem d_243_22 : m_dn M_243 22 (.aload_n 0) 1 23 := by decide +kernel
theorem d_243_23 : m_dn M_243 23 (.getfield 200) 3 26 := by decide +kernel
theorem d_243_26 : m_dn M_243 26 (.imul) 1 27 := by decide +kernel
theorem d_243_27 : m_dn M_243 27 (.istore_n 1) 1 28 := by decide +kernel
theorem d_243_28 : m_dn M_243 28 (.aload_n 0) 1 29 := by decide +kernel
theorem d_243_29 : m_dn M_243 29 (.getfield 32) 3 32 := by decide +kernel
theorem d_243_32 : m_dn M_243 32 (.aload_n 0) 1 33 := by decide +kernel
theorem d_243_33 : m_dn M_243 33 (.getfield 200) 3 36 := by decide +kernel
theorem d_243_36 : m_dn M_243 36 (.dup2) 1 37 := by decide +kernel
theorem d_243_37 : m_dn M_243 37 (.iaload) 1 38 := by decide +kernel
theorem d_243_38 : m_dn M_243 38 (.iconst 1) 1 39 := by decide +kernel
theorem d_243_39 : m_dn M_243 39 (.iadd) 1 40 := by decide +kernel
theorem d_243_40 : m_dn M_243 40 (.iastore) 1 41 := by decide +kernel
theorem d_243_41 : m_dn M_243 41 (.aload_n 0) 1 42 := by decide +kernel
theorem d_243_42 : m_dn M_243 42 (.getfield 29) 3 45 := by decide +kernel
theorem d_243_45 : m_dn M_243 45 (.iload_n 1) 1 46 := by decide +kernel
theorem d_243_46 : m_dn M_243 46 (.aload_n 0) 1 47 := by decide +kernel
theorem d_243_47 : m_dn M_243 47 (.getfield 32) 3 50 := by decide +kernel
theorem d_243_5 : m_dn M_243 5 (.ifCond .ne 10) 3 8 := by decide +kernel
theorem d_243_50 : m_dn M_243 50 (.aload_n 0) 1 51 := by decide +kernel
theorem d_243_51 : m_dn M_243 51 (.getfield 200) 3 54 := by decide +kernel
theorem d_243_54 : m_dn M_243 54 (.iaload) 1 55 := by decide +kernel
theorem d_243_55 : m_dn M_243 55 (.iastore) 1 56 := by decide +kernel
theorem d_243_56 : m_dn M_243 56 (.aload_n 0) 1 57 := by decide +kernel
theorem d_243_57 : m_dn M_243 57 (.getfield 29) 3 60 := by decide +kernel
theorem d_243_60 : m_dn M_243 60 (.iload_n 1) 1 61 := by decide +kernel
theorem d_243_61 : m_dn M_243 61 (.iconst 1) 1 62 := by decide +kernel
theorem d_243_62 : m_dn M_243 62 (.iadd) 1 63 := by decide +kernel
theorem d_243_63 : m_dn M_243 63 (.aload_n 0) 1 64 := by decide +kernel
theorem d_243_64 : m_dn M_243 64 (.getfield 332) 3 67 := by decide +kernel
theorem d_243_67 : m_dn M_243 67 (.iastore) 1 68 := by decide +kernel
theorem d_243_68 : m_dn M_243 68 (.aload_n 0) 1 69 := by decide +kernel
theorem d_243_69 : m_dn M_243 69 (.getfield 29) 3 72 := by decide +kernel
theorem d_243_72 : m_dn M_243 72 (.iload_n 1) 1 73 := by decide +kernel
theorem d_243_73 : m_dn M_243 73 (.iconst 2) 1 74 := by decide +kernel
theorem d_243_74 : m_dn M_243 74 (.iadd) 1 75 := by decide +kernel
theorem d_243_75 : m_dn M_243 75 (.aload_n 0) 1 76 := by decide +kernel
theorem d_243_76 : m_dn M_243 76 (.getfield 298) 3 79 := by decide +kernel
theorem d_243_79 : m_dn M_243 79 (.iastore) 1 80 := by decide +kernel
theorem d_243_8 : m_dn M_243 8 (.aload_n 0) 1 9 := by decide +kernel
theorem d_243_80 : m_dn M_243 80 (.aload_n 0) 1 81 := by decide +kernel
theorem d_243_81 : m_dn M_243 81 (.getfield 29) 3 84 := by decide +kernel
theorem d_243_84 : m_dn M_243 84 (.iload_n 1) 1 85 := by decide +kernel
theorem d_243_85 : m_dn M_243 85 (.iconst 3) 1 86 := by decide +kernel
theorem d_243_86 : m_dn M_243 86 (.iadd) 1 87 := by decide +kernel
theorem d_243_87 : m_dn M_243 87 (.aload_n 0) 1 88 := by decide +kernel
theorem d_243_88 : m_dn M_243 88 (.getfield 303) 3 91 := by decide +kernel
theorem d_243_9 : m_dn M_243 9 (.iconst 1) 1 10 := by decide +kernel
theorem d_243_91 : m_dn M_243 91 (.iastore) 1 92 := by decide +kernel
theorem d_243_92 : m_dn M_243 92 (.aload_n 0) 1 93 := by decide +kernel
theorem d_243_93 : m_dn M_243 93 (.getfield 29) 3 96 := by decide +kernel
theorem d_243_96 : m_dn M_243 96 (.iload_n 1) 1 97 := by decide +kernel
theorem d_243_97 : m_dn M_243 97 (.iconst 4) 1 98 := by decide +kernel
theorem d_243_98 : m_dn M_243 98 (.iadd) 1 99 := by decide +kernel
theorem d_243_99 : m_dn M_243 99 (.aload_n 0) 1 100 := by decide +kernel
theorem d_244_0 : m_dn M_244 0 (.aload_n 0) 1 1 := by decide +kernel
theorem d_244_1 : m_dn M_244 1 (.iconst 0) 1 2 := by decide +kernel
theorem d_244_10 : m_dn M_244 10 (.aload_n 0) 1 11 := by decide +kernel
theorem d_244_100 : m_dn M_244 100 (.aload_n 0) 1 101 := by decide +kernel
theorem d_244_101 : m_dn M_244 101 (.iconst (-1)) 1 102 := by decide +kernel
theorem d_244_102 : m_dn M_244 102 (.putfield 334) 3 105 := by decide +kernel
theorem d_244_105 : m_dn M_244 105 (.iconst 0) 1 106 := by decide +kernel
theorem d_244_106 : m_dn M_244 106 (.istore_n 2) 1 107 := by decide +kernel
theorem d_244_107 : m_dn M_244 107 (.iload_n 2) 1 108 := by decide +kernel
theorem d_244_108 : m_dn M_244 108 (.iconst 5) 1 109 := by decide +kernel
theorem d_244_109 : m_dn M_244 109 (.if_icmp .ge 16) 3 112 := by decide +kernel
theorem d_244_11 : m_dn M_244 11 (.iconst 0) 1 12 := by decide +kernel
theorem d_244_112 : m_dn M_244 112 (.aload_n 0) 1 113 := by decide +kernel
theorem d_244_113 : m_dn M_244 113 (.getfield 17) 3 116 := by decide +kernel
theorem d_244_116 : m_dn M_244 116 (.iload_n 2) 1 117 := by decide +kernel
theorem d_244_117 : m_dn M_244 117 (.iconst 0) 1 118 := by decide +kernel
theorem d_244_118 : m_dn M_244 118 (.iastore) 1 119 := by decide +kernel
theorem d_244_119 : m_dn M_244 119 (.iinc 2 1) 3 122 := by decide +kernel
theorem d_244_12 : m_dn M_244 12 (.putfield 209) 3 15 := by decide +kernel
theorem d_244_122 : m_dn M_244 122 (.goto (-15)) 3 125 := by decide +kernel
theorem d_244_125 : m_dn M_244 125 (.iload_n 1) 1 126 := by decide +kernel
theorem d_244_126 : m_dn M_244 126 (.ifCond .eq 28) 3 129 := by decide +kernel
theorem d_244_129 : m_dn M_244 129 (.aload_n 0) 1 130 := by decide +kernel
theorem d_244_130 : m_dn M_244 130 (.invokevirtual 173) 3 133 := by decide +kernel
theorem d_244_133 : m_dn M_244 133 (.bipush 72) 2 135 := by decide +kernel
theorem d_244_135 : m_dn M_244 135 (.if_icmp .ne 19) 3 138 := by decide +kernel
theorem d_244_138 : m_dn M_244 138 (.aload_n 0) 1 139 := by decide +kernel
theorem d_244_139 : m_dn M_244 139 (.ldc_w 337) 3 142 := by decide +kernel
theorem d_244_142 : m_dn M_244 142 (.invokevirtual 218) 3 145 := by decide +kernel
theorem d_244_145 : m_dn M_244 145 (.pop) 1 146 := by decide +kernel
theorem d_244_146 : m_dn M_244 146 (.aload_n 0) 1 147 := by decide +kernel
theorem d_244_147 : m_dn M_244 147 (.iconst 1) 1 148 := by decide +kernel
theorem d_244_148 : m_dn M_244 148 (.putfield 329) 3 151 := by decide +kernel
theorem d_244_15 : m_dn M_244 15 (.aload_n 0) 1 16 := by decide +kernel
theorem d_244_151 : m_dn M_244 151 (.goto 21) 3 154 := by decide +kernel
theorem d_244_154 : m_dn M_244 154 (.aload_n 0) 1 155 := by decide +kernel
theorem d_244_155 : m_dn M_244 155 (.iload_n 1) 1 156 := by decide +kernel
theorem d_244_156 : m_dn M_244 156 (.ifCond .eq 9) 3 159 := by decide +kernel
theorem d_244_159 : m_dn M_244 159 (.ldc_w 339) 3 162 := by decide +kernel
theorem d_244_16 : m_dn M_244 16 (.iconst 0) 1 17 := by decide +kernel
theorem d_244_162 : m_dn M_244 162 (.goto 6) 3 165 := by decide +kernel
theorem d_244_165 : m_dn M_244 165 (.ldc_w 341) 3 168 := by decide +kernel
theorem d_244_168 : m_dn M_244 168 (.invokevirtual 218) 3 171 := by decide +kernel
theorem d_244_17 : m_dn M_244 17 (.putfield 222) 3 20 := by decide +kernel
theorem d_244_171 : m_dn M_244 171 (.pop) 1 172 := by decide +kernel
theorem d_244_172 : m_dn M_244 172 (.aload_n 0) 1 173 := by decide +kernel
theorem d_244_173 : m_dn M_244 173 (.iload_n 1) 1 174 := by decide +kernel
theorem d_244_174 : m_dn M_244 174 (.invokevirtual 343) 3 177 := by decide +kernel
theorem d_244_177 : m_dn M_244 177 (.aload_n 0) 1 178 := by decide +kernel
theorem d_244_178 : m_dn M_244 178 (.getfield 166) 3 181 := by decide +kernel
theorem d_244_181 : m_dn M_244 181 (.ifCond .ne 20) 3 184 := by decide +kernel
theorem d_244_184 : m_dn M_244 184 (.aload_n 0) 1 185 := by decide +kernel
theorem d_244_185 : m_dn M_244 185 (.invokevirtual 173) 3 188 := by decide +kernel
theorem d_244_188 : m_dn M_244 188 (.bipush 10) 2 190 := by decide +kernel
theorem d_244_190 : m_dn M_244 190 (.if_icmp .eq 11) 3 193 := by decide +kernel
theorem d_244_193 : m_dn M_244 193 (.aload_n 0) 1 194 := by decide +kernel
theorem d_244_194 : m_dn M_244 194 (.iload_n 1) 1 195 := by decide +kernel
theorem d_244_195 : m_dn M_244 195 (.invokevirtual 347) 3 198 := by decide +kernel
theorem d_244_198 : m_dn M_244 198 (.goto (-21)) 3 201 := by decide +kernel
theorem d_244_2 : m_dn M_244 2 (.putfield 163) 3 5 := by decide +kernel
theorem d_244_20 : m_dn M_244 20 (.aload_n 0) 1 21 := by decide +kernel
theorem d_244_201 : m_dn M_244 201 (.aload_n 0) 1 202 := by decide +kernel
theorem d_244_202 : m_dn M_244 202 (.bipush 10) 2 204 := by decide +kernel
theorem d_244_204 : m_dn M_244 204 (.invokevirtual 190) 3 207 := by decide +kernel
theorem d_244_207 : m_dn M_244 207 (.pop) 1 208 := by decide +kernel
theorem d_244_208 : m_dn M_244 208 (.aload_n 0) 1 209 := by decide +kernel
theorem d_244_209 : m_dn M_244 209 (.getfield 166) 3 212 := by decide +kernel
theorem d_244_21 : m_dn M_244 21 (.iconst 0) 1 22 := by decide +kernel
theorem d_244_212 : m_dn M_244 212 (.ifCond .ne 23) 3 215 := by decide +kernel
theorem d_244_215 : m_dn M_244 215 (.aload_n 0) 1 216 := by decide +kernel
theorem d_244_216 : m_dn M_244 216 (.getfield 163) 3 219 := by decide +kernel
theorem d_244_219 : m_dn M_244 219 (.aload_n 0) 1 220 := by decide +kernel
theorem d_244_22 : m_dn M_244 22 (.putfield 235) 3 25 := by decide +kernel
theorem d_244_220 : m_dn M_244 220 (.getfield 158) 3 223 := by decide +kernel
theorem d_244_223 : m_dn M_244 223 (.if_icmp .ge 12) 3 226 := by decide +kernel
theorem d_244_226 : m_dn M_244 226 (.aload_n 0) 1 227 := by decide +kernel
theorem d_244_227 : m_dn M_244 227 (.aload_n 0) 1 228 := by decide +kernel
theorem d_244_228 : m_dn M_244 228 (.getfield 163) 3 231 := by decide +kernel
theorem d_244_231 : m_dn M_244 231 (.invokevirtual 177) 3 234 := by decide +kernel
theorem d_244_234 : m_dn M_244 234 (.pop) 1 235 := by decide +kernel
theorem d_244_235 : m_dn M_244 235 (.aload_n 0) 1 236 := by decide +kernel
theorem d_244_236 : m_dn M_244 236 (.iconst 0) 1 237 := by decide +kernel
theorem d_244_237 : m_dn M_244 237 (.putfield 158) 3 240 := by decide +kernel
theorem d_244_240 : m_dn M_244 240 (.aload_n 0) 1 241 := by decide +kernel
theorem d_244_241 : m_dn M_244 241 (.aload_n 0) 1 242 := by decide +kernel
theorem d_244_242 : m_dn M_244 242 (.getfield 166) 3 245 := by decide +kernel
theorem d_244_245 : m_dn M_244 245 (.ifCond .eq 10) 3 248 := by decide +kernel
theorem d_244_248 : m_dn M_244 248 (.aload_n 0) 1 249 := by decide +kernel
theorem d_244_249 : m_dn M_244 249 (.getfield 170) 3 252 := by decide +kernel
theorem d_244_25 : m_dn M_244 25 (.aload_n 0) 1 26 := by decide +kernel
theorem d_244_252 : m_dn M_244 252 (.goto 4) 3 255 := by decide +kernel
theorem d_244_255 : m_dn M_244 255 (.iconst (-1)) 1 256 := by decide +kernel
theorem d_244_256 : m_dn M_244 256 (.putfield 13) 3 259 := by decide +kernel
theorem d_244_259 : m_dn M_244 259 (.aload_n 0) 1 260 := by decide +kernel
theorem d_244_26 : m_dn M_244 26 (.iconst (-1)) 1 27 := by decide +kernel
theorem d_244_260 : m_dn M_244 260 (.getfield 166) 3 263 := by decide +kernel
theorem d_244_263 : m_dn M_244 263 (.ifCond .ne 7) 3 266 := by decide +kernel
theorem d_244_266 : m_dn M_244 266 (.iconst 1) 1 267 := by decide +kernel
theorem d_244_267 : m_dn M_244 267 (.goto 4) 3 270 := by decide +kernel
theorem d_244_27 : m_dn M_244 27 (.putfield 276) 3 30 := by decide +kernel
theorem d_244_270 : m_dn M_244 270 (.iconst 0) 1 271 := by decide +kernel
theorem d_244_271 : m_dn M_244 271 (.ireturn) 1 272 := by decide +kernel
theorem d_244_30 : m_dn M_244 30 (.aload_n 0) 1 31 := by decide +kernel
theorem d_244_31 : m_dn M_244 31 (.iconst (-1)) 1 32 := by decide +kernel
theorem d_244_32 : m_dn M_244 32 (.putfield 282) 3 35 := by decide +kernel
theorem d_244_35 : m_dn M_244 35 (.aload_n 0) 1 36 := by decide +kernel
theorem d_244_36 : m_dn M_244 36 (.iconst (-1)) 1 37 := by decide +kernel
theorem d_244_37 : m_dn M_244 37 (.putfield 287) 3 40 := by decide +kernel
theorem d_244_40 : m_dn M_244 40 (.aload_n 0) 1 41 := by decide +kernel
theorem d_244_41 : m_dn M_244 41 (.iconst 0) 1 42 := by decide +kernel
theorem d_244_42 : m_dn M_244 42 (.putfield 232) 3 45 := by decide +kernel
theorem d_244_45 : m_dn M_244 45 (.aload_n 0) 1 46 := by decide +kernel
theorem d_244_46 : m_dn M_244 46 (.iconst 0) 1 47 := by decide +kernel
theorem d_244_47 : m_dn M_244 47 (.putfield 266) 3 50 := by decide +kernel
theorem d_244_5 : m_dn M_244 5 (.aload_n 0) 1 6 := by decide +kernel
theorem d_244_50 : m_dn M_244 50 (.aload_n 0) 1 51 := by decide +kernel
theorem d_244_51 : m_dn M_244 51 (.iconst 0) 1 52 := by decide +kernel
theorem d_244_52 : m_dn M_244 52 (.putfield 271) 3 55 := by decide +kernel
theorem d_244_55 : m_dn M_244 55 (.aload_n 0) 1 56 := by decide +kernel
theorem d_244_56 : m_dn M_244 56 (.iconst 0) 1 57 := by decide +kernel
theorem d_244_57 : m_dn M_244 57 (.putfield 329) 3 60 := by decide +kernel
theorem d_244_6 : m_dn M_244 6 (.iconst 0) 1 7 := by decide +kernel
theorem d_244_60 : m_dn M_244 60 (.aload_n 0) 1 61 := by decide +kernel
theorem d_244_61 : m_dn M_244 61 (.iconst 0) 1 62 := by decide +kernel
theorem d_244_62 : m_dn M_244 62 (.putfield 332) 3 65 := by decide +kernel
theorem d_244_65 : m_dn M_244 65 (.aload_n 0) 1 66 := by decide +kernel
theorem d_244_66 : m_dn M_244 66 (.iconst 0) 1 67 := by decide +kernel
theorem d_244_67 : m_dn M_244 67 (.putfield 326) 3 70 := by decide +kernel
theorem d_244_7 : m_dn M_244 7 (.putfield 166) 3 10 := by decide +kernel
theorem d_244_70 : m_dn M_244 70 (.aload_n 0) 1 71 := by decide +kernel
theorem d_244_71 : m_dn M_244 71 (.iconst 0) 1 72 := by decide +kernel
theorem d_244_72 : m_dn M_244 72 (.putfield 298) 3 75 := by decide +kernel
theorem d_244_75 : m_dn M_244 75 (.aload_n 0) 1 76 := by decide +kernel
theorem d_244_76 : m_dn M_244 76 (.iconst 0) 1 77 := by decide +kernel
theorem d_244_77 : m_dn M_244 77 (.putfield 303) 3 80 := by decide +kernel
theorem d_244_80 : m_dn M_244 80 (.aload_n 0) 1 81 := by decide +kernel
theorem d_244_81 : m_dn M_244 81 (.iconst 0) 1 82 := by decide +kernel
theorem d_244_82 : m_dn M_244 82 (.putfield 308) 3 85 := by decide +kernel
theorem d_244_85 : m_dn M_244 85 (.aload_n 0) 1 86 := by decide +kernel
theorem d_244_86 : m_dn M_244 86 (.iconst 0) 1 87 := by decide +kernel
theorem d_244_87 : m_dn M_244 87 (.putfield 292) 3 90 := by decide +kernel
theorem d_244_90 : m_dn M_244 90 (.aload_n 0) 1 91 := by decide +kernel
theorem d_244_91 : m_dn M_244 91 (.iconst 0) 1 92 := by decide +kernel
theorem d_244_92 : m_dn M_244 92 (.putfield 295) 3 95 := by decide +kernel
theorem d_244_95 : m_dn M_244 95 (.aload_n 0) 1 96 := by decide +kernel
theorem d_244_96 : m_dn M_244 96 (.iconst 0) 1 97 := by decide +kernel
theorem d_244_97 : m_dn M_244 97 (.putfield 319) 3 100 := by decide +kernel
theorem d_246_0 : m_dn M_246 0 (.iconst 0) 1 1 := by decide +kernel
theorem d_246_1 : m_dn M_246 1 (.istore_n 2) 1 2 := by decide +kernel
theorem d_246_10 : m_dn M_246 10 (.aload_n 0) 1 11 := by decide +kernel
theorem d_246_11 : m_dn M_246 11 (.aload_n 1) 1 12 := by decide +kernel
theorem d_246_12 : m_dn M_246 12 (.iload_n 2) 1 13 := by decide +kernel
theorem d_246_13 : m_dn M_246 13 (.invokevirtual 186) 3 16 := by decide +kernel
theorem d_246_16 : m_dn M_246 16 (.invokevirtual 190) 3 19 := by decide +kernel
theorem d_246_19 : m_dn M_246 19 (.ifCond .ne 5) 3 22 := by decide +kernel
theorem d_246_2 : m_dn M_246 2 (.iload_n 2) 1 3 := by decide +kernel
theorem d_246_22 : m_dn M_246 22 (.iconst 0) 1 23 := by decide +kernel
theorem d_246_23 : m_dn M_246 23 (.ireturn) 1 24 := by decide +kernel
theorem d_246_24 : m_dn M_246 24 (.iinc 2 1) 3 27 := by decide +kernel
theorem d_246_27 : m_dn M_246 27 (.goto (-25)) 3 30 := by decide +kernel
theorem d_246_3 : m_dn M_246 3 (.aload_n 1) 1 4 := by decide +kernel
theorem d_246_30 : m_dn M_246 30 (.iconst 1) 1 31 := by decide +kernel
theorem d_246_31 : m_dn M_246 31 (.ireturn) 1 32 := by decide +kernel
theorem d_246_4 : m_dn M_246 4 (.invokevirtual 181) 3 7 := by decide +kernel
theorem d_246_7 : m_dn M_246 7 (.if_icmp .ge 23) 3 10 := by decide +kernel
theorem d_252_0 : m_dn M_252 0 (.aload_n 0) 1 1 := by decide +kernel
theorem d_252_1 : m_dn M_252 1 (.getfield 163) 3 4 := by decide +kernel
theorem d_252_100 : m_dn M_252 100 (.aload_n 0) 1 101 := by decide +kernel
theorem d_252_101 : m_dn M_252 101 (.ldc_w 322) 3 104 := by decide +kernel
theorem d_252_104 : m_dn M_252 104 (.invokevirtual 356) 3 107 := by decide +kernel
theorem d_252_107 : m_dn M_252 107 (.ifCond .eq 11) 3 110 := by decide +kernel
theorem d_252_11 : m_dn M_252 11 (.aload_n 0) 1 12 := by decide +kernel
theorem d_252_110 : m_dn M_252 110 (.aload_n 0) 1 111 := by decide +kernel
theorem d_252_111 : m_dn M_252 111 (.iconst 2) 1 112 := by decide +kernel
theorem d_252_112 : m_dn M_252 112 (.invokevirtual 371) 3 115 := by decide +kernel
theorem d_252_115 : m_dn M_252 115 (.goto 126) 3 118 := by decide +kernel
theorem d_252_118 : m_dn M_252 118 (.iload_n 1) 1 119 := by decide +kernel
theorem d_252_119 : m_dn M_252 119 (.ifCond .eq 21) 3 122 := by decide +kernel
theorem d_252_12 : m_dn M_252 12 (.aload_n 0) 1 13 := by decide +kernel
theorem d_252_122 : m_dn M_252 122 (.aload_n 0) 1 123 := by decide +kernel
theorem d_252_123 : m_dn M_252 123 (.ldc_w 324) 3 126 := by decide +kernel
theorem d_252_126 : m_dn M_252 126 (.invokevirtual 356) 3 129 := by decide +kernel
theorem d_252_129 : m_dn M_252 129 (.ifCond .eq 11) 3 132 := by decide +kernel
theorem d_252_13 : m_dn M_252 13 (.getfield 158) 3 16 := by decide +kernel
theorem d_252_132 : m_dn M_252 132 (.aload_n 0) 1 133 := by decide +kernel
theorem d_252_133 : m_dn M_252 133 (.iconst 3) 1 134 := by decide +kernel
theorem d_252_134 : m_dn M_252 134 (.invokevirtual 371) 3 137 := by decide +kernel
theorem d_252_137 : m_dn M_252 137 (.goto 104) 3 140 := by decide +kernel
theorem d_252_140 : m_dn M_252 140 (.iload_n 1) 1 141 := by decide +kernel
theorem d_252_141 : m_dn M_252 141 (.ifCond .ne 21) 3 144 := by decide +kernel
theorem d_252_144 : m_dn M_252 144 (.aload_n 0) 1 145 := by decide +kernel
theorem d_252_145 : m_dn M_252 145 (.ldc_w 375) 3 148 := by decide +kernel
theorem d_252_148 : m_dn M_252 148 (.invokevirtual 356) 3 151 := by decide +kernel
theorem d_252_151 : m_dn M_252 151 (.ifCond .eq 11) 3 154 := by decide +kernel
theorem d_252_154 : m_dn M_252 154 (.aload_n 0) 1 155 := by decide +kernel
theorem d_252_155 : m_dn M_252 155 (.iconst 4) 1 156 := by decide +kernel
theorem d_252_156 : m_dn M_252 156 (.invokevirtual 371) 3 159 := by decide +kernel
theorem d_252_159 : m_dn M_252 159 (.goto 82) 3 162 := by decide +kernel
theorem d_252_16 : m_dn M_252 16 (.invokevirtual 177) 3 19 := by decide +kernel
theorem d_252_162 : m_dn M_252 162 (.aload_n 0) 1 163 := by decide +kernel
theorem d_252_163 : m_dn M_252 163 (.ldc_w 376) 3 166 := by decide +kernel
theorem d_252_166 : m_dn M_252 166 (.invokevirtual 356) 3 169 := by decide +kernel
theorem d_252_169 : m_dn M_252 169 (.ifCond .eq 19) 3 172 := by decide +kernel
theorem d_252_172 : m_dn M_252 172 (.aload_n 0) 1 173 := by decide +kernel
theorem d_252_173 : m_dn M_252 173 (.iload_n 1) 1 174 := by decide +kernel
theorem d_252_174 : m_dn M_252 174 (.ifCond .eq 7) 3 177 := by decide +kernel
theorem d_252_177 : m_dn M_252 177 (.iconst 0) 1 178 := by decide +kernel
theorem d_252_178 : m_dn M_252 178 (.goto 4) 3 181 := by decide +kernel
theorem d_252_181 : m_dn M_252 181 (.iconst 1) 1 182 := by decide +kernel
theorem d_252_182 : m_dn M_252 182 (.invokevirtual 371) 3 185 := by decide +kernel
theorem d_252_185 : m_dn M_252 185 (.goto 56) 3 188 := by decide +kernel
theorem d_252_188 : m_dn M_252 188 (.iload_n 1) 1 189 := by decide +kernel
theorem d_252_189 : m_dn M_252 189 (.ifCond .ne 27) 3 192 := by decide +kernel
theorem d_252_19 : m_dn M_252 19 (.pop) 1 20 := by decide +kernel
theorem d_252_192 : m_dn M_252 192 (.aload_n 0) 1 193 := by decide +kernel
theorem d_252_193 : m_dn M_252 193 (.ldc_w 378) 3 196 := by decide +kernel
theorem d_252_196 : m_dn M_252 196 (.invokevirtual 356) 3 199 := by decide +kernel
theorem d_252_199 : m_dn M_252 199 (.ifCond .eq 17) 3 202 := by decide +kernel
theorem d_252_20 : m_dn M_252 20 (.return_) 1 21 := by decide +kernel
theorem d_252_202 : m_dn M_252 202 (.aload_n 0) 1 203 := by decide +kernel
theorem d_252_203 : m_dn M_252 203 (.aload_n 0) 1 204 := by decide +kernel
theorem d_252_204 : m_dn M_252 204 (.sipush 255) 3 207 := by decide +kernel
theorem d_252_207 : m_dn M_252 207 (.invokevirtual 196) 3 210 := by decide +kernel
theorem d_252_21 : m_dn M_252 21 (.aload_n 0) 1 22 := by decide +kernel
theorem d_252_210 : m_dn M_252 210 (.putfield 332) 3 213 := by decide +kernel
theorem d_252_213 : m_dn M_252 213 (.goto 28) 3 216 := by decide +kernel
theorem d_252_216 : m_dn M_252 216 (.iload_n 1) 1 217 := by decide +kernel
theorem d_252_217 : m_dn M_252 217 (.ifCond .ne 20) 3 220 := by decide +kernel
theorem d_252_22 : m_dn M_252 22 (.invokevirtual 350) 3 25 := by decide +kernel
theorem d_252_220 : m_dn M_252 220 (.aload_n 0) 1 221 := by decide +kernel
theorem d_252_221 : m_dn M_252 221 (.ldc_w 379) 3 224 := by decide +kernel
theorem d_252_224 : m_dn M_252 224 (.invokevirtual 356) 3 227 := by decide +kernel
theorem d_252_227 : m_dn M_252 227 (.ifCond .eq 10) 3 230 := by decide +kernel
theorem d_252_230 : m_dn M_252 230 (.aload_n 0) 1 231 := by decide +kernel
theorem d_252_231 : m_dn M_252 231 (.invokevirtual 381) 3 234 := by decide +kernel
theorem d_252_234 : m_dn M_252 234 (.goto 7) 3 237 := by decide +kernel
theorem d_252_237 : m_dn M_252 237 (.aload_n 0) 1 238 := by decide +kernel
theorem d_252_238 : m_dn M_252 238 (.invokevirtual 384) 3 241 := by decide +kernel
theorem d_252_241 : m_dn M_252 241 (.aload_n 0) 1 242 := by decide +kernel
theorem d_252_242 : m_dn M_252 242 (.bipush 10) 2 244 := by decide +kernel
theorem d_252_244 : m_dn M_252 244 (.invokevirtual 190) 3 247 := by decide +kernel
theorem d_252_247 : m_dn M_252 247 (.pop) 1 248 := by decide +kernel
theorem d_252_248 : m_dn M_252 248 (.return_) 1 249 := by decide +kernel
theorem d_252_25 : m_dn M_252 25 (.ifCond .ne 4) 3 28 := by decide +kernel
theorem d_252_28 : m_dn M_252 28 (.return_) 1 29 := by decide +kernel
theorem d_252_29 : m_dn M_252 29 (.iload_n 1) 1 30 := by decide +kernel
theorem d_252_30 : m_dn M_252 30 (.ifCond .eq 20) 3 33 := by decide +kernel
theorem d_252_33 : m_dn M_252 33 (.aload_n 0) 1 34 := by decide +kernel
theorem d_252_34 : m_dn M_252 34 (.ldc_w 354) 3 37 := by decide +kernel
theorem d_252_37 : m_dn M_252 37 (.invokevirtual 356) 3 40 := by decide +kernel
theorem d_252_4 : m_dn M_252 4 (.aload_n 0) 1 5 := by decide +kernel
theorem d_252_40 : m_dn M_252 40 (.ifCond .eq 10) 3 43 := by decide +kernel
theorem d_252_43 : m_dn M_252 43 (.aload_n 0) 1 44 := by decide +kernel
theorem d_252_44 : m_dn M_252 44 (.invokevirtual 359) 3 47 := by decide +kernel
theorem d_252_47 : m_dn M_252 47 (.goto 194) 3 50 := by decide +kernel
theorem d_252_5 : m_dn M_252 5 (.getfield 158) 3 8 := by decide +kernel
theorem d_252_50 : m_dn M_252 50 (.iload_n 1) 1 51 := by decide +kernel
theorem d_252_51 : m_dn M_252 51 (.ifCond .eq 20) 3 54 := by decide +kernel
theorem d_252_54 : m_dn M_252 54 (.aload_n 0) 1 55 := by decide +kernel
theorem d_252_55 : m_dn M_252 55 (.ldc_w 361) 3 58 := by decide +kernel
theorem d_252_58 : m_dn M_252 58 (.invokevirtual 356) 3 61 := by decide +kernel
theorem d_252_61 : m_dn M_252 61 (.ifCond .eq 10) 3 64 := by decide +kernel
theorem d_252_64 : m_dn M_252 64 (.aload_n 0) 1 65 := by decide +kernel
theorem d_252_65 : m_dn M_252 65 (.invokevirtual 363) 3 68 := by decide +kernel
theorem d_252_68 : m_dn M_252 68 (.goto 173) 3 71 := by decide +kernel
theorem d_252_71 : m_dn M_252 71 (.iload_n 1) 1 72 := by decide +kernel
theorem d_252_72 : m_dn M_252 72 (.ifCond .eq 24) 3 75 := by decide +kernel
theorem d_252_75 : m_dn M_252 75 (.aload_n 0) 1 76 := by decide +kernel
theorem d_252_76 : m_dn M_252 76 (.ldc_w 366) 3 79 := by decide +kernel
theorem d_252_79 : m_dn M_252 79 (.invokevirtual 356) 3 82 := by decide +kernel
theorem d_252_8 : m_dn M_252 8 (.if_icmp .lt 13) 3 11 := by decide +kernel
theorem d_252_82 : m_dn M_252 82 (.ifCond .eq 14) 3 85 := by decide +kernel
theorem d_252_85 : m_dn M_252 85 (.aload_n 0) 1 86 := by decide +kernel
theorem d_252_86 : m_dn M_252 86 (.aload_n 0) 1 87 := by decide +kernel
theorem d_252_87 : m_dn M_252 87 (.invokevirtual 368) 3 90 := by decide +kernel
theorem d_252_90 : m_dn M_252 90 (.putfield 334) 3 93 := by decide +kernel
theorem d_252_93 : m_dn M_252 93 (.goto 148) 3 96 := by decide +kernel
theorem d_252_96 : m_dn M_252 96 (.iload_n 1) 1 97 := by decide +kernel
theorem d_252_97 : m_dn M_252 97 (.ifCond .eq 21) 3 100 := by decide +kernel
theorem d_256_0 : m_dn M_256 0 (.aload_n 0) 1 1 := by decide +kernel
theorem d_256_1 : m_dn M_256 1 (.getfield 23) 3 4 := by decide +kernel
theorem d_256_10 : m_dn M_256 10 (.iaload) 1 11 := by decide +kernel
theorem d_256_11 : m_dn M_256 11 (.istore_n 2) 1 12 := by decide +kernel
theorem d_256_12 : m_dn M_256 12 (.aload_n 0) 1 13 := by decide +kernel
theorem d_256_13 : m_dn M_256 13 (.getfield 26) 3 16 := by decide +kernel
theorem d_256_16 : m_dn M_256 16 (.aload_n 0) 1 17 := by decide +kernel
theorem d_256_17 : m_dn M_256 17 (.getfield 209) 3 20 := by decide +kernel
theorem d_256_20 : m_dn M_256 20 (.iconst 1) 1 21 := by decide +kernel
theorem d_256_21 : m_dn M_256 21 (.isub) 1 22 := by decide +kernel
theorem d_256_22 : m_dn M_256 22 (.iaload) 1 23 := by decide +kernel
theorem d_256_23 : m_dn M_256 23 (.iload_n 2) 1 24 := by decide +kernel
theorem d_256_24 : m_dn M_256 24 (.isub) 1 25 := by decide +kernel
theorem d_256_25 : m_dn M_256 25 (.aload_n 1) 1 26 := by decide +kernel
theorem d_256_26 : m_dn M_256 26 (.invokevirtual 181) 3 29 := by decide +kernel
theorem d_256_29 : m_dn M_256 29 (.if_icmp .ne 7) 3 32 := by decide +kernel
theorem d_256_32 : m_dn M_256 32 (.iconst 1) 1 33 := by decide +kernel
theorem d_256_33 : m_dn M_256 33 (.goto 4) 3 36 := by decide +kernel
theorem d_256_36 : m_dn M_256 36 (.iconst 0) 1 37 := by decide +kernel
theorem d_256_37 : m_dn M_256 37 (.istore_n 3) 1 38 := by decide +kernel
theorem d_256_38 : m_dn M_256 38 (.iconst 0) 1 39 := by decide +kernel
theorem d_256_39 : m_dn M_256 39 (.istore 4) 2 41 := by decide +kernel
theorem d_256_4 : m_dn M_256 4 (.aload_n 0) 1 5 := by decide +kernel
theorem d_256_41 : m_dn M_256 41 (.iload_n 3) 1 42 := by decide +kernel
theorem d_256_42 : m_dn M_256 42 (.ifCond .eq 42) 3 45 := by decide +kernel
theorem d_256_45 : m_dn M_256 45 (.iload 4) 2 47 := by decide +kernel
theorem d_256_47 : m_dn M_256 47 (.aload_n 1) 1 48 := by decide +kernel
theorem d_256_48 : m_dn M_256 48 (.invokevirtual 181) 3 51 := by decide +kernel
theorem d_256_5 : m_dn M_256 5 (.getfield 209) 3 8 := by decide +kernel
theorem d_256_51 : m_dn M_256 51 (.if_icmp .ge 33) 3 54 := by decide +kernel
theorem d_256_54 : m_dn M_256 54 (.aload_n 0) 1 55 := by decide +kernel
theorem d_256_55 : m_dn M_256 55 (.getfield 7) 3 58 := by decide +kernel
theorem d_256_58 : m_dn M_256 58 (.iload_n 2) 1 59 := by decide +kernel
theorem d_256_59 : m_dn M_256 59 (.iload 4) 2 61 := by decide +kernel
theorem d_256_61 : m_dn M_256 61 (.iadd) 1 62 := by decide +kernel
theorem d_256_62 : m_dn M_256 62 (.iaload) 1 63 := by decide +kernel
theorem d_256_63 : m_dn M_256 63 (.aload_n 1) 1 64 := by decide +kernel
theorem d_256_64 : m_dn M_256 64 (.iload 4) 2 66 := by decide +kernel
theorem d_256_66 : m_dn M_256 66 (.invokevirtual 186) 3 69 := by decide +kernel
theorem d_256_69 : m_dn M_256 69 (.if_icmp .ne 7) 3 72 := by decide +kernel
theorem d_256_72 : m_dn M_256 72 (.iconst 1) 1 73 := by decide +kernel
theorem d_256_73 : m_dn M_256 73 (.goto 4) 3 76 := by decide +kernel
theorem d_256_76 : m_dn M_256 76 (.iconst 0) 1 77 := by decide +kernel
theorem d_256_77 : m_dn M_256 77 (.istore_n 3) 1 78 := by decide +kernel
theorem d_256_78 : m_dn M_256 78 (.iinc 4 1) 3 81 := by decide +kernel
theorem d_256_8 : m_dn M_256 8 (.iconst 1) 1 9 := by decide +kernel
theorem d_256_81 : m_dn M_256 81 (.goto (-40)) 3 84 := by decide +kernel
theorem d_256_84 : m_dn M_256 84 (.iload_n 3) 1 85 := by decide +kernel
theorem d_256_85 : m_dn M_256 85 (.ireturn) 1 86 := by decide +kernel
theorem d_256_9 : m_dn M_256 9 (.isub) 1 10 := by decide +kernel
theorem d_257_0 : m_dn M_257 0 (.aload_n 0) 1 1 := by decide +kernel
theorem d_257_1 : m_dn M_257 1 (.ldc 216) 2 3 := by decide +kernel
theorem d_257_101 : m_dn M_257 101 (.aload_n 0) 1 102 := by decide +kernel
theorem d_257_102 : m_dn M_257 102 (.aload_n 0) 1 103 := by decide +kernel
theorem d_257_103 : m_dn M_257 103 (.getfield 226) 3 106 := by decide +kernel
theorem d_257_106 : m_dn M_257 106 (.aload_n 0) 1 107 := by decide +kernel
theorem d_257_107 : m_dn M_257 107 (.getfield 229) 3 110 := by decide +kernel
theorem d_257_11 : m_dn M_257 11 (.ifCond .eq 4) 3 14 := by decide +kernel
theorem d_257_110 : m_dn M_257 110 (.if_icmp .le 7) 3 113 := by decide +kernel
theorem d_257_113 : m_dn M_257 113 (.iconst 0) 1 114 := by decide +kernel
theorem d_257_114 : m_dn M_257 114 (.goto 4) 3 117 := by decide +kernel
theorem d_257_117 : m_dn M_257 117 (.iconst 1) 1 118 := by decide +kernel
theorem d_257_118 : m_dn M_257 118 (.putfield 222) 3 121 := by decide +kernel
theorem d_257_121 : m_dn M_257 121 (.return_) 1 122 := by decide +kernel
theorem d_257_14 : m_dn M_257 14 (.return_) 1 15 := by decide +kernel
theorem d_257_15 : m_dn M_257 15 (.aload_n 0) 1 16 := by decide +kernel
theorem d_257_16 : m_dn M_257 16 (.invokevirtual 173) 3 19 := by decide +kernel
theorem d_257_19 : m_dn M_257 19 (.bipush 45) 2 21 := by decide +kernel
theorem d_257_21 : m_dn M_257 21 (.if_icmp .ne 29) 3 24 := by decide +kernel
theorem d_257_24 : m_dn M_257 24 (.aload_n 0) 1 25 := by decide +kernel
theorem d_257_25 : m_dn M_257 25 (.dup) 1 26 := by decide +kernel
theorem d_257_26 : m_dn M_257 26 (.getfield 163) 3 29 := by decide +kernel
theorem d_257_29 : m_dn M_257 29 (.iconst 1) 1 30 := by decide +kernel
theorem d_257_3 : m_dn M_257 3 (.invokevirtual 218) 3 6 := by decide +kernel
theorem d_257_30 : m_dn M_257 30 (.iadd) 1 31 := by decide +kernel
theorem d_257_31 : m_dn M_257 31 (.putfield 163) 3 34 := by decide +kernel
theorem d_257_34 : m_dn M_257 34 (.aload_n 0) 1 35 := by decide +kernel
theorem d_257_35 : m_dn M_257 35 (.iconst 3) 1 36 := by decide +kernel
theorem d_257_36 : m_dn M_257 36 (.putfield 222) 3 39 := by decide +kernel
theorem d_257_39 : m_dn M_257 39 (.aload_n 0) 1 40 := by decide +kernel
theorem d_257_40 : m_dn M_257 40 (.aload_n 0) 1 41 := by decide +kernel
theorem d_257_41 : m_dn M_257 41 (.ldc 225) 2 43 := by decide +kernel
theorem d_257_43 : m_dn M_257 43 (.invokevirtual 196) 3 46 := by decide +kernel
theorem d_257_46 : m_dn M_257 46 (.putfield 226) 3 49 := by decide +kernel
theorem d_257_49 : m_dn M_257 49 (.return_) 1 50 := by decide +kernel
theorem d_257_50 : m_dn M_257 50 (.aload_n 0) 1 51 := by decide +kernel
theorem d_257_51 : m_dn M_257 51 (.aload_n 0) 1 52 := by decide +kernel
theorem d_257_52 : m_dn M_257 52 (.ldc 225) 2 54 := by decide +kernel
theorem d_257_54 : m_dn M_257 54 (.invokevirtual 196) 3 57 := by decide +kernel
theorem d_257_57 : m_dn M_257 57 (.putfield 226) 3 60 := by decide +kernel
theorem d_257_6 : m_dn M_257 6 (.pop) 1 7 := by decide +kernel
theorem d_257_60 : m_dn M_257 60 (.aload_n 0) 1 61 := by decide +kernel
theorem d_257_61 : m_dn M_257 61 (.bipush 45) 2 63 := by decide +kernel
theorem d_257_63 : m_dn M_257 63 (.invokevirtual 190) 3 66 := by decide +kernel
theorem d_257_66 : m_dn M_257 66 (.pop) 1 67 := by decide +kernel
theorem d_257_67 : m_dn M_257 67 (.aload_n 0) 1 68 := by decide +kernel
theorem d_257_68 : m_dn M_257 68 (.getfield 166) 3 71 := by decide +kernel
theorem d_257_7 : m_dn M_257 7 (.aload_n 0) 1 8 := by decide +kernel
theorem d_257_71 : m_dn M_257 71 (.ifCond .eq 4) 3 74 := by decide +kernel
theorem d_257_74 : m_dn M_257 74 (.return_) 1 75 := by decide +kernel
theorem d_257_75 : m_dn M_257 75 (.aload_n 0) 1 76 := by decide +kernel
theorem d_257_76 : m_dn M_257 76 (.iconst 2) 1 77 := by decide +kernel
theorem d_257_77 : m_dn M_257 77 (.putfield 222) 3 80 := by decide +kernel
theorem d_257_8 : m_dn M_257 8 (.getfield 166) 3 11 := by decide +kernel
theorem d_257_80 : m_dn M_257 80 (.aload_n 0) 1 81 := by decide +kernel
theorem d_257_81 : m_dn M_257 81 (.invokevirtual 173) 3 84 := by decide +kernel
theorem d_257_84 : m_dn M_257 84 (.invokestatic 193) 3 87 := by decide +kernel
theorem d_257_87 : m_dn M_257 87 (.ifCond .ne 4) 3 90 := by decide +kernel
theorem d_257_90 : m_dn M_257 90 (.return_) 1 91 := by decide +kernel
theorem d_257_91 : m_dn M_257 91 (.aload_n 0) 1 92 := by decide +kernel
theorem d_257_92 : m_dn M_257 92 (.aload_n 0) 1 93 := by decide +kernel
theorem d_257_93 : m_dn M_257 93 (.ldc 225) 2 95 := by decide +kernel
theorem d_257_95 : m_dn M_257 95 (.invokevirtual 196) 3 98 := by decide +kernel
theorem d_257_98 : m_dn M_257 98 (.putfield 229) 3 101 := by decide +kernel
theorem d_258_0 : m_dn M_258 0 (.aload_n 0) 1 1 := by decide +kernel
theorem d_258_1 : m_dn M_258 1 (.invokevirtual 173) 3 4 := by decide +kernel
theorem d_258_10 : m_dn M_258 10 (.dup) 1 11 := by decide +kernel
theorem d_258_100 : m_dn M_258 100 (.bipush 8) 2 102 := by decide +kernel
theorem d_258_102 : m_dn M_258 102 (.if_icmp .ge 7) 3 105 := by decide +kernel
theorem d_258_105 : m_dn M_258 105 (.iconst 1) 1 106 := by decide +kernel
theorem d_258_106 : m_dn M_258 106 (.goto 4) 3 109 := by decide +kernel
theorem d_258_109 : m_dn M_258 109 (.iconst 0) 1 110 := by decide +kernel
theorem d_258_11 : m_dn M_258 11 (.getfield 163) 3 14 := by decide +kernel
theorem d_258_110 : m_dn M_258 110 (.istore_n 1) 1 111 := by decide +kernel
theorem d_258_111 : m_dn M_258 111 (.iload_n 1) 1 112 := by decide +kernel
theorem d_258_112 : m_dn M_258 112 (.ifCond .eq 20) 3 115 := by decide +kernel
theorem d_258_115 : m_dn M_258 115 (.aload_n 0) 1 116 := by decide +kernel
theorem d_258_116 : m_dn M_258 116 (.dup) 1 117 := by decide +kernel
theorem d_258_117 : m_dn M_258 117 (.getfield 163) 3 120 := by decide +kernel
theorem d_258_120 : m_dn M_258 120 (.iconst 1) 1 121 := by decide +kernel
theorem d_258_121 : m_dn M_258 121 (.iadd) 1 122 := by decide +kernel
theorem d_258_122 : m_dn M_258 122 (.putfield 163) 3 125 := by decide +kernel
theorem d_258_125 : m_dn M_258 125 (.aload_n 0) 1 126 := by decide +kernel
theorem d_258_126 : m_dn M_258 126 (.bipush 32) 2 128 := by decide +kernel
theorem d_258_128 : m_dn M_258 128 (.invokevirtual 190) 3 131 := by decide +kernel
theorem d_258_131 : m_dn M_258 131 (.pop) 1 132 := by decide +kernel
theorem d_258_132 : m_dn M_258 132 (.goto (-105)) 3 135 := by decide +kernel
theorem d_258_135 : m_dn M_258 135 (.return_) 1 136 := by decide +kernel
theorem d_258_14 : m_dn M_258 14 (.iconst 1) 1 15 := by decide +kernel
theorem d_258_15 : m_dn M_258 15 (.iadd) 1 16 := by decide +kernel
theorem d_258_16 : m_dn M_258 16 (.putfield 163) 3 19 := by decide +kernel
theorem d_258_19 : m_dn M_258 19 (.aload_n 0) 1 20 := by decide +kernel
theorem d_258_20 : m_dn M_258 20 (.iconst 1) 1 21 := by decide +kernel
theorem d_258_21 : m_dn M_258 21 (.putfield 232) 3 24 := by decide +kernel
theorem d_258_24 : m_dn M_258 24 (.return_) 1 25 := by decide +kernel
theorem d_258_25 : m_dn M_258 25 (.iconst 1) 1 26 := by decide +kernel
theorem d_258_26 : m_dn M_258 26 (.istore_n 1) 1 27 := by decide +kernel
theorem d_258_27 : m_dn M_258 27 (.iload_n 1) 1 28 := by decide +kernel
theorem d_258_28 : m_dn M_258 28 (.ifCond .eq 107) 3 31 := by decide +kernel
theorem d_258_31 : m_dn M_258 31 (.aload_n 0) 1 32 := by decide +kernel
theorem d_258_32 : m_dn M_258 32 (.getfield 166) 3 35 := by decide +kernel
theorem d_258_35 : m_dn M_258 35 (.ifCond .ne 100) 3 38 := by decide +kernel
theorem d_258_38 : m_dn M_258 38 (.aload_n 0) 1 39 := by decide +kernel
theorem d_258_39 : m_dn M_258 39 (.bipush 34) 2 41 := by decide +kernel
theorem d_258_4 : m_dn M_258 4 (.bipush 42) 2 6 := by decide +kernel
theorem d_258_41 : m_dn M_258 41 (.invokevirtual 190) 3 44 := by decide +kernel
theorem d_258_44 : m_dn M_258 44 (.pop) 1 45 := by decide +kernel
theorem d_258_45 : m_dn M_258 45 (.aload_n 0) 1 46 := by decide +kernel
theorem d_258_46 : m_dn M_258 46 (.ldc 225) 2 48 := by decide +kernel
theorem d_258_48 : m_dn M_258 48 (.invokevirtual 196) 3 51 := by decide +kernel
theorem d_258_51 : m_dn M_258 51 (.istore_n 2) 1 52 := by decide +kernel
theorem d_258_52 : m_dn M_258 52 (.aload_n 0) 1 53 := by decide +kernel
theorem d_258_53 : m_dn M_258 53 (.bipush 34) 2 55 := by decide +kernel
theorem d_258_55 : m_dn M_258 55 (.invokevirtual 190) 3 58 := by decide +kernel
theorem d_258_58 : m_dn M_258 58 (.pop) 1 59 := by decide +kernel
theorem d_258_59 : m_dn M_258 59 (.aload_n 0) 1 60 := by decide +kernel
theorem d_258_6 : m_dn M_258 6 (.if_icmp .ne 19) 3 9 := by decide +kernel
theorem d_258_60 : m_dn M_258 60 (.getfield 166) 3 63 := by decide +kernel
theorem d_258_63 : m_dn M_258 63 (.ifCond .eq 4) 3 66 := by decide +kernel
theorem d_258_66 : m_dn M_258 66 (.return_) 1 67 := by decide +kernel
theorem d_258_67 : m_dn M_258 67 (.aload_n 0) 1 68 := by decide +kernel
theorem d_258_68 : m_dn M_258 68 (.getfield 20) 3 71 := by decide +kernel
theorem d_258_71 : m_dn M_258 71 (.aload_n 0) 1 72 := by decide +kernel
theorem d_258_72 : m_dn M_258 72 (.getfield 235) 3 75 := by decide +kernel
theorem d_258_75 : m_dn M_258 75 (.iload_n 2) 1 76 := by decide +kernel
theorem d_258_76 : m_dn M_258 76 (.iastore) 1 77 := by decide +kernel
theorem d_258_77 : m_dn M_258 77 (.aload_n 0) 1 78 := by decide +kernel
theorem d_258_78 : m_dn M_258 78 (.dup) 1 79 := by decide +kernel
theorem d_258_79 : m_dn M_258 79 (.getfield 235) 3 82 := by decide +kernel
theorem d_258_82 : m_dn M_258 82 (.iconst 1) 1 83 := by decide +kernel
theorem d_258_83 : m_dn M_258 83 (.iadd) 1 84 := by decide +kernel
theorem d_258_84 : m_dn M_258 84 (.putfield 235) 3 87 := by decide +kernel
theorem d_258_87 : m_dn M_258 87 (.aload_n 0) 1 88 := by decide +kernel
theorem d_258_88 : m_dn M_258 88 (.invokevirtual 173) 3 91 := by decide +kernel
theorem d_258_9 : m_dn M_258 9 (.aload_n 0) 1 10 := by decide +kernel
theorem d_258_91 : m_dn M_258 91 (.bipush 44) 2 93 := by decide +kernel
theorem d_258_93 : m_dn M_258 93 (.if_icmp .ne 16) 3 96 := by decide +kernel
theorem d_258_96 : m_dn M_258 96 (.aload_n 0) 1 97 := by decide +kernel
theorem d_258_97 : m_dn M_258 97 (.getfield 235) 3 100 := by decide +kernel
theorem d_259_0 : m_dn M_259 0 (.aload_n 0) 1 1 := by decide +kernel
theorem d_259_1 : m_dn M_259 1 (.bipush 34) 2 3 := by decide +kernel
theorem d_259_10 : m_dn M_259 10 (.invokevirtual 196) 3 13 := by decide +kernel
theorem d_259_13 : m_dn M_259 13 (.istore_n 1) 1 14 := by decide +kernel
theorem d_259_14 : m_dn M_259 14 (.aload_n 0) 1 15 := by decide +kernel
theorem d_259_15 : m_dn M_259 15 (.bipush 34) 2 17 := by decide +kernel
theorem d_259_17 : m_dn M_259 17 (.invokevirtual 190) 3 20 := by decide +kernel
theorem d_259_20 : m_dn M_259 20 (.pop) 1 21 := by decide +kernel
theorem d_259_21 : m_dn M_259 21 (.iload_n 1) 1 22 := by decide +kernel
theorem d_259_22 : m_dn M_259 22 (.ireturn) 1 23 := by decide +kernel
theorem d_259_3 : m_dn M_259 3 (.invokevirtual 190) 3 6 := by decide +kernel
theorem d_259_6 : m_dn M_259 6 (.pop) 1 7 := by decide +kernel
theorem d_259_7 : m_dn M_259 7 (.aload_n 0) 1 8 := by decide +kernel
theorem d_259_8 : m_dn M_259 8 (.ldc 225) 2 10 := by decide +kernel
theorem d_260_0 : m_dn M_260 0 (.iconst 1) 1 1 := by decide +kernel
theorem d_260_1 : m_dn M_260 1 (.istore_n 2) 1 2 := by decide +kernel
theorem d_260_10 : m_dn M_260 10 (.ifCond .ne 270) 3 13 := by decide +kernel
theorem d_260_100 : m_dn M_260 100 (.putfield 244) 3 103 := by decide +kernel
theorem d_260_103 : m_dn M_260 103 (.aload_n 0) 1 104 := by decide +kernel
theorem d_260_104 : m_dn M_260 104 (.getfield 166) 3 107 := by decide +kernel
theorem d_260_107 : m_dn M_260 107 (.ifCond .ne 32) 3 110 := by decide +kernel
theorem d_260_110 : m_dn M_260 110 (.aload_n 0) 1 111 := by decide +kernel
theorem d_260_111 : m_dn M_260 111 (.invokevirtual 173) 3 114 := by decide +kernel
theorem d_260_114 : m_dn M_260 114 (.bipush 61) 2 116 := by decide +kernel
theorem d_260_116 : m_dn M_260 116 (.if_icmp .ne 23) 3 119 := by decide +kernel
theorem d_260_119 : m_dn M_260 119 (.aload_n 0) 1 120 := by decide +kernel
theorem d_260_120 : m_dn M_260 120 (.dup) 1 121 := by decide +kernel
theorem d_260_121 : m_dn M_260 121 (.getfield 163) 3 124 := by decide +kernel
theorem d_260_124 : m_dn M_260 124 (.iconst 1) 1 125 := by decide +kernel
theorem d_260_125 : m_dn M_260 125 (.iadd) 1 126 := by decide +kernel
theorem d_260_126 : m_dn M_260 126 (.putfield 163) 3 129 := by decide +kernel
theorem d_260_129 : m_dn M_260 129 (.aload_n 0) 1 130 := by decide +kernel
theorem d_260_13 : m_dn M_260 13 (.aload_n 0) 1 14 := by decide +kernel
theorem d_260_130 : m_dn M_260 130 (.aload_n 0) 1 131 := by decide +kernel
theorem d_260_131 : m_dn M_260 131 (.ldc 225) 2 133 := by decide +kernel
theorem d_260_133 : m_dn M_260 133 (.invokevirtual 196) 3 136 := by decide +kernel
theorem d_260_136 : m_dn M_260 136 (.putfield 244) 3 139 := by decide +kernel
theorem d_260_139 : m_dn M_260 139 (.aload_n 0) 1 140 := by decide +kernel
theorem d_260_14 : m_dn M_260 14 (.aload_n 0) 1 15 := by decide +kernel
theorem d_260_140 : m_dn M_260 140 (.getfield 166) 3 143 := by decide +kernel
theorem d_260_143 : m_dn M_260 143 (.ifCond .eq 4) 3 146 := by decide +kernel
theorem d_260_146 : m_dn M_260 146 (.return_) 1 147 := by decide +kernel
theorem d_260_147 : m_dn M_260 147 (.iload_n 1) 1 148 := by decide +kernel
theorem d_260_148 : m_dn M_260 148 (.tableswitch 89 0 3 #[32, 39, 46, 53]) 32 180 := by decide +kernel
theorem d_260_15 : m_dn M_260 15 (.getfield 163) 3 18 := by decide +kernel
theorem d_260_18 : m_dn M_260 18 (.putfield 238) 3 21 := by decide +kernel
theorem d_260_180 : m_dn M_260 180 (.aload_n 0) 1 181 := by decide +kernel
theorem d_260_181 : m_dn M_260 181 (.invokevirtual 247) 3 184 := by decide +kernel
theorem d_260_184 : m_dn M_260 184 (.goto 57) 3 187 := by decide +kernel
theorem d_260_187 : m_dn M_260 187 (.aload_n 0) 1 188 := by decide +kernel
theorem d_260_188 : m_dn M_260 188 (.invokevirtual 250) 3 191 := by decide +kernel
theorem d_260_191 : m_dn M_260 191 (.goto 50) 3 194 := by decide +kernel
theorem d_260_194 : m_dn M_260 194 (.aload_n 0) 1 195 := by decide +kernel
theorem d_260_195 : m_dn M_260 195 (.invokevirtual 253) 3 198 := by decide +kernel
theorem d_260_198 : m_dn M_260 198 (.goto 43) 3 201 := by decide +kernel
theorem d_260_2 : m_dn M_260 2 (.iload_n 2) 1 3 := by decide +kernel
theorem d_260_201 : m_dn M_260 201 (.aload_n 0) 1 202 := by decide +kernel
theorem d_260_202 : m_dn M_260 202 (.ldc_w 256) 3 205 := by decide +kernel
theorem d_260_205 : m_dn M_260 205 (.invokevirtual 258) 3 208 := by decide +kernel
theorem d_260_208 : m_dn M_260 208 (.ifCond .eq 33) 3 211 := by decide +kernel
theorem d_260_21 : m_dn M_260 21 (.aload_n 0) 1 22 := by decide +kernel
theorem d_260_211 : m_dn M_260 211 (.aload_n 0) 1 212 := by decide +kernel
theorem d_260_212 : m_dn M_260 212 (.getfield 17) 3 215 := by decide +kernel
theorem d_260_215 : m_dn M_260 215 (.iconst 4) 1 216 := by decide +kernel
theorem d_260_216 : m_dn M_260 216 (.aload_n 0) 1 217 := by decide +kernel
theorem d_260_217 : m_dn M_260 217 (.getfield 244) 3 220 := by decide +kernel
theorem d_260_22 : m_dn M_260 22 (.invokevirtual 173) 3 25 := by decide +kernel
theorem d_260_220 : m_dn M_260 220 (.iconst (-1)) 1 221 := by decide +kernel
theorem d_260_221 : m_dn M_260 221 (.if_icmp .ne 8) 3 224 := by decide +kernel
theorem d_260_224 : m_dn M_260 224 (.bipush 9) 2 226 := by decide +kernel
theorem d_260_226 : m_dn M_260 226 (.goto 7) 3 229 := by decide +kernel
theorem d_260_229 : m_dn M_260 229 (.aload_n 0) 1 230 := by decide +kernel
theorem d_260_230 : m_dn M_260 230 (.getfield 244) 3 233 := by decide +kernel
theorem d_260_233 : m_dn M_260 233 (.iastore) 1 234 := by decide +kernel
theorem d_260_234 : m_dn M_260 234 (.goto 7) 3 237 := by decide +kernel
theorem d_260_237 : m_dn M_260 237 (.aload_n 0) 1 238 := by decide +kernel
theorem d_260_238 : m_dn M_260 238 (.invokevirtual 261) 3 241 := by decide +kernel
theorem d_260_241 : m_dn M_260 241 (.aload_n 0) 1 242 := by decide +kernel
theorem d_260_242 : m_dn M_260 242 (.invokevirtual 173) 3 245 := by decide +kernel
theorem d_260_245 : m_dn M_260 245 (.bipush 44) 2 247 := by decide +kernel
theorem d_260_247 : m_dn M_260 247 (.if_icmp .ne 7) 3 250 := by decide +kernel
theorem d_260_25 : m_dn M_260 25 (.invokestatic 206) 3 28 := by decide +kernel
theorem d_260_250 : m_dn M_260 250 (.iconst 1) 1 251 := by decide +kernel
theorem d_260_251 : m_dn M_260 251 (.goto 4) 3 254 := by decide +kernel
theorem d_260_254 : m_dn M_260 254 (.iconst 0) 1 255 := by decide +kernel
theorem d_260_255 : m_dn M_260 255 (.istore_n 2) 1 256 := by decide +kernel
theorem d_260_256 : m_dn M_260 256 (.iload_n 2) 1 257 := by decide +kernel
theorem d_260_257 : m_dn M_260 257 (.ifCond .eq (-255)) 3 260 := by decide +kernel
theorem d_260_260 : m_dn M_260 260 (.aload_n 0) 1 261 := by decide +kernel
theorem d_260_261 : m_dn M_260 261 (.dup) 1 262 := by decide +kernel
theorem d_260_262 : m_dn M_260 262 (.getfield 163) 3 265 := by decide +kernel
theorem d_260_265 : m_dn M_260 265 (.iconst 1) 1 266 := by decide +kernel
theorem d_260_266 : m_dn M_260 266 (.iadd) 1 267 := by decide +kernel
theorem d_260_267 : m_dn M_260 267 (.putfield 163) 3 270 := by decide +kernel
theorem d_260_270 : m_dn M_260 270 (.aload_n 0) 1 271 := by decide +kernel
theorem d_260_271 : m_dn M_260 271 (.bipush 32) 2 273 := by decide +kernel
theorem d_260_273 : m_dn M_260 273 (.invokevirtual 190) 3 276 := by decide +kernel
theorem d_260_276 : m_dn M_260 276 (.pop) 1 277 := by decide +kernel
theorem d_260_277 : m_dn M_260 277 (.goto (-275)) 3 280 := by decide +kernel
theorem d_260_28 : m_dn M_260 28 (.ifCond .eq 16) 3 31 := by decide +kernel
theorem d_260_280 : m_dn M_260 280 (.return_) 1 281 := by decide +kernel
theorem d_260_3 : m_dn M_260 3 (.ifCond .eq 277) 3 6 := by decide +kernel
theorem d_260_31 : m_dn M_260 31 (.aload_n 0) 1 32 := by decide +kernel
theorem d_260_32 : m_dn M_260 32 (.dup) 1 33 := by decide +kernel
theorem d_260_33 : m_dn M_260 33 (.getfield 163) 3 36 := by decide +kernel
theorem d_260_36 : m_dn M_260 36 (.iconst 1) 1 37 := by decide +kernel
theorem d_260_37 : m_dn M_260 37 (.iadd) 1 38 := by decide +kernel
theorem d_260_38 : m_dn M_260 38 (.putfield 163) 3 41 := by decide +kernel
theorem d_260_41 : m_dn M_260 41 (.goto (-20)) 3 44 := by decide +kernel
theorem d_260_44 : m_dn M_260 44 (.aload_n 0) 1 45 := by decide +kernel
theorem d_260_45 : m_dn M_260 45 (.aload_n 0) 1 46 := by decide +kernel
theorem d_260_46 : m_dn M_260 46 (.getfield 163) 3 49 := by decide +kernel
theorem d_260_49 : m_dn M_260 49 (.putfield 241) 3 52 := by decide +kernel
theorem d_260_52 : m_dn M_260 52 (.aload_n 0) 1 53 := by decide +kernel
theorem d_260_53 : m_dn M_260 53 (.getfield 163) 3 56 := by decide +kernel
theorem d_260_56 : m_dn M_260 56 (.aload_n 0) 1 57 := by decide +kernel
theorem d_260_57 : m_dn M_260 57 (.getfield 238) 3 60 := by decide +kernel
theorem d_260_6 : m_dn M_260 6 (.aload_n 0) 1 7 := by decide +kernel
theorem d_260_60 : m_dn M_260 60 (.if_icmp .ne 15) 3 63 := by decide +kernel
theorem d_260_63 : m_dn M_260 63 (.aload_n 0) 1 64 := by decide +kernel
theorem d_260_64 : m_dn M_260 64 (.aload_n 0) 1 65 := by decide +kernel
theorem d_260_65 : m_dn M_260 65 (.getfield 163) 3 68 := by decide +kernel
theorem d_260_68 : m_dn M_260 68 (.invokevirtual 177) 3 71 := by decide +kernel
theorem d_260_7 : m_dn M_260 7 (.getfield 166) 3 10 := by decide +kernel
theorem d_260_71 : m_dn M_260 71 (.pop) 1 72 := by decide +kernel
theorem d_260_72 : m_dn M_260 72 (.goto 26) 3 75 := by decide +kernel
theorem d_260_75 : m_dn M_260 75 (.aload_n 0) 1 76 := by decide +kernel
theorem d_260_76 : m_dn M_260 76 (.getfield 163) 3 79 := by decide +kernel
theorem d_260_79 : m_dn M_260 79 (.aload_n 0) 1 80 := by decide +kernel
theorem d_260_80 : m_dn M_260 80 (.getfield 238) 3 83 := by decide +kernel
theorem d_260_83 : m_dn M_260 83 (.isub) 1 84 := by decide +kernel
theorem d_260_84 : m_dn M_260 84 (.bipush 30) 2 86 := by decide +kernel
theorem d_260_86 : m_dn M_260 86 (.if_icmp .le 12) 3 89 := by decide +kernel
theorem d_260_89 : m_dn M_260 89 (.aload_n 0) 1 90 := by decide +kernel
theorem d_260_90 : m_dn M_260 90 (.aload_n 0) 1 91 := by decide +kernel
theorem d_260_91 : m_dn M_260 91 (.getfield 238) 3 94 := by decide +kernel
theorem d_260_94 : m_dn M_260 94 (.invokevirtual 177) 3 97 := by decide +kernel
theorem d_260_97 : m_dn M_260 97 (.pop) 1 98 := by decide +kernel
theorem d_260_98 : m_dn M_260 98 (.aload_n 0) 1 99 := by decide +kernel
theorem d_260_99 : m_dn M_260 99 (.iconst (-1)) 1 100 := by decide +kernel
theorem d_261_0 : m_dn M_261 0 (.aload_n 0) 1 1 := by decide +kernel
theorem d_261_1 : m_dn M_261 1 (.getfield 244) 3 4 := by decide +kernel
theorem d_261_102 : m_dn M_261 102 (.iload_n 1) 1 103 := by decide +kernel
theorem d_261_103 : m_dn M_261 103 (.ifCond .eq 21) 3 106 := by decide +kernel
theorem d_261_106 : m_dn M_261 106 (.aload_n 0) 1 107 := by decide +kernel
theorem d_261_107 : m_dn M_261 107 (.ldc_w 285) 3 110 := by decide +kernel
theorem d_261_110 : m_dn M_261 110 (.invokevirtual 258) 3 113 := by decide +kernel
theorem d_261_113 : m_dn M_261 113 (.ifCond .eq 11) 3 116 := by decide +kernel
theorem d_261_116 : m_dn M_261 116 (.aload_n 0) 1 117 := by decide +kernel
theorem d_261_117 : m_dn M_261 117 (.aload_n 0) 1 118 := by decide +kernel
theorem d_261_118 : m_dn M_261 118 (.getfield 244) 3 121 := by decide +kernel
theorem d_261_12 : m_dn M_261 12 (.iconst 0) 1 13 := by decide +kernel
theorem d_261_121 : m_dn M_261 121 (.putfield 287) 3 124 := by decide +kernel
theorem d_261_124 : m_dn M_261 124 (.return_) 1 125 := by decide +kernel
theorem d_261_13 : m_dn M_261 13 (.istore_n 1) 1 14 := by decide +kernel
theorem d_261_14 : m_dn M_261 14 (.iload_n 1) 1 15 := by decide +kernel
theorem d_261_15 : m_dn M_261 15 (.ifCond .ne 18) 3 18 := by decide +kernel
theorem d_261_18 : m_dn M_261 18 (.aload_n 0) 1 19 := by decide +kernel
theorem d_261_19 : m_dn M_261 19 (.ldc_w 264) 3 22 := by decide +kernel
theorem d_261_22 : m_dn M_261 22 (.invokevirtual 258) 3 25 := by decide +kernel
theorem d_261_25 : m_dn M_261 25 (.ifCond .eq 8) 3 28 := by decide +kernel
theorem d_261_28 : m_dn M_261 28 (.aload_n 0) 1 29 := by decide +kernel
theorem d_261_29 : m_dn M_261 29 (.iconst 1) 1 30 := by decide +kernel
theorem d_261_30 : m_dn M_261 30 (.putfield 266) 3 33 := by decide +kernel
theorem d_261_33 : m_dn M_261 33 (.iload_n 1) 1 34 := by decide +kernel
theorem d_261_34 : m_dn M_261 34 (.ifCond .ne 18) 3 37 := by decide +kernel
theorem d_261_37 : m_dn M_261 37 (.aload_n 0) 1 38 := by decide +kernel
theorem d_261_38 : m_dn M_261 38 (.ldc_w 269) 3 41 := by decide +kernel
theorem d_261_4 : m_dn M_261 4 (.iconst (-1)) 1 5 := by decide +kernel
theorem d_261_41 : m_dn M_261 41 (.invokevirtual 258) 3 44 := by decide +kernel
theorem d_261_44 : m_dn M_261 44 (.ifCond .eq 8) 3 47 := by decide +kernel
theorem d_261_47 : m_dn M_261 47 (.aload_n 0) 1 48 := by decide +kernel
theorem d_261_48 : m_dn M_261 48 (.iconst 1) 1 49 := by decide +kernel
theorem d_261_49 : m_dn M_261 49 (.putfield 271) 3 52 := by decide +kernel
theorem d_261_5 : m_dn M_261 5 (.if_icmp .eq 7) 3 8 := by decide +kernel
theorem d_261_52 : m_dn M_261 52 (.iload_n 1) 1 53 := by decide +kernel
theorem d_261_53 : m_dn M_261 53 (.ifCond .eq 21) 3 56 := by decide +kernel
theorem d_261_56 : m_dn M_261 56 (.aload_n 0) 1 57 := by decide +kernel
theorem d_261_57 : m_dn M_261 57 (.ldc_w 274) 3 60 := by decide +kernel
theorem d_261_60 : m_dn M_261 60 (.invokevirtual 258) 3 63 := by decide +kernel
theorem d_261_63 : m_dn M_261 63 (.ifCond .eq 11) 3 66 := by decide +kernel
theorem d_261_66 : m_dn M_261 66 (.aload_n 0) 1 67 := by decide +kernel
theorem d_261_67 : m_dn M_261 67 (.aload_n 0) 1 68 := by decide +kernel
theorem d_261_68 : m_dn M_261 68 (.getfield 244) 3 71 := by decide +kernel
theorem d_261_71 : m_dn M_261 71 (.putfield 276) 3 74 := by decide +kernel
theorem d_261_74 : m_dn M_261 74 (.aload_n 0) 1 75 := by decide +kernel
theorem d_261_75 : m_dn M_261 75 (.ldc_w 279) 3 78 := by decide +kernel
theorem d_261_78 : m_dn M_261 78 (.invokevirtual 258) 3 81 := by decide +kernel
theorem d_261_8 : m_dn M_261 8 (.iconst 1) 1 9 := by decide +kernel
theorem d_261_81 : m_dn M_261 81 (.ifCond .eq 21) 3 84 := by decide +kernel
theorem d_261_84 : m_dn M_261 84 (.aload_n 0) 1 85 := by decide +kernel
theorem d_261_85 : m_dn M_261 85 (.iload_n 1) 1 86 := by decide +kernel
theorem d_261_86 : m_dn M_261 86 (.ifCond .eq 10) 3 89 := by decide +kernel
theorem d_261_89 : m_dn M_261 89 (.aload_n 0) 1 90 := by decide +kernel
theorem d_261_9 : m_dn M_261 9 (.goto 4) 3 12 := by decide +kernel
theorem d_261_90 : m_dn M_261 90 (.getfield 244) 3 93 := by decide +kernel
theorem d_261_93 : m_dn M_261 93 (.goto 6) 3 96 := by decide +kernel
theorem d_261_96 : m_dn M_261 96 (.ldc_w 281) 3 99 := by decide +kernel
theorem d_261_99 : m_dn M_261 99 (.putfield 282) 3 102 := by decide +kernel
theorem d_262_0 : m_dn M_262 0 (.aload_n 0) 1 1 := by decide +kernel
theorem d_262_1 : m_dn M_262 1 (.getfield 241) 3 4 := by decide +kernel
theorem d_262_10 : m_dn M_262 10 (.invokevirtual 181) 3 13 := by decide +kernel
theorem d_262_13 : m_dn M_262 13 (.if_icmp .ne 7) 3 16 := by decide +kernel
theorem d_262_16 : m_dn M_262 16 (.iconst 1) 1 17 := by decide +kernel
theorem d_262_17 : m_dn M_262 17 (.goto 4) 3 20 := by decide +kernel
theorem d_262_20 : m_dn M_262 20 (.iconst 0) 1 21 := by decide +kernel
theorem d_262_21 : m_dn M_262 21 (.istore_n 2) 1 22 := by decide +kernel
theorem d_262_22 : m_dn M_262 22 (.iconst 0) 1 23 := by decide +kernel
theorem d_262_23 : m_dn M_262 23 (.istore_n 3) 1 24 := by decide +kernel
theorem d_262_24 : m_dn M_262 24 (.iload_n 2) 1 25 := by decide +kernel
theorem d_262_25 : m_dn M_262 25 (.ifCond .eq 42) 3 28 := by decide +kernel
theorem d_262_28 : m_dn M_262 28 (.iload_n 3) 1 29 := by decide +kernel
theorem d_262_29 : m_dn M_262 29 (.aload_n 1) 1 30 := by decide +kernel
theorem d_262_30 : m_dn M_262 30 (.invokevirtual 181) 3 33 := by decide +kernel
theorem d_262_33 : m_dn M_262 33 (.if_icmp .ge 34) 3 36 := by decide +kernel
theorem d_262_36 : m_dn M_262 36 (.aload_n 0) 1 37 := by decide +kernel
theorem d_262_37 : m_dn M_262 37 (.getfield 7) 3 40 := by decide +kernel
theorem d_262_4 : m_dn M_262 4 (.aload_n 0) 1 5 := by decide +kernel
theorem d_262_40 : m_dn M_262 40 (.aload_n 0) 1 41 := by decide +kernel
theorem d_262_41 : m_dn M_262 41 (.getfield 238) 3 44 := by decide +kernel
theorem d_262_44 : m_dn M_262 44 (.iload_n 3) 1 45 := by decide +kernel
theorem d_262_45 : m_dn M_262 45 (.iadd) 1 46 := by decide +kernel
theorem d_262_46 : m_dn M_262 46 (.iaload) 1 47 := by decide +kernel
theorem d_262_47 : m_dn M_262 47 (.aload_n 1) 1 48 := by decide +kernel
theorem d_262_48 : m_dn M_262 48 (.iload_n 3) 1 49 := by decide +kernel
theorem d_262_49 : m_dn M_262 49 (.invokevirtual 186) 3 52 := by decide +kernel
theorem d_262_5 : m_dn M_262 5 (.getfield 238) 3 8 := by decide +kernel
theorem d_262_52 : m_dn M_262 52 (.if_icmp .ne 7) 3 55 := by decide +kernel
theorem d_262_55 : m_dn M_262 55 (.iconst 1) 1 56 := by decide +kernel
theorem d_262_56 : m_dn M_262 56 (.goto 4) 3 59 := by decide +kernel
theorem d_262_59 : m_dn M_262 59 (.iconst 0) 1 60 := by decide +kernel
theorem d_262_60 : m_dn M_262 60 (.istore_n 2) 1 61 := by decide +kernel
theorem d_262_61 : m_dn M_262 61 (.iinc 3 1) 3 64 := by decide +kernel
theorem d_262_64 : m_dn M_262 64 (.goto (-40)) 3 67 := by decide +kernel
theorem d_262_67 : m_dn M_262 67 (.iload_n 2) 1 68 := by decide +kernel
theorem d_262_68 : m_dn M_262 68 (.ireturn) 1 69 := by decide +kernel
theorem d_262_8 : m_dn M_262 8 (.isub) 1 9 := by decide +kernel
theorem d_262_9 : m_dn M_262 9 (.aload_n 1) 1 10 := by decide +kernel
theorem d_263_0 : m_dn M_263 0 (.aload_n 0) 1 1 := by decide +kernel
theorem d_263_1 : m_dn M_263 1 (.getfield 244) 3 4 := by decide +kernel
theorem d_263_100 : m_dn M_263 100 (.aload_n 0) 1 101 := by decide +kernel
theorem d_263_101 : m_dn M_263 101 (.ldc_w 306) 3 104 := by decide +kernel
theorem d_263_104 : m_dn M_263 104 (.invokevirtual 258) 3 107 := by decide +kernel
theorem d_263_107 : m_dn M_263 107 (.ifCond .eq 11) 3 110 := by decide +kernel
theorem d_263_110 : m_dn M_263 110 (.aload_n 0) 1 111 := by decide +kernel
theorem d_263_111 : m_dn M_263 111 (.aload_n 0) 1 112 := by decide +kernel
theorem d_263_112 : m_dn M_263 112 (.getfield 244) 3 115 := by decide +kernel
theorem d_263_115 : m_dn M_263 115 (.putfield 308) 3 118 := by decide +kernel
theorem d_263_118 : m_dn M_263 118 (.return_) 1 119 := by decide +kernel
theorem d_263_12 : m_dn M_263 12 (.iconst 0) 1 13 := by decide +kernel
theorem d_263_13 : m_dn M_263 13 (.istore_n 1) 1 14 := by decide +kernel
theorem d_263_14 : m_dn M_263 14 (.iload_n 1) 1 15 := by decide +kernel
theorem d_263_15 : m_dn M_263 15 (.ifCond .ne 18) 3 18 := by decide +kernel
theorem d_263_18 : m_dn M_263 18 (.aload_n 0) 1 19 := by decide +kernel
theorem d_263_19 : m_dn M_263 19 (.ldc_w 290) 3 22 := by decide +kernel
theorem d_263_22 : m_dn M_263 22 (.invokevirtual 258) 3 25 := by decide +kernel
theorem d_263_25 : m_dn M_263 25 (.ifCond .eq 8) 3 28 := by decide +kernel
theorem d_263_28 : m_dn M_263 28 (.aload_n 0) 1 29 := by decide +kernel
theorem d_263_29 : m_dn M_263 29 (.iconst 1) 1 30 := by decide +kernel
theorem d_263_30 : m_dn M_263 30 (.putfield 292) 3 33 := by decide +kernel
theorem d_263_33 : m_dn M_263 33 (.iload_n 1) 1 34 := by decide +kernel
theorem d_263_34 : m_dn M_263 34 (.ifCond .ne 18) 3 37 := by decide +kernel
theorem d_263_37 : m_dn M_263 37 (.aload_n 0) 1 38 := by decide +kernel
theorem d_263_38 : m_dn M_263 38 (.ldc_w 264) 3 41 := by decide +kernel
theorem d_263_4 : m_dn M_263 4 (.iconst (-1)) 1 5 := by decide +kernel
theorem d_263_41 : m_dn M_263 41 (.invokevirtual 258) 3 44 := by decide +kernel
theorem d_263_44 : m_dn M_263 44 (.ifCond .eq 8) 3 47 := by decide +kernel
theorem d_263_47 : m_dn M_263 47 (.aload_n 0) 1 48 := by decide +kernel
theorem d_263_48 : m_dn M_263 48 (.iconst 1) 1 49 := by decide +kernel
theorem d_263_49 : m_dn M_263 49 (.putfield 295) 3 52 := by decide +kernel
theorem d_263_5 : m_dn M_263 5 (.if_icmp .eq 7) 3 8 := by decide +kernel
theorem d_263_52 : m_dn M_263 52 (.iload_n 1) 1 53 := by decide +kernel
theorem d_263_53 : m_dn M_263 53 (.ifCond .eq 21) 3 56 := by decide +kernel
theorem d_263_56 : m_dn M_263 56 (.aload_n 0) 1 57 := by decide +kernel
theorem d_263_57 : m_dn M_263 57 (.ldc_w 274) 3 60 := by decide +kernel
theorem d_263_60 : m_dn M_263 60 (.invokevirtual 258) 3 63 := by decide +kernel
theorem d_263_63 : m_dn M_263 63 (.ifCond .eq 11) 3 66 := by decide +kernel
theorem d_263_66 : m_dn M_263 66 (.aload_n 0) 1 67 := by decide +kernel
theorem d_263_67 : m_dn M_263 67 (.aload_n 0) 1 68 := by decide +kernel
theorem d_263_68 : m_dn M_263 68 (.getfield 244) 3 71 := by decide +kernel
theorem d_263_71 : m_dn M_263 71 (.putfield 298) 3 74 := by decide +kernel
theorem d_263_74 : m_dn M_263 74 (.iload_n 1) 1 75 := by decide +kernel
theorem d_263_75 : m_dn M_263 75 (.ifCond .eq 21) 3 78 := by decide +kernel
theorem d_263_78 : m_dn M_263 78 (.aload_n 0) 1 79 := by decide +kernel
theorem d_263_79 : m_dn M_263 79 (.ldc_w 301) 3 82 := by decide +kernel
theorem d_263_8 : m_dn M_263 8 (.iconst 1) 1 9 := by decide +kernel
theorem d_263_82 : m_dn M_263 82 (.invokevirtual 258) 3 85 := by decide +kernel
theorem d_263_85 : m_dn M_263 85 (.ifCond .eq 11) 3 88 := by decide +kernel
theorem d_263_88 : m_dn M_263 88 (.aload_n 0) 1 89 := by decide +kernel
theorem d_263_89 : m_dn M_263 89 (.aload_n 0) 1 90 := by decide +kernel
theorem d_263_9 : m_dn M_263 9 (.goto 4) 3 12 := by decide +kernel
theorem d_263_90 : m_dn M_263 90 (.getfield 244) 3 93 := by decide +kernel
theorem d_263_93 : m_dn M_263 93 (.putfield 303) 3 96 := by decide +kernel
theorem d_263_96 : m_dn M_263 96 (.iload_n 1) 1 97 := by decide +kernel
theorem d_263_97 : m_dn M_263 97 (.ifCond .eq 21) 3 100 := by decide +kernel
theorem d_264_0 : m_dn M_264 0 (.aload_n 0) 1 1 := by decide +kernel
theorem d_264_1 : m_dn M_264 1 (.ldc_w 311) 3 4 := by decide +kernel
theorem d_264_10 : m_dn M_264 10 (.iconst 0) 1 11 := by decide +kernel
theorem d_264_11 : m_dn M_264 11 (.goto 46) 3 14 := by decide +kernel
theorem d_264_14 : m_dn M_264 14 (.aload_n 0) 1 15 := by decide +kernel
theorem d_264_15 : m_dn M_264 15 (.ldc_w 313) 3 18 := by decide +kernel
theorem d_264_18 : m_dn M_264 18 (.invokevirtual 258) 3 21 := by decide +kernel
theorem d_264_21 : m_dn M_264 21 (.ifCond .eq 7) 3 24 := by decide +kernel
theorem d_264_24 : m_dn M_264 24 (.iconst 1) 1 25 := by decide +kernel
theorem d_264_25 : m_dn M_264 25 (.goto 32) 3 28 := by decide +kernel
theorem d_264_28 : m_dn M_264 28 (.aload_n 0) 1 29 := by decide +kernel
theorem d_264_29 : m_dn M_264 29 (.ldc_w 315) 3 32 := by decide +kernel
theorem d_264_32 : m_dn M_264 32 (.invokevirtual 258) 3 35 := by decide +kernel
theorem d_264_35 : m_dn M_264 35 (.ifCond .eq 7) 3 38 := by decide +kernel
theorem d_264_38 : m_dn M_264 38 (.iconst 2) 1 39 := by decide +kernel
theorem d_264_39 : m_dn M_264 39 (.goto 18) 3 42 := by decide +kernel
theorem d_264_4 : m_dn M_264 4 (.invokevirtual 258) 3 7 := by decide +kernel
theorem d_264_42 : m_dn M_264 42 (.aload_n 0) 1 43 := by decide +kernel
theorem d_264_43 : m_dn M_264 43 (.ldc_w 317) 3 46 := by decide +kernel
theorem d_264_46 : m_dn M_264 46 (.invokevirtual 258) 3 49 := by decide +kernel
theorem d_264_49 : m_dn M_264 49 (.ifCond .eq 7) 3 52 := by decide +kernel
theorem d_264_52 : m_dn M_264 52 (.iconst 3) 1 53 := by decide +kernel
theorem d_264_53 : m_dn M_264 53 (.goto 4) 3 56 := by decide +kernel
theorem d_264_56 : m_dn M_264 56 (.iconst (-1)) 1 57 := by decide +kernel
theorem d_264_57 : m_dn M_264 57 (.istore_n 1) 1 58 := by decide +kernel
theorem d_264_58 : m_dn M_264 58 (.iload_n 1) 1 59 := by decide +kernel
theorem d_264_59 : m_dn M_264 59 (.iconst (-1)) 1 60 := by decide +kernel
theorem d_264_60 : m_dn M_264 60 (.if_icmp .eq 26) 3 63 := by decide +kernel
theorem d_264_63 : m_dn M_264 63 (.aload_n 0) 1 64 := by decide +kernel
theorem d_264_64 : m_dn M_264 64 (.getfield 17) 3 67 := by decide +kernel
theorem d_264_67 : m_dn M_264 67 (.iload_n 1) 1 68 := by decide +kernel
theorem d_264_68 : m_dn M_264 68 (.aload_n 0) 1 69 := by decide +kernel
theorem d_264_69 : m_dn M_264 69 (.getfield 244) 3 72 := by decide +kernel
theorem d_264_7 : m_dn M_264 7 (.ifCond .eq 7) 3 10 := by decide +kernel
theorem d_264_72 : m_dn M_264 72 (.iconst (-1)) 1 73 := by decide +kernel
theorem d_264_73 : m_dn M_264 73 (.if_icmp .ne 8) 3 76 := by decide +kernel
theorem d_264_76 : m_dn M_264 76 (.bipush 9) 2 78 := by decide +kernel
theorem d_264_78 : m_dn M_264 78 (.goto 7) 3 81 := by decide +kernel
theorem d_264_81 : m_dn M_264 81 (.aload_n 0) 1 82 := by decide +kernel
theorem d_264_82 : m_dn M_264 82 (.getfield 244) 3 85 := by decide +kernel
theorem d_264_85 : m_dn M_264 85 (.iastore) 1 86 := by decide +kernel
theorem d_264_86 : m_dn M_264 86 (.return_) 1 87 := by decide +kernel
theorem d_265_0 : m_dn M_265 0 (.aload_n 0) 1 1 := by decide +kernel
theorem d_265_1 : m_dn M_265 1 (.getfield 244) 3 4 := by decide +kernel
theorem d_265_10 : m_dn M_265 10 (.dup) 1 11 := by decide +kernel
theorem d_265_11 : m_dn M_265 11 (.getfield 319) 3 14 := by decide +kernel
theorem d_265_14 : m_dn M_265 14 (.aload_n 0) 1 15 := by decide +kernel
theorem d_265_15 : m_dn M_265 15 (.ldc_w 322) 3 18 := by decide +kernel
theorem d_265_18 : m_dn M_265 18 (.invokevirtual 258) 3 21 := by decide +kernel
theorem d_265_21 : m_dn M_265 21 (.ifCond .eq 7) 3 24 := by decide +kernel
theorem d_265_24 : m_dn M_265 24 (.iconst 1) 1 25 := by decide +kernel
theorem d_265_25 : m_dn M_265 25 (.goto 18) 3 28 := by decide +kernel
theorem d_265_28 : m_dn M_265 28 (.aload_n 0) 1 29 := by decide +kernel
theorem d_265_29 : m_dn M_265 29 (.ldc_w 324) 3 32 := by decide +kernel
theorem d_265_32 : m_dn M_265 32 (.invokevirtual 258) 3 35 := by decide +kernel
theorem d_265_35 : m_dn M_265 35 (.ifCond .eq 7) 3 38 := by decide +kernel
theorem d_265_38 : m_dn M_265 38 (.iconst 2) 1 39 := by decide +kernel
theorem d_265_39 : m_dn M_265 39 (.goto 4) 3 42 := by decide +kernel
theorem d_265_4 : m_dn M_265 4 (.iconst (-1)) 1 5 := by decide +kernel
theorem d_265_42 : m_dn M_265 42 (.iconst 0) 1 43 := by decide +kernel
theorem d_265_43 : m_dn M_265 43 (.ior) 1 44 := by decide +kernel
theorem d_265_44 : m_dn M_265 44 (.putfield 319) 3 47 := by decide +kernel
theorem d_265_47 : m_dn M_265 47 (.return_) 1 48 := by decide +kernel
theorem d_265_5 : m_dn M_265 5 (.if_icmp .eq 4) 3 8 := by decide +kernel
theorem d_265_8 : m_dn M_265 8 (.return_) 1 9 := by decide +kernel
theorem d_265_9 : m_dn M_265 9 (.aload_n 0) 1 10 := by decide +kernel
theorem d_266_0 : m_dn M_266 0 (.iconst 0) 1 1 := by decide +kernel
theorem d_266_1 : m_dn M_266 1 (.istore_n 1) 1 2 := by decide +kernel
theorem d_266_100 : m_dn M_266 100 (.dup) 1 101 := by decide +kernel
theorem d_266_101 : m_dn M_266 101 (.getfield 163) 3 104 := by decide +kernel
theorem d_266_104 : m_dn M_266 104 (.iconst 1) 1 105 := by decide +kernel
theorem d_266_105 : m_dn M_266 105 (.iadd) 1 106 := by decide +kernel
theorem d_266_106 : m_dn M_266 106 (.putfield 163) 3 109 := by decide +kernel
theorem d_266_109 : m_dn M_266 109 (.goto (-105)) 3 112 := by decide +kernel
theorem d_266_112 : m_dn M_266 112 (.return_) 1 113 := by decide +kernel
theorem d_266_12 : m_dn M_266 12 (.ifCond .ne 100) 3 15 := by decide +kernel
theorem d_266_15 : m_dn M_266 15 (.aload_n 0) 1 16 := by decide +kernel
theorem d_266_16 : m_dn M_266 16 (.invokevirtual 173) 3 19 := by decide +kernel
theorem d_266_19 : m_dn M_266 19 (.bipush 97) 2 21 := by decide +kernel
theorem d_266_2 : m_dn M_266 2 (.iconst 1) 1 3 := by decide +kernel
theorem d_266_21 : m_dn M_266 21 (.if_icmp .lt 12) 3 24 := by decide +kernel
theorem d_266_24 : m_dn M_266 24 (.aload_n 0) 1 25 := by decide +kernel
theorem d_266_25 : m_dn M_266 25 (.invokevirtual 173) 3 28 := by decide +kernel
theorem d_266_28 : m_dn M_266 28 (.bipush 104) 2 30 := by decide +kernel
theorem d_266_3 : m_dn M_266 3 (.istore_n 2) 1 4 := by decide +kernel
theorem d_266_30 : m_dn M_266 30 (.if_icmp .le 13) 3 33 := by decide +kernel
theorem d_266_33 : m_dn M_266 33 (.aload_n 0) 1 34 := by decide +kernel
theorem d_266_34 : m_dn M_266 34 (.aload_n 0) 1 35 := by decide +kernel
theorem d_266_35 : m_dn M_266 35 (.getfield 163) 3 38 := by decide +kernel
theorem d_266_38 : m_dn M_266 38 (.invokevirtual 177) 3 41 := by decide +kernel
theorem d_266_4 : m_dn M_266 4 (.iload_n 2) 1 5 := by decide +kernel
theorem d_266_41 : m_dn M_266 41 (.pop) 1 42 := by decide +kernel
theorem d_266_42 : m_dn M_266 42 (.return_) 1 43 := by decide +kernel
theorem d_266_43 : m_dn M_266 43 (.aload_n 0) 1 44 := by decide +kernel
theorem d_266_44 : m_dn M_266 44 (.dup) 1 45 := by decide +kernel
theorem d_266_45 : m_dn M_266 45 (.getfield 326) 3 48 := by decide +kernel
theorem d_266_48 : m_dn M_266 48 (.iconst 1) 1 49 := by decide +kernel
theorem d_266_49 : m_dn M_266 49 (.aload_n 0) 1 50 := by decide +kernel
theorem d_266_5 : m_dn M_266 5 (.ifCond .eq 107) 3 8 := by decide +kernel
theorem d_266_50 : m_dn M_266 50 (.invokevirtual 173) 3 53 := by decide +kernel
theorem d_266_53 : m_dn M_266 53 (.bipush 97) 2 55 := by decide +kernel
theorem d_266_55 : m_dn M_266 55 (.isub) 1 56 := by decide +kernel
theorem d_266_56 : m_dn M_266 56 (.ishl) 1 57 := by decide +kernel
theorem d_266_57 : m_dn M_266 57 (.ior) 1 58 := by decide +kernel
theorem d_266_58 : m_dn M_266 58 (.putfield 326) 3 61 := by decide +kernel
theorem d_266_61 : m_dn M_266 61 (.aload_n 0) 1 62 := by decide +kernel
theorem d_266_62 : m_dn M_266 62 (.dup) 1 63 := by decide +kernel
theorem d_266_63 : m_dn M_266 63 (.getfield 163) 3 66 := by decide +kernel
theorem d_266_66 : m_dn M_266 66 (.iconst 1) 1 67 := by decide +kernel
theorem d_266_67 : m_dn M_266 67 (.iadd) 1 68 := by decide +kernel
theorem d_266_68 : m_dn M_266 68 (.putfield 163) 3 71 := by decide +kernel
theorem d_266_71 : m_dn M_266 71 (.iinc 1 1) 3 74 := by decide +kernel
theorem d_266_74 : m_dn M_266 74 (.aload_n 0) 1 75 := by decide +kernel
theorem d_266_75 : m_dn M_266 75 (.invokevirtual 173) 3 78 := by decide +kernel
theorem d_266_78 : m_dn M_266 78 (.bipush 32) 2 80 := by decide +kernel
theorem d_266_8 : m_dn M_266 8 (.aload_n 0) 1 9 := by decide +kernel
theorem d_266_80 : m_dn M_266 80 (.if_icmp .ne 13) 3 83 := by decide +kernel
theorem d_266_83 : m_dn M_266 83 (.iload_n 1) 1 84 := by decide +kernel
theorem d_266_84 : m_dn M_266 84 (.bipush 8) 2 86 := by decide +kernel
theorem d_266_86 : m_dn M_266 86 (.if_icmp .ge 7) 3 89 := by decide +kernel
theorem d_266_89 : m_dn M_266 89 (.iconst 1) 1 90 := by decide +kernel
theorem d_266_9 : m_dn M_266 9 (.getfield 166) 3 12 := by decide +kernel
theorem d_266_90 : m_dn M_266 90 (.goto 4) 3 93 := by decide +kernel
theorem d_266_93 : m_dn M_266 93 (.iconst 0) 1 94 := by decide +kernel
theorem d_266_94 : m_dn M_266 94 (.istore_n 2) 1 95 := by decide +kernel
theorem d_266_95 : m_dn M_266 95 (.iload_n 2) 1 96 := by decide +kernel
theorem d_266_96 : m_dn M_266 96 (.ifCond .eq (-92)) 3 99 := by decide +kernel
theorem d_266_99 : m_dn M_266 99 (.aload_n 0) 1 100 := by decide +kernel
theorem d_268_0 : m_dn M_268 0 (.aload_n 0) 1 1 := by decide +kernel
theorem d_268_1 : m_dn M_268 1 (.iconst 0) 1 2 := by decide +kernel
theorem d_268_10 : m_dn M_268 10 (.bipush 31) 2 12 := by decide +kernel
theorem d_268_12 : m_dn M_268 12 (.if_icmp .gt 15) 3 15 := by decide +kernel
theorem d_268_15 : m_dn M_268 15 (.aload_n 0) 1 16 := by decide +kernel
theorem d_268_16 : m_dn M_268 16 (.getfield 29) 3 19 := by decide +kernel
theorem d_268_19 : m_dn M_268 19 (.bipush 9) 2 21 := by decide +kernel
theorem d_268_2 : m_dn M_268 2 (.putfield 155) 3 5 := by decide +kernel
theorem d_268_21 : m_dn M_268 21 (.iload_n 1) 1 22 := by decide +kernel
theorem d_268_22 : m_dn M_268 22 (.imul) 1 23 := by decide +kernel
theorem d_268_23 : m_dn M_268 23 (.iaload) 1 24 := by decide +kernel
theorem d_268_24 : m_dn M_268 24 (.ifCond .ne 5) 3 27 := by decide +kernel
theorem d_268_27 : m_dn M_268 27 (.iconst 0) 1 28 := by decide +kernel
theorem d_268_28 : m_dn M_268 28 (.ireturn) 1 29 := by decide +kernel
theorem d_268_29 : m_dn M_268 29 (.aload_n 0) 1 30 := by decide +kernel
theorem d_268_30 : m_dn M_268 30 (.getfield 29) 3 33 := by decide +kernel
theorem d_268_33 : m_dn M_268 33 (.bipush 9) 2 35 := by decide +kernel
theorem d_268_35 : m_dn M_268 35 (.iload_n 1) 1 36 := by decide +kernel
theorem d_268_36 : m_dn M_268 36 (.imul) 1 37 := by decide +kernel
theorem d_268_37 : m_dn M_268 37 (.iconst 0) 1 38 := by decide +kernel
theorem d_268_38 : m_dn M_268 38 (.iastore) 1 39 := by decide +kernel
theorem d_268_39 : m_dn M_268 39 (.iconst 1) 1 40 := by decide +kernel
theorem d_268_40 : m_dn M_268 40 (.ireturn) 1 41 := by decide +kernel
theorem d_268_5 : m_dn M_268 5 (.iload_n 1) 1 6 := by decide +kernel
theorem d_268_6 : m_dn M_268 6 (.ifCond .lt 21) 3 9 := by decide +kernel
theorem d_268_9 : m_dn M_268 9 (.iload_n 1) 1 10 := by decide +kernel
theorem d_270_0 : m_dn M_270 0 (.bipush 9) 2 2 := by decide +kernel
theorem d_270_10 : m_dn M_270 10 (.iload_n 1) 1 11 := by decide +kernel
theorem d_270_102 : m_dn M_270 102 (.iconst 0) 1 103 := by decide +kernel
theorem d_270_103 : m_dn M_270 103 (.iastore) 1 104 := by decide +kernel
theorem d_270_104 : m_dn M_270 104 (.aload_n 0) 1 105 := by decide +kernel
theorem d_270_105 : m_dn M_270 105 (.getfield 146) 3 108 := by decide +kernel
theorem d_270_108 : m_dn M_270 108 (.iload 5) 2 110 := by decide +kernel
theorem d_270_11 : m_dn M_270 11 (.iconst 0) 1 12 := by decide +kernel
theorem d_270_110 : m_dn M_270 110 (.iconst 4) 1 111 := by decide +kernel
theorem d_270_111 : m_dn M_270 111 (.iadd) 1 112 := by decide +kernel
theorem d_270_112 : m_dn M_270 112 (.iload 4) 2 114 := by decide +kernel
theorem d_270_114 : m_dn M_270 114 (.iconst 1) 1 115 := by decide +kernel
theorem d_270_115 : m_dn M_270 115 (.if_icmp .ne 7) 3 118 := by decide +kernel
theorem d_270_118 : m_dn M_270 118 (.iload_n 3) 1 119 := by decide +kernel
theorem d_270_119 : m_dn M_270 119 (.goto 4) 3 122 := by decide +kernel
theorem d_270_12 : m_dn M_270 12 (.bastore) 1 13 := by decide +kernel
theorem d_270_122 : m_dn M_270 122 (.iconst 0) 1 123 := by decide +kernel
theorem d_270_123 : m_dn M_270 123 (.iastore) 1 124 := by decide +kernel
theorem d_270_124 : m_dn M_270 124 (.aload_n 0) 1 125 := by decide +kernel
theorem d_270_125 : m_dn M_270 125 (.getfield 146) 3 128 := by decide +kernel
theorem d_270_128 : m_dn M_270 128 (.iload 5) 2 130 := by decide +kernel
theorem d_270_13 : m_dn M_270 13 (.aload_n 0) 1 14 := by decide +kernel
theorem d_270_130 : m_dn M_270 130 (.iconst 5) 1 131 := by decide +kernel
theorem d_270_131 : m_dn M_270 131 (.iadd) 1 132 := by decide +kernel
theorem d_270_132 : m_dn M_270 132 (.aload_n 0) 1 133 := by decide +kernel
theorem d_270_133 : m_dn M_270 133 (.getfield 390) 3 136 := by decide +kernel
theorem d_270_136 : m_dn M_270 136 (.iastore) 1 137 := by decide +kernel
theorem d_270_137 : m_dn M_270 137 (.aload_n 0) 1 138 := by decide +kernel
theorem d_270_138 : m_dn M_270 138 (.getfield 146) 3 141 := by decide +kernel
theorem d_270_14 : m_dn M_270 14 (.dup) 1 15 := by decide +kernel
theorem d_270_141 : m_dn M_270 141 (.iload 5) 2 143 := by decide +kernel
theorem d_270_143 : m_dn M_270 143 (.bipush 7) 2 145 := by decide +kernel
theorem d_270_145 : m_dn M_270 145 (.iadd) 1 146 := by decide +kernel
theorem d_270_146 : m_dn M_270 146 (.iload 4) 2 148 := by decide +kernel
theorem d_270_148 : m_dn M_270 148 (.iconst 1) 1 149 := by decide +kernel
theorem d_270_149 : m_dn M_270 149 (.if_icmp .ne 10) 3 152 := by decide +kernel
theorem d_270_15 : m_dn M_270 15 (.getfield 563) 3 18 := by decide +kernel
theorem d_270_152 : m_dn M_270 152 (.aload_n 0) 1 153 := by decide +kernel
theorem d_270_153 : m_dn M_270 153 (.getfield 542) 3 156 := by decide +kernel
theorem d_270_156 : m_dn M_270 156 (.goto 4) 3 159 := by decide +kernel
theorem d_270_159 : m_dn M_270 159 (.iconst 0) 1 160 := by decide +kernel
theorem d_270_160 : m_dn M_270 160 (.iastore) 1 161 := by decide +kernel
theorem d_270_161 : m_dn M_270 161 (.aload_n 0) 1 162 := by decide +kernel
theorem d_270_162 : m_dn M_270 162 (.getfield 146) 3 165 := by decide +kernel
theorem d_270_165 : m_dn M_270 165 (.iload 5) 2 167 := by decide +kernel
theorem d_270_167 : m_dn M_270 167 (.bipush 8) 2 169 := by decide +kernel
theorem d_270_169 : m_dn M_270 169 (.iadd) 1 170 := by decide +kernel
theorem d_270_170 : m_dn M_270 170 (.iload 4) 2 172 := by decide +kernel
theorem d_270_172 : m_dn M_270 172 (.iconst 1) 1 173 := by decide +kernel
theorem d_270_173 : m_dn M_270 173 (.if_icmp .ne 13) 3 176 := by decide +kernel
theorem d_270_176 : m_dn M_270 176 (.aload_n 0) 1 177 := by decide +kernel
theorem d_270_177 : m_dn M_270 177 (.getfield 143) 3 180 := by decide +kernel
theorem d_270_18 : m_dn M_270 18 (.iconst 1) 1 19 := by decide +kernel
theorem d_270_180 : m_dn M_270 180 (.bipush 8) 2 182 := by decide +kernel
theorem d_270_182 : m_dn M_270 182 (.iaload) 1 183 := by decide +kernel
theorem d_270_183 : m_dn M_270 183 (.goto 4) 3 186 := by decide +kernel
theorem d_270_186 : m_dn M_270 186 (.iconst 0) 1 187 := by decide +kernel
theorem d_270_187 : m_dn M_270 187 (.iastore) 1 188 := by decide +kernel
theorem d_270_188 : m_dn M_270 188 (.return_) 1 189 := by decide +kernel
theorem d_270_19 : m_dn M_270 19 (.iadd) 1 20 := by decide +kernel
theorem d_270_2 : m_dn M_270 2 (.iload_n 1) 1 3 := by decide +kernel
theorem d_270_20 : m_dn M_270 20 (.putfield 563) 3 23 := by decide +kernel
theorem d_270_23 : m_dn M_270 23 (.aload_n 0) 1 24 := by decide +kernel
theorem d_270_24 : m_dn M_270 24 (.getfield 146) 3 27 := by decide +kernel
theorem d_270_27 : m_dn M_270 27 (.iload 5) 2 29 := by decide +kernel
theorem d_270_29 : m_dn M_270 29 (.iload_n 2) 1 30 := by decide +kernel
theorem d_270_3 : m_dn M_270 3 (.imul) 1 4 := by decide +kernel
theorem d_270_30 : m_dn M_270 30 (.iastore) 1 31 := by decide +kernel
theorem d_270_31 : m_dn M_270 31 (.aload_n 0) 1 32 := by decide +kernel
theorem d_270_32 : m_dn M_270 32 (.getfield 146) 3 35 := by decide +kernel
theorem d_270_35 : m_dn M_270 35 (.iload 5) 2 37 := by decide +kernel
theorem d_270_37 : m_dn M_270 37 (.iconst 1) 1 38 := by decide +kernel
theorem d_270_38 : m_dn M_270 38 (.iadd) 1 39 := by decide +kernel
theorem d_270_39 : m_dn M_270 39 (.iload 4) 2 41 := by decide +kernel
theorem d_270_4 : m_dn M_270 4 (.istore 5) 2 6 := by decide +kernel
theorem d_270_41 : m_dn M_270 41 (.iconst 1) 1 42 := by decide +kernel
theorem d_270_42 : m_dn M_270 42 (.if_icmp .ne 12) 3 45 := by decide +kernel
theorem d_270_45 : m_dn M_270 45 (.aload_n 0) 1 46 := by decide +kernel
theorem d_270_46 : m_dn M_270 46 (.getfield 143) 3 49 := by decide +kernel
theorem d_270_49 : m_dn M_270 49 (.iconst 0) 1 50 := by decide +kernel
theorem d_270_50 : m_dn M_270 50 (.iaload) 1 51 := by decide +kernel
theorem d_270_51 : m_dn M_270 51 (.goto 4) 3 54 := by decide +kernel
theorem d_270_54 : m_dn M_270 54 (.iconst 0) 1 55 := by decide +kernel
theorem d_270_55 : m_dn M_270 55 (.iastore) 1 56 := by decide +kernel
theorem d_270_56 : m_dn M_270 56 (.aload_n 0) 1 57 := by decide +kernel
theorem d_270_57 : m_dn M_270 57 (.getfield 146) 3 60 := by decide +kernel
theorem d_270_6 : m_dn M_270 6 (.aload_n 0) 1 7 := by decide +kernel
theorem d_270_60 : m_dn M_270 60 (.iload 5) 2 62 := by decide +kernel
theorem d_270_62 : m_dn M_270 62 (.iconst 2) 1 63 := by decide +kernel
theorem d_270_63 : m_dn M_270 63 (.iadd) 1 64 := by decide +kernel
theorem d_270_64 : m_dn M_270 64 (.iload 4) 2 66 := by decide +kernel
theorem d_270_66 : m_dn M_270 66 (.iconst 1) 1 67 := by decide +kernel
theorem d_270_67 : m_dn M_270 67 (.if_icmp .ne 10) 3 70 := by decide +kernel
theorem d_270_7 : m_dn M_270 7 (.getfield 127) 3 10 := by decide +kernel
theorem d_270_70 : m_dn M_270 70 (.aload_n 0) 1 71 := by decide +kernel
theorem d_270_71 : m_dn M_270 71 (.getfield 548) 3 74 := by decide +kernel
theorem d_270_74 : m_dn M_270 74 (.goto 4) 3 77 := by decide +kernel
theorem d_270_77 : m_dn M_270 77 (.iconst 0) 1 78 := by decide +kernel
theorem d_270_78 : m_dn M_270 78 (.iastore) 1 79 := by decide +kernel
theorem d_270_79 : m_dn M_270 79 (.aload_n 0) 1 80 := by decide +kernel
theorem d_270_80 : m_dn M_270 80 (.getfield 146) 3 83 := by decide +kernel
theorem d_270_83 : m_dn M_270 83 (.iload 5) 2 85 := by decide +kernel
theorem d_270_85 : m_dn M_270 85 (.iconst 3) 1 86 := by decide +kernel
theorem d_270_86 : m_dn M_270 86 (.iadd) 1 87 := by decide +kernel
theorem d_270_87 : m_dn M_270 87 (.iload 4) 2 89 := by decide +kernel
theorem d_270_89 : m_dn M_270 89 (.iconst 1) 1 90 := by decide +kernel
theorem d_270_90 : m_dn M_270 90 (.if_icmp .ne 12) 3 93 := by decide +kernel
theorem d_270_93 : m_dn M_270 93 (.aload_n 0) 1 94 := by decide +kernel
theorem d_270_94 : m_dn M_270 94 (.getfield 143) 3 97 := by decide +kernel
theorem d_270_97 : m_dn M_270 97 (.iconst 1) 1 98 := by decide +kernel
theorem d_270_98 : m_dn M_270 98 (.iaload) 1 99 := by decide +kernel
theorem d_270_99 : m_dn M_270 99 (.goto 4) 3 102 := by decide +kernel
theorem d_271_0 : m_dn M_271 0 (.iconst 0) 1 1 := by decide +kernel
theorem d_271_1 : m_dn M_271 1 (.istore_n 1) 1 2 := by decide +kernel
theorem d_271_10 : m_dn M_271 10 (.getfield 17) 3 13 := by decide +kernel
theorem d_271_13 : m_dn M_271 13 (.iload_n 2) 1 14 := by decide +kernel
theorem d_271_14 : m_dn M_271 14 (.iaload) 1 15 := by decide +kernel
theorem d_271_15 : m_dn M_271 15 (.aload_n 0) 1 16 := by decide +kernel
theorem d_271_16 : m_dn M_271 16 (.getfield 17) 3 19 := by decide +kernel
theorem d_271_19 : m_dn M_271 19 (.iload_n 1) 1 20 := by decide +kernel
theorem d_271_2 : m_dn M_271 2 (.iconst 1) 1 3 := by decide +kernel
theorem d_271_20 : m_dn M_271 20 (.iaload) 1 21 := by decide +kernel
theorem d_271_21 : m_dn M_271 21 (.if_icmp .le 7) 3 24 := by decide +kernel
theorem d_271_24 : m_dn M_271 24 (.iload_n 2) 1 25 := by decide +kernel
theorem d_271_25 : m_dn M_271 25 (.goto 4) 3 28 := by decide +kernel
theorem d_271_28 : m_dn M_271 28 (.iload_n 1) 1 29 := by decide +kernel
theorem d_271_29 : m_dn M_271 29 (.istore_n 1) 1 30 := by decide +kernel
theorem d_271_3 : m_dn M_271 3 (.istore_n 2) 1 4 := by decide +kernel
theorem d_271_30 : m_dn M_271 30 (.iinc 2 1) 3 33 := by decide +kernel
theorem d_271_33 : m_dn M_271 33 (.goto (-29)) 3 36 := by decide +kernel
theorem d_271_36 : m_dn M_271 36 (.aload_n 0) 1 37 := by decide +kernel
theorem d_271_37 : m_dn M_271 37 (.getfield 17) 3 40 := by decide +kernel
theorem d_271_4 : m_dn M_271 4 (.iload_n 2) 1 5 := by decide +kernel
theorem d_271_40 : m_dn M_271 40 (.iload_n 1) 1 41 := by decide +kernel
theorem d_271_41 : m_dn M_271 41 (.iaload) 1 42 := by decide +kernel
theorem d_271_42 : m_dn M_271 42 (.ifCond .le 7) 3 45 := by decide +kernel
theorem d_271_45 : m_dn M_271 45 (.iload_n 1) 1 46 := by decide +kernel
theorem d_271_46 : m_dn M_271 46 (.goto 4) 3 49 := by decide +kernel
theorem d_271_49 : m_dn M_271 49 (.iconst 0) 1 50 := by decide +kernel
theorem d_271_5 : m_dn M_271 5 (.iconst 4) 1 6 := by decide +kernel
theorem d_271_50 : m_dn M_271 50 (.aload_n 0) 1 51 := by decide +kernel
theorem d_271_51 : m_dn M_271 51 (.getfield 17) 3 54 := by decide +kernel
theorem d_271_54 : m_dn M_271 54 (.iconst 4) 1 55 := by decide +kernel
theorem d_271_55 : m_dn M_271 55 (.iaload) 1 56 := by decide +kernel
theorem d_271_56 : m_dn M_271 56 (.ifCond .le 7) 3 59 := by decide +kernel
theorem d_271_59 : m_dn M_271 59 (.iconst 4) 1 60 := by decide +kernel
theorem d_271_6 : m_dn M_271 6 (.if_icmp .ge 30) 3 9 := by decide +kernel
theorem d_271_60 : m_dn M_271 60 (.goto 4) 3 63 := by decide +kernel
theorem d_271_63 : m_dn M_271 63 (.iconst 0) 1 64 := by decide +kernel
theorem d_271_64 : m_dn M_271 64 (.iadd) 1 65 := by decide +kernel
theorem d_271_65 : m_dn M_271 65 (.ireturn) 1 66 := by decide +kernel
theorem d_271_9 : m_dn M_271 9 (.aload_n 0) 1 10 := by decide +kernel
theorem d_272_0 : m_dn M_272 0 (.bipush 64) 2 2 := by decide +kernel
theorem d_272_100 : m_dn M_272 100 (.lload 12) 2 102 := by decide +kernel
theorem d_272_102 : m_dn M_272 102 (.lload 7) 2 104 := by decide +kernel
theorem d_272_104 : m_dn M_272 104 (.lcmp) 1 105 := by decide +kernel
theorem d_272_105 : m_dn M_272 105 (.ifCond .ge 11) 3 108 := by decide +kernel
theorem d_272_108 : m_dn M_272 108 (.lload 12) 2 110 := by decide +kernel
theorem d_272_110 : m_dn M_272 110 (.lstore 7) 2 112 := by decide +kernel
theorem d_272_112 : m_dn M_272 112 (.iload 9) 2 114 := by decide +kernel
theorem d_272_114 : m_dn M_272 114 (.istore 6) 2 116 := by decide +kernel
theorem d_272_116 : m_dn M_272 116 (.iinc 10 1) 3 119 := by decide +kernel
theorem d_272_119 : m_dn M_272 119 (.goto (-56)) 3 122 := by decide +kernel
theorem d_272_12 : m_dn M_272 12 (.istore 5) 2 14 := by decide +kernel
theorem d_272_122 : m_dn M_272 122 (.iinc 9 1) 3 125 := by decide +kernel
theorem d_272_125 : m_dn M_272 125 (.goto (-100)) 3 128 := by decide +kernel
theorem d_272_128 : m_dn M_272 128 (.iload 6) 2 130 := by decide +kernel
theorem d_272_130 : m_dn M_272 130 (.ireturn) 1 131 := by decide +kernel
theorem d_272_14 : m_dn M_272 14 (.iconst (-1)) 1 15 := by decide +kernel
theorem d_272_15 : m_dn M_272 15 (.istore 6) 2 17 := by decide +kernel
theorem d_272_17 : m_dn M_272 17 (.ldc2_w 399) 3 20 := by decide +kernel
theorem d_272_2 : m_dn M_272 2 (.iload_n 3) 1 3 := by decide +kernel
theorem d_272_20 : m_dn M_272 20 (.lstore 7) 2 22 := by decide +kernel
theorem d_272_22 : m_dn M_272 22 (.iload_n 1) 1 23 := by decide +kernel
theorem d_272_23 : m_dn M_272 23 (.istore 9) 2 25 := by decide +kernel
theorem d_272_25 : m_dn M_272 25 (.iload 9) 2 27 := by decide +kernel
theorem d_272_27 : m_dn M_272 27 (.iload_n 2) 1 28 := by decide +kernel
theorem d_272_28 : m_dn M_272 28 (.if_icmp .gt 100) 3 31 := by decide +kernel
theorem d_272_3 : m_dn M_272 3 (.iconst 4) 1 4 := by decide +kernel
theorem d_272_31 : m_dn M_272 31 (.aload_n 0) 1 32 := by decide +kernel
theorem d_272_32 : m_dn M_272 32 (.getfield 35) 3 35 := by decide +kernel
theorem d_272_35 : m_dn M_272 35 (.iload 9) 2 37 := by decide +kernel
theorem d_272_37 : m_dn M_272 37 (.baload) 1 38 := by decide +kernel
theorem d_272_38 : m_dn M_272 38 (.ifCond .eq 84) 3 41 := by decide +kernel
theorem d_272_4 : m_dn M_272 4 (.idiv) 1 5 := by decide +kernel
theorem d_272_41 : m_dn M_272 41 (.iload 4) 2 43 := by decide +kernel
theorem d_272_43 : m_dn M_272 43 (.ifCond .le 17) 3 46 := by decide +kernel
theorem d_272_46 : m_dn M_272 46 (.aload_n 0) 1 47 := by decide +kernel
theorem d_272_47 : m_dn M_272 47 (.iload 4) 2 49 := by decide +kernel
theorem d_272_49 : m_dn M_272 49 (.iload 9) 2 51 := by decide +kernel
theorem d_272_5 : m_dn M_272 5 (.iadd) 1 6 := by decide +kernel
theorem d_272_51 : m_dn M_272 51 (.invokevirtual 401) 3 54 := by decide +kernel
theorem d_272_54 : m_dn M_272 54 (.ifCond .eq 6) 3 57 := by decide +kernel
theorem d_272_57 : m_dn M_272 57 (.goto 65) 3 60 := by decide +kernel
theorem d_272_6 : m_dn M_272 6 (.iload_n 3) 1 7 := by decide +kernel
theorem d_272_60 : m_dn M_272 60 (.iconst 0) 1 61 := by decide +kernel
theorem d_272_61 : m_dn M_272 61 (.istore 10) 2 63 := by decide +kernel
theorem d_272_63 : m_dn M_272 63 (.iload 10) 2 65 := by decide +kernel
theorem d_272_65 : m_dn M_272 65 (.iconst 4) 1 66 := by decide +kernel
theorem d_272_66 : m_dn M_272 66 (.if_icmp .ge 56) 3 69 := by decide +kernel
theorem d_272_69 : m_dn M_272 69 (.iload 9) 2 71 := by decide +kernel
theorem d_272_7 : m_dn M_272 7 (.iconst 4) 1 8 := by decide +kernel
theorem d_272_71 : m_dn M_272 71 (.iload 10) 2 73 := by decide +kernel
theorem d_272_73 : m_dn M_272 73 (.invokestatic 393) 3 76 := by decide +kernel
theorem d_272_76 : m_dn M_272 76 (.istore 11) 2 78 := by decide +kernel
theorem d_272_78 : m_dn M_272 78 (.iload 11) 2 80 := by decide +kernel
theorem d_272_8 : m_dn M_272 8 (.irem) 1 9 := by decide +kernel
theorem d_272_80 : m_dn M_272 80 (.iload 5) 2 82 := by decide +kernel
theorem d_272_82 : m_dn M_272 82 (.if_icmp .lt 9) 3 85 := by decide +kernel
theorem d_272_85 : m_dn M_272 85 (.iload 11) 2 87 := by decide +kernel
theorem d_272_87 : m_dn M_272 87 (.i2l) 1 88 := by decide +kernel
theorem d_272_88 : m_dn M_272 88 (.goto 10) 3 91 := by decide +kernel
theorem d_272_9 : m_dn M_272 9 (.invokestatic 393) 3 12 := by decide +kernel
theorem d_272_91 : m_dn M_272 91 (.iload 11) 2 93 := by decide +kernel
theorem d_272_93 : m_dn M_272 93 (.i2l) 1 94 := by decide +kernel
theorem d_272_94 : m_dn M_272 94 (.ldc2_w 405) 3 97 := by decide +kernel
theorem d_272_97 : m_dn M_272 97 (.ladd) 1 98 := by decide +kernel
theorem d_272_98 : m_dn M_272 98 (.lstore 12) 2 100 := by decide +kernel
theorem d_273_0 : m_dn M_273 0 (.iload_n 0) 1 1 := by decide +kernel
theorem d_273_1 : m_dn M_273 1 (.ldc_w 387) 3 4 := by decide +kernel
theorem d_273_10 : m_dn M_273 10 (.iadd) 1 11 := by decide +kernel
theorem d_273_11 : m_dn M_273 11 (.istore_n 2) 1 12 := by decide +kernel
theorem d_273_12 : m_dn M_273 12 (.iload_n 2) 1 13 := by decide +kernel
theorem d_273_13 : m_dn M_273 13 (.iload_n 2) 1 14 := by decide +kernel
theorem d_273_14 : m_dn M_273 14 (.bipush 15) 2 16 := by decide +kernel
theorem d_273_16 : m_dn M_273 16 (.iushr) 1 17 := by decide +kernel
theorem d_273_17 : m_dn M_273 17 (.ixor) 1 18 := by decide +kernel
theorem d_273_18 : m_dn M_273 18 (.istore_n 2) 1 19 := by decide +kernel
theorem d_273_19 : m_dn M_273 19 (.iload_n 2) 1 20 := by decide +kernel
theorem d_273_20 : m_dn M_273 20 (.ldc_w 389) 3 23 := by decide +kernel
theorem d_273_23 : m_dn M_273 23 (.imul) 1 24 := by decide +kernel
theorem d_273_24 : m_dn M_273 24 (.istore_n 2) 1 25 := by decide +kernel
theorem d_273_25 : m_dn M_273 25 (.iload_n 2) 1 26 := by decide +kernel
theorem d_273_26 : m_dn M_273 26 (.iload_n 2) 1 27 := by decide +kernel
theorem d_273_27 : m_dn M_273 27 (.bipush 12) 2 29 := by decide +kernel
theorem d_273_29 : m_dn M_273 29 (.iushr) 1 30 := by decide +kernel
theorem d_273_30 : m_dn M_273 30 (.ixor) 1 31 := by decide +kernel
theorem d_273_31 : m_dn M_273 31 (.istore_n 2) 1 32 := by decide +kernel
theorem d_273_32 : m_dn M_273 32 (.iload_n 2) 1 33 := by decide +kernel
theorem d_273_33 : m_dn M_273 33 (.bipush 16) 2 35 := by decide +kernel
theorem d_273_35 : m_dn M_273 35 (.iushr) 1 36 := by decide +kernel
theorem d_273_36 : m_dn M_273 36 (.ireturn) 1 37 := by decide +kernel
theorem d_273_4 : m_dn M_273 4 (.imul) 1 5 := by decide +kernel
theorem d_273_5 : m_dn M_273 5 (.iload_n 1) 1 6 := by decide +kernel
theorem d_273_6 : m_dn M_273 6 (.ldc_w 388) 3 9 := by decide +kernel
theorem d_273_9 : m_dn M_273 9 (.imul) 1 10 := by decide +kernel
theorem d_274_0 : m_dn M_274 0 (.aload_n 0) 1 1 := by decide +kernel
theorem d_274_1 : m_dn M_274 1 (.getfield 390) 3 4 := by decide +kernel
theorem d_274_10 : m_dn M_274 10 (.imul) 1 11 := by decide +kernel
theorem d_274_11 : m_dn M_274 11 (.iload_n 2) 1 12 := by decide +kernel
theorem d_274_12 : m_dn M_274 12 (.iadd) 1 13 := by decide +kernel
theorem d_274_13 : m_dn M_274 13 (.iconst 1) 1 14 := by decide +kernel
theorem d_274_14 : m_dn M_274 14 (.isub) 1 15 := by decide +kernel
theorem d_274_15 : m_dn M_274 15 (.iaload) 1 16 := by decide +kernel
theorem d_274_16 : m_dn M_274 16 (.if_icmp .ge 7) 3 19 := by decide +kernel
theorem d_274_19 : m_dn M_274 19 (.iconst 1) 1 20 := by decide +kernel
theorem d_274_20 : m_dn M_274 20 (.goto 4) 3 23 := by decide +kernel
theorem d_274_23 : m_dn M_274 23 (.iconst 0) 1 24 := by decide +kernel
theorem d_274_24 : m_dn M_274 24 (.ireturn) 1 25 := by decide +kernel
theorem d_274_4 : m_dn M_274 4 (.aload_n 0) 1 5 := by decide +kernel
theorem d_274_5 : m_dn M_274 5 (.getfield 121) 3 8 := by decide +kernel
theorem d_274_8 : m_dn M_274 8 (.iconst 2) 1 9 := by decide +kernel
theorem d_274_9 : m_dn M_274 9 (.iload_n 1) 1 10 := by decide +kernel
theorem d_275_0 : m_dn M_275 0 (.bipush 12) 2 2 := by decide +kernel
theorem d_275_2 : m_dn M_275 2 (.aload_n 0) 1 3 := by decide +kernel
theorem d_275_3 : m_dn M_275 3 (.getfield 507) 3 6 := by decide +kernel
theorem d_275_6 : m_dn M_275 6 (.iconst 1) 1 7 := by decide +kernel
theorem d_275_7 : m_dn M_275 7 (.iadd) 1 8 := by decide +kernel
theorem d_275_8 : m_dn M_275 8 (.imul) 1 9 := by decide +kernel
theorem d_275_9 : m_dn M_275 9 (.ireturn) 1 10 := by decide +kernel
theorem d_277_0 : m_dn M_277 0 (.iconst 0) 1 1 := by decide +kernel
theorem d_277_1 : m_dn M_277 1 (.istore_n 3) 1 2 := by decide +kernel
theorem d_277_12 : m_dn M_277 12 (.bipush 8) 2 14 := by decide +kernel
theorem d_277_14 : m_dn M_277 14 (.iload_n 1) 1 15 := by decide +kernel
theorem d_277_15 : m_dn M_277 15 (.imul) 1 16 := by decide +kernel
theorem d_277_16 : m_dn M_277 16 (.iload_n 3) 1 17 := by decide +kernel
theorem d_277_17 : m_dn M_277 17 (.iadd) 1 18 := by decide +kernel
theorem d_277_18 : m_dn M_277 18 (.baload) 1 19 := by decide +kernel
theorem d_277_19 : m_dn M_277 19 (.ifCond .eq 30) 3 22 := by decide +kernel
theorem d_277_2 : m_dn M_277 2 (.iload_n 3) 1 3 := by decide +kernel
theorem d_277_22 : m_dn M_277 22 (.aload_n 0) 1 23 := by decide +kernel
theorem d_277_23 : m_dn M_277 23 (.bipush 8) 2 25 := by decide +kernel
theorem d_277_25 : m_dn M_277 25 (.iload_n 1) 1 26 := by decide +kernel
theorem d_277_26 : m_dn M_277 26 (.imul) 1 27 := by decide +kernel
theorem d_277_27 : m_dn M_277 27 (.iload_n 3) 1 28 := by decide +kernel
theorem d_277_28 : m_dn M_277 28 (.iadd) 1 29 := by decide +kernel
theorem d_277_29 : m_dn M_277 29 (.bipush 8) 2 31 := by decide +kernel
theorem d_277_3 : m_dn M_277 3 (.bipush 8) 2 5 := by decide +kernel
theorem d_277_31 : m_dn M_277 31 (.invokevirtual 431) 3 34 := by decide +kernel
theorem d_277_34 : m_dn M_277 34 (.iload_n 2) 1 35 := by decide +kernel
theorem d_277_35 : m_dn M_277 35 (.invokestatic 433) 3 38 := by decide +kernel
theorem d_277_38 : m_dn M_277 38 (.iload_n 3) 1 39 := by decide +kernel
theorem d_277_39 : m_dn M_277 39 (.if_icmp .ne 10) 3 42 := by decide +kernel
theorem d_277_42 : m_dn M_277 42 (.bipush 8) 2 44 := by decide +kernel
theorem d_277_44 : m_dn M_277 44 (.iload_n 1) 1 45 := by decide +kernel
theorem d_277_45 : m_dn M_277 45 (.imul) 1 46 := by decide +kernel
theorem d_277_46 : m_dn M_277 46 (.iload_n 3) 1 47 := by decide +kernel
theorem d_277_47 : m_dn M_277 47 (.iadd) 1 48 := by decide +kernel
theorem d_277_48 : m_dn M_277 48 (.ireturn) 1 49 := by decide +kernel
theorem d_277_49 : m_dn M_277 49 (.iinc 3 1) 3 52 := by decide +kernel
theorem d_277_5 : m_dn M_277 5 (.if_icmp .ge 50) 3 8 := by decide +kernel
theorem d_277_52 : m_dn M_277 52 (.goto (-50)) 3 55 := by decide +kernel
theorem d_277_55 : m_dn M_277 55 (.iconst (-1)) 1 56 := by decide +kernel
theorem d_277_56 : m_dn M_277 56 (.ireturn) 1 57 := by decide +kernel
theorem d_277_8 : m_dn M_277 8 (.aload_n 0) 1 9 := by decide +kernel
theorem d_277_9 : m_dn M_277 9 (.getfield 66) 3 12 := by decide +kernel
theorem d_278_0 : m_dn M_278 0 (.aload_n 0) 1 1 := by decide +kernel
theorem d_278_1 : m_dn M_278 1 (.getfield 73) 3 4 := by decide +kernel
theorem d_278_10 : m_dn M_278 10 (.iaload) 1 11 := by decide +kernel
theorem d_278_11 : m_dn M_278 11 (.ireturn) 1 12 := by decide +kernel
theorem d_278_4 : m_dn M_278 4 (.bipush 9) 2 6 := by decide +kernel
theorem d_278_6 : m_dn M_278 6 (.iload_n 1) 1 7 := by decide +kernel
theorem d_278_7 : m_dn M_278 7 (.imul) 1 8 := by decide +kernel
theorem d_278_8 : m_dn M_278 8 (.iload_n 2) 1 9 := by decide +kernel
theorem d_278_9 : m_dn M_278 9 (.iadd) 1 10 := by decide +kernel
theorem d_279_0 : m_dn M_279 0 (.iload_n 0) 1 1 := by decide +kernel
theorem d_279_1 : m_dn M_279 1 (.iconst 1) 1 2 := by decide +kernel
theorem d_279_10 : m_dn M_279 10 (.goto 4) 3 13 := by decide +kernel
theorem d_279_13 : m_dn M_279 13 (.iconst 0) 1 14 := by decide +kernel
theorem d_279_14 : m_dn M_279 14 (.iload_n 0) 1 15 := by decide +kernel
theorem d_279_15 : m_dn M_279 15 (.iconst 2) 1 16 := by decide +kernel
theorem d_279_16 : m_dn M_279 16 (.iand) 1 17 := by decide +kernel
theorem d_279_17 : m_dn M_279 17 (.iconst 2) 1 18 := by decide +kernel
theorem d_279_18 : m_dn M_279 18 (.if_icmp .ne 9) 3 21 := by decide +kernel
theorem d_279_2 : m_dn M_279 2 (.iand) 1 3 := by decide +kernel
theorem d_279_21 : m_dn M_279 21 (.iload_n 1) 1 22 := by decide +kernel
theorem d_279_22 : m_dn M_279 22 (.iconst 4) 1 23 := by decide +kernel
theorem d_279_23 : m_dn M_279 23 (.iand) 1 24 := by decide +kernel
theorem d_279_24 : m_dn M_279 24 (.goto 4) 3 27 := by decide +kernel
theorem d_279_27 : m_dn M_279 27 (.iconst 0) 1 28 := by decide +kernel
theorem d_279_28 : m_dn M_279 28 (.iadd) 1 29 := by decide +kernel
theorem d_279_29 : m_dn M_279 29 (.ireturn) 1 30 := by decide +kernel
theorem d_279_3 : m_dn M_279 3 (.iconst 1) 1 4 := by decide +kernel
theorem d_279_4 : m_dn M_279 4 (.if_icmp .ne 9) 3 7 := by decide +kernel
theorem d_279_7 : m_dn M_279 7 (.iload_n 1) 1 8 := by decide +kernel
theorem d_279_8 : m_dn M_279 8 (.iconst 3) 1 9 := by decide +kernel
theorem d_279_9 : m_dn M_279 9 (.iand) 1 10 := by decide +kernel
theorem d_280_0 : m_dn M_280 0 (.iload_n 2) 1 1 := by decide +kernel
theorem d_280_1 : m_dn M_280 1 (.iconst (-1)) 1 2 := by decide +kernel
theorem d_280_10 : m_dn M_280 10 (.iaload) 1 11 := by decide +kernel
theorem d_280_11 : m_dn M_280 11 (.aload_n 0) 1 12 := by decide +kernel
theorem d_280_12 : m_dn M_280 12 (.getfield 131) 3 15 := by decide +kernel
theorem d_280_15 : m_dn M_280 15 (.iload_n 1) 1 16 := by decide +kernel
theorem d_280_16 : m_dn M_280 16 (.bipush 7) 2 18 := by decide +kernel
theorem d_280_18 : m_dn M_280 18 (.iadd) 1 19 := by decide +kernel
theorem d_280_19 : m_dn M_280 19 (.iaload) 1 20 := by decide +kernel
theorem d_280_2 : m_dn M_280 2 (.if_icmp .eq 25) 3 5 := by decide +kernel
theorem d_280_20 : m_dn M_280 20 (.if_icmp .lt 7) 3 23 := by decide +kernel
theorem d_280_23 : m_dn M_280 23 (.iconst 1) 1 24 := by decide +kernel
theorem d_280_24 : m_dn M_280 24 (.goto 4) 3 27 := by decide +kernel
theorem d_280_27 : m_dn M_280 27 (.iconst 0) 1 28 := by decide +kernel
theorem d_280_28 : m_dn M_280 28 (.ireturn) 1 29 := by decide +kernel
theorem d_280_5 : m_dn M_280 5 (.aload_n 0) 1 6 := by decide +kernel
theorem d_280_6 : m_dn M_280 6 (.getfield 76) 3 9 := by decide +kernel
theorem d_280_9 : m_dn M_280 9 (.iload_n 2) 1 10 := by decide +kernel
theorem d_281_0 : m_dn M_281 0 (.aload_n 0) 1 1 := by decide +kernel
theorem d_281_1 : m_dn M_281 1 (.getfield 131) 3 4 := by decide +kernel
theorem d_281_10 : m_dn M_281 10 (.if_icmp .eq 33) 3 13 := by decide +kernel
theorem d_281_13 : m_dn M_281 13 (.aload_n 0) 1 14 := by decide +kernel
theorem d_281_14 : m_dn M_281 14 (.getfield 131) 3 17 := by decide +kernel
theorem d_281_17 : m_dn M_281 17 (.iload_n 1) 1 18 := by decide +kernel
theorem d_281_18 : m_dn M_281 18 (.iconst 2) 1 19 := by decide +kernel
theorem d_281_19 : m_dn M_281 19 (.iadd) 1 20 := by decide +kernel
theorem d_281_20 : m_dn M_281 20 (.iaload) 1 21 := by decide +kernel
theorem d_281_21 : m_dn M_281 21 (.iconst (-1)) 1 22 := by decide +kernel
theorem d_281_22 : m_dn M_281 22 (.if_icmp .eq 25) 3 25 := by decide +kernel
theorem d_281_25 : m_dn M_281 25 (.aload_n 0) 1 26 := by decide +kernel
theorem d_281_26 : m_dn M_281 26 (.aload_n 0) 1 27 := by decide +kernel
theorem d_281_27 : m_dn M_281 27 (.getfield 131) 3 30 := by decide +kernel
theorem d_281_30 : m_dn M_281 30 (.iload_n 1) 1 31 := by decide +kernel
theorem d_281_31 : m_dn M_281 31 (.iconst 2) 1 32 := by decide +kernel
theorem d_281_32 : m_dn M_281 32 (.iadd) 1 33 := by decide +kernel
theorem d_281_33 : m_dn M_281 33 (.iaload) 1 34 := by decide +kernel
theorem d_281_34 : m_dn M_281 34 (.bipush 16) 2 36 := by decide +kernel
theorem d_281_36 : m_dn M_281 36 (.invokevirtual 436) 3 39 := by decide +kernel
theorem d_281_39 : m_dn M_281 39 (.iconst 1) 1 40 := by decide +kernel
theorem d_281_4 : m_dn M_281 4 (.iload_n 1) 1 5 := by decide +kernel
theorem d_281_40 : m_dn M_281 40 (.if_icmp .ne 7) 3 43 := by decide +kernel
theorem d_281_43 : m_dn M_281 43 (.iconst 1) 1 44 := by decide +kernel
theorem d_281_44 : m_dn M_281 44 (.goto 4) 3 47 := by decide +kernel
theorem d_281_47 : m_dn M_281 47 (.iconst 0) 1 48 := by decide +kernel
theorem d_281_48 : m_dn M_281 48 (.ireturn) 1 49 := by decide +kernel
theorem d_281_5 : m_dn M_281 5 (.bipush 8) 2 7 := by decide +kernel
theorem d_281_7 : m_dn M_281 7 (.iadd) 1 8 := by decide +kernel
theorem d_281_8 : m_dn M_281 8 (.iaload) 1 9 := by decide +kernel
theorem d_281_9 : m_dn M_281 9 (.iconst 1) 1 10 := by decide +kernel
theorem d_282_0 : m_dn M_282 0 (.aload_n 0) 1 1 := by decide +kernel
theorem d_282_1 : m_dn M_282 1 (.getfield 124) 3 4 := by decide +kernel
theorem d_282_10 : m_dn M_282 10 (.iaload) 1 11 := by decide +kernel
theorem d_282_11 : m_dn M_282 11 (.ireturn) 1 12 := by decide +kernel
theorem d_282_4 : m_dn M_282 4 (.bipush 23) 2 6 := by decide +kernel
theorem d_282_6 : m_dn M_282 6 (.iload_n 1) 1 7 := by decide +kernel
theorem d_282_7 : m_dn M_282 7 (.imul) 1 8 := by decide +kernel
theorem d_282_8 : m_dn M_282 8 (.iload_n 2) 1 9 := by decide +kernel
theorem d_282_9 : m_dn M_282 9 (.iadd) 1 10 := by decide +kernel
theorem d_284_0 : m_dn M_284 0 (.bipush 8) 2 2 := by decide +kernel
theorem d_284_10 : m_dn M_284 10 (.bipush 8) 2 12 := by decide +kernel
theorem d_284_12 : m_dn M_284 12 (.irem) 1 13 := by decide +kernel
theorem d_284_13 : m_dn M_284 13 (.iadd) 1 14 := by decide +kernel
theorem d_284_14 : m_dn M_284 14 (.ireturn) 1 15 := by decide +kernel
theorem d_284_2 : m_dn M_284 2 (.aload_n 0) 1 3 := by decide +kernel
theorem d_284_3 : m_dn M_284 3 (.iload_n 1) 1 4 := by decide +kernel
theorem d_284_4 : m_dn M_284 4 (.iconst 0) 1 5 := by decide +kernel
theorem d_284_5 : m_dn M_284 5 (.invokevirtual 431) 3 8 := by decide +kernel
theorem d_284_8 : m_dn M_284 8 (.imul) 1 9 := by decide +kernel
theorem d_284_9 : m_dn M_284 9 (.iload_n 1) 1 10 := by decide +kernel
def D_m_thrown (F : Nat) (S : mS) : Option (Int32) := some (S.1 0)
theorem T_m_thrown {l : Launch} {w : List mM} {F : Nat} {S : mS} {r : Int32} (h : m_RM S w) (h0 : D_m_thrown F S = some r) : m_Rs l M_241 (m_ent M_241 [.ref 583] w) (fun v w' => v = some (.int r) ∧ m_RM S w' ∧ m_Fq w w') 0 0 0 0 := by
  show m_Rs l M_241 (0, [(0, .ref 583)], [], w) _ 0 0 0 0
  generalize hw0 : w = w0 at h ⊢
  have hF : m_Fq w0 w0 := m_Fq.refl
  rw [D_m_thrown] at h0
  refine m_Rs.n0 b_241 (x_aload_n d_241_0 rfl) ?_
  refine m_Rs.n0 b_241 (x_getf d_241_1 rfl h.1 rfl) ?_
  exact m_Rs.ret b_241 (m_rt_ir d_241_4 rfl rfl) (rI h0 h hF)
def D_m_type_76 (F : Nat) (rec33 : Int64 → Int32 → Int32 → mS → Option (Int32 × mS)) (x1 : Int64) (x3 : Int32) (x4 : Int32) (S : mS) : Option (Int32 × mS) := rec33 x1 x3 (x4 + Int32.ofInt 1) S
theorem T_m_type_76 {l : Launch} {w0 : List mM} {F : Nat} {rec33 : Int64 → Int32 → Int32 → mS → Option (Int32 × mS)} (hr33 : ∀ {x1 : Int64} {x3 : Int32} {x4 : Int32} {S : mS} {w : List mM} {r : Int32 × mS}, m_RM S w → m_Fq w0 w → rec33 x1 x3 x4 S = some r → m_Rs l M_242 (33, [(0, .ref 583), (1, .long x1), (3, .int x3), (4, .int x4)], [], w) (fun v w' => v = some (.int r.1) ∧ m_RM r.2 w' ∧ m_Fq w0 w') 0 0 0 0) {x1 : Int64} {x3 : Int32} {x4 : Int32} {S : mS} {w : List mM} {r : Int32 × mS} (h : m_RM S w) (hF : m_Fq w0 w) (h0 : D_m_type_76 F rec33 x1 x3 x4 S = some r) : m_Rs l M_242 (76, [(0, .ref 583), (1, .long x1), (3, .int x3), (4, .int x4)], [], w) (fun v w' => v = some (.int r.1) ∧ m_RM r.2 w' ∧ m_Fq w0 w') 0 0 0 0 := by
  rw [D_m_type_76] at h0
  refine m_Rs.n0 b_242 (x_iinc d_242_76 rfl rfl rfl (show m_put1 _ _ _ = [(4, _), (0, _), (1, _), (3, _)] from rfl)) ?_
  refine m_Rs.n0 b_242 (x_goto d_242_79 rfl) ?_
  exact m_Rs.pick [1, 2, 3, 0] rfl (hr33 h hF h0)
def D_m_type_87 (F : Nat) : Nat → Int64 → Int32 → mS → Option (Int32 × mS)
  | 0, _, _, _ => none
  | n + 1, x1, x4, S => cond (m_c1 .lt x4) (some ((1 : Int32), S)) ((aput 300 S 584 (S.1 2) (((x1 >>> ((((8 : Int32) * x4) : Int32).toInt64 &&& 63)) &&& ((255) : Int64)) : Int64).toInt32).bind fun S11 => (fput S11 2 ((S11.1 2) + (1 : Int32))).bind fun S13 => D_m_type_87 F n x1 (x4 + Int32.ofInt (-1)) S13)
theorem T_m_type_87 {l : Launch} {w0 : List mM} {F : Nat} : ∀ (n : Nat) {x1 : Int64} {x4 : Int32} {S : mS} {w : List mM} {r : Int32 × mS}, m_RM S w → m_Fq w0 w → D_m_type_87 F n x1 x4 S = some r → m_Rs l M_242 (87, [(0, .ref 583), (1, .long x1), (4, .int x4)], [], w) (fun v w' => v = some (.int r.1) ∧ m_RM r.2 w' ∧ m_Fq w0 w') 0 0 0 0 := by
  intro n
  induction n with
  | zero => intro x1 x4 S w r h hF h0; cases h0
  | succ n ih =>
    intro x1 x4 S w r h hF h0
    rw [D_m_type_87] at h0
    refine m_Rs.n0 b_242 (x_iload d_242_87 rfl) ?_
    cases hc10 : m_c1 .lt x4 with
    | true =>
      have h0 := cT hc10 h0
      refine m_Rs.n0 b_242 (x_ift d_242_89 rfl hc10) ?_
      refine m_Rs.n0 b_242 (x_iconst (z := 1) d_242_129 (by decide)) ?_
      exact m_Rs.ret b_242 (m_rt_ir d_242_130 rfl m_nb1) (rP h0 h hF)
    | false =>
      have h0 := cF hc10 h0
      refine m_Rs.n0 b_242 (x_iff d_242_89 rfl hc10) ?_
      refine m_Rs.n0 b_242 (x_aload_n d_242_92 rfl) ?_
      refine m_Rs.n0 b_242 (x_getf d_242_93 rfl h.1 rfl) ?_
      refine m_Rs.n0 b_242 (x_aload_n d_242_96 rfl) ?_
      refine m_Rs.n0 b_242 (x_getf d_242_97 rfl h.1 rfl) ?_
      refine m_Rs.n0 b_242 (x_lload_n d_242_100 rfl) ?_
      refine m_Rs.n0 b_242 (x_bipush (z := 8) d_242_101 (by decide)) ?_
      refine m_Rs.n0 b_242 (x_iload d_242_103 rfl) ?_
      refine m_Rs.n0 b_242 (x_imul d_242_105 rfl) ?_
      refine m_Rs.n0 b_242 (x_lshr d_242_106 rfl) ?_
      refine m_Rs.n0 b_242 (x_ldc2 (v := .long (255)) d_242_107 rfl) ?_
      refine m_Rs.n0 b_242 (x_land d_242_110 rfl) ?_
      refine m_Rs.n0 b_242 (x_l2i d_242_111 rfl) ?_
      obtain ⟨S11, e12, h0⟩ := bS h0
      refine m_Rs.dput b_242 d_242_112 h hF 0 rfl e12 (fun w1 h hF => ?_)
      refine m_Rs.n0 b_242 (x_aload_n d_242_113 rfl) ?_
      refine m_Rs.n0 b_242 (x_dup d_242_114 rfl) ?_
      refine m_Rs.n0 b_242 (x_getf d_242_115 rfl h.1 rfl) ?_
      refine m_Rs.n0 b_242 (x_iconst (z := 1) d_242_118 (by decide)) ?_
      refine m_Rs.n0 b_242 (x_iadd d_242_119 rfl) ?_
      obtain ⟨S13, e14, h0⟩ := bS h0
      refine m_Rs.dfput b_242 d_242_120 h hF e14 rfl rfl rfl rfl rfl rfl (fun w1 h hF => ?_)
      refine m_Rs.n0 b_242 (x_iinc d_242_123 rfl rfl rfl (show m_put1 _ _ _ = [(4, _), (0, _), (1, _)] from rfl)) ?_
      refine m_Rs.n0 b_242 (x_goto d_242_126 rfl) ?_
      exact m_Rs.pick [1, 2, 0] rfl (ih h hF h0)
def D_m_type_33 (F : Nat) : Nat → Int64 → Int32 → Int32 → mS → Option (Int32 × mS)
  | 0, _, _, _, _ => none
  | n + 1, x1, x3, x4, S => cond (m_c2 .ge x4 x3) (D_m_type_87 F F x1 (x3 - (1 : Int32)) S) (cond (m_c2 .eq (((x1 >>> ((((8 : Int32) * x4) : Int32).toInt64 &&& 63)) &&& ((255) : Int64)) : Int64).toInt32 (10 : Int32)) (D_m_type_76 F (D_m_type_33 F n) x1 x3 x4 S) (cond (m_c2 .lt (((x1 >>> ((((8 : Int32) * x4) : Int32).toInt64 &&& 63)) &&& ((255) : Int64)) : Int64).toInt32 (32 : Int32)) (some ((0 : Int32), S)) (cond (m_c2 .le (((x1 >>> ((((8 : Int32) * x4) : Int32).toInt64 &&& 63)) &&& ((255) : Int64)) : Int64).toInt32 (126 : Int32)) (D_m_type_76 F (D_m_type_33 F n) x1 x3 x4 S) (some ((0 : Int32), S)))))
theorem T_m_type_33 {l : Launch} {w0 : List mM} {F : Nat} : ∀ (n : Nat) {x1 : Int64} {x3 : Int32} {x4 : Int32} {S : mS} {w : List mM} {r : Int32 × mS}, m_RM S w → m_Fq w0 w → D_m_type_33 F n x1 x3 x4 S = some r → m_Rs l M_242 (33, [(0, .ref 583), (1, .long x1), (3, .int x3), (4, .int x4)], [], w) (fun v w' => v = some (.int r.1) ∧ m_RM r.2 w' ∧ m_Fq w0 w') 0 0 0 0 := by
  intro n
  induction n with
  | zero => intro x1 x3 x4 S w r h hF h0; cases h0
  | succ n ih =>
    intro x1 x3 x4 S w r h hF h0
    rw [D_m_type_33] at h0
    refine m_Rs.n0 b_242 (x_iload d_242_33 rfl) ?_
    refine m_Rs.n0 b_242 (x_iload_n d_242_35 rfl) ?_
    cases hc6 : m_c2 .ge x4 x3 with
    | true =>
      have h0 := cT hc6 h0
      refine m_Rs.n0 b_242 (x_ict d_242_36 rfl hc6) ?_
      refine m_Rs.n0 b_242 (x_iload_n d_242_82 rfl) ?_
      refine m_Rs.n0 b_242 (x_iconst (z := 1) d_242_83 (by decide)) ?_
      refine m_Rs.n0 b_242 (x_isub d_242_84 rfl) ?_
      refine m_Rs.n0 b_242 (x_istore d_242_85 rfl (show m_put1 _ _ _ = [(4, _), (0, _), (1, _), (3, _)] from rfl)) ?_
      exact m_Rs.pick [1, 2, 0] rfl (T_m_type_87 F h hF h0)
    | false =>
      have h0 := cF hc6 h0
      refine m_Rs.n0 b_242 (x_icf d_242_36 rfl hc6) ?_
      refine m_Rs.n0 b_242 (x_lload_n d_242_39 rfl) ?_
      refine m_Rs.n0 b_242 (x_bipush (z := 8) d_242_40 (by decide)) ?_
      refine m_Rs.n0 b_242 (x_iload d_242_42 rfl) ?_
      refine m_Rs.n0 b_242 (x_imul d_242_44 rfl) ?_
      refine m_Rs.n0 b_242 (x_lshr d_242_45 rfl) ?_
      refine m_Rs.n0 b_242 (x_ldc2 (v := .long (255)) d_242_46 rfl) ?_
      refine m_Rs.n0 b_242 (x_land d_242_49 rfl) ?_
      refine m_Rs.n0 b_242 (x_l2i d_242_50 rfl) ?_
      refine m_Rs.n0 b_242 (x_istore d_242_51 rfl (show m_put1 _ _ _ = [(5, _), (0, _), (1, _), (3, _), (4, _)] from rfl)) ?_
      refine m_Rs.n0 b_242 (x_iload d_242_53 rfl) ?_
      refine m_Rs.n0 b_242 (x_bipush (z := 10) d_242_55 (by decide)) ?_
      cases hc7 : m_c2 .eq (((x1 >>> ((((8 : Int32) * x4) : Int32).toInt64 &&& 63)) &&& ((255) : Int64)) : Int64).toInt32 (10 : Int32) with
      | true =>
        have h0 := cT hc7 h0
        refine m_Rs.n0 b_242 (x_ict d_242_57 rfl hc7) ?_
        exact m_Rs.pick [1, 2, 3, 4] rfl (T_m_type_76 ih h hF h0)
      | false =>
        have h0 := cF hc7 h0
        refine m_Rs.n0 b_242 (x_icf d_242_57 rfl hc7) ?_
        refine m_Rs.n0 b_242 (x_iload d_242_60 rfl) ?_
        refine m_Rs.n0 b_242 (x_bipush (z := 32) d_242_62 (by decide)) ?_
        cases hc8 : m_c2 .lt (((x1 >>> ((((8 : Int32) * x4) : Int32).toInt64 &&& 63)) &&& ((255) : Int64)) : Int64).toInt32 (32 : Int32) with
        | true =>
          have h0 := cT hc8 h0
          refine m_Rs.n0 b_242 (x_ict d_242_64 rfl hc8) ?_
          refine m_Rs.n0 b_242 (x_iconst (z := 0) d_242_74 (by decide)) ?_
          exact m_Rs.ret b_242 (m_rt_ir d_242_75 rfl m_nb0) (rP h0 h hF)
        | false =>
          have h0 := cF hc8 h0
          refine m_Rs.n0 b_242 (x_icf d_242_64 rfl hc8) ?_
          refine m_Rs.n0 b_242 (x_iload d_242_67 rfl) ?_
          refine m_Rs.n0 b_242 (x_bipush (z := 126) d_242_69 (by decide)) ?_
          cases hc9 : m_c2 .le (((x1 >>> ((((8 : Int32) * x4) : Int32).toInt64 &&& 63)) &&& ((255) : Int64)) : Int64).toInt32 (126 : Int32) with
          | true =>
            have h0 := cT hc9 h0
            refine m_Rs.n0 b_242 (x_ict d_242_71 rfl hc9) ?_
            exact m_Rs.pick [1, 2, 3, 4] rfl (T_m_type_76 ih h hF h0)
          | false =>
            have h0 := cF hc9 h0
            refine m_Rs.n0 b_242 (x_icf d_242_71 rfl hc9) ?_
            refine m_Rs.n0 b_242 (x_iconst (z := 0) d_242_74 (by decide)) ?_
            exact m_Rs.ret b_242 (m_rt_ir d_242_75 rfl m_nb0) (rP h0 h hF)
def D_m_type (F : Nat) (a0 : Int64) (a1 : Int32) (S : mS) : Option (Int32 × mS) := (fput S 0 (0 : Int32)).bind fun S1 => cond (m_c2 .lt a1 (1 : Int32)) (some ((0 : Int32), S1)) (cond (m_c2 .gt a1 (8 : Int32)) (some ((0 : Int32), S1)) (cond (m_c2 .le ((S1.1 2) + a1) (300 : Int32)) (D_m_type_33 F F a0 a1 (0 : Int32) S1) (some ((0 : Int32), S1))))
theorem T_m_type {l : Launch} {w : List mM} {F : Nat} {a0 : Int64} {a1 : Int32} {S : mS} {r : Int32 × mS} (h : m_RM S w) (h0 : D_m_type F a0 a1 S = some r) : m_Rs l M_242 (m_ent M_242 [.ref 583, .long a0, .int a1] w) (fun v w' => v = some (.int r.1) ∧ m_RM r.2 w' ∧ m_Fq w w') 0 0 0 0 := by
  show m_Rs l M_242 (0, [(0, .ref 583), (1, .long a0), (3, .int a1)], [], w) _ 0 0 0 0
  generalize hw0 : w = w0 at h ⊢
  have hF : m_Fq w0 w0 := m_Fq.refl
  rw [D_m_type] at h0
  refine m_Rs.n0 b_242 (x_aload_n d_242_0 rfl) ?_
  refine m_Rs.n0 b_242 (x_iconst (z := 0) d_242_1 (by decide)) ?_
  obtain ⟨S1, e2, h0⟩ := bS h0
  refine m_Rs.dfput b_242 d_242_2 h hF e2 rfl rfl rfl rfl rfl rfl (fun w1 h hF => ?_)
  refine m_Rs.n0 b_242 (x_iload_n d_242_5 rfl) ?_
  refine m_Rs.n0 b_242 (x_iconst (z := 1) d_242_6 (by decide)) ?_
  cases hc3 : m_c2 .lt a1 (1 : Int32) with
  | true =>
    have h0 := cT hc3 h0
    refine m_Rs.n0 b_242 (x_ict d_242_7 rfl hc3) ?_
    refine m_Rs.n0 b_242 (x_iconst (z := 0) d_242_28 (by decide)) ?_
    exact m_Rs.ret b_242 (m_rt_ir d_242_29 rfl m_nb0) (rP h0 h hF)
  | false =>
    have h0 := cF hc3 h0
    refine m_Rs.n0 b_242 (x_icf d_242_7 rfl hc3) ?_
    refine m_Rs.n0 b_242 (x_iload_n d_242_10 rfl) ?_
    refine m_Rs.n0 b_242 (x_bipush (z := 8) d_242_11 (by decide)) ?_
    cases hc4 : m_c2 .gt a1 (8 : Int32) with
    | true =>
      have h0 := cT hc4 h0
      refine m_Rs.n0 b_242 (x_ict d_242_13 rfl hc4) ?_
      refine m_Rs.n0 b_242 (x_iconst (z := 0) d_242_28 (by decide)) ?_
      exact m_Rs.ret b_242 (m_rt_ir d_242_29 rfl m_nb0) (rP h0 h hF)
    | false =>
      have h0 := cF hc4 h0
      refine m_Rs.n0 b_242 (x_icf d_242_13 rfl hc4) ?_
      refine m_Rs.n0 b_242 (x_aload_n d_242_16 rfl) ?_
      refine m_Rs.n0 b_242 (x_getf d_242_17 rfl h.1 rfl) ?_
      refine m_Rs.n0 b_242 (x_iload_n d_242_20 rfl) ?_
      refine m_Rs.n0 b_242 (x_iadd d_242_21 rfl) ?_
      refine m_Rs.n0 b_242 (x_sipush (z := 300) d_242_22 (by decide)) ?_
      cases hc5 : m_c2 .le ((S1.1 2) + a1) (300 : Int32) with
      | true =>
        have h0 := cT hc5 h0
        refine m_Rs.n0 b_242 (x_ict d_242_25 rfl hc5) ?_
        refine m_Rs.n0 b_242 (x_iconst (z := 0) d_242_30 (by decide)) ?_
        refine m_Rs.n0 b_242 (x_istore d_242_31 rfl (show m_put1 _ _ _ = [(4, _), (0, _), (1, _), (3, _)] from rfl)) ?_
        exact m_Rs.pick [1, 2, 3, 0] rfl (T_m_type_33 F h hF h0)
      | false =>
        have h0 := cF hc5 h0
        refine m_Rs.n0 b_242 (x_icf d_242_25 rfl hc5) ?_
        refine m_Rs.n0 b_242 (x_iconst (z := 0) d_242_28 (by decide)) ?_
        exact m_Rs.ret b_242 (m_rt_ir d_242_29 rfl m_nb0) (rP h0 h hF)
def D_m_expectWord_2 (F : Nat) : Nat → Nat → Int32 → mS → Option (Int32 × mS)
  | 0, _, _, _ => none
  | n + 1, x1, x2, S => (xlen x1).bind fun v1 => cond (m_c2 .ge x2 v1) (some ((1 : Int32), S)) ((xchr x1 x2).bind fun v4 => (D_m_expect F v4 S).bind fun q6 => cond (m_c1 .ne q6.1) (D_m_expectWord_2 F n x1 (x2 + Int32.ofInt 1) q6.2) (some ((0 : Int32), q6.2)))
theorem T_m_expectWord_2 {l : Launch} {w0 : List mM} {F : Nat} : ∀ (n : Nat) {x1 : Nat} {x2 : Int32} {S : mS} {w : List mM} {r : Int32 × mS}, x1 < 512 → m_RM S w → m_Fq w0 w → D_m_expectWord_2 F n x1 x2 S = some r → m_Rs l M_246 (2, [(0, .ref 583), (1, .ref x1), (2, .int x2)], [], w) (fun v w' => v = some (.int r.1) ∧ m_RM r.2 w' ∧ m_Fq w0 w') 0 0 4 400 := by
  intro n
  induction n with
  | zero => intro x1 x2 S w r hx1 h hF h0; cases h0
  | succ n ih =>
    intro x1 x2 S w r hx1 h hF h0
    rw [D_m_expectWord_2] at h0
    refine m_Rs.n0 b_246 (x_iload_n d_246_2 rfl) ?_
    refine m_Rs.n0 b_246 (x_aload_n d_246_3 rfl) ?_
    obtain ⟨v1, e2, h0⟩ := bS h0
    refine m_Rs.cxlen b_246 d_246_4 rfl (by simp only [m_okf, List.all_cons, List.all_nil, Bool.and_true, Bool.and_self, m_okv_i, m_okv_l, m_okv_0, m_okv_t, m_okv_at h.1, m_okv_out (a := x1) hx1]) e2 ?_ (Nat.le_of_ble_eq_true rfl) (by decide) (by decide)
    cases hc3 : m_c2 .ge x2 v1 with
    | true =>
      have h0 := cT hc3 h0
      refine m_Rs.n0 b_246 (x_ict d_246_7 rfl hc3) ?_
      refine m_Rs.n0 b_246 (x_iconst (z := 1) d_246_30 (by decide)) ?_
      exact m_Rs.ret b_246 (m_rt_ir d_246_31 rfl m_nb1) (rP h0 h hF)
    | false =>
      have h0 := cF hc3 h0
      refine m_Rs.n0 b_246 (x_icf d_246_7 rfl hc3) ?_
      refine m_Rs.n0 b_246 (x_aload_n d_246_10 rfl) ?_
      refine m_Rs.n0 b_246 (x_aload_n d_246_11 rfl) ?_
      refine m_Rs.n0 b_246 (x_iload_n d_246_12 rfl) ?_
      obtain ⟨v4, e5, h0⟩ := bS h0
      refine m_Rs.cxchr b_246 d_246_13 rfl (by simp only [m_okf, List.all_cons, List.all_nil, Bool.and_true, Bool.and_self, m_okv_i, m_okv_l, m_okv_0, m_okv_t, m_okv_at h.1, m_okv_out (a := x1) hx1]) e5 ?_ (Nat.le_of_ble_eq_true rfl) (by decide) (by decide)
      obtain ⟨q6, e7, h0⟩ := bS h0
      refine m_Rs.callS b_246 (y_cv d_246_16 rfl q_247 (m_isRecv_of rfl h.1) (show m_takeI _ _ = some (_, [_, _], []) from rfl) (by simp only [m_okf, List.all_cons, List.all_nil, Bool.and_true, Bool.and_self, m_okv_i, m_okv_l, m_okv_0, m_okv_t, m_okv_at h.1, m_okv_out (a := x1) hx1]) rfl) (T_m_expect h e7) hF rfl (fun w1 h hF => ?_) (by decide) (by decide)
      cases hc8 : m_c1 .ne q6.1 with
      | true =>
        have h0 := cT hc8 h0
        refine m_Rs.n0 b_246 (x_ift d_246_19 rfl hc8) ?_
        refine m_Rs.n0 b_246 (x_iinc d_246_24 rfl rfl rfl (show m_put1 _ _ _ = [(2, _), (0, _), (1, _)] from rfl)) ?_
        refine m_Rs.n0 b_246 (x_goto d_246_27 rfl) ?_
        exact m_Rs.pick [1, 2, 0] rfl (ih hx1 h hF h0)
      | false =>
        have h0 := cF hc8 h0
        refine m_Rs.n0 b_246 (x_iff d_246_19 rfl hc8) ?_
        refine m_Rs.n0 b_246 (x_iconst (z := 0) d_246_22 (by decide)) ?_
        exact m_Rs.ret b_246 (m_rt_ir d_246_23 rfl m_nb0) (rP h0 h hF)
def D_m_expectWord (F : Nat) (a0 : Nat) (S : mS) : Option (Int32 × mS) := D_m_expectWord_2 F F a0 (0 : Int32) S
theorem T_m_expectWord {l : Launch} {w : List mM} {F : Nat} {a0 : Nat} {S : mS} {r : Int32 × mS} (ha0 : a0 < 512) (h : m_RM S w) (h0 : D_m_expectWord F a0 S = some r) : m_Rs l M_246 (m_ent M_246 [.ref 583, .ref a0] w) (fun v w' => v = some (.int r.1) ∧ m_RM r.2 w' ∧ m_Fq w w') 0 0 4 400 := by
  show m_Rs l M_246 (0, [(0, .ref 583), (1, .ref a0)], [], w) _ 0 0 4 400
  generalize hw0 : w = w0 at h ⊢
  have hF : m_Fq w0 w0 := m_Fq.refl
  rw [D_m_expectWord] at h0
  refine m_Rs.n0 b_246 (x_iconst (z := 0) d_246_0 (by decide)) ?_
  refine m_Rs.n0 b_246 (x_istore_n d_246_1 rfl (show m_put1 _ _ _ = [(2, _), (0, _), (1, _)] from rfl)) ?_
  exact m_Rs.pick [1, 2, 0] rfl (T_m_expectWord_2 F ha0 h hF h0)
def D_m_isNamed_41 (F : Nat) : Nat → Nat → Int32 → Int32 → Int32 → mS → Option (Int32)
  | 0, _, _, _, _, _ => none
  | n + 1, x1, x2, x3, x4, S => cond (m_c1 .eq x3) ((bret x3).bind fun v12 => some v12) ((xlen x1).bind fun v14 => cond (m_c2 .ge x4 v14) ((bret x3).bind fun v17 => some v17) ((aget 0 300 S 584 (x2 + x4)).bind fun v19 => (xchr x1 x4).bind fun v21 => (cond (m_c2 .ne v19 v21) (some (0 : Int32)) (some (1 : Int32))).bind fun v26 => D_m_isNamed_41 F n x1 x2 v26 (x4 + Int32.ofInt 1) S))
theorem T_m_isNamed_41 {l : Launch} {w0 : List mM} {F : Nat} : ∀ (n : Nat) {x1 : Nat} {x2 : Int32} {x3 : Int32} {x4 : Int32} {S : mS} {w : List mM} {r : Int32}, x1 < 512 → m_RM S w → m_Fq w0 w → D_m_isNamed_41 F n x1 x2 x3 x4 S = some r → m_Rs l M_256 (41, [(0, .ref 583), (1, .ref x1), (2, .int x2), (3, .int x3), (4, .int x4)], [], w) (fun v w' => v = some (.int r) ∧ m_RM S w' ∧ m_Fq w0 w') 0 0 4 400 := by
  intro n
  induction n with
  | zero => intro x1 x2 x3 x4 S w r hx1 h hF h0; cases h0
  | succ n ih =>
    intro x1 x2 x3 x4 S w r hx1 h hF h0
    rw [D_m_isNamed_41] at h0
    refine m_Rs.n0 b_256 (x_iload_n d_256_41 rfl) ?_
    cases hc11 : m_c1 .eq x3 with
    | true =>
      have h0 := cT hc11 h0
      refine m_Rs.n0 b_256 (x_ift d_256_42 rfl hc11) ?_
      refine m_Rs.n0 b_256 (x_iload_n d_256_84 rfl) ?_
      obtain ⟨v12, e13, h0⟩ := bS h0
      exact m_Rs.retb b_256 d_256_85 rfl e13 (rI h0 h hF)
    | false =>
      have h0 := cF hc11 h0
      refine m_Rs.n0 b_256 (x_iff d_256_42 rfl hc11) ?_
      refine m_Rs.n0 b_256 (x_iload d_256_45 rfl) ?_
      refine m_Rs.n0 b_256 (x_aload_n d_256_47 rfl) ?_
      obtain ⟨v14, e15, h0⟩ := bS h0
      refine m_Rs.cxlen b_256 d_256_48 rfl (by simp only [m_okf, List.all_cons, List.all_nil, Bool.and_true, Bool.and_self, m_okv_i, m_okv_l, m_okv_0, m_okv_t, m_okv_at h.1, m_okv_out (a := x1) hx1]) e15 ?_ (Nat.le_of_ble_eq_true rfl) (by decide) (by decide)
      cases hc16 : m_c2 .ge x4 v14 with
      | true =>
        have h0 := cT hc16 h0
        refine m_Rs.n0 b_256 (x_ict d_256_51 rfl hc16) ?_
        refine m_Rs.n0 b_256 (x_iload_n d_256_84 rfl) ?_
        obtain ⟨v17, e18, h0⟩ := bS h0
        exact m_Rs.retb b_256 d_256_85 rfl e18 (rI h0 h hF)
      | false =>
        have h0 := cF hc16 h0
        refine m_Rs.n0 b_256 (x_icf d_256_51 rfl hc16) ?_
        refine m_Rs.n0 b_256 (x_aload_n d_256_54 rfl) ?_
        refine m_Rs.n0 b_256 (x_getf d_256_55 rfl h.1 rfl) ?_
        refine m_Rs.n0 b_256 (x_iload_n d_256_58 rfl) ?_
        refine m_Rs.n0 b_256 (x_iload d_256_59 rfl) ?_
        refine m_Rs.n0 b_256 (x_iadd d_256_61 rfl) ?_
        obtain ⟨v19, e20, h0⟩ := bS h0
        refine m_Rs.dget b_256 d_256_62 h 0 rfl e20 ?_
        refine m_Rs.n0 b_256 (x_aload_n d_256_63 rfl) ?_
        refine m_Rs.n0 b_256 (x_iload d_256_64 rfl) ?_
        obtain ⟨v21, e22, h0⟩ := bS h0
        refine m_Rs.cxchr b_256 d_256_66 rfl (by simp only [m_okf, List.all_cons, List.all_nil, Bool.and_true, Bool.and_self, m_okv_i, m_okv_l, m_okv_0, m_okv_t, m_okv_at h.1, m_okv_out (a := x1) hx1]) e22 ?_ (Nat.le_of_ble_eq_true rfl) (by decide) (by decide)
        obtain ⟨v26, e24, h0⟩ := bS h0
        have kk23 : ∀ (xz : Int32) (w1 : List mM), xz = v26 → m_RM S w1 → m_Fq w0 w1 → m_Rs l M_256 (77, [(0, .ref 583), (1, .ref x1), (2, .int x2), (3, .int x3), (4, .int x4)], [.int xz], w1) (fun v w' => v = some (.int r) ∧ m_RM S w' ∧ m_Fq w0 w') 0 0 4 400 := by
          intro xz w ez h hF
          rw [ez]
          refine m_Rs.n0 b_256 (x_istore_n d_256_77 rfl (show m_put1 _ _ _ = [(3, _), (0, _), (1, _), (2, _), (4, _)] from rfl)) ?_
          refine m_Rs.n0 b_256 (x_iinc d_256_78 rfl rfl rfl (show m_put1 _ _ _ = [(4, _), (3, _), (0, _), (1, _), (2, _)] from rfl)) ?_
          refine m_Rs.n0 b_256 (x_goto d_256_81 rfl) ?_
          exact m_Rs.pick [2, 3, 4, 1, 0] rfl (ih hx1 h hF h0)
        cases hc25 : m_c2 .ne v19 v21 with
        | true =>
          have e24 := cT hc25 e24
          refine m_Rs.n0 b_256 (x_ict d_256_69 rfl hc25) ?_
          refine m_Rs.n0 b_256 (x_iconst (z := 0) d_256_76 (by decide)) ?_
          exact kk23 _ _ (Option.some.inj e24) h hF
        | false =>
          have e24 := cF hc25 e24
          refine m_Rs.n0 b_256 (x_icf d_256_69 rfl hc25) ?_
          refine m_Rs.n0 b_256 (x_iconst (z := 1) d_256_72 (by decide)) ?_
          refine m_Rs.n0 b_256 (x_goto d_256_73 rfl) ?_
          exact kk23 _ _ (Option.some.inj e24) h hF
def D_m_isNamed (F : Nat) (a0 : Nat) (S : mS) : Option (Int32) := (aget 0 150 S 587 ((S.1 31) - (1 : Int32))).bind fun v1 => (aget 0 150 S 588 ((S.1 31) - (1 : Int32))).bind fun v3 => (xlen a0).bind fun v5 => (cond (m_c2 .ne (v3 - v1) v5) (some (0 : Int32)) (some (1 : Int32))).bind fun v10 => D_m_isNamed_41 F F a0 v1 v10 (0 : Int32) S
theorem T_m_isNamed {l : Launch} {w : List mM} {F : Nat} {a0 : Nat} {S : mS} {r : Int32} (ha0 : a0 < 512) (h : m_RM S w) (h0 : D_m_isNamed F a0 S = some r) : m_Rs l M_256 (m_ent M_256 [.ref 583, .ref a0] w) (fun v w' => v = some (.int r) ∧ m_RM S w' ∧ m_Fq w w') 0 0 4 400 := by
  show m_Rs l M_256 (0, [(0, .ref 583), (1, .ref a0)], [], w) _ 0 0 4 400
  generalize hw0 : w = w0 at h ⊢
  have hF : m_Fq w0 w0 := m_Fq.refl
  rw [D_m_isNamed] at h0
  refine m_Rs.n0 b_256 (x_aload_n d_256_0 rfl) ?_
  refine m_Rs.n0 b_256 (x_getf d_256_1 rfl h.1 rfl) ?_
  refine m_Rs.n0 b_256 (x_aload_n d_256_4 rfl) ?_
  refine m_Rs.n0 b_256 (x_getf d_256_5 rfl h.1 rfl) ?_
  refine m_Rs.n0 b_256 (x_iconst (z := 1) d_256_8 (by decide)) ?_
  refine m_Rs.n0 b_256 (x_isub d_256_9 rfl) ?_
  obtain ⟨v1, e2, h0⟩ := bS h0
  refine m_Rs.dget b_256 d_256_10 h 3 rfl e2 ?_
  refine m_Rs.n0 b_256 (x_istore_n d_256_11 rfl (show m_put1 _ _ _ = [(2, _), (0, _), (1, _)] from rfl)) ?_
  refine m_Rs.n0 b_256 (x_aload_n d_256_12 rfl) ?_
  refine m_Rs.n0 b_256 (x_getf d_256_13 rfl h.1 rfl) ?_
  refine m_Rs.n0 b_256 (x_aload_n d_256_16 rfl) ?_
  refine m_Rs.n0 b_256 (x_getf d_256_17 rfl h.1 rfl) ?_
  refine m_Rs.n0 b_256 (x_iconst (z := 1) d_256_20 (by decide)) ?_
  refine m_Rs.n0 b_256 (x_isub d_256_21 rfl) ?_
  obtain ⟨v3, e4, h0⟩ := bS h0
  refine m_Rs.dget b_256 d_256_22 h 4 rfl e4 ?_
  refine m_Rs.n0 b_256 (x_iload_n d_256_23 rfl) ?_
  refine m_Rs.n0 b_256 (x_isub d_256_24 rfl) ?_
  refine m_Rs.n0 b_256 (x_aload_n d_256_25 rfl) ?_
  obtain ⟨v5, e6, h0⟩ := bS h0
  refine m_Rs.cxlen b_256 d_256_26 rfl (by simp only [m_okf, List.all_cons, List.all_nil, Bool.and_true, Bool.and_self, m_okv_i, m_okv_l, m_okv_0, m_okv_t, m_okv_at h.1, m_okv_out (a := a0) ha0]) e6 ?_ (Nat.le_of_ble_eq_true rfl) (by decide) (by decide)
  obtain ⟨v10, e8, h0⟩ := bS h0
  have kk7 : ∀ (xz : Int32) (w1 : List mM), xz = v10 → m_RM S w1 → m_Fq w0 w1 → m_Rs l M_256 (37, [(2, .int v1), (0, .ref 583), (1, .ref a0)], [.int xz], w1) (fun v w' => v = some (.int r) ∧ m_RM S w' ∧ m_Fq w0 w') 0 0 4 400 := by
    intro xz w ez h hF
    rw [ez]
    refine m_Rs.n0 b_256 (x_istore_n d_256_37 rfl (show m_put1 _ _ _ = [(3, _), (2, _), (0, _), (1, _)] from rfl)) ?_
    refine m_Rs.n0 b_256 (x_iconst (z := 0) d_256_38 (by decide)) ?_
    refine m_Rs.n0 b_256 (x_istore d_256_39 rfl (show m_put1 _ _ _ = [(4, _), (3, _), (2, _), (0, _), (1, _)] from rfl)) ?_
    exact m_Rs.pick [3, 4, 2, 1, 0] rfl (T_m_isNamed_41 F ha0 h hF h0)
  cases hc9 : m_c2 .ne (v3 - v1) v5 with
  | true =>
    have e8 := cT hc9 e8
    refine m_Rs.n0 b_256 (x_ict d_256_29 rfl hc9) ?_
    refine m_Rs.n0 b_256 (x_iconst (z := 0) d_256_36 (by decide)) ?_
    exact kk7 _ _ (Option.some.inj e8) h hF
  | false =>
    have e8 := cF hc9 e8
    refine m_Rs.n0 b_256 (x_icf d_256_29 rfl hc9) ?_
    refine m_Rs.n0 b_256 (x_iconst (z := 1) d_256_32 (by decide)) ?_
    refine m_Rs.n0 b_256 (x_goto d_256_33 rfl) ?_
    exact kk7 _ _ (Option.some.inj e8) h hF
def D_m_range (F : Nat) (S : mS) : Option (mS) := (D_m_expectWord F 55 S).bind fun q1 => cond (m_c1 .eq (q1.2.1 5)) ((D_m_see F q1.2).bind fun v4 => cond (m_c2 .ne v4 (45 : Int32)) ((D_m_number F (99999 : Int32) q1.2).bind fun q7 => (fput q7.2 10 q7.1).bind fun S9 => (D_m_expect F (45 : Int32) S9).bind fun q11 => cond (m_c1 .eq (q11.2.1 5)) ((fput q11.2 9 (2 : Int32)).bind fun S14 => (D_m_see F S14).bind fun v16 => (D_m_isDigit F v16 S14).bind fun v18 => cond (m_c1 .ne v18) ((D_m_number F (99999 : Int32) S14).bind fun q21 => (fput q21.2 11 q21.1).bind fun S23 => (cond (m_c2 .le (S23.1 10) (S23.1 11)) (some (1 : Int32)) (some (0 : Int32))).bind fun v28 => (fput S23 9 v28).bind fun S29 => some S29) (some S14)) (some q11.2)) ((fput q1.2 4 ((q1.2.1 4) + (1 : Int32))).bind fun S31 => (fput S31 9 (3 : Int32)).bind fun S33 => (D_m_number F (99999 : Int32) S33).bind fun q35 => (fput q35.2 10 q35.1).bind fun S37 => some S37)) (some q1.2)
theorem T_m_range {l : Launch} {w : List mM} {F : Nat} {S : mS} {r : mS} (h : m_RM S w) (h0 : D_m_range F S = some r) : m_Rs l M_257 (m_ent M_257 [.ref 583] w) (fun v w' => v = none ∧ m_RM r w' ∧ m_Fq w w') 0 0 5 500 := by
  show m_Rs l M_257 (0, [(0, .ref 583)], [], w) _ 0 0 5 500
  generalize hw0 : w = w0 at h ⊢
  have hF : m_Fq w0 w0 := m_Fq.refl
  rw [D_m_range] at h0
  refine m_Rs.n0 b_257 (x_aload_n d_257_0 rfl) ?_
  refine m_Rs.n0 b_257 (x_text d_257_1 rfl rfl) ?_
  obtain ⟨q1, e2, h0⟩ := bS h0
  refine m_Rs.callS b_257 (y_cv d_257_3 rfl q_246 (m_isRecv_of rfl h.1) (show m_takeI _ _ = some (_, [_, _], []) from rfl) (by simp only [m_okf, List.all_cons, List.all_nil, Bool.and_true, Bool.and_self, m_okv_i, m_okv_l, m_okv_0, m_okv_t, m_okv_at h.1, m_okv_out (a := 55) (by decide)]) rfl) (T_m_expectWord (by decide) h e2) hF rfl (fun w1 h hF => ?_) (by decide) (by decide)
  refine m_Rs.n0 b_257 (x_pop d_257_6 rfl) ?_
  refine m_Rs.n0 b_257 (x_aload_n d_257_7 rfl) ?_
  refine m_Rs.n0 b_257 (x_getf d_257_8 rfl h.1 rfl) ?_
  cases hc3 : m_c1 .eq (q1.2.1 5) with
  | true =>
    have h0 := cT hc3 h0
    refine m_Rs.n0 b_257 (x_ift d_257_11 rfl hc3) ?_
    refine m_Rs.n0 b_257 (x_aload_n d_257_15 rfl) ?_
    obtain ⟨v4, e5, h0⟩ := bS h0
    refine m_Rs.callS b_257 (y_cv d_257_16 rfl q_245 (m_isRecv_of rfl h.1) (show m_takeI _ _ = some (_, [_], []) from rfl) (by simp only [m_okf, List.all_cons, List.all_nil, Bool.and_true, Bool.and_self, m_okv_i, m_okv_l, m_okv_0, m_okv_t, m_okv_at h.1]) rfl) (T_m_see h e5) hF rfl (fun w1 h hF => ?_) (by decide) (by decide)
    refine m_Rs.n0 b_257 (x_bipush (z := 45) d_257_19 (by decide)) ?_
    cases hc6 : m_c2 .ne v4 (45 : Int32) with
    | true =>
      have h0 := cT hc6 h0
      refine m_Rs.n0 b_257 (x_ict d_257_21 rfl hc6) ?_
      refine m_Rs.n0 b_257 (x_aload_n d_257_50 rfl) ?_
      refine m_Rs.n0 b_257 (x_aload_n d_257_51 rfl) ?_
      refine m_Rs.n0 b_257 (x_ldc (v := .int 99999) d_257_52 rfl) ?_
      obtain ⟨q7, e8, h0⟩ := bS h0
      refine m_Rs.callS b_257 (y_cv d_257_54 rfl q_250 (m_isRecv_of rfl h.1) (show m_takeI _ _ = some (_, [_, _], [_]) from rfl) (by simp only [m_okf, List.all_cons, List.all_nil, Bool.and_true, Bool.and_self, m_okv_i, m_okv_l, m_okv_0, m_okv_t, m_okv_at h.1]) rfl) (T_m_number h e8) hF rfl (fun w1 h hF => ?_) (by decide) (by decide)
      obtain ⟨S9, e10, h0⟩ := bS h0
      refine m_Rs.dfput b_257 d_257_57 h hF e10 rfl rfl rfl rfl rfl rfl (fun w1 h hF => ?_)
      refine m_Rs.n0 b_257 (x_aload_n d_257_60 rfl) ?_
      refine m_Rs.n0 b_257 (x_bipush (z := 45) d_257_61 (by decide)) ?_
      obtain ⟨q11, e12, h0⟩ := bS h0
      refine m_Rs.callS b_257 (y_cv d_257_63 rfl q_247 (m_isRecv_of rfl h.1) (show m_takeI _ _ = some (_, [_, _], []) from rfl) (by simp only [m_okf, List.all_cons, List.all_nil, Bool.and_true, Bool.and_self, m_okv_i, m_okv_l, m_okv_0, m_okv_t, m_okv_at h.1]) rfl) (T_m_expect h e12) hF rfl (fun w1 h hF => ?_) (by decide) (by decide)
      refine m_Rs.n0 b_257 (x_pop d_257_66 rfl) ?_
      refine m_Rs.n0 b_257 (x_aload_n d_257_67 rfl) ?_
      refine m_Rs.n0 b_257 (x_getf d_257_68 rfl h.1 rfl) ?_
      cases hc13 : m_c1 .eq (q11.2.1 5) with
      | true =>
        have h0 := cT hc13 h0
        refine m_Rs.n0 b_257 (x_ift d_257_71 rfl hc13) ?_
        refine m_Rs.n0 b_257 (x_aload_n d_257_75 rfl) ?_
        refine m_Rs.n0 b_257 (x_iconst (z := 2) d_257_76 (by decide)) ?_
        obtain ⟨S14, e15, h0⟩ := bS h0
        refine m_Rs.dfput b_257 d_257_77 h hF e15 rfl rfl rfl rfl rfl rfl (fun w1 h hF => ?_)
        refine m_Rs.n0 b_257 (x_aload_n d_257_80 rfl) ?_
        obtain ⟨v16, e17, h0⟩ := bS h0
        refine m_Rs.callS b_257 (y_cv d_257_81 rfl q_245 (m_isRecv_of rfl h.1) (show m_takeI _ _ = some (_, [_], []) from rfl) (by simp only [m_okf, List.all_cons, List.all_nil, Bool.and_true, Bool.and_self, m_okv_i, m_okv_l, m_okv_0, m_okv_t, m_okv_at h.1]) rfl) (T_m_see h e17) hF rfl (fun w1 h hF => ?_) (by decide) (by decide)
        obtain ⟨v18, e19, h0⟩ := bS h0
        refine m_Rs.callS b_257 (y_cs d_257_84 rfl q_251 (show m_takeS _ _ = some (_, [_], []) from rfl) (by simp only [m_okf, List.all_cons, List.all_nil, Bool.and_true, Bool.and_self, m_okv_i, m_okv_l, m_okv_0, m_okv_t, m_okv_at h.1]) rfl) (T_m_isDigit h e19) hF rfl (fun w1 h hF => ?_) (by decide) (by decide)
        cases hc20 : m_c1 .ne v18 with
        | true =>
          have h0 := cT hc20 h0
          refine m_Rs.n0 b_257 (x_ift d_257_87 rfl hc20) ?_
          refine m_Rs.n0 b_257 (x_aload_n d_257_91 rfl) ?_
          refine m_Rs.n0 b_257 (x_aload_n d_257_92 rfl) ?_
          refine m_Rs.n0 b_257 (x_ldc (v := .int 99999) d_257_93 rfl) ?_
          obtain ⟨q21, e22, h0⟩ := bS h0
          refine m_Rs.callS b_257 (y_cv d_257_95 rfl q_250 (m_isRecv_of rfl h.1) (show m_takeI _ _ = some (_, [_, _], [_]) from rfl) (by simp only [m_okf, List.all_cons, List.all_nil, Bool.and_true, Bool.and_self, m_okv_i, m_okv_l, m_okv_0, m_okv_t, m_okv_at h.1]) rfl) (T_m_number h e22) hF rfl (fun w1 h hF => ?_) (by decide) (by decide)
          obtain ⟨S23, e24, h0⟩ := bS h0
          refine m_Rs.dfput b_257 d_257_98 h hF e24 rfl rfl rfl rfl rfl rfl (fun w1 h hF => ?_)
          refine m_Rs.n0 b_257 (x_aload_n d_257_101 rfl) ?_
          refine m_Rs.n0 b_257 (x_aload_n d_257_102 rfl) ?_
          refine m_Rs.n0 b_257 (x_getf d_257_103 rfl h.1 rfl) ?_
          refine m_Rs.n0 b_257 (x_aload_n d_257_106 rfl) ?_
          refine m_Rs.n0 b_257 (x_getf d_257_107 rfl h.1 rfl) ?_
          obtain ⟨v28, e26, h0⟩ := bS h0
          have kk25 : ∀ (xz : Int32) (w1 : List mM), xz = v28 → m_RM S23 w1 → m_Fq w0 w1 → m_Rs l M_257 (118, [(0, .ref 583)], [.int xz, .ref 583], w1) (fun v w' => v = none ∧ m_RM r w' ∧ m_Fq w0 w') 0 0 5 500 := by
            intro xz w ez h hF
            rw [ez]
            obtain ⟨S29, e30, h0⟩ := bS h0
            refine m_Rs.dfput b_257 d_257_118 h hF e30 rfl rfl rfl rfl rfl rfl (fun w1 h hF => ?_)
            exact m_Rs.ret b_257 (m_rt_vr d_257_121 rfl) (rV h0 h hF)
          cases hc27 : m_c2 .le (S23.1 10) (S23.1 11) with
          | true =>
            have e26 := cT hc27 e26
            refine m_Rs.n0 b_257 (x_ict d_257_110 rfl hc27) ?_
            refine m_Rs.n0 b_257 (x_iconst (z := 1) d_257_117 (by decide)) ?_
            exact kk25 _ _ (Option.some.inj e26) h hF
          | false =>
            have e26 := cF hc27 e26
            refine m_Rs.n0 b_257 (x_icf d_257_110 rfl hc27) ?_
            refine m_Rs.n0 b_257 (x_iconst (z := 0) d_257_113 (by decide)) ?_
            refine m_Rs.n0 b_257 (x_goto d_257_114 rfl) ?_
            exact kk25 _ _ (Option.some.inj e26) h hF
        | false =>
          have h0 := cF hc20 h0
          refine m_Rs.n0 b_257 (x_iff d_257_87 rfl hc20) ?_
          exact m_Rs.ret b_257 (m_rt_vr d_257_90 rfl) (rV h0 h hF)
      | false =>
        have h0 := cF hc13 h0
        refine m_Rs.n0 b_257 (x_iff d_257_71 rfl hc13) ?_
        exact m_Rs.ret b_257 (m_rt_vr d_257_74 rfl) (rV h0 h hF)
    | false =>
      have h0 := cF hc6 h0
      refine m_Rs.n0 b_257 (x_icf d_257_21 rfl hc6) ?_
      refine m_Rs.n0 b_257 (x_aload_n d_257_24 rfl) ?_
      refine m_Rs.n0 b_257 (x_dup d_257_25 rfl) ?_
      refine m_Rs.n0 b_257 (x_getf d_257_26 rfl h.1 rfl) ?_
      refine m_Rs.n0 b_257 (x_iconst (z := 1) d_257_29 (by decide)) ?_
      refine m_Rs.n0 b_257 (x_iadd d_257_30 rfl) ?_
      obtain ⟨S31, e32, h0⟩ := bS h0
      refine m_Rs.dfput b_257 d_257_31 h hF e32 rfl rfl rfl rfl rfl rfl (fun w1 h hF => ?_)
      refine m_Rs.n0 b_257 (x_aload_n d_257_34 rfl) ?_
      refine m_Rs.n0 b_257 (x_iconst (z := 3) d_257_35 (by decide)) ?_
      obtain ⟨S33, e34, h0⟩ := bS h0
      refine m_Rs.dfput b_257 d_257_36 h hF e34 rfl rfl rfl rfl rfl rfl (fun w1 h hF => ?_)
      refine m_Rs.n0 b_257 (x_aload_n d_257_39 rfl) ?_
      refine m_Rs.n0 b_257 (x_aload_n d_257_40 rfl) ?_
      refine m_Rs.n0 b_257 (x_ldc (v := .int 99999) d_257_41 rfl) ?_
      obtain ⟨q35, e36, h0⟩ := bS h0
      refine m_Rs.callS b_257 (y_cv d_257_43 rfl q_250 (m_isRecv_of rfl h.1) (show m_takeI _ _ = some (_, [_, _], [_]) from rfl) (by simp only [m_okf, List.all_cons, List.all_nil, Bool.and_true, Bool.and_self, m_okv_i, m_okv_l, m_okv_0, m_okv_t, m_okv_at h.1]) rfl) (T_m_number h e36) hF rfl (fun w1 h hF => ?_) (by decide) (by decide)
      obtain ⟨S37, e38, h0⟩ := bS h0
      refine m_Rs.dfput b_257 d_257_46 h hF e38 rfl rfl rfl rfl rfl rfl (fun w1 h hF => ?_)
      exact m_Rs.ret b_257 (m_rt_vr d_257_49 rfl) (rV h0 h hF)
  | false =>
    have h0 := cF hc3 h0
    refine m_Rs.n0 b_257 (x_iff d_257_11 rfl hc3) ?_
    exact m_Rs.ret b_257 (m_rt_vr d_257_14 rfl) (rV h0 h hF)
def D_m_matching_132 (F : Nat) (rec27 : Int32 → mS → Option (mS)) (x1 : Int32) (S : mS) : Option (mS) := rec27 x1 S
theorem T_m_matching_132 {l : Launch} {w0 : List mM} {F : Nat} {rec27 : Int32 → mS → Option (mS)} (hr27 : ∀ {x1 : Int32} {S : mS} {w : List mM} {r : mS}, m_RM S w → m_Fq w0 w → rec27 x1 S = some r → m_Rs l M_258 (27, [(0, .ref 583), (1, .int x1)], [], w) (fun v w' => v = none ∧ m_RM r w' ∧ m_Fq w0 w') 0 0 2 200) {x1 : Int32} {S : mS} {w : List mM} {r : mS} (h : m_RM S w) (hF : m_Fq w0 w) (h0 : D_m_matching_132 F rec27 x1 S = some r) : m_Rs l M_258 (132, [(0, .ref 583), (1, .int x1)], [], w) (fun v w' => v = none ∧ m_RM r w' ∧ m_Fq w0 w') 0 0 2 200 := by
  rw [D_m_matching_132] at h0
  refine m_Rs.n0 b_258 (x_goto d_258_132 rfl) ?_
  exact m_Rs.pick [0, 1] rfl (hr27 h hF h0)
def D_m_matching_27 (F : Nat) : Nat → Int32 → mS → Option (mS)
  | 0, _, _ => none
  | n + 1, x1, S => cond (m_c1 .eq x1) (some S) (cond (m_c1 .ne (S.1 5)) (some S) ((D_m_expect F (34 : Int32) S).bind fun q10 => (D_m_number F (99999 : Int32) q10.2).bind fun q12 => (D_m_expect F (34 : Int32) q12.2).bind fun q14 => cond (m_c1 .eq (q14.2.1 5)) ((aput 8 q14.2 586 (q14.2.1 12) q12.1).bind fun S17 => (fput S17 12 ((S17.1 12) + (1 : Int32))).bind fun S19 => (D_m_see F S19).bind fun v21 => (cond (m_c2 .ne v21 (44 : Int32)) (some (0 : Int32)) (cond (m_c2 .ge (S19.1 12) (8 : Int32)) (some (0 : Int32)) (some (1 : Int32)))).bind fun v27 => cond (m_c1 .eq v27) (D_m_matching_132 F (D_m_matching_27 F n) v27 S19) ((fput S19 4 ((S19.1 4) + (1 : Int32))).bind fun S32 => (D_m_expect F (32 : Int32) S32).bind fun q34 => D_m_matching_132 F (D_m_matching_27 F n) v27 q34.2)) (some q14.2)))
theorem T_m_matching_27 {l : Launch} {w0 : List mM} {F : Nat} : ∀ (n : Nat) {x1 : Int32} {S : mS} {w : List mM} {r : mS}, m_RM S w → m_Fq w0 w → D_m_matching_27 F n x1 S = some r → m_Rs l M_258 (27, [(0, .ref 583), (1, .int x1)], [], w) (fun v w' => v = none ∧ m_RM r w' ∧ m_Fq w0 w') 0 0 2 200 := by
  intro n
  induction n with
  | zero => intro x1 S w r h hF h0; cases h0
  | succ n ih =>
    intro x1 S w r h hF h0
    rw [D_m_matching_27] at h0
    refine m_Rs.n0 b_258 (x_iload_n d_258_27 rfl) ?_
    cases hc8 : m_c1 .eq x1 with
    | true =>
      have h0 := cT hc8 h0
      refine m_Rs.n0 b_258 (x_ift d_258_28 rfl hc8) ?_
      exact m_Rs.ret b_258 (m_rt_vr d_258_135 rfl) (rV h0 h hF)
    | false =>
      have h0 := cF hc8 h0
      refine m_Rs.n0 b_258 (x_iff d_258_28 rfl hc8) ?_
      refine m_Rs.n0 b_258 (x_aload_n d_258_31 rfl) ?_
      refine m_Rs.n0 b_258 (x_getf d_258_32 rfl h.1 rfl) ?_
      cases hc9 : m_c1 .ne (S.1 5) with
      | true =>
        have h0 := cT hc9 h0
        refine m_Rs.n0 b_258 (x_ift d_258_35 rfl hc9) ?_
        exact m_Rs.ret b_258 (m_rt_vr d_258_135 rfl) (rV h0 h hF)
      | false =>
        have h0 := cF hc9 h0
        refine m_Rs.n0 b_258 (x_iff d_258_35 rfl hc9) ?_
        refine m_Rs.n0 b_258 (x_aload_n d_258_38 rfl) ?_
        refine m_Rs.n0 b_258 (x_bipush (z := 34) d_258_39 (by decide)) ?_
        obtain ⟨q10, e11, h0⟩ := bS h0
        refine m_Rs.callS b_258 (y_cv d_258_41 rfl q_247 (m_isRecv_of rfl h.1) (show m_takeI _ _ = some (_, [_, _], []) from rfl) (by simp only [m_okf, List.all_cons, List.all_nil, Bool.and_true, Bool.and_self, m_okv_i, m_okv_l, m_okv_0, m_okv_t, m_okv_at h.1]) rfl) (T_m_expect h e11) hF rfl (fun w1 h hF => ?_) (by decide) (by decide)
        refine m_Rs.n0 b_258 (x_pop d_258_44 rfl) ?_
        refine m_Rs.n0 b_258 (x_aload_n d_258_45 rfl) ?_
        refine m_Rs.n0 b_258 (x_ldc (v := .int 99999) d_258_46 rfl) ?_
        obtain ⟨q12, e13, h0⟩ := bS h0
        refine m_Rs.callS b_258 (y_cv d_258_48 rfl q_250 (m_isRecv_of rfl h.1) (show m_takeI _ _ = some (_, [_, _], []) from rfl) (by simp only [m_okf, List.all_cons, List.all_nil, Bool.and_true, Bool.and_self, m_okv_i, m_okv_l, m_okv_0, m_okv_t, m_okv_at h.1]) rfl) (T_m_number h e13) hF rfl (fun w1 h hF => ?_) (by decide) (by decide)
        refine m_Rs.n0 b_258 (x_istore_n d_258_51 rfl (show m_put1 _ _ _ = [(2, _), (0, _), (1, _)] from rfl)) ?_
        refine m_Rs.n0 b_258 (x_aload_n d_258_52 rfl) ?_
        refine m_Rs.n0 b_258 (x_bipush (z := 34) d_258_53 (by decide)) ?_
        obtain ⟨q14, e15, h0⟩ := bS h0
        refine m_Rs.callS b_258 (y_cv d_258_55 rfl q_247 (m_isRecv_of rfl h.1) (show m_takeI _ _ = some (_, [_, _], []) from rfl) (by simp only [m_okf, List.all_cons, List.all_nil, Bool.and_true, Bool.and_self, m_okv_i, m_okv_l, m_okv_0, m_okv_t, m_okv_at h.1]) rfl) (T_m_expect h e15) hF rfl (fun w1 h hF => ?_) (by decide) (by decide)
        refine m_Rs.n0 b_258 (x_pop d_258_58 rfl) ?_
        refine m_Rs.n0 b_258 (x_aload_n d_258_59 rfl) ?_
        refine m_Rs.n0 b_258 (x_getf d_258_60 rfl h.1 rfl) ?_
        cases hc16 : m_c1 .eq (q14.2.1 5) with
        | true =>
          have h0 := cT hc16 h0
          refine m_Rs.n0 b_258 (x_ift d_258_63 rfl hc16) ?_
          refine m_Rs.n0 b_258 (x_aload_n d_258_67 rfl) ?_
          refine m_Rs.n0 b_258 (x_getf d_258_68 rfl h.1 rfl) ?_
          refine m_Rs.n0 b_258 (x_aload_n d_258_71 rfl) ?_
          refine m_Rs.n0 b_258 (x_getf d_258_72 rfl h.1 rfl) ?_
          refine m_Rs.n0 b_258 (x_iload_n d_258_75 rfl) ?_
          obtain ⟨S17, e18, h0⟩ := bS h0
          refine m_Rs.dput b_258 d_258_76 h hF 2 rfl e18 (fun w1 h hF => ?_)
          refine m_Rs.n0 b_258 (x_aload_n d_258_77 rfl) ?_
          refine m_Rs.n0 b_258 (x_dup d_258_78 rfl) ?_
          refine m_Rs.n0 b_258 (x_getf d_258_79 rfl h.1 rfl) ?_
          refine m_Rs.n0 b_258 (x_iconst (z := 1) d_258_82 (by decide)) ?_
          refine m_Rs.n0 b_258 (x_iadd d_258_83 rfl) ?_
          obtain ⟨S19, e20, h0⟩ := bS h0
          refine m_Rs.dfput b_258 d_258_84 h hF e20 rfl rfl rfl rfl rfl rfl (fun w1 h hF => ?_)
          refine m_Rs.n0 b_258 (x_aload_n d_258_87 rfl) ?_
          obtain ⟨v21, e22, h0⟩ := bS h0
          refine m_Rs.callS b_258 (y_cv d_258_88 rfl q_245 (m_isRecv_of rfl h.1) (show m_takeI _ _ = some (_, [_], []) from rfl) (by simp only [m_okf, List.all_cons, List.all_nil, Bool.and_true, Bool.and_self, m_okv_i, m_okv_l, m_okv_0, m_okv_t, m_okv_at h.1]) rfl) (T_m_see h e22) hF rfl (fun w1 h hF => ?_) (by decide) (by decide)
          refine m_Rs.n0 b_258 (x_bipush (z := 44) d_258_91 (by decide)) ?_
          obtain ⟨v27, e24, h0⟩ := bS h0
          have kk23 : ∀ (xz : Int32) (w1 : List mM), xz = v27 → m_RM S19 w1 → m_Fq w0 w1 → m_Rs l M_258 (110, [(2, .int q12.1), (0, .ref 583), (1, .int x1)], [.int xz], w1) (fun v w' => v = none ∧ m_RM r w' ∧ m_Fq w0 w') 0 0 2 200 := by
            intro xz w ez h hF
            rw [ez]
            refine m_Rs.n0 b_258 (x_istore_n d_258_110 rfl (show m_put1 _ _ _ = [(1, _), (2, _), (0, _)] from rfl)) ?_
            refine m_Rs.n0 b_258 (x_iload_n d_258_111 rfl) ?_
            cases hc31 : m_c1 .eq v27 with
            | true =>
              have h0 := cT hc31 h0
              refine m_Rs.n0 b_258 (x_ift d_258_112 rfl hc31) ?_
              exact m_Rs.pick [2, 0] rfl (T_m_matching_132 ih h hF h0)
            | false =>
              have h0 := cF hc31 h0
              refine m_Rs.n0 b_258 (x_iff d_258_112 rfl hc31) ?_
              refine m_Rs.n0 b_258 (x_aload_n d_258_115 rfl) ?_
              refine m_Rs.n0 b_258 (x_dup d_258_116 rfl) ?_
              refine m_Rs.n0 b_258 (x_getf d_258_117 rfl h.1 rfl) ?_
              refine m_Rs.n0 b_258 (x_iconst (z := 1) d_258_120 (by decide)) ?_
              refine m_Rs.n0 b_258 (x_iadd d_258_121 rfl) ?_
              obtain ⟨S32, e33, h0⟩ := bS h0
              refine m_Rs.dfput b_258 d_258_122 h hF e33 rfl rfl rfl rfl rfl rfl (fun w1 h hF => ?_)
              refine m_Rs.n0 b_258 (x_aload_n d_258_125 rfl) ?_
              refine m_Rs.n0 b_258 (x_bipush (z := 32) d_258_126 (by decide)) ?_
              obtain ⟨q34, e35, h0⟩ := bS h0
              refine m_Rs.callS b_258 (y_cv d_258_128 rfl q_247 (m_isRecv_of rfl h.1) (show m_takeI _ _ = some (_, [_, _], []) from rfl) (by simp only [m_okf, List.all_cons, List.all_nil, Bool.and_true, Bool.and_self, m_okv_i, m_okv_l, m_okv_0, m_okv_t, m_okv_at h.1]) rfl) (T_m_expect h e35) hF rfl (fun w1 h hF => ?_) (by decide) (by decide)
              refine m_Rs.n0 b_258 (x_pop d_258_131 rfl) ?_
              exact m_Rs.pick [2, 0] rfl (T_m_matching_132 ih h hF h0)
          cases hc25 : m_c2 .ne v21 (44 : Int32) with
          | true =>
            have e24 := cT hc25 e24
            refine m_Rs.n0 b_258 (x_ict d_258_93 rfl hc25) ?_
            refine m_Rs.n0 b_258 (x_iconst (z := 0) d_258_109 (by decide)) ?_
            exact kk23 _ _ (Option.some.inj e24) h hF
          | false =>
            have e24 := cF hc25 e24
            refine m_Rs.n0 b_258 (x_icf d_258_93 rfl hc25) ?_
            refine m_Rs.n0 b_258 (x_aload_n d_258_96 rfl) ?_
            refine m_Rs.n0 b_258 (x_getf d_258_97 rfl h.1 rfl) ?_
            refine m_Rs.n0 b_258 (x_bipush (z := 8) d_258_100 (by decide)) ?_
            cases hc26 : m_c2 .ge (S19.1 12) (8 : Int32) with
            | true =>
              have e24 := cT hc26 e24
              refine m_Rs.n0 b_258 (x_ict d_258_102 rfl hc26) ?_
              refine m_Rs.n0 b_258 (x_iconst (z := 0) d_258_109 (by decide)) ?_
              exact kk23 _ _ (Option.some.inj e24) h hF
            | false =>
              have e24 := cF hc26 e24
              refine m_Rs.n0 b_258 (x_icf d_258_102 rfl hc26) ?_
              refine m_Rs.n0 b_258 (x_iconst (z := 1) d_258_105 (by decide)) ?_
              refine m_Rs.n0 b_258 (x_goto d_258_106 rfl) ?_
              exact kk23 _ _ (Option.some.inj e24) h hF
        | false =>
          have h0 := cF hc16 h0
          refine m_Rs.n0 b_258 (x_iff d_258_63 rfl hc16) ?_
          exact m_Rs.ret b_258 (m_rt_vr d_258_66 rfl) (rV h0 h hF)
def D_m_matching (F : Nat) (S : mS) : Option (mS) := (D_m_see F S).bind fun v1 => cond (m_c2 .ne v1 (42 : Int32)) (D_m_matching_27 F F (1 : Int32) S) ((fput S 4 ((S.1 4) + (1 : Int32))).bind fun S4 => (fpub S4 17 (1 : Int32)).bind fun S6 => some S6)
theorem T_m_matching {l : Launch} {w : List mM} {F : Nat} {S : mS} {r : mS} (h : m_RM S w) (h0 : D_m_matching F S = some r) : m_Rs l M_258 (m_ent M_258 [.ref 583] w) (fun v w' => v = none ∧ m_RM r w' ∧ m_Fq w w') 0 0 2 200 := by
  show m_Rs l M_258 (0, [(0, .ref 583)], [], w) _ 0 0 2 200
  generalize hw0 : w = w0 at h ⊢
  have hF : m_Fq w0 w0 := m_Fq.refl
  rw [D_m_matching] at h0
  refine m_Rs.n0 b_258 (x_aload_n d_258_0 rfl) ?_
  obtain ⟨v1, e2, h0⟩ := bS h0
  refine m_Rs.callS b_258 (y_cv d_258_1 rfl q_245 (m_isRecv_of rfl h.1) (show m_takeI _ _ = some (_, [_], []) from rfl) (by simp only [m_okf, List.all_cons, List.all_nil, Bool.and_true, Bool.and_self, m_okv_i, m_okv_l, m_okv_0, m_okv_t, m_okv_at h.1]) rfl) (T_m_see h e2) hF rfl (fun w1 h hF => ?_) (by decide) (by decide)
  refine m_Rs.n0 b_258 (x_bipush (z := 42) d_258_4 (by decide)) ?_
  cases hc3 : m_c2 .ne v1 (42 : Int32) with
  | true =>
    have h0 := cT hc3 h0
    refine m_Rs.n0 b_258 (x_ict d_258_6 rfl hc3) ?_
    refine m_Rs.n0 b_258 (x_iconst (z := 1) d_258_25 (by decide)) ?_
    refine m_Rs.n0 b_258 (x_istore_n d_258_26 rfl (show m_put1 _ _ _ = [(1, _), (0, _)] from rfl)) ?_
    exact m_Rs.pick [1, 0] rfl (T_m_matching_27 F h hF h0)
  | false =>
    have h0 := cF hc3 h0
    refine m_Rs.n0 b_258 (x_icf d_258_6 rfl hc3) ?_
    refine m_Rs.n0 b_258 (x_aload_n d_258_9 rfl) ?_
    refine m_Rs.n0 b_258 (x_dup d_258_10 rfl) ?_
    refine m_Rs.n0 b_258 (x_getf d_258_11 rfl h.1 rfl) ?_
    refine m_Rs.n0 b_258 (x_iconst (z := 1) d_258_14 (by decide)) ?_
    refine m_Rs.n0 b_258 (x_iadd d_258_15 rfl) ?_
    obtain ⟨S4, e5, h0⟩ := bS h0
    refine m_Rs.dfput b_258 d_258_16 h hF e5 rfl rfl rfl rfl rfl rfl (fun w1 h hF => ?_)
    refine m_Rs.n0 b_258 (x_aload_n d_258_19 rfl) ?_
    refine m_Rs.n0 b_258 (x_iconst (z := 1) d_258_20 (by decide)) ?_
    obtain ⟨S6, e7, h0⟩ := bS h0
    refine m_Rs.dfpub b_258 d_258_21 h hF e7 rfl rfl rfl rfl rfl (fun w1 h hF => ?_)
    exact m_Rs.ret b_258 (m_rt_vr d_258_24 rfl) (rV h0 h hF)
def D_m_tag (F : Nat) (S : mS) : Option (Int32 × mS) := (D_m_expect F (34 : Int32) S).bind fun q1 => (D_m_number F (99999 : Int32) q1.2).bind fun q3 => (D_m_expect F (34 : Int32) q3.2).bind fun q5 => some (q3.1, q5.2)
theorem T_m_tag {l : Launch} {w : List mM} {F : Nat} {S : mS} {r : Int32 × mS} (h : m_RM S w) (h0 : D_m_tag F S = some r) : m_Rs l M_259 (m_ent M_259 [.ref 583] w) (fun v w' => v = some (.int r.1) ∧ m_RM r.2 w' ∧ m_Fq w w') 0 0 2 200 := by
  show m_Rs l M_259 (0, [(0, .ref 583)], [], w) _ 0 0 2 200
  generalize hw0 : w = w0 at h ⊢
  have hF : m_Fq w0 w0 := m_Fq.refl
  rw [D_m_tag] at h0
  refine m_Rs.n0 b_259 (x_aload_n d_259_0 rfl) ?_
  refine m_Rs.n0 b_259 (x_bipush (z := 34) d_259_1 (by decide)) ?_
  obtain ⟨q1, e2, h0⟩ := bS h0
  refine m_Rs.callS b_259 (y_cv d_259_3 rfl q_247 (m_isRecv_of rfl h.1) (show m_takeI _ _ = some (_, [_, _], []) from rfl) (by simp only [m_okf, List.all_cons, List.all_nil, Bool.and_true, Bool.and_self, m_okv_i, m_okv_l, m_okv_0, m_okv_t, m_okv_at h.1]) rfl) (T_m_expect h e2) hF rfl (fun w1 h hF => ?_) (by decide) (by decide)
  refine m_Rs.n0 b_259 (x_pop d_259_6 rfl) ?_
  refine m_Rs.n0 b_259 (x_aload_n d_259_7 rfl) ?_
  refine m_Rs.n0 b_259 (x_ldc (v := .int 99999) d_259_8 rfl) ?_
  obtain ⟨q3, e4, h0⟩ := bS h0
  refine m_Rs.callS b_259 (y_cv d_259_10 rfl q_250 (m_isRecv_of rfl h.1) (show m_takeI _ _ = some (_, [_, _], []) from rfl) (by simp only [m_okf, List.all_cons, List.all_nil, Bool.and_true, Bool.and_self, m_okv_i, m_okv_l, m_okv_0, m_okv_t, m_okv_at h.1]) rfl) (T_m_number h e4) hF rfl (fun w1 h hF => ?_) (by decide) (by decide)
  refine m_Rs.n0 b_259 (x_istore_n d_259_13 rfl (show m_put1 _ _ _ = [(1, _), (0, _)] from rfl)) ?_
  refine m_Rs.n0 b_259 (x_aload_n d_259_14 rfl) ?_
  refine m_Rs.n0 b_259 (x_bipush (z := 34) d_259_15 (by decide)) ?_
  obtain ⟨q5, e6, h0⟩ := bS h0
  refine m_Rs.callS b_259 (y_cv d_259_17 rfl q_247 (m_isRecv_of rfl h.1) (show m_takeI _ _ = some (_, [_, _], []) from rfl) (by simp only [m_okf, List.all_cons, List.all_nil, Bool.and_true, Bool.and_self, m_okv_i, m_okv_l, m_okv_0, m_okv_t, m_okv_at h.1]) rfl) (T_m_expect h e6) hF rfl (fun w1 h hF => ?_) (by decide) (by decide)
  refine m_Rs.n0 b_259 (x_pop d_259_20 rfl) ?_
  refine m_Rs.n0 b_259 (x_iload_n d_259_21 rfl) ?_
  exact m_Rs.ret b_259 (m_rt_ir d_259_22 rfl rfl) (rP h0 h hF)
def D_m_isWord_24 (F : Nat) : Nat → Nat → Int32 → Int32 → mS → Option (Int32)
  | 0, _, _, _, _ => none
  | n + 1, x1, x2, x3, S => cond (m_c1 .eq x2) ((bret x2).bind fun v8 => some v8) ((xlen x1).bind fun v10 => cond (m_c2 .ge x3 v10) ((bret x2).bind fun v13 => some v13) ((aget 0 300 S 584 ((S.1 80) + x3)).bind fun v15 => (xchr x1 x3).bind fun v17 => (cond (m_c2 .ne v15 v17) (some (0 : Int32)) (some (1 : Int32))).bind fun v22 => D_m_isWord_24 F n x1 v22 (x3 + Int32.ofInt 1) S))
theorem T_m_isWord_24 {l : Launch} {w0 : List mM} {F : Nat} : ∀ (n : Nat) {x1 : Nat} {x2 : Int32} {x3 : Int32} {S : mS} {w : List mM} {r : Int32}, x1 < 512 → m_RM S w → m_Fq w0 w → D_m_isWord_24 F n x1 x2 x3 S = some r → m_Rs l M_262 (24, [(0, .ref 583), (1, .ref x1), (2, .int x2), (3, .int x3)], [], w) (fun v w' => v = some (.int r) ∧ m_RM S w' ∧ m_Fq w0 w') 0 0 4 400 := by
  intro n
  induction n with
  | zero => intro x1 x2 x3 S w r hx1 h hF h0; cases h0
  | succ n ih =>
    intro x1 x2 x3 S w r hx1 h hF h0
    rw [D_m_isWord_24] at h0
    refine m_Rs.n0 b_262 (x_iload_n d_262_24 rfl) ?_
    cases hc7 : m_c1 .eq x2 with
    | true =>
      have h0 := cT hc7 h0
      refine m_Rs.n0 b_262 (x_ift d_262_25 rfl hc7) ?_
      refine m_Rs.n0 b_262 (x_iload_n d_262_67 rfl) ?_
      obtain ⟨v8, e9, h0⟩ := bS h0
      exact m_Rs.retb b_262 d_262_68 rfl e9 (rI h0 h hF)
    | false =>
      have h0 := cF hc7 h0
      refine m_Rs.n0 b_262 (x_iff d_262_25 rfl hc7) ?_
      refine m_Rs.n0 b_262 (x_iload_n d_262_28 rfl) ?_
      refine m_Rs.n0 b_262 (x_aload_n d_262_29 rfl) ?_
      obtain ⟨v10, e11, h0⟩ := bS h0
      refine m_Rs.cxlen b_262 d_262_30 rfl (by simp only [m_okf, List.all_cons, List.all_nil, Bool.and_true, Bool.and_self, m_okv_i, m_okv_l, m_okv_0, m_okv_t, m_okv_at h.1, m_okv_out (a := x1) hx1]) e11 ?_ (Nat.le_of_ble_eq_true rfl) (by decide) (by decide)
      cases hc12 : m_c2 .ge x3 v10 with
      | true =>
        have h0 := cT hc12 h0
        refine m_Rs.n0 b_262 (x_ict d_262_33 rfl hc12) ?_
        refine m_Rs.n0 b_262 (x_iload_n d_262_67 rfl) ?_
        obtain ⟨v13, e14, h0⟩ := bS h0
        exact m_Rs.retb b_262 d_262_68 rfl e14 (rI h0 h hF)
      | false =>
        have h0 := cF hc12 h0
        refine m_Rs.n0 b_262 (x_icf d_262_33 rfl hc12) ?_
        refine m_Rs.n0 b_262 (x_aload_n d_262_36 rfl) ?_
        refine m_Rs.n0 b_262 (x_getf d_262_37 rfl h.1 rfl) ?_
        refine m_Rs.n0 b_262 (x_aload_n d_262_40 rfl) ?_
        refine m_Rs.n0 b_262 (x_getf d_262_41 rfl h.1 rfl) ?_
        refine m_Rs.n0 b_262 (x_iload_n d_262_44 rfl) ?_
        refine m_Rs.n0 b_262 (x_iadd d_262_45 rfl) ?_
        obtain ⟨v15, e16, h0⟩ := bS h0
        refine m_Rs.dget b_262 d_262_46 h 0 rfl e16 ?_
        refine m_Rs.n0 b_262 (x_aload_n d_262_47 rfl) ?_
        refine m_Rs.n0 b_262 (x_iload_n d_262_48 rfl) ?_
        obtain ⟨v17, e18, h0⟩ := bS h0
        refine m_Rs.cxchr b_262 d_262_49 rfl (by simp only [m_okf, List.all_cons, List.all_nil, Bool.and_true, Bool.and_self, m_okv_i, m_okv_l, m_okv_0, m_okv_t, m_okv_at h.1, m_okv_out (a := x1) hx1]) e18 ?_ (Nat.le_of_ble_eq_true rfl) (by decide) (by decide)
        obtain ⟨v22, e20, h0⟩ := bS h0
        have kk19 : ∀ (xz : Int32) (w1 : List mM), xz = v22 → m_RM S w1 → m_Fq w0 w1 → m_Rs l M_262 (60, [(0, .ref 583), (1, .ref x1), (2, .int x2), (3, .int x3)], [.int xz], w1) (fun v w' => v = some (.int r) ∧ m_RM S w' ∧ m_Fq w0 w') 0 0 4 400 := by
          intro xz w ez h hF
          rw [ez]
          refine m_Rs.n0 b_262 (x_istore_n d_262_60 rfl (show m_put1 _ _ _ = [(2, _), (0, _), (1, _), (3, _)] from rfl)) ?_
          refine m_Rs.n0 b_262 (x_iinc d_262_61 rfl rfl rfl (show m_put1 _ _ _ = [(3, _), (2, _), (0, _), (1, _)] from rfl)) ?_
          refine m_Rs.n0 b_262 (x_goto d_262_64 rfl) ?_
          exact m_Rs.pick [2, 3, 1, 0] rfl (ih hx1 h hF h0)
        cases hc21 : m_c2 .ne v15 v17 with
        | true =>
          have e20 := cT hc21 e20
          refine m_Rs.n0 b_262 (x_ict d_262_52 rfl hc21) ?_
          refine m_Rs.n0 b_262 (x_iconst (z := 0) d_262_59 (by decide)) ?_
          exact kk19 _ _ (Option.some.inj e20) h hF
        | false =>
          have e20 := cF hc21 e20
          refine m_Rs.n0 b_262 (x_icf d_262_52 rfl hc21) ?_
          refine m_Rs.n0 b_262 (x_iconst (z := 1) d_262_55 (by decide)) ?_
          refine m_Rs.n0 b_262 (x_goto d_262_56 rfl) ?_
          exact kk19 _ _ (Option.some.inj e20) h hF
def D_m_isWord (F : Nat) (a0 : Nat) (S : mS) : Option (Int32) := (xlen a0).bind fun v1 => (cond (m_c2 .ne ((S.1 81) - (S.1 80)) v1) (some (0 : Int32)) (some (1 : Int32))).bind fun v6 => D_m_isWord_24 F F a0 v6 (0 : Int32) S
theorem T_m_isWord {l : Launch} {w : List mM} {F : Nat} {a0 : Nat} {S : mS} {r : Int32} (ha0 : a0 < 512) (h : m_RM S w) (h0 : D_m_isWord F a0 S = some r) : m_Rs l M_262 (m_ent M_262 [.ref 583, .ref a0] w) (fun v w' => v = some (.int r) ∧ m_RM S w' ∧ m_Fq w w') 0 0 4 400 := by
  show m_Rs l M_262 (0, [(0, .ref 583), (1, .ref a0)], [], w) _ 0 0 4 400
  generalize hw0 : w = w0 at h ⊢
  have hF : m_Fq w0 w0 := m_Fq.refl
  rw [D_m_isWord] at h0
  refine m_Rs.n0 b_262 (x_aload_n d_262_0 rfl) ?_
  refine m_Rs.n0 b_262 (x_getf d_262_1 rfl h.1 rfl) ?_
  refine m_Rs.n0 b_262 (x_aload_n d_262_4 rfl) ?_
  refine m_Rs.n0 b_262 (x_getf d_262_5 rfl h.1 rfl) ?_
  refine m_Rs.n0 b_262 (x_isub d_262_8 rfl) ?_
  refine m_Rs.n0 b_262 (x_aload_n d_262_9 rfl) ?_
  obtain ⟨v1, e2, h0⟩ := bS h0
  refine m_Rs.cxlen b_262 d_262_10 rfl (by simp only [m_okf, List.all_cons, List.all_nil, Bool.and_true, Bool.and_self, m_okv_i, m_okv_l, m_okv_0, m_okv_t, m_okv_at h.1, m_okv_out (a := a0) ha0]) e2 ?_ (Nat.le_of_ble_eq_true rfl) (by decide) (by decide)
  obtain ⟨v6, e4, h0⟩ := bS h0
  have kk3 : ∀ (xz : Int32) (w1 : List mM), xz = v6 → m_RM S w1 → m_Fq w0 w1 → m_Rs l M_262 (21, [(0, .ref 583), (1, .ref a0)], [.int xz], w1) (fun v w' => v = some (.int r) ∧ m_RM S w' ∧ m_Fq w0 w') 0 0 4 400 := by
    intro xz w ez h hF
    rw [ez]
    refine m_Rs.n0 b_262 (x_istore_n d_262_21 rfl (show m_put1 _ _ _ = [(2, _), (0, _), (1, _)] from rfl)) ?_
    refine m_Rs.n0 b_262 (x_iconst (z := 0) d_262_22 (by decide)) ?_
    refine m_Rs.n0 b_262 (x_istore_n d_262_23 rfl (show m_put1 _ _ _ = [(3, _), (2, _), (0, _), (1, _)] from rfl)) ?_
    exact m_Rs.pick [2, 3, 1, 0] rfl (T_m_isWord_24 F ha0 h hF h0)
  cases hc5 : m_c2 .ne ((S.1 81) - (S.1 80)) v1 with
  | true =>
    have e4 := cT hc5 e4
    refine m_Rs.n0 b_262 (x_ict d_262_13 rfl hc5) ?_
    refine m_Rs.n0 b_262 (x_iconst (z := 0) d_262_20 (by decide)) ?_
    exact kk3 _ _ (Option.some.inj e4) h hF
  | false =>
    have e4 := cF hc5 e4
    refine m_Rs.n0 b_262 (x_icf d_262_13 rfl hc5) ?_
    refine m_Rs.n0 b_262 (x_iconst (z := 1) d_262_16 (by decide)) ?_
    refine m_Rs.n0 b_262 (x_goto d_262_17 rfl) ?_
    exact kk3 _ _ (Option.some.inj e4) h hF
def D_m_requestWord_102 (F : Nat) (x1 : Int32) (S : mS) : Option (mS) := cond (m_c1 .eq x1) (some S) ((D_m_isWord F 61 S).bind fun v57 => cond (m_c1 .eq v57) (some S) ((fput S 15 (S.1 82)).bind fun S63 => some S63))
theorem T_m_requestWord_102 {l : Launch} {w0 : List mM} {F : Nat} {x1 : Int32} {S : mS} {w : List mM} {r : mS} (h : m_RM S w) (hF : m_Fq w0 w) (h0 : D_m_requestWord_102 F x1 S = some r) : m_Rs l M_261 (102, [(0, .ref 583), (1, .int x1)], [], w) (fun v w' => v = none ∧ m_RM r w' ∧ m_Fq w0 w') 0 0 5 500 := by
  rw [D_m_requestWord_102] at h0
  refine m_Rs.n0 b_261 (x_iload_n d_261_102 rfl) ?_
  cases hc56 : m_c1 .eq x1 with
  | true =>
    have h0 := cT hc56 h0
    refine m_Rs.n0 b_261 (x_ift d_261_103 rfl hc56) ?_
    exact m_Rs.ret b_261 (m_rt_vr d_261_124 rfl) (rV h0 h hF)
  | false =>
    have h0 := cF hc56 h0
    refine m_Rs.n0 b_261 (x_iff d_261_103 rfl hc56) ?_
    refine m_Rs.n0 b_261 (x_aload_n d_261_106 rfl) ?_
    refine m_Rs.n0 b_261 (x_textw d_261_107 rfl rfl) ?_
    obtain ⟨v57, e58, h0⟩ := bS h0
    refine m_Rs.callS b_261 (y_cv d_261_110 rfl q_262 (m_isRecv_of rfl h.1) (show m_takeI _ _ = some (_, [_, _], []) from rfl) (by simp only [m_okf, List.all_cons, List.all_nil, Bool.and_true, Bool.and_self, m_okv_i, m_okv_l, m_okv_0, m_okv_t, m_okv_at h.1, m_okv_out (a := 61) (by decide)]) rfl) (T_m_isWord (by decide) h e58) hF rfl (fun w1 h hF => ?_) (by decide) (by decide)
    cases hc62 : m_c1 .eq v57 with
    | true =>
      have h0 := cT hc62 h0
      refine m_Rs.n0 b_261 (x_ift d_261_113 rfl hc62) ?_
      exact m_Rs.ret b_261 (m_rt_vr d_261_124 rfl) (rV h0 h hF)
    | false =>
      have h0 := cF hc62 h0
      refine m_Rs.n0 b_261 (x_iff d_261_113 rfl hc62) ?_
      refine m_Rs.n0 b_261 (x_aload_n d_261_116 rfl) ?_
      refine m_Rs.n0 b_261 (x_aload_n d_261_117 rfl) ?_
      refine m_Rs.n0 b_261 (x_getf d_261_118 rfl h.1 rfl) ?_
      obtain ⟨S63, e64, h0⟩ := bS h0
      refine m_Rs.dfput b_261 d_261_121 h hF e64 rfl rfl rfl rfl rfl rfl (fun w1 h hF => ?_)
      exact m_Rs.ret b_261 (m_rt_vr d_261_124 rfl) (rV h0 h hF)
def D_m_requestWord_74 (F : Nat) (x1 : Int32) (S : mS) : Option (mS) := (D_m_isWord F 60 S).bind fun v41 => cond (m_c1 .eq v41) (D_m_requestWord_102 F x1 S) ((cond (m_c1 .eq x1) (some (1000000000 : Int32)) (some (S.1 82))).bind fun v50 => (fput S 14 v50).bind fun S51 => D_m_requestWord_102 F x1 S51)
theorem T_m_requestWord_74 {l : Launch} {w0 : List mM} {F : Nat} {x1 : Int32} {S : mS} {w : List mM} {r : mS} (h : m_RM S w) (hF : m_Fq w0 w) (h0 : D_m_requestWord_74 F x1 S = some r) : m_Rs l M_261 (74, [(0, .ref 583), (1, .int x1)], [], w) (fun v w' => v = none ∧ m_RM r w' ∧ m_Fq w0 w') 0 0 5 500 := by
  rw [D_m_requestWord_74] at h0
  refine m_Rs.n0 b_261 (x_aload_n d_261_74 rfl) ?_
  refine m_Rs.n0 b_261 (x_textw d_261_75 rfl rfl) ?_
  obtain ⟨v41, e42, h0⟩ := bS h0
  refine m_Rs.callS b_261 (y_cv d_261_78 rfl q_262 (m_isRecv_of rfl h.1) (show m_takeI _ _ = some (_, [_, _], []) from rfl) (by simp only [m_okf, List.all_cons, List.all_nil, Bool.and_true, Bool.and_self, m_okv_i, m_okv_l, m_okv_0, m_okv_t, m_okv_at h.1, m_okv_out (a := 60) (by decide)]) rfl) (T_m_isWord (by decide) h e42) hF rfl (fun w1 h hF => ?_) (by decide) (by decide)
  cases hc46 : m_c1 .eq v41 with
  | true =>
    have h0 := cT hc46 h0
    refine m_Rs.n0 b_261 (x_ift d_261_81 rfl hc46) ?_
    exact m_Rs.pick [0, 1] rfl (T_m_requestWord_102 h hF h0)
  | false =>
    have h0 := cF hc46 h0
    refine m_Rs.n0 b_261 (x_iff d_261_81 rfl hc46) ?_
    refine m_Rs.n0 b_261 (x_aload_n d_261_84 rfl) ?_
    refine m_Rs.n0 b_261 (x_iload_n d_261_85 rfl) ?_
    obtain ⟨v50, e48, h0⟩ := bS h0
    have kk47 : ∀ (xz : Int32) (w1 : List mM), xz = v50 → m_RM S w1 → m_Fq w0 w1 → m_Rs l M_261 (99, [(0, .ref 583), (1, .int x1)], [.int xz, .ref 583], w1) (fun v w' => v = none ∧ m_RM r w' ∧ m_Fq w0 w') 0 0 5 500 := by
      intro xz w ez h hF
      rw [ez]
      obtain ⟨S51, e52, h0⟩ := bS h0
      refine m_Rs.dfput b_261 d_261_99 h hF e52 rfl rfl rfl rfl rfl rfl (fun w1 h hF => ?_)
      exact m_Rs.pick [0, 1] rfl (T_m_requestWord_102 h hF h0)
    cases hc49 : m_c1 .eq x1 with
    | true =>
      have e48 := cT hc49 e48
      refine m_Rs.n0 b_261 (x_ift d_261_86 rfl hc49) ?_
      refine m_Rs.n0 b_261 (x_ldcw (v := .int 1000000000) d_261_96 rfl) ?_
      exact kk47 _ _ (Option.some.inj e48) h hF
    | false =>
      have e48 := cF hc49 e48
      refine m_Rs.n0 b_261 (x_iff d_261_86 rfl hc49) ?_
      refine m_Rs.n0 b_261 (x_aload_n d_261_89 rfl) ?_
      refine m_Rs.n0 b_261 (x_getf d_261_90 rfl h.1 rfl) ?_
      refine m_Rs.n0 b_261 (x_goto d_261_93 rfl) ?_
      exact kk47 _ _ (Option.some.inj e48) h hF
def D_m_requestWord_52 (F : Nat) (x1 : Int32) (S : mS) : Option (mS) := cond (m_c1 .eq x1) (D_m_requestWord_74 F x1 S) ((D_m_isWord F 59 S).bind fun v33 => cond (m_c1 .eq v33) (D_m_requestWord_74 F x1 S) ((fput S 13 (S.1 82)).bind fun S39 => D_m_requestWord_74 F x1 S39))
theorem T_m_requestWord_52 {l : Launch} {w0 : List mM} {F : Nat} {x1 : Int32} {S : mS} {w : List mM} {r : mS} (h : m_RM S w) (hF : m_Fq w0 w) (h0 : D_m_requestWord_52 F x1 S = some r) : m_Rs l M_261 (52, [(0, .ref 583), (1, .int x1)], [], w) (fun v w' => v = none ∧ m_RM r w' ∧ m_Fq w0 w') 0 0 5 500 := by
  rw [D_m_requestWord_52] at h0
  refine m_Rs.n0 b_261 (x_iload_n d_261_52 rfl) ?_
  cases hc32 : m_c1 .eq x1 with
  | true =>
    have h0 := cT hc32 h0
    refine m_Rs.n0 b_261 (x_ift d_261_53 rfl hc32) ?_
    exact m_Rs.pick [0, 1] rfl (T_m_requestWord_74 h hF h0)
  | false =>
    have h0 := cF hc32 h0
    refine m_Rs.n0 b_261 (x_iff d_261_53 rfl hc32) ?_
    refine m_Rs.n0 b_261 (x_aload_n d_261_56 rfl) ?_
    refine m_Rs.n0 b_261 (x_textw d_261_57 rfl rfl) ?_
    obtain ⟨v33, e34, h0⟩ := bS h0
    refine m_Rs.callS b_261 (y_cv d_261_60 rfl q_262 (m_isRecv_of rfl h.1) (show m_takeI _ _ = some (_, [_, _], []) from rfl) (by simp only [m_okf, List.all_cons, List.all_nil, Bool.and_true, Bool.and_self, m_okv_i, m_okv_l, m_okv_0, m_okv_t, m_okv_at h.1, m_okv_out (a := 59) (by decide)]) rfl) (T_m_isWord (by decide) h e34) hF rfl (fun w1 h hF => ?_) (by decide) (by decide)
    cases hc38 : m_c1 .eq v33 with
    | true =>
      have h0 := cT hc38 h0
      refine m_Rs.n0 b_261 (x_ift d_261_63 rfl hc38) ?_
      exact m_Rs.pick [0, 1] rfl (T_m_requestWord_74 h hF h0)
    | false =>
      have h0 := cF hc38 h0
      refine m_Rs.n0 b_261 (x_iff d_261_63 rfl hc38) ?_
      refine m_Rs.n0 b_261 (x_aload_n d_261_66 rfl) ?_
      refine m_Rs.n0 b_261 (x_aload_n d_261_67 rfl) ?_
      refine m_Rs.n0 b_261 (x_getf d_261_68 rfl h.1 rfl) ?_
      obtain ⟨S39, e40, h0⟩ := bS h0
      refine m_Rs.dfput b_261 d_261_71 h hF e40 rfl rfl rfl rfl rfl rfl (fun w1 h hF => ?_)
      exact m_Rs.pick [0, 1] rfl (T_m_requestWord_74 h hF h0)
def D_m_requestWord_33 (F : Nat) (x1 : Int32) (S : mS) : Option (mS) := cond (m_c1 .ne x1) (D_m_requestWord_52 F x1 S) ((D_m_isWord F 58 S).bind fun v21 => cond (m_c1 .eq v21) (D_m_requestWord_52 F x1 S) ((fpub S 19 (1 : Int32)).bind fun S27 => D_m_requestWord_52 F x1 S27))
theorem T_m_requestWord_33 {l : Launch} {w0 : List mM} {F : Nat} {x1 : Int32} {S : mS} {w : List mM} {r : mS} (h : m_RM S w) (hF : m_Fq w0 w) (h0 : D_m_requestWord_33 F x1 S = some r) : m_Rs l M_261 (33, [(0, .ref 583), (1, .int x1)], [], w) (fun v w' => v = none ∧ m_RM r w' ∧ m_Fq w0 w') 0 0 5 500 := by
  rw [D_m_requestWord_33] at h0
  refine m_Rs.n0 b_261 (x_iload_n d_261_33 rfl) ?_
  cases hc20 : m_c1 .ne x1 with
  | true =>
    have h0 := cT hc20 h0
    refine m_Rs.n0 b_261 (x_ift d_261_34 rfl hc20) ?_
    exact m_Rs.pick [0, 1] rfl (T_m_requestWord_52 h hF h0)
  | false =>
    have h0 := cF hc20 h0
    refine m_Rs.n0 b_261 (x_iff d_261_34 rfl hc20) ?_
    refine m_Rs.n0 b_261 (x_aload_n d_261_37 rfl) ?_
    refine m_Rs.n0 b_261 (x_textw d_261_38 rfl rfl) ?_
    obtain ⟨v21, e22, h0⟩ := bS h0
    refine m_Rs.callS b_261 (y_cv d_261_41 rfl q_262 (m_isRecv_of rfl h.1) (show m_takeI _ _ = some (_, [_, _], []) from rfl) (by simp only [m_okf, List.all_cons, List.all_nil, Bool.and_true, Bool.and_self, m_okv_i, m_okv_l, m_okv_0, m_okv_t, m_okv_at h.1, m_okv_out (a := 58) (by decide)]) rfl) (T_m_isWord (by decide) h e22) hF rfl (fun w1 h hF => ?_) (by decide) (by decide)
    cases hc26 : m_c1 .eq v21 with
    | true =>
      have h0 := cT hc26 h0
      refine m_Rs.n0 b_261 (x_ift d_261_44 rfl hc26) ?_
      exact m_Rs.pick [0, 1] rfl (T_m_requestWord_52 h hF h0)
    | false =>
      have h0 := cF hc26 h0
      refine m_Rs.n0 b_261 (x_iff d_261_44 rfl hc26) ?_
      refine m_Rs.n0 b_261 (x_aload_n d_261_47 rfl) ?_
      refine m_Rs.n0 b_261 (x_iconst (z := 1) d_261_48 (by decide)) ?_
      obtain ⟨S27, e28, h0⟩ := bS h0
      refine m_Rs.dfpub b_261 d_261_49 h hF e28 rfl rfl rfl rfl rfl (fun w1 h hF => ?_)
      exact m_Rs.pick [0, 1] rfl (T_m_requestWord_52 h hF h0)
def D_m_requestWord (F : Nat) (S : mS) : Option (mS) := (cond (m_c2 .eq (S.1 82) ((-1) : Int32)) (some (0 : Int32)) (some (1 : Int32))).bind fun v4 => cond (m_c1 .ne v4) (D_m_requestWord_33 F v4 S) ((D_m_isWord F 57 S).bind fun v9 => cond (m_c1 .eq v9) (D_m_requestWord_33 F v4 S) ((fpub S 18 (1 : Int32)).bind fun S15 => D_m_requestWord_33 F v4 S15))
theorem T_m_requestWord {l : Launch} {w : List mM} {F : Nat} {S : mS} {r : mS} (h : m_RM S w) (h0 : D_m_requestWord F S = some r) : m_Rs l M_261 (m_ent M_261 [.ref 583] w) (fun v w' => v = none ∧ m_RM r w' ∧ m_Fq w w') 0 0 5 500 := by
  show m_Rs l M_261 (0, [(0, .ref 583)], [], w) _ 0 0 5 500
  generalize hw0 : w = w0 at h ⊢
  have hF : m_Fq w0 w0 := m_Fq.refl
  rw [D_m_requestWord] at h0
  refine m_Rs.n0 b_261 (x_aload_n d_261_0 rfl) ?_
  refine m_Rs.n0 b_261 (x_getf d_261_1 rfl h.1 rfl) ?_
  refine m_Rs.n0 b_261 (x_iconst (z := (-1)) d_261_4 (by decide)) ?_
  obtain ⟨v4, e2, h0⟩ := bS h0
  have kk1 : ∀ (xz : Int32) (w1 : List mM), xz = v4 → m_RM S w1 → m_Fq w0 w1 → m_Rs l M_261 (13, [(0, .ref 583)], [.int xz], w1) (fun v w' => v = none ∧ m_RM r w' ∧ m_Fq w0 w') 0 0 5 500 := by
    intro xz w ez h hF
    rw [ez]
    refine m_Rs.n0 b_261 (x_istore_n d_261_13 rfl (show m_put1 _ _ _ = [(1, _), (0, _)] from rfl)) ?_
    refine m_Rs.n0 b_261 (x_iload_n d_261_14 rfl) ?_
    cases hc8 : m_c1 .ne v4 with
    | true =>
      have h0 := cT hc8 h0
      refine m_Rs.n0 b_261 (x_ift d_261_15 rfl hc8) ?_
      exact m_Rs.pick [1, 0] rfl (T_m_requestWord_33 h hF h0)
    | false =>
      have h0 := cF hc8 h0
      refine m_Rs.n0 b_261 (x_iff d_261_15 rfl hc8) ?_
      refine m_Rs.n0 b_261 (x_aload_n d_261_18 rfl) ?_
      refine m_Rs.n0 b_261 (x_textw d_261_19 rfl rfl) ?_
      obtain ⟨v9, e10, h0⟩ := bS h0
      refine m_Rs.callS b_261 (y_cv d_261_22 rfl q_262 (m_isRecv_of rfl h.1) (show m_takeI _ _ = some (_, [_, _], []) from rfl) (by simp only [m_okf, List.all_cons, List.all_nil, Bool.and_true, Bool.and_self, m_okv_i, m_okv_l, m_okv_0, m_okv_t, m_okv_at h.1, m_okv_out (a := 57) (by decide)]) rfl) (T_m_isWord (by decide) h e10) hF rfl (fun w1 h hF => ?_) (by decide) (by decide)
      cases hc14 : m_c1 .eq v9 with
      | true =>
        have h0 := cT hc14 h0
        refine m_Rs.n0 b_261 (x_ift d_261_25 rfl hc14) ?_
        exact m_Rs.pick [1, 0] rfl (T_m_requestWord_33 h hF h0)
      | false =>
        have h0 := cF hc14 h0
        refine m_Rs.n0 b_261 (x_iff d_261_25 rfl hc14) ?_
        refine m_Rs.n0 b_261 (x_aload_n d_261_28 rfl) ?_
        refine m_Rs.n0 b_261 (x_iconst (z := 1) d_261_29 (by decide)) ?_
        obtain ⟨S15, e16, h0⟩ := bS h0
        refine m_Rs.dfpub b_261 d_261_30 h hF e16 rfl rfl rfl rfl rfl (fun w1 h hF => ?_)
        exact m_Rs.pick [1, 0] rfl (T_m_requestWord_33 h hF h0)
  cases hc3 : m_c2 .eq (S.1 82) ((-1) : Int32) with
  | true =>
    have e2 := cT hc3 e2
    refine m_Rs.n0 b_261 (x_ict d_261_5 rfl hc3) ?_
    refine m_Rs.n0 b_261 (x_iconst (z := 0) d_261_12 (by decide)) ?_
    exact kk1 _ _ (Option.some.inj e2) h hF
  | false =>
    have e2 := cF hc3 e2
    refine m_Rs.n0 b_261 (x_icf d_261_5 rfl hc3) ?_
    refine m_Rs.n0 b_261 (x_iconst (z := 1) d_261_8 (by decide)) ?_
    refine m_Rs.n0 b_261 (x_goto d_261_9 rfl) ?_
    exact kk1 _ _ (Option.some.inj e2) h hF
def D_m_thingWord_96 (F : Nat) (x1 : Int32) (S : mS) : Option (mS) := cond (m_c1 .eq x1) (some S) ((D_m_isWord F 64 S).bind fun v57 => cond (m_c1 .eq v57) (some S) ((fput S 27 (S.1 82)).bind fun S63 => some S63))
theorem T_m_thingWord_96 {l : Launch} {w0 : List mM} {F : Nat} {x1 : Int32} {S : mS} {w : List mM} {r : mS} (h : m_RM S w) (hF : m_Fq w0 w) (h0 : D_m_thingWord_96 F x1 S = some r) : m_Rs l M_263 (96, [(0, .ref 583), (1, .int x1)], [], w) (fun v w' => v = none ∧ m_RM r w' ∧ m_Fq w0 w') 0 0 5 500 := by
  rw [D_m_thingWord_96] at h0
  refine m_Rs.n0 b_263 (x_iload_n d_263_96 rfl) ?_
  cases hc56 : m_c1 .eq x1 with
  | true =>
    have h0 := cT hc56 h0
    refine m_Rs.n0 b_263 (x_ift d_263_97 rfl hc56) ?_
    exact m_Rs.ret b_263 (m_rt_vr d_263_118 rfl) (rV h0 h hF)
  | false =>
    have h0 := cF hc56 h0
    refine m_Rs.n0 b_263 (x_iff d_263_97 rfl hc56) ?_
    refine m_Rs.n0 b_263 (x_aload_n d_263_100 rfl) ?_
    refine m_Rs.n0 b_263 (x_textw d_263_101 rfl rfl) ?_
    obtain ⟨v57, e58, h0⟩ := bS h0
    refine m_Rs.callS b_263 (y_cv d_263_104 rfl q_262 (m_isRecv_of rfl h.1) (show m_takeI _ _ = some (_, [_, _], []) from rfl) (by simp only [m_okf, List.all_cons, List.all_nil, Bool.and_true, Bool.and_self, m_okv_i, m_okv_l, m_okv_0, m_okv_t, m_okv_at h.1, m_okv_out (a := 64) (by decide)]) rfl) (T_m_isWord (by decide) h e58) hF rfl (fun w1 h hF => ?_) (by decide) (by decide)
    cases hc62 : m_c1 .eq v57 with
    | true =>
      have h0 := cT hc62 h0
      refine m_Rs.n0 b_263 (x_ift d_263_107 rfl hc62) ?_
      exact m_Rs.ret b_263 (m_rt_vr d_263_118 rfl) (rV h0 h hF)
    | false =>
      have h0 := cF hc62 h0
      refine m_Rs.n0 b_263 (x_iff d_263_107 rfl hc62) ?_
      refine m_Rs.n0 b_263 (x_aload_n d_263_110 rfl) ?_
      refine m_Rs.n0 b_263 (x_aload_n d_263_111 rfl) ?_
      refine m_Rs.n0 b_263 (x_getf d_263_112 rfl h.1 rfl) ?_
      obtain ⟨S63, e64, h0⟩ := bS h0
      refine m_Rs.dfput b_263 d_263_115 h hF e64 rfl rfl rfl rfl rfl rfl (fun w1 h hF => ?_)
      exact m_Rs.ret b_263 (m_rt_vr d_263_118 rfl) (rV h0 h hF)
def D_m_thingWord_74 (F : Nat) (x1 : Int32) (S : mS) : Option (mS) := cond (m_c1 .eq x1) (D_m_thingWord_96 F x1 S) ((D_m_isWord F 63 S).bind fun v45 => cond (m_c1 .eq v45) (D_m_thingWord_96 F x1 S) ((fput S 26 (S.1 82)).bind fun S51 => D_m_thingWord_96 F x1 S51))
theorem T_m_thingWord_74 {l : Launch} {w0 : List mM} {F : Nat} {x1 : Int32} {S : mS} {w : List mM} {r : mS} (h : m_RM S w) (hF : m_Fq w0 w) (h0 : D_m_thingWord_74 F x1 S = some r) : m_Rs l M_263 (74, [(0, .ref 583), (1, .int x1)], [], w) (fun v w' => v = none ∧ m_RM r w' ∧ m_Fq w0 w') 0 0 5 500 := by
  rw [D_m_thingWord_74] at h0
  refine m_Rs.n0 b_263 (x_iload_n d_263_74 rfl) ?_
  cases hc44 : m_c1 .eq x1 with
  | true =>
    have h0 := cT hc44 h0
    refine m_Rs.n0 b_263 (x_ift d_263_75 rfl hc44) ?_
    exact m_Rs.pick [0, 1] rfl (T_m_thingWord_96 h hF h0)
  | false =>
    have h0 := cF hc44 h0
    refine m_Rs.n0 b_263 (x_iff d_263_75 rfl hc44) ?_
    refine m_Rs.n0 b_263 (x_aload_n d_263_78 rfl) ?_
    refine m_Rs.n0 b_263 (x_textw d_263_79 rfl rfl) ?_
    obtain ⟨v45, e46, h0⟩ := bS h0
    refine m_Rs.callS b_263 (y_cv d_263_82 rfl q_262 (m_isRecv_of rfl h.1) (show m_takeI _ _ = some (_, [_, _], []) from rfl) (by simp only [m_okf, List.all_cons, List.all_nil, Bool.and_true, Bool.and_self, m_okv_i, m_okv_l, m_okv_0, m_okv_t, m_okv_at h.1, m_okv_out (a := 63) (by decide)]) rfl) (T_m_isWord (by decide) h e46) hF rfl (fun w1 h hF => ?_) (by decide) (by decide)
    cases hc50 : m_c1 .eq v45 with
    | true =>
      have h0 := cT hc50 h0
      refine m_Rs.n0 b_263 (x_ift d_263_85 rfl hc50) ?_
      exact m_Rs.pick [0, 1] rfl (T_m_thingWord_96 h hF h0)
    | false =>
      have h0 := cF hc50 h0
      refine m_Rs.n0 b_263 (x_iff d_263_85 rfl hc50) ?_
      refine m_Rs.n0 b_263 (x_aload_n d_263_88 rfl) ?_
      refine m_Rs.n0 b_263 (x_aload_n d_263_89 rfl) ?_
      refine m_Rs.n0 b_263 (x_getf d_263_90 rfl h.1 rfl) ?_
      obtain ⟨S51, e52, h0⟩ := bS h0
      refine m_Rs.dfput b_263 d_263_93 h hF e52 rfl rfl rfl rfl rfl rfl (fun w1 h hF => ?_)
      exact m_Rs.pick [0, 1] rfl (T_m_thingWord_96 h hF h0)
def D_m_thingWord_52 (F : Nat) (x1 : Int32) (S : mS) : Option (mS) := cond (m_c1 .eq x1) (D_m_thingWord_74 F x1 S) ((D_m_isWord F 59 S).bind fun v33 => cond (m_c1 .eq v33) (D_m_thingWord_74 F x1 S) ((fput S 25 (S.1 82)).bind fun S39 => D_m_thingWord_74 F x1 S39))
theorem T_m_thingWord_52 {l : Launch} {w0 : List mM} {F : Nat} {x1 : Int32} {S : mS} {w : List mM} {r : mS} (h : m_RM S w) (hF : m_Fq w0 w) (h0 : D_m_thingWord_52 F x1 S = some r) : m_Rs l M_263 (52, [(0, .ref 583), (1, .int x1)], [], w) (fun v w' => v = none ∧ m_RM r w' ∧ m_Fq w0 w') 0 0 5 500 := by
  rw [D_m_thingWord_52] at h0
  refine m_Rs.n0 b_263 (x_iload_n d_263_52 rfl) ?_
  cases hc32 : m_c1 .eq x1 with
  | true =>
    have h0 := cT hc32 h0
    refine m_Rs.n0 b_263 (x_ift d_263_53 rfl hc32) ?_
    exact m_Rs.pick [0, 1] rfl (T_m_thingWord_74 h hF h0)
  | false =>
    have h0 := cF hc32 h0
    refine m_Rs.n0 b_263 (x_iff d_263_53 rfl hc32) ?_
    refine m_Rs.n0 b_263 (x_aload_n d_263_56 rfl) ?_
    refine m_Rs.n0 b_263 (x_textw d_263_57 rfl rfl) ?_
    obtain ⟨v33, e34, h0⟩ := bS h0
    refine m_Rs.callS b_263 (y_cv d_263_60 rfl q_262 (m_isRecv_of rfl h.1) (show m_takeI _ _ = some (_, [_, _], []) from rfl) (by simp only [m_okf, List.all_cons, List.all_nil, Bool.and_true, Bool.and_self, m_okv_i, m_okv_l, m_okv_0, m_okv_t, m_okv_at h.1, m_okv_out (a := 59) (by decide)]) rfl) (T_m_isWord (by decide) h e34) hF rfl (fun w1 h hF => ?_) (by decide) (by decide)
    cases hc38 : m_c1 .eq v33 with
    | true =>
      have h0 := cT hc38 h0
      refine m_Rs.n0 b_263 (x_ift d_263_63 rfl hc38) ?_
      exact m_Rs.pick [0, 1] rfl (T_m_thingWord_74 h hF h0)
    | false =>
      have h0 := cF hc38 h0
      refine m_Rs.n0 b_263 (x_iff d_263_63 rfl hc38) ?_
      refine m_Rs.n0 b_263 (x_aload_n d_263_66 rfl) ?_
      refine m_Rs.n0 b_263 (x_aload_n d_263_67 rfl) ?_
      refine m_Rs.n0 b_263 (x_getf d_263_68 rfl h.1 rfl) ?_
      obtain ⟨S39, e40, h0⟩ := bS h0
      refine m_Rs.dfput b_263 d_263_71 h hF e40 rfl rfl rfl rfl rfl rfl (fun w1 h hF => ?_)
      exact m_Rs.pick [0, 1] rfl (T_m_thingWord_74 h hF h0)
def D_m_thingWord_33 (F : Nat) (x1 : Int32) (S : mS) : Option (mS) := cond (m_c1 .ne x1) (D_m_thingWord_52 F x1 S) ((D_m_isWord F 57 S).bind fun v21 => cond (m_c1 .eq v21) (D_m_thingWord_52 F x1 S) ((fpub S 30 (1 : Int32)).bind fun S27 => D_m_thingWord_52 F x1 S27))
theorem T_m_thingWord_33 {l : Launch} {w0 : List mM} {F : Nat} {x1 : Int32} {S : mS} {w : List mM} {r : mS} (h : m_RM S w) (hF : m_Fq w0 w) (h0 : D_m_thingWord_33 F x1 S = some r) : m_Rs l M_263 (33, [(0, .ref 583), (1, .int x1)], [], w) (fun v w' => v = none ∧ m_RM r w' ∧ m_Fq w0 w') 0 0 5 500 := by
  rw [D_m_thingWord_33] at h0
  refine m_Rs.n0 b_263 (x_iload_n d_263_33 rfl) ?_
  cases hc20 : m_c1 .ne x1 with
  | true =>
    have h0 := cT hc20 h0
    refine m_Rs.n0 b_263 (x_ift d_263_34 rfl hc20) ?_
    exact m_Rs.pick [0, 1] rfl (T_m_thingWord_52 h hF h0)
  | false =>
    have h0 := cF hc20 h0
    refine m_Rs.n0 b_263 (x_iff d_263_34 rfl hc20) ?_
    refine m_Rs.n0 b_263 (x_aload_n d_263_37 rfl) ?_
    refine m_Rs.n0 b_263 (x_textw d_263_38 rfl rfl) ?_
    obtain ⟨v21, e22, h0⟩ := bS h0
    refine m_Rs.callS b_263 (y_cv d_263_41 rfl q_262 (m_isRecv_of rfl h.1) (show m_takeI _ _ = some (_, [_, _], []) from rfl) (by simp only [m_okf, List.all_cons, List.all_nil, Bool.and_true, Bool.and_self, m_okv_i, m_okv_l, m_okv_0, m_okv_t, m_okv_at h.1, m_okv_out (a := 57) (by decide)]) rfl) (T_m_isWord (by decide) h e22) hF rfl (fun w1 h hF => ?_) (by decide) (by decide)
    cases hc26 : m_c1 .eq v21 with
    | true =>
      have h0 := cT hc26 h0
      refine m_Rs.n0 b_263 (x_ift d_263_44 rfl hc26) ?_
      exact m_Rs.pick [0, 1] rfl (T_m_thingWord_52 h hF h0)
    | false =>
      have h0 := cF hc26 h0
      refine m_Rs.n0 b_263 (x_iff d_263_44 rfl hc26) ?_
      refine m_Rs.n0 b_263 (x_aload_n d_263_47 rfl) ?_
      refine m_Rs.n0 b_263 (x_iconst (z := 1) d_263_48 (by decide)) ?_
      obtain ⟨S27, e28, h0⟩ := bS h0
      refine m_Rs.dfpub b_263 d_263_49 h hF e28 rfl rfl rfl rfl rfl (fun w1 h hF => ?_)
      exact m_Rs.pick [0, 1] rfl (T_m_thingWord_52 h hF h0)
def D_m_thingWord (F : Nat) (S : mS) : Option (mS) := (cond (m_c2 .eq (S.1 82) ((-1) : Int32)) (some (0 : Int32)) (some (1 : Int32))).bind fun v4 => cond (m_c1 .ne v4) (D_m_thingWord_33 F v4 S) ((D_m_isWord F 62 S).bind fun v9 => cond (m_c1 .eq v9) (D_m_thingWord_33 F v4 S) ((fpub S 29 (1 : Int32)).bind fun S15 => D_m_thingWord_33 F v4 S15))
theorem T_m_thingWord {l : Launch} {w : List mM} {F : Nat} {S : mS} {r : mS} (h : m_RM S w) (h0 : D_m_thingWord F S = some r) : m_Rs l M_263 (m_ent M_263 [.ref 583] w) (fun v w' => v = none ∧ m_RM r w' ∧ m_Fq w w') 0 0 5 500 := by
  show m_Rs l M_263 (0, [(0, .ref 583)], [], w) _ 0 0 5 500
  generalize hw0 : w = w0 at h ⊢
  have hF : m_Fq w0 w0 := m_Fq.refl
  rw [D_m_thingWord] at h0
  refine m_Rs.n0 b_263 (x_aload_n d_263_0 rfl) ?_
  refine m_Rs.n0 b_263 (x_getf d_263_1 rfl h.1 rfl) ?_
  refine m_Rs.n0 b_263 (x_iconst (z := (-1)) d_263_4 (by decide)) ?_
  obtain ⟨v4, e2, h0⟩ := bS h0
  have kk1 : ∀ (xz : Int32) (w1 : List mM), xz = v4 → m_RM S w1 → m_Fq w0 w1 → m_Rs l M_263 (13, [(0, .ref 583)], [.int xz], w1) (fun v w' => v = none ∧ m_RM r w' ∧ m_Fq w0 w') 0 0 5 500 := by
    intro xz w ez h hF
    rw [ez]
    refine m_Rs.n0 b_263 (x_istore_n d_263_13 rfl (show m_put1 _ _ _ = [(1, _), (0, _)] from rfl)) ?_
    refine m_Rs.n0 b_263 (x_iload_n d_263_14 rfl) ?_
    cases hc8 : m_c1 .ne v4 with
    | true =>
      have h0 := cT hc8 h0
      refine m_Rs.n0 b_263 (x_ift d_263_15 rfl hc8) ?_
      exact m_Rs.pick [1, 0] rfl (T_m_thingWord_33 h hF h0)
    | false =>
      have h0 := cF hc8 h0
      refine m_Rs.n0 b_263 (x_iff d_263_15 rfl hc8) ?_
      refine m_Rs.n0 b_263 (x_aload_n d_263_18 rfl) ?_
      refine m_Rs.n0 b_263 (x_textw d_263_19 rfl rfl) ?_
      obtain ⟨v9, e10, h0⟩ := bS h0
      refine m_Rs.callS b_263 (y_cv d_263_22 rfl q_262 (m_isRecv_of rfl h.1) (show m_takeI _ _ = some (_, [_, _], []) from rfl) (by simp only [m_okf, List.all_cons, List.all_nil, Bool.and_true, Bool.and_self, m_okv_i, m_okv_l, m_okv_0, m_okv_t, m_okv_at h.1, m_okv_out (a := 62) (by decide)]) rfl) (T_m_isWord (by decide) h e10) hF rfl (fun w1 h hF => ?_) (by decide) (by decide)
      cases hc14 : m_c1 .eq v9 with
      | true =>
        have h0 := cT hc14 h0
        refine m_Rs.n0 b_263 (x_ift d_263_25 rfl hc14) ?_
        exact m_Rs.pick [1, 0] rfl (T_m_thingWord_33 h hF h0)
      | false =>
        have h0 := cF hc14 h0
        refine m_Rs.n0 b_263 (x_iff d_263_25 rfl hc14) ?_
        refine m_Rs.n0 b_263 (x_aload_n d_263_28 rfl) ?_
        refine m_Rs.n0 b_263 (x_iconst (z := 1) d_263_29 (by decide)) ?_
        obtain ⟨S15, e16, h0⟩ := bS h0
        refine m_Rs.dfpub b_263 d_263_30 h hF e16 rfl rfl rfl rfl rfl (fun w1 h hF => ?_)
        exact m_Rs.pick [1, 0] rfl (T_m_thingWord_33 h hF h0)
  cases hc3 : m_c2 .eq (S.1 82) ((-1) : Int32) with
  | true =>
    have e2 := cT hc3 e2
    refine m_Rs.n0 b_263 (x_ict d_263_5 rfl hc3) ?_
    refine m_Rs.n0 b_263 (x_iconst (z := 0) d_263_12 (by decide)) ?_
    exact kk1 _ _ (Option.some.inj e2) h hF
  | false =>
    have e2 := cF hc3 e2
    refine m_Rs.n0 b_263 (x_icf d_263_5 rfl hc3) ?_
    refine m_Rs.n0 b_263 (x_iconst (z := 1) d_263_8 (by decide)) ?_
    refine m_Rs.n0 b_263 (x_goto d_263_9 rfl) ?_
    exact kk1 _ _ (Option.some.inj e2) h hF
def D_m_weighWord (F : Nat) (S : mS) : Option (mS) := (D_m_isWord F 65 S).bind fun v1 => (cond (m_c1 .eq v1) ((D_m_isWord F 66 S).bind fun v6 => cond (m_c1 .eq v6) ((D_m_isWord F 67 S).bind fun v9 => cond (m_c1 .eq v9) ((D_m_isWord F 68 S).bind fun v12 => cond (m_c1 .eq v12) (some ((-1) : Int32)) (some (3 : Int32))) (some (2 : Int32))) (some (1 : Int32))) (some (0 : Int32))).bind fun v15 => cond (m_c2 .eq v15 ((-1) : Int32)) (some S) ((cond (m_c2 .ne (S.1 82) ((-1) : Int32)) (some (S.1 82)) (some (9 : Int32))).bind fun v23 => (aput 5 S 585 v15 v23).bind fun S24 => some S24)
theorem T_m_weighWord {l : Launch} {w : List mM} {F : Nat} {S : mS} {r : mS} (h : m_RM S w) (h0 : D_m_weighWord F S = some r) : m_Rs l M_264 (m_ent M_264 [.ref 583] w) (fun v w' => v = none ∧ m_RM r w' ∧ m_Fq w w') 0 0 5 500 := by
  show m_Rs l M_264 (0, [(0, .ref 583)], [], w) _ 0 0 5 500
  generalize hw0 : w = w0 at h ⊢
  have hF : m_Fq w0 w0 := m_Fq.refl
  rw [D_m_weighWord] at h0
  refine m_Rs.n0 b_264 (x_aload_n d_264_0 rfl) ?_
  refine m_Rs.n0 b_264 (x_textw d_264_1 rfl rfl) ?_
  obtain ⟨v1, e2, h0⟩ := bS h0
  refine m_Rs.callS b_264 (y_cv d_264_4 rfl q_262 (m_isRecv_of rfl h.1) (show m_takeI _ _ = some (_, [_, _], []) from rfl) (by simp only [m_okf, List.all_cons, List.all_nil, Bool.and_true, Bool.and_self, m_okv_i, m_okv_l, m_okv_0, m_okv_t, m_okv_at h.1, m_okv_out (a := 65) (by decide)]) rfl) (T_m_isWord (by decide) h e2) hF rfl (fun w1 h hF => ?_) (by decide) (by decide)
  obtain ⟨v15, e4, h0⟩ := bS h0
  have kk3 : ∀ (xz : Int32) (w1 : List mM), xz = v15 → m_RM S w1 → m_Fq w0 w1 → m_Rs l M_264 (57, [(0, .ref 583)], [.int xz], w1) (fun v w' => v = none ∧ m_RM r w' ∧ m_Fq w0 w') 0 0 5 500 := by
    intro xz w ez h hF
    rw [ez]
    refine m_Rs.n0 b_264 (x_istore_n d_264_57 rfl (show m_put1 _ _ _ = [(1, _), (0, _)] from rfl)) ?_
    refine m_Rs.n0 b_264 (x_iload_n d_264_58 rfl) ?_
    refine m_Rs.n0 b_264 (x_iconst (z := (-1)) d_264_59 (by decide)) ?_
    cases hc19 : m_c2 .eq v15 ((-1) : Int32) with
    | true =>
      have h0 := cT hc19 h0
      refine m_Rs.n0 b_264 (x_ict d_264_60 rfl hc19) ?_
      exact m_Rs.ret b_264 (m_rt_vr d_264_86 rfl) (rV h0 h hF)
    | false =>
      have h0 := cF hc19 h0
      refine m_Rs.n0 b_264 (x_icf d_264_60 rfl hc19) ?_
      refine m_Rs.n0 b_264 (x_aload_n d_264_63 rfl) ?_
      refine m_Rs.n0 b_264 (x_getf d_264_64 rfl h.1 rfl) ?_
      refine m_Rs.n0 b_264 (x_iload_n d_264_67 rfl) ?_
      refine m_Rs.n0 b_264 (x_aload_n d_264_68 rfl) ?_
      refine m_Rs.n0 b_264 (x_getf d_264_69 rfl h.1 rfl) ?_
      refine m_Rs.n0 b_264 (x_iconst (z := (-1)) d_264_72 (by decide)) ?_
      obtain ⟨v23, e21, h0⟩ := bS h0
      have kk20 : ∀ (xz : Int32) (w1 : List mM), xz = v23 → m_RM S w1 → m_Fq w0 w1 → m_Rs l M_264 (85, [(1, .int v15), (0, .ref 583)], [.int xz, .int v15, .ref 585], w1) (fun v w' => v = none ∧ m_RM r w' ∧ m_Fq w0 w') 0 0 5 500 := by
        intro xz w ez h hF
        rw [ez]
        obtain ⟨S24, e25, h0⟩ := bS h0
        refine m_Rs.dput b_264 d_264_85 h hF 1 rfl e25 (fun w1 h hF => ?_)
        exact m_Rs.ret b_264 (m_rt_vr d_264_86 rfl) (rV h0 h hF)
      cases hc22 : m_c2 .ne (S.1 82) ((-1) : Int32) with
      | true =>
        have e21 := cT hc22 e21
        refine m_Rs.n0 b_264 (x_ict d_264_73 rfl hc22) ?_
        refine m_Rs.n0 b_264 (x_aload_n d_264_81 rfl) ?_
        refine m_Rs.n0 b_264 (x_getf d_264_82 rfl h.1 rfl) ?_
        exact kk20 _ _ (Option.some.inj e21) h hF
      | false =>
        have e21 := cF hc22 e21
        refine m_Rs.n0 b_264 (x_icf d_264_73 rfl hc22) ?_
        refine m_Rs.n0 b_264 (x_bipush (z := 9) d_264_76 (by decide)) ?_
        refine m_Rs.n0 b_264 (x_goto d_264_78 rfl) ?_
        exact kk20 _ _ (Option.some.inj e21) h hF
  cases hc5 : m_c1 .eq v1 with
  | true =>
    have e4 := cT hc5 e4
    refine m_Rs.n0 b_264 (x_ift d_264_7 rfl hc5) ?_
    refine m_Rs.n0 b_264 (x_aload_n d_264_14 rfl) ?_
    refine m_Rs.n0 b_264 (x_textw d_264_15 rfl rfl) ?_
    obtain ⟨v6, e7, e4⟩ := bS e4
    refine m_Rs.callS b_264 (y_cv d_264_18 rfl q_262 (m_isRecv_of rfl h.1) (show m_takeI _ _ = some (_, [_, _], []) from rfl) (by simp only [m_okf, List.all_cons, List.all_nil, Bool.and_true, Bool.and_self, m_okv_i, m_okv_l, m_okv_0, m_okv_t, m_okv_at h.1, m_okv_out (a := 66) (by decide)]) rfl) (T_m_isWord (by decide) h e7) hF rfl (fun w1 h hF => ?_) (by decide) (by decide)
    cases hc8 : m_c1 .eq v6 with
    | true =>
      have e4 := cT hc8 e4
      refine m_Rs.n0 b_264 (x_ift d_264_21 rfl hc8) ?_
      refine m_Rs.n0 b_264 (x_aload_n d_264_28 rfl) ?_
      refine m_Rs.n0 b_264 (x_textw d_264_29 rfl rfl) ?_
      obtain ⟨v9, e10, e4⟩ := bS e4
      refine m_Rs.callS b_264 (y_cv d_264_32 rfl q_262 (m_isRecv_of rfl h.1) (show m_takeI _ _ = some (_, [_, _], []) from rfl) (by simp only [m_okf, List.all_cons, List.all_nil, Bool.and_true, Bool.and_self, m_okv_i, m_okv_l, m_okv_0, m_okv_t, m_okv_at h.1, m_okv_out (a := 67) (by decide)]) rfl) (T_m_isWord (by decide) h e10) hF rfl (fun w1 h hF => ?_) (by decide) (by decide)
      cases hc11 : m_c1 .eq v9 with
      | true =>
        have e4 := cT hc11 e4
        refine m_Rs.n0 b_264 (x_ift d_264_35 rfl hc11) ?_
        refine m_Rs.n0 b_264 (x_aload_n d_264_42 rfl) ?_
        refine m_Rs.n0 b_264 (x_textw d_264_43 rfl rfl) ?_
        obtain ⟨v12, e13, e4⟩ := bS e4
        refine m_Rs.callS b_264 (y_cv d_264_46 rfl q_262 (m_isRecv_of rfl h.1) (show m_takeI _ _ = some (_, [_, _], []) from rfl) (by simp only [m_okf, List.all_cons, List.all_nil, Bool.and_true, Bool.and_self, m_okv_i, m_okv_l, m_okv_0, m_okv_t, m_okv_at h.1, m_okv_out (a := 68) (by decide)]) rfl) (T_m_isWord (by decide) h e13) hF rfl (fun w1 h hF => ?_) (by decide) (by decide)
        cases hc14 : m_c1 .eq v12 with
        | true =>
          have e4 := cT hc14 e4
          refine m_Rs.n0 b_264 (x_ift d_264_49 rfl hc14) ?_
          refine m_Rs.n0 b_264 (x_iconst (z := (-1)) d_264_56 (by decide)) ?_
          exact kk3 _ _ (Option.some.inj e4) h hF
        | false =>
          have e4 := cF hc14 e4
          refine m_Rs.n0 b_264 (x_iff d_264_49 rfl hc14) ?_
          refine m_Rs.n0 b_264 (x_iconst (z := 3) d_264_52 (by decide)) ?_
          refine m_Rs.n0 b_264 (x_goto d_264_53 rfl) ?_
          exact kk3 _ _ (Option.some.inj e4) h hF
      | false =>
        have e4 := cF hc11 e4
        refine m_Rs.n0 b_264 (x_iff d_264_35 rfl hc11) ?_
        refine m_Rs.n0 b_264 (x_iconst (z := 2) d_264_38 (by decide)) ?_
        refine m_Rs.n0 b_264 (x_goto d_264_39 rfl) ?_
        exact kk3 _ _ (Option.some.inj e4) h hF
    | false =>
      have e4 := cF hc8 e4
      refine m_Rs.n0 b_264 (x_iff d_264_21 rfl hc8) ?_
      refine m_Rs.n0 b_264 (x_iconst (z := 1) d_264_24 (by decide)) ?_
      refine m_Rs.n0 b_264 (x_goto d_264_25 rfl) ?_
      exact kk3 _ _ (Option.some.inj e4) h hF
  | false =>
    have e4 := cF hc5 e4
    refine m_Rs.n0 b_264 (x_iff d_264_7 rfl hc5) ?_
    refine m_Rs.n0 b_264 (x_iconst (z := 0) d_264_10 (by decide)) ?_
    refine m_Rs.n0 b_264 (x_goto d_264_11 rfl) ?_
    exact kk3 _ _ (Option.some.inj e4) h hF
def D_m_varyWord (F : Nat) (S : mS) : Option (mS) := cond (m_c2 .eq (S.1 82) ((-1) : Int32)) ((D_m_isWord F 69 S).bind fun v2 => (cond (m_c1 .eq v2) ((D_m_isWord F 70 S).bind fun v7 => cond (m_c1 .eq v7) (some (0 : Int32)) (some (2 : Int32))) (some (1 : Int32))).bind fun v10 => (fput S 28 ((S.1 28) ||| v10)).bind fun S11 => some S11) (some S)
theorem T_m_varyWord {l : Launch} {w : List mM} {F : Nat} {S : mS} {r : mS} (h : m_RM S w) (h0 : D_m_varyWord F S = some r) : m_Rs l M_265 (m_ent M_265 [.ref 583] w) (fun v w' => v = none ∧ m_RM r w' ∧ m_Fq w w') 0 0 5 500 := by
  show m_Rs l M_265 (0, [(0, .ref 583)], [], w) _ 0 0 5 500
  generalize hw0 : w = w0 at h ⊢
  have hF : m_Fq w0 w0 := m_Fq.refl
  rw [D_m_varyWord] at h0
  refine m_Rs.n0 b_265 (x_aload_n d_265_0 rfl) ?_
  refine m_Rs.n0 b_265 (x_getf d_265_1 rfl h.1 rfl) ?_
  refine m_Rs.n0 b_265 (x_iconst (z := (-1)) d_265_4 (by decide)) ?_
  cases hc1 : m_c2 .eq (S.1 82) ((-1) : Int32) with
  | true =>
    have h0 := cT hc1 h0
    refine m_Rs.n0 b_265 (x_ict d_265_5 rfl hc1) ?_
    refine m_Rs.n0 b_265 (x_aload_n d_265_9 rfl) ?_
    refine m_Rs.n0 b_265 (x_dup d_265_10 rfl) ?_
    refine m_Rs.n0 b_265 (x_getf d_265_11 rfl h.1 rfl) ?_
    refine m_Rs.n0 b_265 (x_aload_n d_265_14 rfl) ?_
    refine m_Rs.n0 b_265 (x_textw d_265_15 rfl rfl) ?_
    obtain ⟨v2, e3, h0⟩ := bS h0
    refine m_Rs.callS b_265 (y_cv d_265_18 rfl q_262 (m_isRecv_of rfl h.1) (show m_takeI _ _ = some (_, [_, _], [_, _]) from rfl) (by simp only [m_okf, List.all_cons, List.all_nil, Bool.and_true, Bool.and_self, m_okv_i, m_okv_l, m_okv_0, m_okv_t, m_okv_at h.1, m_okv_out (a := 69) (by decide)]) rfl) (T_m_isWord (by decide) h e3) hF rfl (fun w1 h hF => ?_) (by decide) (by decide)
    obtain ⟨v10, e5, h0⟩ := bS h0
    have kk4 : ∀ (xz : Int32) (w1 : List mM), xz = v10 → m_RM S w1 → m_Fq w0 w1 → m_Rs l M_265 (43, [(0, .ref 583)], [.int xz, .int (S.1 28), .ref 583], w1) (fun v w' => v = none ∧ m_RM r w' ∧ m_Fq w0 w') 0 0 5 500 := by
      intro xz w ez h hF
      rw [ez]
      refine m_Rs.n0 b_265 (x_ior d_265_43 rfl) ?_
      obtain ⟨S11, e12, h0⟩ := bS h0
      refine m_Rs.dfput b_265 d_265_44 h hF e12 rfl rfl rfl rfl rfl rfl (fun w1 h hF => ?_)
      exact m_Rs.ret b_265 (m_rt_vr d_265_47 rfl) (rV h0 h hF)
    cases hc6 : m_c1 .eq v2 with
    | true =>
      have e5 := cT hc6 e5
      refine m_Rs.n0 b_265 (x_ift d_265_21 rfl hc6) ?_
      refine m_Rs.n0 b_265 (x_aload_n d_265_28 rfl) ?_
      refine m_Rs.n0 b_265 (x_textw d_265_29 rfl rfl) ?_
      obtain ⟨v7, e8, e5⟩ := bS e5
      refine m_Rs.callS b_265 (y_cv d_265_32 rfl q_262 (m_isRecv_of rfl h.1) (show m_takeI _ _ = some (_, [_, _], [_, _]) from rfl) (by simp only [m_okf, List.all_cons, List.all_nil, Bool.and_true, Bool.and_self, m_okv_i, m_okv_l, m_okv_0, m_okv_t, m_okv_at h.1, m_okv_out (a := 70) (by decide)]) rfl) (T_m_isWord (by decide) h e8) hF rfl (fun w1 h hF => ?_) (by decide) (by decide)
      cases hc9 : m_c1 .eq v7 with
      | true =>
        have e5 := cT hc9 e5
        refine m_Rs.n0 b_265 (x_ift d_265_35 rfl hc9) ?_
        refine m_Rs.n0 b_265 (x_iconst (z := 0) d_265_42 (by decide)) ?_
        exact kk4 _ _ (Option.some.inj e5) h hF
      | false =>
        have e5 := cF hc9 e5
        refine m_Rs.n0 b_265 (x_iff d_265_35 rfl hc9) ?_
        refine m_Rs.n0 b_265 (x_iconst (z := 2) d_265_38 (by decide)) ?_
        refine m_Rs.n0 b_265 (x_goto d_265_39 rfl) ?_
        exact kk4 _ _ (Option.some.inj e5) h hF
    | false =>
      have e5 := cF hc6 e5
      refine m_Rs.n0 b_265 (x_iff d_265_21 rfl hc6) ?_
      refine m_Rs.n0 b_265 (x_iconst (z := 1) d_265_24 (by decide)) ?_
      refine m_Rs.n0 b_265 (x_goto d_265_25 rfl) ?_
      exact kk4 _ _ (Option.some.inj e5) h hF
  | false =>
    have h0 := cF hc1 h0
    refine m_Rs.n0 b_265 (x_icf d_265_5 rfl hc1) ?_
    exact m_Rs.ret b_265 (m_rt_vr d_265_8 rfl) (rV h0 h hF)
def D_m_list_241 (F : Nat) (rec2 : Int32 → Int32 → mS → Option (mS)) (x1 : Int32) (S : mS) : Option (mS) := (D_m_see F S).bind fun v70 => (cond (m_c2 .ne v70 (44 : Int32)) (some (0 : Int32)) (some (1 : Int32))).bind fun v75 => cond (m_c1 .eq v75) (rec2 x1 v75 S) ((fput S 4 ((S.1 4) + (1 : Int32))).bind fun S77 => (D_m_expect F (32 : Int32) S77).bind fun q79 => rec2 x1 v75 q79.2)
theorem T_m_list_241 {l : Launch} {w0 : List mM} {F : Nat} {rec2 : Int32 → Int32 → mS → Option (mS)} (hr2 : ∀ {x1 : Int32} {x2 : Int32} {S : mS} {w : List mM} {r : mS}, m_RM S w → m_Fq w0 w → rec2 x1 x2 S = some r → m_Rs l M_260 (2, [(0, .ref 583), (1, .int x1), (2, .int x2)], [], w) (fun v w' => v = none ∧ m_RM r w' ∧ m_Fq w0 w') 0 0 6 600) {x1 : Int32} {S : mS} {w : List mM} {r : mS} (h : m_RM S w) (hF : m_Fq w0 w) (h0 : D_m_list_241 F rec2 x1 S = some r) : m_Rs l M_260 (241, [(0, .ref 583), (1, .int x1)], [], w) (fun v w' => v = none ∧ m_RM r w' ∧ m_Fq w0 w') 0 0 6 600 := by
  rw [D_m_list_241] at h0
  refine m_Rs.n0 b_260 (x_aload_n d_260_241 rfl) ?_
  obtain ⟨v70, e71, h0⟩ := bS h0
  refine m_Rs.callS b_260 (y_cv d_260_242 rfl q_245 (m_isRecv_of rfl h.1) (show m_takeI _ _ = some (_, [_], []) from rfl) (by simp only [m_okf, List.all_cons, List.all_nil, Bool.and_true, Bool.and_self, m_okv_i, m_okv_l, m_okv_0, m_okv_t, m_okv_at h.1]) rfl) (T_m_see h e71) hF rfl (fun w1 h hF => ?_) (by decide) (by decide)
  refine m_Rs.n0 b_260 (x_bipush (z := 44) d_260_245 (by decide)) ?_
  obtain ⟨v75, e73, h0⟩ := bS h0
  have kk72 : ∀ (xz : Int32) (w1 : List mM), xz = v75 → m_RM S w1 → m_Fq w0 w1 → m_Rs l M_260 (255, [(0, .ref 583), (1, .int x1)], [.int xz], w1) (fun v w' => v = none ∧ m_RM r w' ∧ m_Fq w0 w') 0 0 6 600 := by
    intro xz w ez h hF
    rw [ez]
    refine m_Rs.n0 b_260 (x_istore_n d_260_255 rfl (show m_put1 _ _ _ = [(2, _), (0, _), (1, _)] from rfl)) ?_
    refine m_Rs.n0 b_260 (x_iload_n d_260_256 rfl) ?_
    cases hc76 : m_c1 .eq v75 with
    | true =>
      have h0 := cT hc76 h0
      refine m_Rs.n0 b_260 (x_ift d_260_257 rfl hc76) ?_
      exact m_Rs.pick [1, 2, 0] rfl (hr2 h hF h0)
    | false =>
      have h0 := cF hc76 h0
      refine m_Rs.n0 b_260 (x_iff d_260_257 rfl hc76) ?_
      refine m_Rs.n0 b_260 (x_aload_n d_260_260 rfl) ?_
      refine m_Rs.n0 b_260 (x_dup d_260_261 rfl) ?_
      refine m_Rs.n0 b_260 (x_getf d_260_262 rfl h.1 rfl) ?_
      refine m_Rs.n0 b_260 (x_iconst (z := 1) d_260_265 (by decide)) ?_
      refine m_Rs.n0 b_260 (x_iadd d_260_266 rfl) ?_
      obtain ⟨S77, e78, h0⟩ := bS h0
      refine m_Rs.dfput b_260 d_260_267 h hF e78 rfl rfl rfl rfl rfl rfl (fun w1 h hF => ?_)
      refine m_Rs.n0 b_260 (x_aload_n d_260_270 rfl) ?_
      refine m_Rs.n0 b_260 (x_bipush (z := 32) d_260_271 (by decide)) ?_
      obtain ⟨q79, e80, h0⟩ := bS h0
      refine m_Rs.callS b_260 (y_cv d_260_273 rfl q_247 (m_isRecv_of rfl h.1) (show m_takeI _ _ = some (_, [_, _], []) from rfl) (by simp only [m_okf, List.all_cons, List.all_nil, Bool.and_true, Bool.and_self, m_okv_i, m_okv_l, m_okv_0, m_okv_t, m_okv_at h.1]) rfl) (T_m_expect h e80) hF rfl (fun w1 h hF => ?_) (by decide) (by decide)
      refine m_Rs.n0 b_260 (x_pop d_260_276 rfl) ?_
      refine m_Rs.n0 b_260 (x_goto d_260_277 rfl) ?_
      exact m_Rs.pick [1, 2, 0] rfl (hr2 h hF h0)
  cases hc74 : m_c2 .ne v70 (44 : Int32) with
  | true =>
    have e73 := cT hc74 e73
    refine m_Rs.n0 b_260 (x_ict d_260_247 rfl hc74) ?_
    refine m_Rs.n0 b_260 (x_iconst (z := 0) d_260_254 (by decide)) ?_
    exact kk72 _ _ (Option.some.inj e73) h hF
  | false =>
    have e73 := cF hc74 e73
    refine m_Rs.n0 b_260 (x_icf d_260_247 rfl hc74) ?_
    refine m_Rs.n0 b_260 (x_iconst (z := 1) d_260_250 (by decide)) ?_
    refine m_Rs.n0 b_260 (x_goto d_260_251 rfl) ?_
    exact kk72 _ _ (Option.some.inj e73) h hF
def D_m_list_139 (F : Nat) (rec2 : Int32 → Int32 → mS → Option (mS)) (x1 : Int32) (S : mS) : Option (mS) := cond (m_c1 .eq (S.1 5)) (cond (decide (x1 = (0 : Int32))) ((D_m_requestWord F S).bind fun S47 => D_m_list_241 F rec2 x1 S47) (cond (decide (x1 = (1 : Int32))) ((D_m_thingWord F S).bind fun S50 => D_m_list_241 F rec2 x1 S50) (cond (decide (x1 = (2 : Int32))) ((D_m_weighWord F S).bind fun S53 => D_m_list_241 F rec2 x1 S53) (cond (decide (x1 = (3 : Int32))) ((D_m_isWord F 56 S).bind fun v56 => cond (m_c1 .eq v56) (D_m_list_241 F rec2 x1 S) ((cond (m_c2 .ne (S.1 82) ((-1) : Int32)) (some (S.1 82)) (some (9 : Int32))).bind fun v65 => (aput 5 S 585 (4 : Int32) v65).bind fun S66 => D_m_list_241 F rec2 x1 S66)) ((D_m_varyWord F S).bind fun S68 => D_m_list_241 F rec2 x1 S68))))) (some S)
theorem T_m_list_139 {l : Launch} {w0 : List mM} {F : Nat} {rec2 : Int32 → Int32 → mS → Option (mS)} (hr2 : ∀ {x1 : Int32} {x2 : Int32} {S : mS} {w : List mM} {r : mS}, m_RM S w → m_Fq w0 w → rec2 x1 x2 S = some r → m_Rs l M_260 (2, [(0, .ref 583), (1, .int x1), (2, .int x2)], [], w) (fun v w' => v = none ∧ m_RM r w' ∧ m_Fq w0 w') 0 0 6 600) {x1 : Int32} {S : mS} {w : List mM} {r : mS} (h : m_RM S w) (hF : m_Fq w0 w) (h0 : D_m_list_139 F rec2 x1 S = some r) : m_Rs l M_260 (139, [(0, .ref 583), (1, .int x1)], [], w) (fun v w' => v = none ∧ m_RM r w' ∧ m_Fq w0 w') 0 0 6 600 := by
  rw [D_m_list_139] at h0
  refine m_Rs.n0 b_260 (x_aload_n d_260_139 rfl) ?_
  refine m_Rs.n0 b_260 (x_getf d_260_140 rfl h.1 rfl) ?_
  cases hc45 : m_c1 .eq (S.1 5) with
  | true =>
    have h0 := cT hc45 h0
    refine m_Rs.n0 b_260 (x_ift d_260_143 rfl hc45) ?_
    refine m_Rs.n0 b_260 (x_iload_n d_260_147 rfl) ?_
    cases hc46 : decide (x1 = (0 : Int32)) with
    | true =>
      have h0 := cT hc46 h0
      refine m_Rs.n0 b_260 (x_tsw (t := 180) d_260_148 (by rw [of_decide_eq_true hc46]; rfl)) ?_
      refine m_Rs.n0 b_260 (x_aload_n d_260_180 rfl) ?_
      obtain ⟨S47, e48, h0⟩ := bS h0
      refine m_Rs.callSv b_260 (y_cv d_260_181 rfl q_261 (m_isRecv_of rfl h.1) (show m_takeI _ _ = some (_, [_], []) from rfl) (by simp only [m_okf, List.all_cons, List.all_nil, Bool.and_true, Bool.and_self, m_okv_i, m_okv_l, m_okv_0, m_okv_t, m_okv_at h.1]) rfl) (T_m_requestWord h e48) hF rfl (fun w1 h hF => ?_) (by decide) (by decide)
      refine m_Rs.n0 b_260 (x_goto d_260_184 rfl) ?_
      exact m_Rs.pick [0, 1] rfl (T_m_list_241 hr2 h hF h0)
    | false =>
      have h0 := cF hc46 h0
      cases hc49 : decide (x1 = (1 : Int32)) with
      | true =>
        have h0 := cT hc49 h0
        refine m_Rs.n0 b_260 (x_tsw (t := 187) d_260_148 (by rw [of_decide_eq_true hc49]; rfl)) ?_
        refine m_Rs.n0 b_260 (x_aload_n d_260_187 rfl) ?_
        obtain ⟨S50, e51, h0⟩ := bS h0
        refine m_Rs.callSv b_260 (y_cv d_260_188 rfl q_263 (m_isRecv_of rfl h.1) (show m_takeI _ _ = some (_, [_], []) from rfl) (by simp only [m_okf, List.all_cons, List.all_nil, Bool.and_true, Bool.and_self, m_okv_i, m_okv_l, m_okv_0, m_okv_t, m_okv_at h.1]) rfl) (T_m_thingWord h e51) hF rfl (fun w1 h hF => ?_) (by decide) (by decide)
        refine m_Rs.n0 b_260 (x_goto d_260_191 rfl) ?_
        exact m_Rs.pick [0, 1] rfl (T_m_list_241 hr2 h hF h0)
      | false =>
        have h0 := cF hc49 h0
        cases hc52 : decide (x1 = (2 : Int32)) with
        | true =>
          have h0 := cT hc52 h0
          refine m_Rs.n0 b_260 (x_tsw (t := 194) d_260_148 (by rw [of_decide_eq_true hc52]; rfl)) ?_
          refine m_Rs.n0 b_260 (x_aload_n d_260_194 rfl) ?_
          obtain ⟨S53, e54, h0⟩ := bS h0
          refine m_Rs.callSv b_260 (y_cv d_260_195 rfl q_264 (m_isRecv_of rfl h.1) (show m_takeI _ _ = some (_, [_], []) from rfl) (by simp only [m_okf, List.all_cons, List.all_nil, Bool.and_true, Bool.and_self, m_okv_i, m_okv_l, m_okv_0, m_okv_t, m_okv_at h.1]) rfl) (T_m_weighWord h e54) hF rfl (fun w1 h hF => ?_) (by decide) (by decide)
          refine m_Rs.n0 b_260 (x_goto d_260_198 rfl) ?_
          exact m_Rs.pick [0, 1] rfl (T_m_list_241 hr2 h hF h0)
        | false =>
          have h0 := cF hc52 h0
          cases hc55 : decide (x1 = (3 : Int32)) with
          | true =>
            have h0 := cT hc55 h0
            refine m_Rs.n0 b_260 (x_tsw (t := 201) d_260_148 (by rw [of_decide_eq_true hc55]; rfl)) ?_
            refine m_Rs.n0 b_260 (x_aload_n d_260_201 rfl) ?_
            refine m_Rs.n0 b_260 (x_textw d_260_202 rfl rfl) ?_
            obtain ⟨v56, e57, h0⟩ := bS h0
            refine m_Rs.callS b_260 (y_cv d_260_205 rfl q_262 (m_isRecv_of rfl h.1) (show m_takeI _ _ = some (_, [_, _], []) from rfl) (by simp only [m_okf, List.all_cons, List.all_nil, Bool.and_true, Bool.and_self, m_okv_i, m_okv_l, m_okv_0, m_okv_t, m_okv_at h.1, m_okv_out (a := 56) (by decide)]) rfl) (T_m_isWord (by decide) h e57) hF rfl (fun w1 h hF => ?_) (by decide) (by decide)
            cases hc61 : m_c1 .eq v56 with
            | true =>
              have h0 := cT hc61 h0
              refine m_Rs.n0 b_260 (x_ift d_260_208 rfl hc61) ?_
              exact m_Rs.pick [0, 1] rfl (T_m_list_241 hr2 h hF h0)
            | false =>
              have h0 := cF hc61 h0
              refine m_Rs.n0 b_260 (x_iff d_260_208 rfl hc61) ?_
              refine m_Rs.n0 b_260 (x_aload_n d_260_211 rfl) ?_
              refine m_Rs.n0 b_260 (x_getf d_260_212 rfl h.1 rfl) ?_
              refine m_Rs.n0 b_260 (x_iconst (z := 4) d_260_215 (by decide)) ?_
              refine m_Rs.n0 b_260 (x_aload_n d_260_216 rfl) ?_
              refine m_Rs.n0 b_260 (x_getf d_260_217 rfl h.1 rfl) ?_
              refine m_Rs.n0 b_260 (x_iconst (z := (-1)) d_260_220 (by decide)) ?_
              obtain ⟨v65, e63, h0⟩ := bS h0
              have kk62 : ∀ (xz : Int32) (w1 : List mM), xz = v65 → m_RM S w1 → m_Fq w0 w1 → m_Rs l M_260 (233, [(0, .ref 583), (1, .int x1)], [.int xz, .int (4 : Int32), .ref 585], w1) (fun v w' => v = none ∧ m_RM r w' ∧ m_Fq w0 w') 0 0 6 600 := by
                intro xz w ez h hF
                rw [ez]
                obtain ⟨S66, e67, h0⟩ := bS h0
                refine m_Rs.dput b_260 d_260_233 h hF 1 rfl e67 (fun w1 h hF => ?_)
                refine m_Rs.n0 b_260 (x_goto d_260_234 rfl) ?_
                exact m_Rs.pick [0, 1] rfl (T_m_list_241 hr2 h hF h0)
              cases hc64 : m_c2 .ne (S.1 82) ((-1) : Int32) with
              | true =>
                have e63 := cT hc64 e63
                refine m_Rs.n0 b_260 (x_ict d_260_221 rfl hc64) ?_
                refine m_Rs.n0 b_260 (x_aload_n d_260_229 rfl) ?_
                refine m_Rs.n0 b_260 (x_getf d_260_230 rfl h.1 rfl) ?_
                exact kk62 _ _ (Option.some.inj e63) h hF
              | false =>
                have e63 := cF hc64 e63
                refine m_Rs.n0 b_260 (x_icf d_260_221 rfl hc64) ?_
                refine m_Rs.n0 b_260 (x_bipush (z := 9) d_260_224 (by decide)) ?_
                refine m_Rs.n0 b_260 (x_goto d_260_226 rfl) ?_
                exact kk62 _ _ (Option.some.inj e63) h hF
          | false =>
            have h0 := cF hc55 h0
            refine m_Rs.n0 b_260 (x_tsw (t := 237) d_260_148 (m_tsw_0 (n := 4) rfl (fun k hk => by match k, hk with | 0, _ => exact of_decide_eq_false hc46 | 1, _ => exact of_decide_eq_false hc49 | 2, _ => exact of_decide_eq_false hc52 | 3, _ => exact of_decide_eq_false hc55 | k + 4, hk => omega) rfl)) ?_
            refine m_Rs.n0 b_260 (x_aload_n d_260_237 rfl) ?_
            obtain ⟨S68, e69, h0⟩ := bS h0
            refine m_Rs.callSv b_260 (y_cv d_260_238 rfl q_265 (m_isRecv_of rfl h.1) (show m_takeI _ _ = some (_, [_], []) from rfl) (by simp only [m_okf, List.all_cons, List.all_nil, Bool.and_true, Bool.and_self, m_okv_i, m_okv_l, m_okv_0, m_okv_t, m_okv_at h.1]) rfl) (T_m_varyWord h e69) hF rfl (fun w1 h hF => ?_) (by decide) (by decide)
            exact m_Rs.pick [0, 1] rfl (T_m_list_241 hr2 h hF h0)
  | false =>
    have h0 := cF hc45 h0
    refine m_Rs.n0 b_260 (x_iff d_260_143 rfl hc45) ?_
    exact m_Rs.ret b_260 (m_rt_vr d_260_146 rfl) (rV h0 h hF)
def D_m_list_98 (F : Nat) (rec2 : Int32 → Int32 → mS → Option (mS)) (x1 : Int32) (S : mS) : Option (mS) := (fput S 82 ((-1) : Int32)).bind fun S27 => cond (m_c1 .ne (S27.1 5)) (D_m_list_139 F rec2 x1 S27) ((D_m_see F S27).bind fun v33 => cond (m_c2 .ne v33 (61 : Int32)) (D_m_list_139 F rec2 x1 S27) ((fput S27 4 ((S27.1 4) + (1 : Int32))).bind fun S39 => (D_m_number F (99999 : Int32) S39).bind fun q41 => (fput q41.2 82 q41.1).bind fun S43 => D_m_list_139 F rec2 x1 S43))
theorem T_m_list_98 {l : Launch} {w0 : List mM} {F : Nat} {rec2 : Int32 → Int32 → mS → Option (mS)} (hr2 : ∀ {x1 : Int32} {x2 : Int32} {S : mS} {w : List mM} {r : mS}, m_RM S w → m_Fq w0 w → rec2 x1 x2 S = some r → m_Rs l M_260 (2, [(0, .ref 583), (1, .int x1), (2, .int x2)], [], w) (fun v w' => v = none ∧ m_RM r w' ∧ m_Fq w0 w') 0 0 6 600) {x1 : Int32} {S : mS} {w : List mM} {r : mS} (h : m_RM S w) (hF : m_Fq w0 w) (h0 : D_m_list_98 F rec2 x1 S = some r) : m_Rs l M_260 (98, [(0, .ref 583), (1, .int x1)], [], w) (fun v w' => v = none ∧ m_RM r w' ∧ m_Fq w0 w') 0 0 6 600 := by
  rw [D_m_list_98] at h0
  refine m_Rs.n0 b_260 (x_aload_n d_260_98 rfl) ?_
  refine m_Rs.n0 b_260 (x_iconst (z := (-1)) d_260_99 (by decide)) ?_
  obtain ⟨S27, e28, h0⟩ := bS h0
  refine m_Rs.dfput b_260 d_260_100 h hF e28 rfl rfl rfl rfl rfl rfl (fun w1 h hF => ?_)
  refine m_Rs.n0 b_260 (x_aload_n d_260_103 rfl) ?_
  refine m_Rs.n0 b_260 (x_getf d_260_104 rfl h.1 rfl) ?_
  cases hc32 : m_c1 .ne (S27.1 5) with
  | true =>
    have h0 := cT hc32 h0
    refine m_Rs.n0 b_260 (x_ift d_260_107 rfl hc32) ?_
    exact m_Rs.pick [0, 1] rfl (T_m_list_139 hr2 h hF h0)
  | false =>
    have h0 := cF hc32 h0
    refine m_Rs.n0 b_260 (x_iff d_260_107 rfl hc32) ?_
    refine m_Rs.n0 b_260 (x_aload_n d_260_110 rfl) ?_
    obtain ⟨v33, e34, h0⟩ := bS h0
    refine m_Rs.callS b_260 (y_cv d_260_111 rfl q_245 (m_isRecv_of rfl h.1) (show m_takeI _ _ = some (_, [_], []) from rfl) (by simp only [m_okf, List.all_cons, List.all_nil, Bool.and_true, Bool.and_self, m_okv_i, m_okv_l, m_okv_0, m_okv_t, m_okv_at h.1]) rfl) (T_m_see h e34) hF rfl (fun w1 h hF => ?_) (by decide) (by decide)
    refine m_Rs.n0 b_260 (x_bipush (z := 61) d_260_114 (by decide)) ?_
    cases hc38 : m_c2 .ne v33 (61 : Int32) with
    | true =>
      have h0 := cT hc38 h0
      refine m_Rs.n0 b_260 (x_ict d_260_116 rfl hc38) ?_
      exact m_Rs.pick [0, 1] rfl (T_m_list_139 hr2 h hF h0)
    | false =>
      have h0 := cF hc38 h0
      refine m_Rs.n0 b_260 (x_icf d_260_116 rfl hc38) ?_
      refine m_Rs.n0 b_260 (x_aload_n d_260_119 rfl) ?_
      refine m_Rs.n0 b_260 (x_dup d_260_120 rfl) ?_
      refine m_Rs.n0 b_260 (x_getf d_260_121 rfl h.1 rfl) ?_
      refine m_Rs.n0 b_260 (x_iconst (z := 1) d_260_124 (by decide)) ?_
      refine m_Rs.n0 b_260 (x_iadd d_260_125 rfl) ?_
      obtain ⟨S39, e40, h0⟩ := bS h0
      refine m_Rs.dfput b_260 d_260_126 h hF e40 rfl rfl rfl rfl rfl rfl (fun w1 h hF => ?_)
      refine m_Rs.n0 b_260 (x_aload_n d_260_129 rfl) ?_
      refine m_Rs.n0 b_260 (x_aload_n d_260_130 rfl) ?_
      refine m_Rs.n0 b_260 (x_ldc (v := .int 99999) d_260_131 rfl) ?_
      obtain ⟨q41, e42, h0⟩ := bS h0
      refine m_Rs.callS b_260 (y_cv d_260_133 rfl q_250 (m_isRecv_of rfl h.1) (show m_takeI _ _ = some (_, [_, _], [_]) from rfl) (by simp only [m_okf, List.all_cons, List.all_nil, Bool.and_true, Bool.and_self, m_okv_i, m_okv_l, m_okv_0, m_okv_t, m_okv_at h.1]) rfl) (T_m_number h e42) hF rfl (fun w1 h hF => ?_) (by decide) (by decide)
      obtain ⟨S43, e44, h0⟩ := bS h0
      refine m_Rs.dfput b_260 d_260_136 h hF e44 rfl rfl rfl rfl rfl rfl (fun w1 h hF => ?_)
      exact m_Rs.pick [0, 1] rfl (T_m_list_139 hr2 h hF h0)
def D_m_list_21 (F : Nat) (rec2 : Int32 → Int32 → mS → Option (mS)) : Nat → Int32 → mS → Option (mS)
  | 0, _, _ => none
  | n + 1, x1, S => (D_m_see F S).bind fun v5 => (D_m_isSmall F v5 S).bind fun v7 => cond (m_c1 .eq v7) ((fput S 81 (S.1 4)).bind fun S10 => cond (m_c2 .ne (S10.1 4) (S10.1 80)) (cond (m_c2 .le ((S10.1 4) - (S10.1 80)) (30 : Int32)) (D_m_list_98 F rec2 x1 S10) ((D_m_wrong F (S10.1 80) S10).bind fun q21 => D_m_list_98 F rec2 x1 q21.2)) ((D_m_wrong F (S10.1 4) S10).bind fun q23 => D_m_list_98 F rec2 x1 q23.2)) ((fput S 4 ((S.1 4) + (1 : Int32))).bind fun S25 => D_m_list_21 F rec2 n x1 S25)
theorem T_m_list_21 {l : Launch} {w0 : List mM} {F : Nat} {rec2 : Int32 → Int32 → mS → Option (mS)} (hr2 : ∀ {x1 : Int32} {x2 : Int32} {S : mS} {w : List mM} {r : mS}, m_RM S w → m_Fq w0 w → rec2 x1 x2 S = some r → m_Rs l M_260 (2, [(0, .ref 583), (1, .int x1), (2, .int x2)], [], w) (fun v w' => v = none ∧ m_RM r w' ∧ m_Fq w0 w') 0 0 6 600) : ∀ (n : Nat) {x1 : Int32} {S : mS} {w : List mM} {r : mS}, m_RM S w → m_Fq w0 w → D_m_list_21 F rec2 n x1 S = some r → m_Rs l M_260 (21, [(0, .ref 583), (1, .int x1)], [], w) (fun v w' => v = none ∧ m_RM r w' ∧ m_Fq w0 w') 0 0 6 600 := by
  intro n
  induction n with
  | zero => intro x1 S w r h hF h0; cases h0
  | succ n ih =>
    intro x1 S w r h hF h0
    rw [D_m_list_21] at h0
    refine m_Rs.n0 b_260 (x_aload_n d_260_21 rfl) ?_
    obtain ⟨v5, e6, h0⟩ := bS h0
    refine m_Rs.callS b_260 (y_cv d_260_22 rfl q_245 (m_isRecv_of rfl h.1) (show m_takeI _ _ = some (_, [_], []) from rfl) (by simp only [m_okf, List.all_cons, List.all_nil, Bool.and_true, Bool.and_self, m_okv_i, m_okv_l, m_okv_0, m_okv_t, m_okv_at h.1]) rfl) (T_m_see h e6) hF rfl (fun w1 h hF => ?_) (by decide) (by decide)
    obtain ⟨v7, e8, h0⟩ := bS h0
    refine m_Rs.callS b_260 (y_cs d_260_25 rfl q_254 (show m_takeS _ _ = some (_, [_], []) from rfl) (by simp only [m_okf, List.all_cons, List.all_nil, Bool.and_true, Bool.and_self, m_okv_i, m_okv_l, m_okv_0, m_okv_t, m_okv_at h.1]) rfl) (T_m_isSmall h e8) hF rfl (fun w1 h hF => ?_) (by decide) (by decide)
    cases hc9 : m_c1 .eq v7 with
    | true =>
      have h0 := cT hc9 h0
      refine m_Rs.n0 b_260 (x_ift d_260_28 rfl hc9) ?_
      refine m_Rs.n0 b_260 (x_aload_n d_260_44 rfl) ?_
      refine m_Rs.n0 b_260 (x_aload_n d_260_45 rfl) ?_
      refine m_Rs.n0 b_260 (x_getf d_260_46 rfl h.1 rfl) ?_
      obtain ⟨S10, e11, h0⟩ := bS h0
      refine m_Rs.dfput b_260 d_260_49 h hF e11 rfl rfl rfl rfl rfl rfl (fun w1 h hF => ?_)
      refine m_Rs.n0 b_260 (x_aload_n d_260_52 rfl) ?_
      refine m_Rs.n0 b_260 (x_getf d_260_53 rfl h.1 rfl) ?_
      refine m_Rs.n0 b_260 (x_aload_n d_260_56 rfl) ?_
      refine m_Rs.n0 b_260 (x_getf d_260_57 rfl h.1 rfl) ?_
      cases hc16 : m_c2 .ne (S10.1 4) (S10.1 80) with
      | true =>
        have h0 := cT hc16 h0
        refine m_Rs.n0 b_260 (x_ict d_260_60 rfl hc16) ?_
        refine m_Rs.n0 b_260 (x_aload_n d_260_75 rfl) ?_
        refine m_Rs.n0 b_260 (x_getf d_260_76 rfl h.1 rfl) ?_
        refine m_Rs.n0 b_260 (x_aload_n d_260_79 rfl) ?_
        refine m_Rs.n0 b_260 (x_getf d_260_80 rfl h.1 rfl) ?_
        refine m_Rs.n0 b_260 (x_isub d_260_83 rfl) ?_
        refine m_Rs.n0 b_260 (x_bipush (z := 30) d_260_84 (by decide)) ?_
        cases hc20 : m_c2 .le ((S10.1 4) - (S10.1 80)) (30 : Int32) with
        | true =>
          have h0 := cT hc20 h0
          refine m_Rs.n0 b_260 (x_ict d_260_86 rfl hc20) ?_
          exact m_Rs.pick [0, 1] rfl (T_m_list_98 hr2 h hF h0)
        | false =>
          have h0 := cF hc20 h0
          refine m_Rs.n0 b_260 (x_icf d_260_86 rfl hc20) ?_
          refine m_Rs.n0 b_260 (x_aload_n d_260_89 rfl) ?_
          refine m_Rs.n0 b_260 (x_aload_n d_260_90 rfl) ?_
          refine m_Rs.n0 b_260 (x_getf d_260_91 rfl h.1 rfl) ?_
          obtain ⟨q21, e22, h0⟩ := bS h0
          refine m_Rs.callS b_260 (y_cv d_260_94 rfl q_248 (m_isRecv_of rfl h.1) (show m_takeI _ _ = some (_, [_, _], []) from rfl) (by simp only [m_okf, List.all_cons, List.all_nil, Bool.and_true, Bool.and_self, m_okv_i, m_okv_l, m_okv_0, m_okv_t, m_okv_at h.1]) rfl) (T_m_wrong h e22) hF rfl (fun w1 h hF => ?_) (by decide) (by decide)
          refine m_Rs.n0 b_260 (x_pop d_260_97 rfl) ?_
          exact m_Rs.pick [0, 1] rfl (T_m_list_98 hr2 h hF h0)
      | false =>
        have h0 := cF hc16 h0
        refine m_Rs.n0 b_260 (x_icf d_260_60 rfl hc16) ?_
        refine m_Rs.n0 b_260 (x_aload_n d_260_63 rfl) ?_
        refine m_Rs.n0 b_260 (x_aload_n d_260_64 rfl) ?_
        refine m_Rs.n0 b_260 (x_getf d_260_65 rfl h.1 rfl) ?_
        obtain ⟨q23, e24, h0⟩ := bS h0
        refine m_Rs.callS b_260 (y_cv d_260_68 rfl q_248 (m_isRecv_of rfl h.1) (show m_takeI _ _ = some (_, [_, _], []) from rfl) (by simp only [m_okf, List.all_cons, List.all_nil, Bool.and_true, Bool.and_self, m_okv_i, m_okv_l, m_okv_0, m_okv_t, m_okv_at h.1]) rfl) (T_m_wrong h e24) hF rfl (fun w1 h hF => ?_) (by decide) (by decide)
        refine m_Rs.n0 b_260 (x_pop d_260_71 rfl) ?_
        refine m_Rs.n0 b_260 (x_goto d_260_72 rfl) ?_
        exact m_Rs.pick [0, 1] rfl (T_m_list_98 hr2 h hF h0)
    | false =>
      have h0 := cF hc9 h0
      refine m_Rs.n0 b_260 (x_iff d_260_28 rfl hc9) ?_
      refine m_Rs.n0 b_260 (x_aload_n d_260_31 rfl) ?_
      refine m_Rs.n0 b_260 (x_dup d_260_32 rfl) ?_
      refine m_Rs.n0 b_260 (x_getf d_260_33 rfl h.1 rfl) ?_
      refine m_Rs.n0 b_260 (x_iconst (z := 1) d_260_36 (by decide)) ?_
      refine m_Rs.n0 b_260 (x_iadd d_260_37 rfl) ?_
      obtain ⟨S25, e26, h0⟩ := bS h0
      refine m_Rs.dfput b_260 d_260_38 h hF e26 rfl rfl rfl rfl rfl rfl (fun w1 h hF => ?_)
      refine m_Rs.n0 b_260 (x_goto d_260_41 rfl) ?_
      exact m_Rs.pick [0, 1] rfl (ih h hF h0)
def D_m_list_2 (F : Nat) : Nat → Int32 → Int32 → mS → Option (mS)
  | 0, _, _, _ => none
  | n + 1, x1, x2, S => cond (m_c1 .eq x2) (some S) (cond (m_c1 .ne (S.1 5)) (some S) ((fput S 80 (S.1 4)).bind fun S3 => D_m_list_21 F (D_m_list_2 F n) F x1 S3))
theorem T_m_list_2 {l : Launch} {w0 : List mM} {F : Nat} : ∀ (n : Nat) {x1 : Int32} {x2 : Int32} {S : mS} {w : List mM} {r : mS}, m_RM S w → m_Fq w0 w → D_m_list_2 F n x1 x2 S = some r → m_Rs l M_260 (2, [(0, .ref 583), (1, .int x1), (2, .int x2)], [], w) (fun v w' => v = none ∧ m_RM r w' ∧ m_Fq w0 w') 0 0 6 600 := by
  intro n
  induction n with
  | zero => intro x1 x2 S w r h hF h0; cases h0
  | succ n ih =>
    intro x1 x2 S w r h hF h0
    rw [D_m_list_2] at h0
    refine m_Rs.n0 b_260 (x_iload_n d_260_2 rfl) ?_
    cases hc1 : m_c1 .eq x2 with
    | true =>
      have h0 := cT hc1 h0
      refine m_Rs.n0 b_260 (x_ift d_260_3 rfl hc1) ?_
      exact m_Rs.ret b_260 (m_rt_vr d_260_280 rfl) (rV h0 h hF)
    | false =>
      have h0 := cF hc1 h0
      refine m_Rs.n0 b_260 (x_iff d_260_3 rfl hc1) ?_
      refine m_Rs.n0 b_260 (x_aload_n d_260_6 rfl) ?_
      refine m_Rs.n0 b_260 (x_getf d_260_7 rfl h.1 rfl) ?_
      cases hc2 : m_c1 .ne (S.1 5) with
      | true =>
        have h0 := cT hc2 h0
        refine m_Rs.n0 b_260 (x_ift d_260_10 rfl hc2) ?_
        exact m_Rs.ret b_260 (m_rt_vr d_260_280 rfl) (rV h0 h hF)
      | false =>
        have h0 := cF hc2 h0
        refine m_Rs.n0 b_260 (x_iff d_260_10 rfl hc2) ?_
        refine m_Rs.n0 b_260 (x_aload_n d_260_13 rfl) ?_
        refine m_Rs.n0 b_260 (x_aload_n d_260_14 rfl) ?_
        refine m_Rs.n0 b_260 (x_getf d_260_15 rfl h.1 rfl) ?_
        obtain ⟨S3, e4, h0⟩ := bS h0
        refine m_Rs.dfput b_260 d_260_18 h hF e4 rfl rfl rfl rfl rfl rfl (fun w1 h hF => ?_)
        exact m_Rs.pick [0, 1] rfl (T_m_list_21 ih F h hF h0)
def D_m_list (F : Nat) (a0 : Int32) (S : mS) : Option (mS) := D_m_list_2 F F a0 (1 : Int32) S
theorem T_m_list {l : Launch} {w : List mM} {F : Nat} {a0 : Int32} {S : mS} {r : mS} (h : m_RM S w) (h0 : D_m_list F a0 S = some r) : m_Rs l M_260 (m_ent M_260 [.ref 583, .int a0] w) (fun v w' => v = none ∧ m_RM r w' ∧ m_Fq w w') 0 0 6 600 := by
  show m_Rs l M_260 (0, [(0, .ref 583), (1, .int a0)], [], w) _ 0 0 6 600
  generalize hw0 : w = w0 at h ⊢
  have hF : m_Fq w0 w0 := m_Fq.refl
  rw [D_m_list] at h0
  refine m_Rs.n0 b_260 (x_iconst (z := 1) d_260_0 (by decide)) ?_
  refine m_Rs.n0 b_260 (x_istore_n d_260_1 rfl (show m_put1 _ _ _ = [(2, _), (0, _), (1, _)] from rfl)) ?_
  exact m_Rs.pick [1, 2, 0] rfl (T_m_list_2 F h hF h0)
def D_m_keyLetters_33 (F : Nat) (S : mS) : Option (mS) := (D_m_wrong F (S.1 4) S).bind fun q25 => some q25.2
theorem T_m_keyLetters_33 {l : Launch} {w0 : List mM} {F : Nat} {S : mS} {w : List mM} {r : mS} (h : m_RM S w) (hF : m_Fq w0 w) (h0 : D_m_keyLetters_33 F S = some r) : m_Rs l M_266 (33, [(0, .ref 583)], [], w) (fun v w' => v = none ∧ m_RM r w' ∧ m_Fq w0 w') 0 0 1 100 := by
  rw [D_m_keyLetters_33] at h0
  refine m_Rs.n0 b_266 (x_aload_n d_266_33 rfl) ?_
  refine m_Rs.n0 b_266 (x_aload_n d_266_34 rfl) ?_
  refine m_Rs.n0 b_266 (x_getf d_266_35 rfl h.1 rfl) ?_
  obtain ⟨q25, e26, h0⟩ := bS h0
  refine m_Rs.callS b_266 (y_cv d_266_38 rfl q_248 (m_isRecv_of rfl h.1) (show m_takeI _ _ = some (_, [_, _], []) from rfl) (by simp only [m_okf, List.all_cons, List.all_nil, Bool.and_true, Bool.and_self, m_okv_i, m_okv_l, m_okv_0, m_okv_t, m_okv_at h.1]) rfl) (T_m_wrong h e26) hF rfl (fun w1 h hF => ?_) (by decide) (by decide)
  refine m_Rs.n0 b_266 (x_pop d_266_41 rfl) ?_
  exact m_Rs.ret b_266 (m_rt_vr d_266_42 rfl) (rV h0 h hF)
def D_m_keyLetters_4 (F : Nat) : Nat → Int32 → Int32 → mS → Option (mS)
  | 0, _, _, _ => none
  | n + 1, x1, x2, S => cond (m_c1 .eq x2) (some S) (cond (m_c1 .ne (S.1 5)) (some S) ((D_m_see F S).bind fun v3 => cond (m_c2 .lt v3 (97 : Int32)) (D_m_keyLetters_33 F S) ((D_m_see F S).bind fun v6 => cond (m_c2 .le v6 (104 : Int32)) ((D_m_see F S).bind fun v9 => (fput S 24 ((S.1 24) ||| ((1 : Int32) <<< ((v9 - (97 : Int32)) &&& 31)))).bind fun S11 => (fput S11 4 ((S11.1 4) + (1 : Int32))).bind fun S13 => (D_m_see F S13).bind fun v15 => (cond (m_c2 .ne v15 (32 : Int32)) (some (0 : Int32)) (cond (m_c2 .ge (x1 + Int32.ofInt 1) (8 : Int32)) (some (0 : Int32)) (some (1 : Int32)))).bind fun v21 => cond (m_c1 .eq v21) (D_m_keyLetters_4 F n (x1 + Int32.ofInt 1) v21 S13) ((fput S13 4 ((S13.1 4) + (1 : Int32))).bind fun S23 => D_m_keyLetters_4 F n (x1 + Int32.ofInt 1) v21 S23)) (D_m_keyLetters_33 F S))))
theorem T_m_keyLetters_4 {l : Launch} {w0 : List mM} {F : Nat} : ∀ (n : Nat) {x1 : Int32} {x2 : Int32} {S : mS} {w : List mM} {r : mS}, m_RM S w → m_Fq w0 w → D_m_keyLetters_4 F n x1 x2 S = some r → m_Rs l M_266 (4, [(0, .ref 583), (1, .int x1), (2, .int x2)], [], w) (fun v w' => v = none ∧ m_RM r w' ∧ m_Fq w0 w') 0 0 1 100 := by
  intro n
  induction n with
  | zero => intro x1 x2 S w r h hF h0; cases h0
  | succ n ih =>
    intro x1 x2 S w r h hF h0
    rw [D_m_keyLetters_4] at h0
    refine m_Rs.n0 b_266 (x_iload_n d_266_4 rfl) ?_
    cases hc1 : m_c1 .eq x2 with
    | true =>
      have h0 := cT hc1 h0
      refine m_Rs.n0 b_266 (x_ift d_266_5 rfl hc1) ?_
      exact m_Rs.ret b_266 (m_rt_vr d_266_112 rfl) (rV h0 h hF)
    | false =>
      have h0 := cF hc1 h0
      refine m_Rs.n0 b_266 (x_iff d_266_5 rfl hc1) ?_
      refine m_Rs.n0 b_266 (x_aload_n d_266_8 rfl) ?_
      refine m_Rs.n0 b_266 (x_getf d_266_9 rfl h.1 rfl) ?_
      cases hc2 : m_c1 .ne (S.1 5) with
      | true =>
        have h0 := cT hc2 h0
        refine m_Rs.n0 b_266 (x_ift d_266_12 rfl hc2) ?_
        exact m_Rs.ret b_266 (m_rt_vr d_266_112 rfl) (rV h0 h hF)
      | false =>
        have h0 := cF hc2 h0
        refine m_Rs.n0 b_266 (x_iff d_266_12 rfl hc2) ?_
        refine m_Rs.n0 b_266 (x_aload_n d_266_15 rfl) ?_
        obtain ⟨v3, e4, h0⟩ := bS h0
        refine m_Rs.callS b_266 (y_cv d_266_16 rfl q_245 (m_isRecv_of rfl h.1) (show m_takeI _ _ = some (_, [_], []) from rfl) (by simp only [m_okf, List.all_cons, List.all_nil, Bool.and_true, Bool.and_self, m_okv_i, m_okv_l, m_okv_0, m_okv_t, m_okv_at h.1]) rfl) (T_m_see h e4) hF rfl (fun w1 h hF => ?_) (by decide) (by decide)
        refine m_Rs.n0 b_266 (x_bipush (z := 97) d_266_19 (by decide)) ?_
        cases hc5 : m_c2 .lt v3 (97 : Int32) with
        | true =>
          have h0 := cT hc5 h0
          refine m_Rs.n0 b_266 (x_ict d_266_21 rfl hc5) ?_
          exact m_Rs.pick [0] rfl (T_m_keyLetters_33 h hF h0)
        | false =>
          have h0 := cF hc5 h0
          refine m_Rs.n0 b_266 (x_icf d_266_21 rfl hc5) ?_
          refine m_Rs.n0 b_266 (x_aload_n d_266_24 rfl) ?_
          obtain ⟨v6, e7, h0⟩ := bS h0
          refine m_Rs.callS b_266 (y_cv d_266_25 rfl q_245 (m_isRecv_of rfl h.1) (show m_takeI _ _ = some (_, [_], []) from rfl) (by simp only [m_okf, List.all_cons, List.all_nil, Bool.and_true, Bool.and_self, m_okv_i, m_okv_l, m_okv_0, m_okv_t, m_okv_at h.1]) rfl) (T_m_see h e7) hF rfl (fun w1 h hF => ?_) (by decide) (by decide)
          refine m_Rs.n0 b_266 (x_bipush (z := 104) d_266_28 (by decide)) ?_
          cases hc8 : m_c2 .le v6 (104 : Int32) with
          | true =>
            have h0 := cT hc8 h0
            refine m_Rs.n0 b_266 (x_ict d_266_30 rfl hc8) ?_
            refine m_Rs.n0 b_266 (x_aload_n d_266_43 rfl) ?_
            refine m_Rs.n0 b_266 (x_dup d_266_44 rfl) ?_
            refine m_Rs.n0 b_266 (x_getf d_266_45 rfl h.1 rfl) ?_
            refine m_Rs.n0 b_266 (x_iconst (z := 1) d_266_48 (by decide)) ?_
            refine m_Rs.n0 b_266 (x_aload_n d_266_49 rfl) ?_
            obtain ⟨v9, e10, h0⟩ := bS h0
            refine m_Rs.callS b_266 (y_cv d_266_50 rfl q_245 (m_isRecv_of rfl h.1) (show m_takeI _ _ = some (_, [_], [_, _, _]) from rfl) (by simp only [m_okf, List.all_cons, List.all_nil, Bool.and_true, Bool.and_self, m_okv_i, m_okv_l, m_okv_0, m_okv_t, m_okv_at h.1]) rfl) (T_m_see h e10) hF rfl (fun w1 h hF => ?_) (by decide) (by decide)
            refine m_Rs.n0 b_266 (x_bipush (z := 97) d_266_53 (by decide)) ?_
            refine m_Rs.n0 b_266 (x_isub d_266_55 rfl) ?_
            refine m_Rs.n0 b_266 (x_ishl d_266_56 rfl) ?_
            refine m_Rs.n0 b_266 (x_ior d_266_57 rfl) ?_
            obtain ⟨S11, e12, h0⟩ := bS h0
            refine m_Rs.dfput b_266 d_266_58 h hF e12 rfl rfl rfl rfl rfl rfl (fun w1 h hF => ?_)
            refine m_Rs.n0 b_266 (x_aload_n d_266_61 rfl) ?_
            refine m_Rs.n0 b_266 (x_dup d_266_62 rfl) ?_
            refine m_Rs.n0 b_266 (x_getf d_266_63 rfl h.1 rfl) ?_
            refine m_Rs.n0 b_266 (x_iconst (z := 1) d_266_66 (by decide)) ?_
            refine m_Rs.n0 b_266 (x_iadd d_266_67 rfl) ?_
            obtain ⟨S13, e14, h0⟩ := bS h0
            refine m_Rs.dfput b_266 d_266_68 h hF e14 rfl rfl rfl rfl rfl rfl (fun w1 h hF => ?_)
            refine m_Rs.n0 b_266 (x_iinc d_266_71 rfl rfl rfl (show m_put1 _ _ _ = [(1, _), (0, _), (2, _)] from rfl)) ?_
            refine m_Rs.n0 b_266 (x_aload_n d_266_74 rfl) ?_
            obtain ⟨v15, e16, h0⟩ := bS h0
            refine m_Rs.callS b_266 (y_cv d_266_75 rfl q_245 (m_isRecv_of rfl h.1) (show m_takeI _ _ = some (_, [_], []) from rfl) (by simp only [m_okf, List.all_cons, List.all_nil, Bool.and_true, Bool.and_self, m_okv_i, m_okv_l, m_okv_0, m_okv_t, m_okv_at h.1]) rfl) (T_m_see h e16) hF rfl (fun w1 h hF => ?_) (by decide) (by decide)
            refine m_Rs.n0 b_266 (x_bipush (z := 32) d_266_78 (by decide)) ?_
            obtain ⟨v21, e18, h0⟩ := bS h0
            have kk17 : ∀ (xz : Int32) (w1 : List mM), xz = v21 → m_RM S13 w1 → m_Fq w0 w1 → m_Rs l M_266 (94, [(1, .int (x1 + Int32.ofInt 1)), (0, .ref 583), (2, .int x2)], [.int xz], w1) (fun v w' => v = none ∧ m_RM r w' ∧ m_Fq w0 w') 0 0 1 100 := by
              intro xz w ez h hF
              rw [ez]
              refine m_Rs.n0 b_266 (x_istore_n d_266_94 rfl (show m_put1 _ _ _ = [(2, _), (1, _), (0, _)] from rfl)) ?_
              refine m_Rs.n0 b_266 (x_iload_n d_266_95 rfl) ?_
              cases hc22 : m_c1 .eq v21 with
              | true =>
                have h0 := cT hc22 h0
                refine m_Rs.n0 b_266 (x_ift d_266_96 rfl hc22) ?_
                exact m_Rs.pick [2, 1, 0] rfl (ih h hF h0)
              | false =>
                have h0 := cF hc22 h0
                refine m_Rs.n0 b_266 (x_iff d_266_96 rfl hc22) ?_
                refine m_Rs.n0 b_266 (x_aload_n d_266_99 rfl) ?_
                refine m_Rs.n0 b_266 (x_dup d_266_100 rfl) ?_
                refine m_Rs.n0 b_266 (x_getf d_266_101 rfl h.1 rfl) ?_
                refine m_Rs.n0 b_266 (x_iconst (z := 1) d_266_104 (by decide)) ?_
                refine m_Rs.n0 b_266 (x_iadd d_266_105 rfl) ?_
                obtain ⟨S23, e24, h0⟩ := bS h0
                refine m_Rs.dfput b_266 d_266_106 h hF e24 rfl rfl rfl rfl rfl rfl (fun w1 h hF => ?_)
                refine m_Rs.n0 b_266 (x_goto d_266_109 rfl) ?_
                exact m_Rs.pick [2, 1, 0] rfl (ih h hF h0)
            cases hc19 : m_c2 .ne v15 (32 : Int32) with
            | true =>
              have e18 := cT hc19 e18
              refine m_Rs.n0 b_266 (x_ict d_266_80 rfl hc19) ?_
              refine m_Rs.n0 b_266 (x_iconst (z := 0) d_266_93 (by decide)) ?_
              exact kk17 _ _ (Option.some.inj e18) h hF
            | false =>
              have e18 := cF hc19 e18
              refine m_Rs.n0 b_266 (x_icf d_266_80 rfl hc19) ?_
              refine m_Rs.n0 b_266 (x_iload_n d_266_83 rfl) ?_
              refine m_Rs.n0 b_266 (x_bipush (z := 8) d_266_84 (by decide)) ?_
              cases hc20 : m_c2 .ge (x1 + Int32.ofInt 1) (8 : Int32) with
              | true =>
                have e18 := cT hc20 e18
                refine m_Rs.n0 b_266 (x_ict d_266_86 rfl hc20) ?_
                refine m_Rs.n0 b_266 (x_iconst (z := 0) d_266_93 (by decide)) ?_
                exact kk17 _ _ (Option.some.inj e18) h hF
              | false =>
                have e18 := cF hc20 e18
                refine m_Rs.n0 b_266 (x_icf d_266_86 rfl hc20) ?_
                refine m_Rs.n0 b_266 (x_iconst (z := 1) d_266_89 (by decide)) ?_
                refine m_Rs.n0 b_266 (x_goto d_266_90 rfl) ?_
                exact kk17 _ _ (Option.some.inj e18) h hF
          | false =>
            have h0 := cF hc8 h0
            refine m_Rs.n0 b_266 (x_icf d_266_30 rfl hc8) ?_
            exact m_Rs.pick [0] rfl (T_m_keyLetters_33 h hF h0)
def D_m_keyLetters (F : Nat) (S : mS) : Option (mS) := D_m_keyLetters_4 F F (0 : Int32) (1 : Int32) S
theorem T_m_keyLetters {l : Launch} {w : List mM} {F : Nat} {S : mS} {r : mS} (h : m_RM S w) (h0 : D_m_keyLetters F S = some r) : m_Rs l M_266 (m_ent M_266 [.ref 583] w) (fun v w' => v = none ∧ m_RM r w' ∧ m_Fq w w') 0 0 1 100 := by
  show m_Rs l M_266 (0, [(0, .ref 583)], [], w) _ 0 0 1 100
  generalize hw0 : w = w0 at h ⊢
  have hF : m_Fq w0 w0 := m_Fq.refl
  rw [D_m_keyLetters] at h0
  refine m_Rs.n0 b_266 (x_iconst (z := 0) d_266_0 (by decide)) ?_
  refine m_Rs.n0 b_266 (x_istore_n d_266_1 rfl (show m_put1 _ _ _ = [(1, _), (0, _)] from rfl)) ?_
  refine m_Rs.n0 b_266 (x_iconst (z := 1) d_266_2 (by decide)) ?_
  refine m_Rs.n0 b_266 (x_istore_n d_266_3 rfl (show m_put1 _ _ _ = [(2, _), (1, _), (0, _)] from rfl)) ?_
  exact m_Rs.pick [2, 1, 0] rfl (T_m_keyLetters_4 F h hF h0)
def D_m_line_241 (F : Nat) (S : mS) : Option (mS) := (D_m_expect F (10 : Int32) S).bind fun q43 => some q43.2
theorem T_m_line_241 {l : Launch} {w0 : List mM} {F : Nat} {S : mS} {w : List mM} {r : mS} (h : m_RM S w) (hF : m_Fq w0 w) (h0 : D_m_line_241 F S = some r) : m_Rs l M_252 (241, [(0, .ref 583)], [], w) (fun v w' => v = none ∧ m_RM r w' ∧ m_Fq w0 w') 0 0 7 700 := by
  rw [D_m_line_241] at h0
  refine m_Rs.n0 b_252 (x_aload_n d_252_241 rfl) ?_
  refine m_Rs.n0 b_252 (x_bipush (z := 10) d_252_242 (by decide)) ?_
  obtain ⟨q43, e44, h0⟩ := bS h0
  refine m_Rs.callS b_252 (y_cv d_252_244 rfl q_247 (m_isRecv_of rfl h.1) (show m_takeI _ _ = some (_, [_, _], []) from rfl) (by simp only [m_okf, List.all_cons, List.all_nil, Bool.and_true, Bool.and_self, m_okv_i, m_okv_l, m_okv_0, m_okv_t, m_okv_at h.1]) rfl) (T_m_expect h e44) hF rfl (fun w1 h hF => ?_) (by decide) (by decide)
  refine m_Rs.n0 b_252 (x_pop d_252_247 rfl) ?_
  exact m_Rs.ret b_252 (m_rt_vr d_252_248 rfl) (rV h0 h hF)
def D_m_line_237 (F : Nat) (S : mS) : Option (mS) := (D_m_anyValue F S).bind fun S249 => D_m_line_241 F S249
theorem T_m_line_237 {l : Launch} {w0 : List mM} {F : Nat} {S : mS} {w : List mM} {r : mS} (h : m_RM S w) (hF : m_Fq w0 w) (h0 : D_m_line_237 F S = some r) : m_Rs l M_252 (237, [(0, .ref 583)], [], w) (fun v w' => v = none ∧ m_RM r w' ∧ m_Fq w0 w') 0 0 7 700 := by
  rw [D_m_line_237] at h0
  refine m_Rs.n0 b_252 (x_aload_n d_252_237 rfl) ?_
  obtain ⟨S249, e250, h0⟩ := bS h0
  refine m_Rs.callSv b_252 (y_cv d_252_238 rfl q_267 (m_isRecv_of rfl h.1) (show m_takeI _ _ = some (_, [_], []) from rfl) (by simp only [m_okf, List.all_cons, List.all_nil, Bool.and_true, Bool.and_self, m_okv_i, m_okv_l, m_okv_0, m_okv_t, m_okv_at h.1]) rfl) (T_m_anyValue h e250) hF rfl (fun w1 h hF => ?_) (by decide) (by decide)
  exact m_Rs.pick [0] rfl (T_m_line_241 h hF h0)
def D_m_line_216 (F : Nat) (x1 : Int32) (S : mS) : Option (mS) := cond (m_c1 .ne x1) (D_m_line_237 F S) ((D_m_isNamed F 80 S).bind fun v239 => cond (m_c1 .eq v239) (D_m_line_237 F S) ((D_m_keyLetters F S).bind fun S247 => D_m_line_241 F S247))
theorem T_m_line_216 {l : Launch} {w0 : List mM} {F : Nat} {x1 : Int32} {S : mS} {w : List mM} {r : mS} (h : m_RM S w) (hF : m_Fq w0 w) (h0 : D_m_line_216 F x1 S = some r) : m_Rs l M_252 (216, [(0, .ref 583), (1, .int x1)], [], w) (fun v w' => v = none ∧ m_RM r w' ∧ m_Fq w0 w') 0 0 7 700 := by
  rw [D_m_line_216] at h0
  refine m_Rs.n0 b_252 (x_iload_n d_252_216 rfl) ?_
  cases hc238 : m_c1 .ne x1 with
  | true =>
    have h0 := cT hc238 h0
    refine m_Rs.n0 b_252 (x_ift d_252_217 rfl hc238) ?_
    exact m_Rs.pick [0] rfl (T_m_line_237 h hF h0)
  | false =>
    have h0 := cF hc238 h0
    refine m_Rs.n0 b_252 (x_iff d_252_217 rfl hc238) ?_
    refine m_Rs.n0 b_252 (x_aload_n d_252_220 rfl) ?_
    refine m_Rs.n0 b_252 (x_textw d_252_221 rfl rfl) ?_
    obtain ⟨v239, e240, h0⟩ := bS h0
    refine m_Rs.callS b_252 (y_cv d_252_224 rfl q_256 (m_isRecv_of rfl h.1) (show m_takeI _ _ = some (_, [_, _], []) from rfl) (by simp only [m_okf, List.all_cons, List.all_nil, Bool.and_true, Bool.and_self, m_okv_i, m_okv_l, m_okv_0, m_okv_t, m_okv_at h.1, m_okv_out (a := 80) (by decide)]) rfl) (T_m_isNamed (by decide) h e240) hF rfl (fun w1 h hF => ?_) (by decide) (by decide)
    cases hc246 : m_c1 .eq v239 with
    | true =>
      have h0 := cT hc246 h0
      refine m_Rs.n0 b_252 (x_ift d_252_227 rfl hc246) ?_
      exact m_Rs.pick [0] rfl (T_m_line_237 h hF h0)
    | false =>
      have h0 := cF hc246 h0
      refine m_Rs.n0 b_252 (x_iff d_252_227 rfl hc246) ?_
      refine m_Rs.n0 b_252 (x_aload_n d_252_230 rfl) ?_
      obtain ⟨S247, e248, h0⟩ := bS h0
      refine m_Rs.callSv b_252 (y_cv d_252_231 rfl q_266 (m_isRecv_of rfl h.1) (show m_takeI _ _ = some (_, [_], []) from rfl) (by simp only [m_okf, List.all_cons, List.all_nil, Bool.and_true, Bool.and_self, m_okv_i, m_okv_l, m_okv_0, m_okv_t, m_okv_at h.1]) rfl) (T_m_keyLetters h e248) hF rfl (fun w1 h hF => ?_) (by decide) (by decide)
      refine m_Rs.n0 b_252 (x_goto d_252_234 rfl) ?_
      exact m_Rs.pick [0] rfl (T_m_line_241 h hF h0)
def D_m_line_162 (F : Nat) (x1 : Int32) (S : mS) : Option (mS) := (D_m_isNamed F 78 S).bind fun v197 => cond (m_c1 .eq v197) (cond (m_c1 .ne x1) (D_m_line_216 F x1 S) ((D_m_isNamed F 79 S).bind fun v214 => cond (m_c1 .eq v214) (D_m_line_216 F x1 S) ((D_m_number F (255 : Int32) S).bind fun q223 => (fput q223.2 23 q223.1).bind fun S225 => D_m_line_241 F S225))) ((cond (m_c1 .eq x1) (some (1 : Int32)) (some (0 : Int32))).bind fun v230 => (D_m_list F v230 S).bind fun S231 => D_m_line_241 F S231)
theorem T_m_line_162 {l : Launch} {w0 : List mM} {F : Nat} {x1 : Int32} {S : mS} {w : List mM} {r : mS} (h : m_RM S w) (hF : m_Fq w0 w) (h0 : D_m_line_162 F x1 S = some r) : m_Rs l M_252 (162, [(0, .ref 583), (1, .int x1)], [], w) (fun v w' => v = none ∧ m_RM r w' ∧ m_Fq w0 w') 0 0 7 700 := by
  rw [D_m_line_162] at h0
  refine m_Rs.n0 b_252 (x_aload_n d_252_162 rfl) ?_
  refine m_Rs.n0 b_252 (x_textw d_252_163 rfl rfl) ?_
  obtain ⟨v197, e198, h0⟩ := bS h0
  refine m_Rs.callS b_252 (y_cv d_252_166 rfl q_256 (m_isRecv_of rfl h.1) (show m_takeI _ _ = some (_, [_, _], []) from rfl) (by simp only [m_okf, List.all_cons, List.all_nil, Bool.and_true, Bool.and_self, m_okv_i, m_okv_l, m_okv_0, m_okv_t, m_okv_at h.1, m_okv_out (a := 78) (by decide)]) rfl) (T_m_isNamed (by decide) h e198) hF rfl (fun w1 h hF => ?_) (by decide) (by decide)
  cases hc206 : m_c1 .eq v197 with
  | true =>
    have h0 := cT hc206 h0
    refine m_Rs.n0 b_252 (x_ift d_252_169 rfl hc206) ?_
    refine m_Rs.n0 b_252 (x_iload_n d_252_188 rfl) ?_
    cases hc213 : m_c1 .ne x1 with
    | true =>
      have h0 := cT hc213 h0
      refine m_Rs.n0 b_252 (x_ift d_252_189 rfl hc213) ?_
      exact m_Rs.pick [0, 1] rfl (T_m_line_216 h hF h0)
    | false =>
      have h0 := cF hc213 h0
      refine m_Rs.n0 b_252 (x_iff d_252_189 rfl hc213) ?_
      refine m_Rs.n0 b_252 (x_aload_n d_252_192 rfl) ?_
      refine m_Rs.n0 b_252 (x_textw d_252_193 rfl rfl) ?_
      obtain ⟨v214, e215, h0⟩ := bS h0
      refine m_Rs.callS b_252 (y_cv d_252_196 rfl q_256 (m_isRecv_of rfl h.1) (show m_takeI _ _ = some (_, [_, _], []) from rfl) (by simp only [m_okf, List.all_cons, List.all_nil, Bool.and_true, Bool.and_self, m_okv_i, m_okv_l, m_okv_0, m_okv_t, m_okv_at h.1, m_okv_out (a := 79) (by decide)]) rfl) (T_m_isNamed (by decide) h e215) hF rfl (fun w1 h hF => ?_) (by decide) (by decide)
      cases hc222 : m_c1 .eq v214 with
      | true =>
        have h0 := cT hc222 h0
        refine m_Rs.n0 b_252 (x_ift d_252_199 rfl hc222) ?_
        exact m_Rs.pick [0, 1] rfl (T_m_line_216 h hF h0)
      | false =>
        have h0 := cF hc222 h0
        refine m_Rs.n0 b_252 (x_iff d_252_199 rfl hc222) ?_
        refine m_Rs.n0 b_252 (x_aload_n d_252_202 rfl) ?_
        refine m_Rs.n0 b_252 (x_aload_n d_252_203 rfl) ?_
        refine m_Rs.n0 b_252 (x_sipush (z := 255) d_252_204 (by decide)) ?_
        obtain ⟨q223, e224, h0⟩ := bS h0
        refine m_Rs.callS b_252 (y_cv d_252_207 rfl q_250 (m_isRecv_of rfl h.1) (show m_takeI _ _ = some (_, [_, _], [_]) from rfl) (by simp only [m_okf, List.all_cons, List.all_nil, Bool.and_true, Bool.and_self, m_okv_i, m_okv_l, m_okv_0, m_okv_t, m_okv_at h.1]) rfl) (T_m_number h e224) hF rfl (fun w1 h hF => ?_) (by decide) (by decide)
        obtain ⟨S225, e226, h0⟩ := bS h0
        refine m_Rs.dfput b_252 d_252_210 h hF e226 rfl rfl rfl rfl rfl rfl (fun w1 h hF => ?_)
        refine m_Rs.n0 b_252 (x_goto d_252_213 rfl) ?_
        exact m_Rs.pick [0] rfl (T_m_line_241 h hF h0)
  | false =>
    have h0 := cF hc206 h0
    refine m_Rs.n0 b_252 (x_iff d_252_169 rfl hc206) ?_
    refine m_Rs.n0 b_252 (x_aload_n d_252_172 rfl) ?_
    refine m_Rs.n0 b_252 (x_iload_n d_252_173 rfl) ?_
    obtain ⟨v230, e228, h0⟩ := bS h0
    have kk227 : ∀ (xz : Int32) (w1 : List mM), xz = v230 → m_RM S w1 → m_Fq w0 w1 → m_Rs l M_252 (182, [(0, .ref 583), (1, .int x1)], [.int xz, .ref 583], w1) (fun v w' => v = none ∧ m_RM r w' ∧ m_Fq w0 w') 0 0 7 700 := by
      intro xz w ez h hF
      rw [ez]
      obtain ⟨S231, e232, h0⟩ := bS h0
      refine m_Rs.callSv b_252 (y_cv d_252_182 rfl q_260 (m_isRecv_of rfl h.1) (show m_takeI _ _ = some (_, [_, _], []) from rfl) (by simp only [m_okf, List.all_cons, List.all_nil, Bool.and_true, Bool.and_self, m_okv_i, m_okv_l, m_okv_0, m_okv_t, m_okv_at h.1]) rfl) (T_m_list h e232) hF rfl (fun w1 h hF => ?_) (by decide) (by decide)
      refine m_Rs.n0 b_252 (x_goto d_252_185 rfl) ?_
      exact m_Rs.pick [0] rfl (T_m_line_241 h hF h0)
    cases hc229 : m_c1 .eq x1 with
    | true =>
      have e228 := cT hc229 e228
      refine m_Rs.n0 b_252 (x_ift d_252_174 rfl hc229) ?_
      refine m_Rs.n0 b_252 (x_iconst (z := 1) d_252_181 (by decide)) ?_
      exact kk227 _ _ (Option.some.inj e228) h hF
    | false =>
      have e228 := cF hc229 e228
      refine m_Rs.n0 b_252 (x_iff d_252_174 rfl hc229) ?_
      refine m_Rs.n0 b_252 (x_iconst (z := 0) d_252_177 (by decide)) ?_
      refine m_Rs.n0 b_252 (x_goto d_252_178 rfl) ?_
      exact kk227 _ _ (Option.some.inj e228) h hF
def D_m_line_140 (F : Nat) (x1 : Int32) (S : mS) : Option (mS) := cond (m_c1 .ne x1) (D_m_line_162 F x1 S) ((D_m_isNamed F 77 S).bind fun v182 => cond (m_c1 .eq v182) (D_m_line_162 F x1 S) ((D_m_list F (4 : Int32) S).bind fun S195 => D_m_line_241 F S195))
theorem T_m_line_140 {l : Launch} {w0 : List mM} {F : Nat} {x1 : Int32} {S : mS} {w : List mM} {r : mS} (h : m_RM S w) (hF : m_Fq w0 w) (h0 : D_m_line_140 F x1 S = some r) : m_Rs l M_252 (140, [(0, .ref 583), (1, .int x1)], [], w) (fun v w' => v = none ∧ m_RM r w' ∧ m_Fq w0 w') 0 0 7 700 := by
  rw [D_m_line_140] at h0
  refine m_Rs.n0 b_252 (x_iload_n d_252_140 rfl) ?_
  cases hc181 : m_c1 .ne x1 with
  | true =>
    have h0 := cT hc181 h0
    refine m_Rs.n0 b_252 (x_ift d_252_141 rfl hc181) ?_
    exact m_Rs.pick [0, 1] rfl (T_m_line_162 h hF h0)
  | false =>
    have h0 := cF hc181 h0
    refine m_Rs.n0 b_252 (x_iff d_252_141 rfl hc181) ?_
    refine m_Rs.n0 b_252 (x_aload_n d_252_144 rfl) ?_
    refine m_Rs.n0 b_252 (x_textw d_252_145 rfl rfl) ?_
    obtain ⟨v182, e183, h0⟩ := bS h0
    refine m_Rs.callS b_252 (y_cv d_252_148 rfl q_256 (m_isRecv_of rfl h.1) (show m_takeI _ _ = some (_, [_, _], []) from rfl) (by simp only [m_okf, List.all_cons, List.all_nil, Bool.and_true, Bool.and_self, m_okv_i, m_okv_l, m_okv_0, m_okv_t, m_okv_at h.1, m_okv_out (a := 77) (by decide)]) rfl) (T_m_isNamed (by decide) h e183) hF rfl (fun w1 h hF => ?_) (by decide) (by decide)
    cases hc194 : m_c1 .eq v182 with
    | true =>
      have h0 := cT hc194 h0
      refine m_Rs.n0 b_252 (x_ift d_252_151 rfl hc194) ?_
      exact m_Rs.pick [0, 1] rfl (T_m_line_162 h hF h0)
    | false =>
      have h0 := cF hc194 h0
      refine m_Rs.n0 b_252 (x_iff d_252_151 rfl hc194) ?_
      refine m_Rs.n0 b_252 (x_aload_n d_252_154 rfl) ?_
      refine m_Rs.n0 b_252 (x_iconst (z := 4) d_252_155 (by decide)) ?_
      obtain ⟨S195, e196, h0⟩ := bS h0
      refine m_Rs.callSv b_252 (y_cv d_252_156 rfl q_260 (m_isRecv_of rfl h.1) (show m_takeI _ _ = some (_, [_, _], []) from rfl) (by simp only [m_okf, List.all_cons, List.all_nil, Bool.and_true, Bool.and_self, m_okv_i, m_okv_l, m_okv_0, m_okv_t, m_okv_at h.1]) rfl) (T_m_list h e196) hF rfl (fun w1 h hF => ?_) (by decide) (by decide)
      refine m_Rs.n0 b_252 (x_goto d_252_159 rfl) ?_
      exact m_Rs.pick [0] rfl (T_m_line_241 h hF h0)
def D_m_line_118 (F : Nat) (x1 : Int32) (S : mS) : Option (mS) := cond (m_c1 .eq x1) (D_m_line_140 F x1 S) ((D_m_isNamed F 70 S).bind fun v155 => cond (m_c1 .eq v155) (D_m_line_140 F x1 S) ((D_m_list F (3 : Int32) S).bind fun S169 => D_m_line_241 F S169))
theorem T_m_line_118 {l : Launch} {w0 : List mM} {F : Nat} {x1 : Int32} {S : mS} {w : List mM} {r : mS} (h : m_RM S w) (hF : m_Fq w0 w) (h0 : D_m_line_118 F x1 S = some r) : m_Rs l M_252 (118, [(0, .ref 583), (1, .int x1)], [], w) (fun v w' => v = none ∧ m_RM r w' ∧ m_Fq w0 w') 0 0 7 700 := by
  rw [D_m_line_118] at h0
  refine m_Rs.n0 b_252 (x_iload_n d_252_118 rfl) ?_
  cases hc154 : m_c1 .eq x1 with
  | true =>
    have h0 := cT hc154 h0
    refine m_Rs.n0 b_252 (x_ift d_252_119 rfl hc154) ?_
    exact m_Rs.pick [0, 1] rfl (T_m_line_140 h hF h0)
  | false =>
    have h0 := cF hc154 h0
    refine m_Rs.n0 b_252 (x_iff d_252_119 rfl hc154) ?_
    refine m_Rs.n0 b_252 (x_aload_n d_252_122 rfl) ?_
    refine m_Rs.n0 b_252 (x_textw d_252_123 rfl rfl) ?_
    obtain ⟨v155, e156, h0⟩ := bS h0
    refine m_Rs.callS b_252 (y_cv d_252_126 rfl q_256 (m_isRecv_of rfl h.1) (show m_takeI _ _ = some (_, [_, _], []) from rfl) (by simp only [m_okf, List.all_cons, List.all_nil, Bool.and_true, Bool.and_self, m_okv_i, m_okv_l, m_okv_0, m_okv_t, m_okv_at h.1, m_okv_out (a := 70) (by decide)]) rfl) (T_m_isNamed (by decide) h e156) hF rfl (fun w1 h hF => ?_) (by decide) (by decide)
    cases hc168 : m_c1 .eq v155 with
    | true =>
      have h0 := cT hc168 h0
      refine m_Rs.n0 b_252 (x_ift d_252_129 rfl hc168) ?_
      exact m_Rs.pick [0, 1] rfl (T_m_line_140 h hF h0)
    | false =>
      have h0 := cF hc168 h0
      refine m_Rs.n0 b_252 (x_iff d_252_129 rfl hc168) ?_
      refine m_Rs.n0 b_252 (x_aload_n d_252_132 rfl) ?_
      refine m_Rs.n0 b_252 (x_iconst (z := 3) d_252_133 (by decide)) ?_
      obtain ⟨S169, e170, h0⟩ := bS h0
      refine m_Rs.callSv b_252 (y_cv d_252_134 rfl q_260 (m_isRecv_of rfl h.1) (show m_takeI _ _ = some (_, [_, _], []) from rfl) (by simp only [m_okf, List.all_cons, List.all_nil, Bool.and_true, Bool.and_self, m_okv_i, m_okv_l, m_okv_0, m_okv_t, m_okv_at h.1]) rfl) (T_m_list h e170) hF rfl (fun w1 h hF => ?_) (by decide) (by decide)
      refine m_Rs.n0 b_252 (x_goto d_252_137 rfl) ?_
      exact m_Rs.pick [0] rfl (T_m_line_241 h hF h0)
def D_m_line_96 (F : Nat) (x1 : Int32) (S : mS) : Option (mS) := cond (m_c1 .eq x1) (D_m_line_118 F x1 S) ((D_m_isNamed F 69 S).bind fun v126 => cond (m_c1 .eq v126) (D_m_line_118 F x1 S) ((D_m_list F (2 : Int32) S).bind fun S141 => D_m_line_241 F S141))
theorem T_m_line_96 {l : Launch} {w0 : List mM} {F : Nat} {x1 : Int32} {S : mS} {w : List mM} {r : mS} (h : m_RM S w) (hF : m_Fq w0 w) (h0 : D_m_line_96 F x1 S = some r) : m_Rs l M_252 (96, [(0, .ref 583), (1, .int x1)], [], w) (fun v w' => v = none ∧ m_RM r w' ∧ m_Fq w0 w') 0 0 7 700 := by
  rw [D_m_line_96] at h0
  refine m_Rs.n0 b_252 (x_iload_n d_252_96 rfl) ?_
  cases hc125 : m_c1 .eq x1 with
  | true =>
    have h0 := cT hc125 h0
    refine m_Rs.n0 b_252 (x_ift d_252_97 rfl hc125) ?_
    exact m_Rs.pick [0, 1] rfl (T_m_line_118 h hF h0)
  | false =>
    have h0 := cF hc125 h0
    refine m_Rs.n0 b_252 (x_iff d_252_97 rfl hc125) ?_
    refine m_Rs.n0 b_252 (x_aload_n d_252_100 rfl) ?_
    refine m_Rs.n0 b_252 (x_textw d_252_101 rfl rfl) ?_
    obtain ⟨v126, e127, h0⟩ := bS h0
    refine m_Rs.callS b_252 (y_cv d_252_104 rfl q_256 (m_isRecv_of rfl h.1) (show m_takeI _ _ = some (_, [_, _], []) from rfl) (by simp only [m_okf, List.all_cons, List.all_nil, Bool.and_true, Bool.and_self, m_okv_i, m_okv_l, m_okv_0, m_okv_t, m_okv_at h.1, m_okv_out (a := 69) (by decide)]) rfl) (T_m_isNamed (by decide) h e127) hF rfl (fun w1 h hF => ?_) (by decide) (by decide)
    cases hc140 : m_c1 .eq v126 with
    | true =>
      have h0 := cT hc140 h0
      refine m_Rs.n0 b_252 (x_ift d_252_107 rfl hc140) ?_
      exact m_Rs.pick [0, 1] rfl (T_m_line_118 h hF h0)
    | false =>
      have h0 := cF hc140 h0
      refine m_Rs.n0 b_252 (x_iff d_252_107 rfl hc140) ?_
      refine m_Rs.n0 b_252 (x_aload_n d_252_110 rfl) ?_
      refine m_Rs.n0 b_252 (x_iconst (z := 2) d_252_111 (by decide)) ?_
      obtain ⟨S141, e142, h0⟩ := bS h0
      refine m_Rs.callSv b_252 (y_cv d_252_112 rfl q_260 (m_isRecv_of rfl h.1) (show m_takeI _ _ = some (_, [_, _], []) from rfl) (by simp only [m_okf, List.all_cons, List.all_nil, Bool.and_true, Bool.and_self, m_okv_i, m_okv_l, m_okv_0, m_okv_t, m_okv_at h.1]) rfl) (T_m_list h e142) hF rfl (fun w1 h hF => ?_) (by decide) (by decide)
      refine m_Rs.n0 b_252 (x_goto d_252_115 rfl) ?_
      exact m_Rs.pick [0] rfl (T_m_line_241 h hF h0)
def D_m_line_71 (F : Nat) (x1 : Int32) (S : mS) : Option (mS) := cond (m_c1 .eq x1) (D_m_line_96 F x1 S) ((D_m_isNamed F 76 S).bind fun v93 => cond (m_c1 .eq v93) (D_m_line_96 F x1 S) ((D_m_tag F S).bind fun q109 => (fput q109.2 20 q109.1).bind fun S111 => D_m_line_241 F S111))
theorem T_m_line_71 {l : Launch} {w0 : List mM} {F : Nat} {x1 : Int32} {S : mS} {w : List mM} {r : mS} (h : m_RM S w) (hF : m_Fq w0 w) (h0 : D_m_line_71 F x1 S = some r) : m_Rs l M_252 (71, [(0, .ref 583), (1, .int x1)], [], w) (fun v w' => v = none ∧ m_RM r w' ∧ m_Fq w0 w') 0 0 7 700 := by
  rw [D_m_line_71] at h0
  refine m_Rs.n0 b_252 (x_iload_n d_252_71 rfl) ?_
  cases hc92 : m_c1 .eq x1 with
  | true =>
    have h0 := cT hc92 h0
    refine m_Rs.n0 b_252 (x_ift d_252_72 rfl hc92) ?_
    exact m_Rs.pick [0, 1] rfl (T_m_line_96 h hF h0)
  | false =>
    have h0 := cF hc92 h0
    refine m_Rs.n0 b_252 (x_iff d_252_72 rfl hc92) ?_
    refine m_Rs.n0 b_252 (x_aload_n d_252_75 rfl) ?_
    refine m_Rs.n0 b_252 (x_textw d_252_76 rfl rfl) ?_
    obtain ⟨v93, e94, h0⟩ := bS h0
    refine m_Rs.callS b_252 (y_cv d_252_79 rfl q_256 (m_isRecv_of rfl h.1) (show m_takeI _ _ = some (_, [_, _], []) from rfl) (by simp only [m_okf, List.all_cons, List.all_nil, Bool.and_true, Bool.and_self, m_okv_i, m_okv_l, m_okv_0, m_okv_t, m_okv_at h.1, m_okv_out (a := 76) (by decide)]) rfl) (T_m_isNamed (by decide) h e94) hF rfl (fun w1 h hF => ?_) (by decide) (by decide)
    cases hc108 : m_c1 .eq v93 with
    | true =>
      have h0 := cT hc108 h0
      refine m_Rs.n0 b_252 (x_ift d_252_82 rfl hc108) ?_
      exact m_Rs.pick [0, 1] rfl (T_m_line_96 h hF h0)
    | false =>
      have h0 := cF hc108 h0
      refine m_Rs.n0 b_252 (x_iff d_252_82 rfl hc108) ?_
      refine m_Rs.n0 b_252 (x_aload_n d_252_85 rfl) ?_
      refine m_Rs.n0 b_252 (x_aload_n d_252_86 rfl) ?_
      obtain ⟨q109, e110, h0⟩ := bS h0
      refine m_Rs.callS b_252 (y_cv d_252_87 rfl q_259 (m_isRecv_of rfl h.1) (show m_takeI _ _ = some (_, [_], [_]) from rfl) (by simp only [m_okf, List.all_cons, List.all_nil, Bool.and_true, Bool.and_self, m_okv_i, m_okv_l, m_okv_0, m_okv_t, m_okv_at h.1]) rfl) (T_m_tag h e110) hF rfl (fun w1 h hF => ?_) (by decide) (by decide)
      obtain ⟨S111, e112, h0⟩ := bS h0
      refine m_Rs.dfput b_252 d_252_90 h hF e112 rfl rfl rfl rfl rfl rfl (fun w1 h hF => ?_)
      refine m_Rs.n0 b_252 (x_goto d_252_93 rfl) ?_
      exact m_Rs.pick [0] rfl (T_m_line_241 h hF h0)
def D_m_line_50 (F : Nat) (x1 : Int32) (S : mS) : Option (mS) := cond (m_c1 .eq x1) (D_m_line_71 F x1 S) ((D_m_isNamed F 75 S).bind fun v60 => cond (m_c1 .eq v60) (D_m_line_71 F x1 S) ((D_m_matching F S).bind fun S77 => D_m_line_241 F S77))
theorem T_m_line_50 {l : Launch} {w0 : List mM} {F : Nat} {x1 : Int32} {S : mS} {w : List mM} {r : mS} (h : m_RM S w) (hF : m_Fq w0 w) (h0 : D_m_line_50 F x1 S = some r) : m_Rs l M_252 (50, [(0, .ref 583), (1, .int x1)], [], w) (fun v w' => v = none ∧ m_RM r w' ∧ m_Fq w0 w') 0 0 7 700 := by
  rw [D_m_line_50] at h0
  refine m_Rs.n0 b_252 (x_iload_n d_252_50 rfl) ?_
  cases hc59 : m_c1 .eq x1 with
  | true =>
    have h0 := cT hc59 h0
    refine m_Rs.n0 b_252 (x_ift d_252_51 rfl hc59) ?_
    exact m_Rs.pick [0, 1] rfl (T_m_line_71 h hF h0)
  | false =>
    have h0 := cF hc59 h0
    refine m_Rs.n0 b_252 (x_iff d_252_51 rfl hc59) ?_
    refine m_Rs.n0 b_252 (x_aload_n d_252_54 rfl) ?_
    refine m_Rs.n0 b_252 (x_textw d_252_55 rfl rfl) ?_
    obtain ⟨v60, e61, h0⟩ := bS h0
    refine m_Rs.callS b_252 (y_cv d_252_58 rfl q_256 (m_isRecv_of rfl h.1) (show m_takeI _ _ = some (_, [_, _], []) from rfl) (by simp only [m_okf, List.all_cons, List.all_nil, Bool.and_true, Bool.and_self, m_okv_i, m_okv_l, m_okv_0, m_okv_t, m_okv_at h.1, m_okv_out (a := 75) (by decide)]) rfl) (T_m_isNamed (by decide) h e61) hF rfl (fun w1 h hF => ?_) (by decide) (by decide)
    cases hc76 : m_c1 .eq v60 with
    | true =>
      have h0 := cT hc76 h0
      refine m_Rs.n0 b_252 (x_ift d_252_61 rfl hc76) ?_
      exact m_Rs.pick [0, 1] rfl (T_m_line_71 h hF h0)
    | false =>
      have h0 := cF hc76 h0
      refine m_Rs.n0 b_252 (x_iff d_252_61 rfl hc76) ?_
      refine m_Rs.n0 b_252 (x_aload_n d_252_64 rfl) ?_
      obtain ⟨S77, e78, h0⟩ := bS h0
      refine m_Rs.callSv b_252 (y_cv d_252_65 rfl q_258 (m_isRecv_of rfl h.1) (show m_takeI _ _ = some (_, [_], []) from rfl) (by simp only [m_okf, List.all_cons, List.all_nil, Bool.and_true, Bool.and_self, m_okv_i, m_okv_l, m_okv_0, m_okv_t, m_okv_at h.1]) rfl) (T_m_matching h e78) hF rfl (fun w1 h hF => ?_) (by decide) (by decide)
      refine m_Rs.n0 b_252 (x_goto d_252_68 rfl) ?_
      exact m_Rs.pick [0] rfl (T_m_line_241 h hF h0)
def D_m_line (F : Nat) (a0 : Int32) (S : mS) : Option (mS) := cond (m_c2 .lt (S.1 4) (S.1 2)) ((D_m_name F S).bind fun q2 => cond (m_c1 .ne q2.1) (cond (m_c1 .eq a0) (D_m_line_50 F a0 q2.2) ((D_m_isNamed F 74 q2.2).bind fun v21 => cond (m_c1 .eq v21) (D_m_line_50 F a0 q2.2) ((D_m_range F q2.2).bind fun S39 => D_m_line_241 F S39))) (some q2.2)) ((D_m_wrong F (S.1 2) S).bind fun q41 => some q41.2)
theorem T_m_line {l : Launch} {w : List mM} {F : Nat} {a0 : Int32} {S : mS} {r : mS} (h : m_RM S w) (h0 : D_m_line F a0 S = some r) : m_Rs l M_252 (m_ent M_252 [.ref 583, .int a0] w) (fun v w' => v = none ∧ m_RM r w' ∧ m_Fq w w') 0 0 7 700 := by
  show m_Rs l M_252 (0, [(0, .ref 583), (1, .int a0)], [], w) _ 0 0 7 700
  generalize hw0 : w = w0 at h ⊢
  have hF : m_Fq w0 w0 := m_Fq.refl
  rw [D_m_line] at h0
  refine m_Rs.n0 b_252 (x_aload_n d_252_0 rfl) ?_
  refine m_Rs.n0 b_252 (x_getf d_252_1 rfl h.1 rfl) ?_
  refine m_Rs.n0 b_252 (x_aload_n d_252_4 rfl) ?_
  refine m_Rs.n0 b_252 (x_getf d_252_5 rfl h.1 rfl) ?_
  cases hc1 : m_c2 .lt (S.1 4) (S.1 2) with
  | true =>
    have h0 := cT hc1 h0
    refine m_Rs.n0 b_252 (x_ict d_252_8 rfl hc1) ?_
    refine m_Rs.n0 b_252 (x_aload_n d_252_21 rfl) ?_
    obtain ⟨q2, e3, h0⟩ := bS h0
    refine m_Rs.callS b_252 (y_cv d_252_22 rfl q_253 (m_isRecv_of rfl h.1) (show m_takeI _ _ = some (_, [_], []) from rfl) (by simp only [m_okf, List.all_cons, List.all_nil, Bool.and_true, Bool.and_self, m_okv_i, m_okv_l, m_okv_0, m_okv_t, m_okv_at h.1]) rfl) (T_m_name h e3) hF rfl (fun w1 h hF => ?_) (by decide) (by decide)
    cases hc4 : m_c1 .ne q2.1 with
    | true =>
      have h0 := cT hc4 h0
      refine m_Rs.n0 b_252 (x_ift d_252_25 rfl hc4) ?_
      refine m_Rs.n0 b_252 (x_iload_n d_252_29 rfl) ?_
      cases hc20 : m_c1 .eq a0 with
      | true =>
        have h0 := cT hc20 h0
        refine m_Rs.n0 b_252 (x_ift d_252_30 rfl hc20) ?_
        exact m_Rs.pick [0, 1] rfl (T_m_line_50 h hF h0)
      | false =>
        have h0 := cF hc20 h0
        refine m_Rs.n0 b_252 (x_iff d_252_30 rfl hc20) ?_
        refine m_Rs.n0 b_252 (x_aload_n d_252_33 rfl) ?_
        refine m_Rs.n0 b_252 (x_textw d_252_34 rfl rfl) ?_
        obtain ⟨v21, e22, h0⟩ := bS h0
        refine m_Rs.callS b_252 (y_cv d_252_37 rfl q_256 (m_isRecv_of rfl h.1) (show m_takeI _ _ = some (_, [_, _], []) from rfl) (by simp only [m_okf, List.all_cons, List.all_nil, Bool.and_true, Bool.and_self, m_okv_i, m_okv_l, m_okv_0, m_okv_t, m_okv_at h.1, m_okv_out (a := 74) (by decide)]) rfl) (T_m_isNamed (by decide) h e22) hF rfl (fun w1 h hF => ?_) (by decide) (by decide)
        cases hc38 : m_c1 .eq v21 with
        | true =>
          have h0 := cT hc38 h0
          refine m_Rs.n0 b_252 (x_ift d_252_40 rfl hc38) ?_
          exact m_Rs.pick [0, 1] rfl (T_m_line_50 h hF h0)
        | false =>
          have h0 := cF hc38 h0
          refine m_Rs.n0 b_252 (x_iff d_252_40 rfl hc38) ?_
          refine m_Rs.n0 b_252 (x_aload_n d_252_43 rfl) ?_
          obtain ⟨S39, e40, h0⟩ := bS h0
          refine m_Rs.callSv b_252 (y_cv d_252_44 rfl q_257 (m_isRecv_of rfl h.1) (show m_takeI _ _ = some (_, [_], []) from rfl) (by simp only [m_okf, List.all_cons, List.all_nil, Bool.and_true, Bool.and_self, m_okv_i, m_okv_l, m_okv_0, m_okv_t, m_okv_at h.1]) rfl) (T_m_range h e40) hF rfl (fun w1 h hF => ?_) (by decide) (by decide)
          refine m_Rs.n0 b_252 (x_goto d_252_47 rfl) ?_
          exact m_Rs.pick [0] rfl (T_m_line_241 h hF h0)
    | false =>
      have h0 := cF hc4 h0
      refine m_Rs.n0 b_252 (x_iff d_252_25 rfl hc4) ?_
      exact m_Rs.ret b_252 (m_rt_vr d_252_28 rfl) (rV h0 h hF)
  | false =>
    have h0 := cF hc1 h0
    refine m_Rs.n0 b_252 (x_icf d_252_8 rfl hc1) ?_
    refine m_Rs.n0 b_252 (x_aload_n d_252_11 rfl) ?_
    refine m_Rs.n0 b_252 (x_aload_n d_252_12 rfl) ?_
    refine m_Rs.n0 b_252 (x_getf d_252_13 rfl h.1 rfl) ?_
    obtain ⟨q41, e42, h0⟩ := bS h0
    refine m_Rs.callS b_252 (y_cv d_252_16 rfl q_248 (m_isRecv_of rfl h.1) (show m_takeI _ _ = some (_, [_, _], []) from rfl) (by simp only [m_okf, List.all_cons, List.all_nil, Bool.and_true, Bool.and_self, m_okv_i, m_okv_l, m_okv_0, m_okv_t, m_okv_at h.1]) rfl) (T_m_wrong h e42) hF rfl (fun w1 h hF => ?_) (by decide) (by decide)
    refine m_Rs.n0 b_252 (x_pop d_252_19 rfl) ?_
    exact m_Rs.ret b_252 (m_rt_vr d_252_20 rfl) (rV h0 h hF)
def D_m_readText_235 (F : Nat) (S : mS) : Option (Int32 × mS) := (fput S 2 (0 : Int32)).bind fun S92 => (cond (m_c1 .eq (S92.1 5)) (some ((-1) : Int32)) (some (S92.1 6))).bind fun v97 => (fput S92 3 v97).bind fun S98 => (cond (m_c1 .ne (S98.1 5)) (some (0 : Int32)) (some (1 : Int32))).bind fun v103 => (bret v103).bind fun v104 => some (v104, S98)
theorem T_m_readText_235 {l : Launch} {w0 : List mM} {F : Nat} {S : mS} {w : List mM} {r : Int32 × mS} (h : m_RM S w) (hF : m_Fq w0 w) (h0 : D_m_readText_235 F S = some r) : m_Rs l M_244 (235, [(0, .ref 583)], [], w) (fun v w' => v = some (.int r.1) ∧ m_RM r.2 w' ∧ m_Fq w0 w') 0 0 8 800 := by
  rw [D_m_readText_235] at h0
  refine m_Rs.n0 b_244 (x_aload_n d_244_235 rfl) ?_
  refine m_Rs.n0 b_244 (x_iconst (z := 0) d_244_236 (by decide)) ?_
  obtain ⟨S92, e93, h0⟩ := bS h0
  refine m_Rs.dfput b_244 d_244_237 h hF e93 rfl rfl rfl rfl rfl rfl (fun w1 h hF => ?_)
  refine m_Rs.n0 b_244 (x_aload_n d_244_240 rfl) ?_
  refine m_Rs.n0 b_244 (x_aload_n d_244_241 rfl) ?_
  refine m_Rs.n0 b_244 (x_getf d_244_242 rfl h.1 rfl) ?_
  obtain ⟨v97, e95, h0⟩ := bS h0
  have kk94 : ∀ (xz : Int32) (w1 : List mM), xz = v97 → m_RM S92 w1 → m_Fq w0 w1 → m_Rs l M_244 (256, [(0, .ref 583)], [.int xz, .ref 583], w1) (fun v w' => v = some (.int r.1) ∧ m_RM r.2 w' ∧ m_Fq w0 w') 0 0 8 800 := by
    intro xz w ez h hF
    rw [ez]
    obtain ⟨S98, e99, h0⟩ := bS h0
    refine m_Rs.dfput b_244 d_244_256 h hF e99 rfl rfl rfl rfl rfl rfl (fun w1 h hF => ?_)
    refine m_Rs.n0 b_244 (x_aload_n d_244_259 rfl) ?_
    refine m_Rs.n0 b_244 (x_getf d_244_260 rfl h.1 rfl) ?_
    obtain ⟨v103, e101, h0⟩ := bS h0
    have kk100 : ∀ (xz : Int32) (w1 : List mM), xz = v103 → m_RM S98 w1 → m_Fq w0 w1 → m_Rs l M_244 (271, [(0, .ref 583)], [.int xz], w1) (fun v w' => v = some (.int r.1) ∧ m_RM r.2 w' ∧ m_Fq w0 w') 0 0 8 800 := by
      intro xz w ez h hF
      rw [ez]
      obtain ⟨v104, e105, h0⟩ := bS h0
      exact m_Rs.retb b_244 d_244_271 rfl e105 (rP h0 h hF)
    cases hc102 : m_c1 .ne (S98.1 5) with
    | true =>
      have e101 := cT hc102 e101
      refine m_Rs.n0 b_244 (x_ift d_244_263 rfl hc102) ?_
      refine m_Rs.n0 b_244 (x_iconst (z := 0) d_244_270 (by decide)) ?_
      exact kk100 _ _ (Option.some.inj e101) h hF
    | false =>
      have e101 := cF hc102 e101
      refine m_Rs.n0 b_244 (x_iff d_244_263 rfl hc102) ?_
      refine m_Rs.n0 b_244 (x_iconst (z := 1) d_244_266 (by decide)) ?_
      refine m_Rs.n0 b_244 (x_goto d_244_267 rfl) ?_
      exact kk100 _ _ (Option.some.inj e101) h hF
  cases hc96 : m_c1 .eq (S92.1 5) with
  | true =>
    have e95 := cT hc96 e95
    refine m_Rs.n0 b_244 (x_ift d_244_245 rfl hc96) ?_
    refine m_Rs.n0 b_244 (x_iconst (z := (-1)) d_244_255 (by decide)) ?_
    exact kk94 _ _ (Option.some.inj e95) h hF
  | false =>
    have e95 := cF hc96 e95
    refine m_Rs.n0 b_244 (x_iff d_244_245 rfl hc96) ?_
    refine m_Rs.n0 b_244 (x_aload_n d_244_248 rfl) ?_
    refine m_Rs.n0 b_244 (x_getf d_244_249 rfl h.1 rfl) ?_
    refine m_Rs.n0 b_244 (x_goto d_244_252 rfl) ?_
    exact kk94 _ _ (Option.some.inj e95) h hF
def D_m_readText_201 (F : Nat) (S : mS) : Option (Int32 × mS) := (D_m_expect F (10 : Int32) S).bind fun q80 => cond (m_c1 .ne (q80.2.1 5)) (D_m_readText_235 F q80.2) (cond (m_c2 .ge (q80.2.1 4) (q80.2.1 2)) (D_m_readText_235 F q80.2) ((D_m_wrong F (q80.2.1 4) q80.2).bind fun q90 => D_m_readText_235 F q90.2))
theorem T_m_readText_201 {l : Launch} {w0 : List mM} {F : Nat} {S : mS} {w : List mM} {r : Int32 × mS} (h : m_RM S w) (hF : m_Fq w0 w) (h0 : D_m_readText_201 F S = some r) : m_Rs l M_244 (201, [(0, .ref 583)], [], w) (fun v w' => v = some (.int r.1) ∧ m_RM r.2 w' ∧ m_Fq w0 w') 0 0 8 800 := by
  rw [D_m_readText_201] at h0
  refine m_Rs.n0 b_244 (x_aload_n d_244_201 rfl) ?_
  refine m_Rs.n0 b_244 (x_bipush (z := 10) d_244_202 (by decide)) ?_
  obtain ⟨q80, e81, h0⟩ := bS h0
  refine m_Rs.callS b_244 (y_cv d_244_204 rfl q_247 (m_isRecv_of rfl h.1) (show m_takeI _ _ = some (_, [_, _], []) from rfl) (by simp only [m_okf, List.all_cons, List.all_nil, Bool.and_true, Bool.and_self, m_okv_i, m_okv_l, m_okv_0, m_okv_t, m_okv_at h.1]) rfl) (T_m_expect h e81) hF rfl (fun w1 h hF => ?_) (by decide) (by decide)
  refine m_Rs.n0 b_244 (x_pop d_244_207 rfl) ?_
  refine m_Rs.n0 b_244 (x_aload_n d_244_208 rfl) ?_
  refine m_Rs.n0 b_244 (x_getf d_244_209 rfl h.1 rfl) ?_
  cases hc85 : m_c1 .ne (q80.2.1 5) with
  | true =>
    have h0 := cT hc85 h0
    refine m_Rs.n0 b_244 (x_ift d_244_212 rfl hc85) ?_
    exact m_Rs.pick [0] rfl (T_m_readText_235 h hF h0)
  | false =>
    have h0 := cF hc85 h0
    refine m_Rs.n0 b_244 (x_iff d_244_212 rfl hc85) ?_
    refine m_Rs.n0 b_244 (x_aload_n d_244_215 rfl) ?_
    refine m_Rs.n0 b_244 (x_getf d_244_216 rfl h.1 rfl) ?_
    refine m_Rs.n0 b_244 (x_aload_n d_244_219 rfl) ?_
    refine m_Rs.n0 b_244 (x_getf d_244_220 rfl h.1 rfl) ?_
    cases hc89 : m_c2 .ge (q80.2.1 4) (q80.2.1 2) with
    | true =>
      have h0 := cT hc89 h0
      refine m_Rs.n0 b_244 (x_ict d_244_223 rfl hc89) ?_
      exact m_Rs.pick [0] rfl (T_m_readText_235 h hF h0)
    | false =>
      have h0 := cF hc89 h0
      refine m_Rs.n0 b_244 (x_icf d_244_223 rfl hc89) ?_
      refine m_Rs.n0 b_244 (x_aload_n d_244_226 rfl) ?_
      refine m_Rs.n0 b_244 (x_aload_n d_244_227 rfl) ?_
      refine m_Rs.n0 b_244 (x_getf d_244_228 rfl h.1 rfl) ?_
      obtain ⟨q90, e91, h0⟩ := bS h0
      refine m_Rs.callS b_244 (y_cv d_244_231 rfl q_248 (m_isRecv_of rfl h.1) (show m_takeI _ _ = some (_, [_, _], []) from rfl) (by simp only [m_okf, List.all_cons, List.all_nil, Bool.and_true, Bool.and_self, m_okv_i, m_okv_l, m_okv_0, m_okv_t, m_okv_at h.1]) rfl) (T_m_wrong h e91) hF rfl (fun w1 h hF => ?_) (by decide) (by decide)
      refine m_Rs.n0 b_244 (x_pop d_244_234 rfl) ?_
      exact m_Rs.pick [0] rfl (T_m_readText_235 h hF h0)
def D_m_readText_177 (F : Nat) : Nat → Int32 → mS → Option (Int32 × mS)
  | 0, _, _ => none
  | n + 1, x1, S => cond (m_c1 .ne (S.1 5)) (D_m_readText_201 F S) ((D_m_see F S).bind fun v75 => cond (m_c2 .eq v75 (10 : Int32)) (D_m_readText_201 F S) ((D_m_line F x1 S).bind fun S78 => D_m_readText_177 F n x1 S78))
theorem T_m_readText_177 {l : Launch} {w0 : List mM} {F : Nat} : ∀ (n : Nat) {x1 : Int32} {S : mS} {w : List mM} {r : Int32 × mS}, m_RM S w → m_Fq w0 w → D_m_readText_177 F n x1 S = some r → m_Rs l M_244 (177, [(0, .ref 583), (1, .int x1)], [], w) (fun v w' => v = some (.int r.1) ∧ m_RM r.2 w' ∧ m_Fq w0 w') 0 0 8 800 := by
  intro n
  induction n with
  | zero => intro x1 S w r h hF h0; cases h0
  | succ n ih =>
    intro x1 S w r h hF h0
    rw [D_m_readText_177] at h0
    refine m_Rs.n0 b_244 (x_aload_n d_244_177 rfl) ?_
    refine m_Rs.n0 b_244 (x_getf d_244_178 rfl h.1 rfl) ?_
    cases hc74 : m_c1 .ne (S.1 5) with
    | true =>
      have h0 := cT hc74 h0
      refine m_Rs.n0 b_244 (x_ift d_244_181 rfl hc74) ?_
      exact m_Rs.pick [0] rfl (T_m_readText_201 h hF h0)
    | false =>
      have h0 := cF hc74 h0
      refine m_Rs.n0 b_244 (x_iff d_244_181 rfl hc74) ?_
      refine m_Rs.n0 b_244 (x_aload_n d_244_184 rfl) ?_
      obtain ⟨v75, e76, h0⟩ := bS h0
      refine m_Rs.callS b_244 (y_cv d_244_185 rfl q_245 (m_isRecv_of rfl h.1) (show m_takeI _ _ = some (_, [_], []) from rfl) (by simp only [m_okf, List.all_cons, List.all_nil, Bool.and_true, Bool.and_self, m_okv_i, m_okv_l, m_okv_0, m_okv_t, m_okv_at h.1]) rfl) (T_m_see h e76) hF rfl (fun w1 h hF => ?_) (by decide) (by decide)
      refine m_Rs.n0 b_244 (x_bipush (z := 10) d_244_188 (by decide)) ?_
      cases hc77 : m_c2 .eq v75 (10 : Int32) with
      | true =>
        have h0 := cT hc77 h0
        refine m_Rs.n0 b_244 (x_ict d_244_190 rfl hc77) ?_
        exact m_Rs.pick [0] rfl (T_m_readText_201 h hF h0)
      | false =>
        have h0 := cF hc77 h0
        refine m_Rs.n0 b_244 (x_icf d_244_190 rfl hc77) ?_
        refine m_Rs.n0 b_244 (x_aload_n d_244_193 rfl) ?_
        refine m_Rs.n0 b_244 (x_iload_n d_244_194 rfl) ?_
        obtain ⟨S78, e79, h0⟩ := bS h0
        refine m_Rs.callSv b_244 (y_cv d_244_195 rfl q_252 (m_isRecv_of rfl h.1) (show m_takeI _ _ = some (_, [_, _], []) from rfl) (by simp only [m_okf, List.all_cons, List.all_nil, Bool.and_true, Bool.and_self, m_okv_i, m_okv_l, m_okv_0, m_okv_t, m_okv_at h.1]) rfl) (T_m_line h e79) hF rfl (fun w1 h hF => ?_) (by decide) (by decide)
        refine m_Rs.n0 b_244 (x_goto d_244_198 rfl) ?_
        exact m_Rs.pick [0, 1] rfl (ih h hF h0)
def D_m_readText_172 (F : Nat) (x1 : Int32) (S : mS) : Option (Int32 × mS) := (D_m_target F x1 S).bind fun S72 => D_m_readText_177 F F x1 S72
theorem T_m_readText_172 {l : Launch} {w0 : List mM} {F : Nat} {x1 : Int32} {S : mS} {w : List mM} {r : Int32 × mS} (h : m_RM S w) (hF : m_Fq w0 w) (h0 : D_m_readText_172 F x1 S = some r) : m_Rs l M_244 (172, [(0, .ref 583), (1, .int x1)], [], w) (fun v w' => v = some (.int r.1) ∧ m_RM r.2 w' ∧ m_Fq w0 w') 0 0 8 800 := by
  rw [D_m_readText_172] at h0
  refine m_Rs.n0 b_244 (x_aload_n d_244_172 rfl) ?_
  refine m_Rs.n0 b_244 (x_iload_n d_244_173 rfl) ?_
  obtain ⟨S72, e73, h0⟩ := bS h0
  refine m_Rs.callSv b_244 (y_cv d_244_174 rfl q_249 (m_isRecv_of rfl h.1) (show m_takeI _ _ = some (_, [_, _], []) from rfl) (by simp only [m_okf, List.all_cons, List.all_nil, Bool.and_true, Bool.and_self, m_okv_i, m_okv_l, m_okv_0, m_okv_t, m_okv_at h.1]) rfl) (T_m_target h e73) hF rfl (fun w1 h hF => ?_) (by decide) (by decide)
  exact m_Rs.pick [0, 1] rfl (T_m_readText_177 F h hF h0)
def D_m_readText_168 (F : Nat) (x1 : Int32) (y0 : Nat) (S : mS) : Option (Int32 × mS) := (D_m_expectWord F y0 S).bind fun q110 => D_m_readText_172 F x1 q110.2
theorem T_m_readText_168 {l : Launch} {w0 : List mM} {F : Nat} {x1 : Int32} {y0 : Nat} {S : mS} {w : List mM} {r : Int32 × mS} (hy0 : y0 < 512) (h : m_RM S w) (hF : m_Fq w0 w) (h0 : D_m_readText_168 F x1 y0 S = some r) : m_Rs l M_244 (168, [(0, .ref 583), (1, .int x1)], [.ref y0, .ref 583], w) (fun v w' => v = some (.int r.1) ∧ m_RM r.2 w' ∧ m_Fq w0 w') 0 0 8 800 := by
  rw [D_m_readText_168] at h0
  obtain ⟨q110, e111, h0⟩ := bS h0
  refine m_Rs.callS b_244 (y_cv d_244_168 rfl q_246 (m_isRecv_of rfl h.1) (show m_takeI _ _ = some (_, [_, _], []) from rfl) (by simp only [m_okf, List.all_cons, List.all_nil, Bool.and_true, Bool.and_self, m_okv_i, m_okv_l, m_okv_0, m_okv_t, m_okv_at h.1, m_okv_out (a := y0) hy0]) rfl) (T_m_expectWord hy0 h e111) hF rfl (fun w1 h hF => ?_) (by decide) (by decide)
  refine m_Rs.n0 b_244 (x_pop d_244_171 rfl) ?_
  exact m_Rs.pick [0, 1] rfl (T_m_readText_172 h hF h0)
def D_m_readText_154 (F : Nat) (x1 : Int32) (S : mS) : Option (Int32 × mS) := cond (m_c1 .eq x1) (D_m_readText_168 F x1 73 S) (D_m_readText_168 F x1 72 S)
theorem T_m_readText_154 {l : Launch} {w0 : List mM} {F : Nat} {x1 : Int32} {S : mS} {w : List mM} {r : Int32 × mS} (h : m_RM S w) (hF : m_Fq w0 w) (h0 : D_m_readText_154 F x1 S = some r) : m_Rs l M_244 (154, [(0, .ref 583), (1, .int x1)], [], w) (fun v w' => v = some (.int r.1) ∧ m_RM r.2 w' ∧ m_Fq w0 w') 0 0 8 800 := by
  rw [D_m_readText_154] at h0
  refine m_Rs.n0 b_244 (x_aload_n d_244_154 rfl) ?_
  refine m_Rs.n0 b_244 (x_iload_n d_244_155 rfl) ?_
  cases hc109 : m_c1 .eq x1 with
  | true =>
    have h0 := cT hc109 h0
    refine m_Rs.n0 b_244 (x_ift d_244_156 rfl hc109) ?_
    refine m_Rs.n0 b_244 (x_textw d_244_165 rfl rfl) ?_
    exact m_Rs.pick [0, 1] rfl (T_m_readText_168 (by decide) h hF h0)
  | false =>
    have h0 := cF hc109 h0
    refine m_Rs.n0 b_244 (x_iff d_244_156 rfl hc109) ?_
    refine m_Rs.n0 b_244 (x_textw d_244_159 rfl rfl) ?_
    refine m_Rs.n0 b_244 (x_goto d_244_162 rfl) ?_
    exact m_Rs.pick [0, 1] rfl (T_m_readText_168 (by decide) h hF h0)
def D_m_readText_107 (F : Nat) : Nat → Int32 → Int32 → mS → Option (Int32 × mS)
  | 0, _, _, _ => none
  | n + 1, x1, x2, S => cond (m_c2 .ge x2 (5 : Int32)) (cond (m_c1 .eq x1) (D_m_readText_154 F x1 S) ((D_m_see F S).bind fun v54 => cond (m_c2 .ne v54 (72 : Int32)) (D_m_readText_154 F x1 S) ((D_m_expectWord F 71 S).bind fun q66 => (fpub q66.2 16 (1 : Int32)).bind fun S68 => D_m_readText_172 F x1 S68))) ((aput 5 S 585 x2 (0 : Int32)).bind fun S70 => D_m_readText_107 F n x1 (x2 + Int32.ofInt 1) S70)
theorem T_m_readText_107 {l : Launch} {w0 : List mM} {F : Nat} : ∀ (n : Nat) {x1 : Int32} {x2 : Int32} {S : mS} {w : List mM} {r : Int32 × mS}, m_RM S w → m_Fq w0 w → D_m_readText_107 F n x1 x2 S = some r → m_Rs l M_244 (107, [(0, .ref 583), (1, .int x1), (2, .int x2)], [], w) (fun v w' => v = some (.int r.1) ∧ m_RM r.2 w' ∧ m_Fq w0 w') 0 0 8 800 := by
  intro n
  induction n with
  | zero => intro x1 x2 S w r h hF h0; cases h0
  | succ n ih =>
    intro x1 x2 S w r h hF h0
    rw [D_m_readText_107] at h0
    refine m_Rs.n0 b_244 (x_iload_n d_244_107 rfl) ?_
    refine m_Rs.n0 b_244 (x_iconst (z := 5) d_244_108 (by decide)) ?_
    cases hc43 : m_c2 .ge x2 (5 : Int32) with
    | true =>
      have h0 := cT hc43 h0
      refine m_Rs.n0 b_244 (x_ict d_244_109 rfl hc43) ?_
      refine m_Rs.n0 b_244 (x_iload_n d_244_125 rfl) ?_
      cases hc53 : m_c1 .eq x1 with
      | true =>
        have h0 := cT hc53 h0
        refine m_Rs.n0 b_244 (x_ift d_244_126 rfl hc53) ?_
        exact m_Rs.pick [0, 1] rfl (T_m_readText_154 h hF h0)
      | false =>
        have h0 := cF hc53 h0
        refine m_Rs.n0 b_244 (x_iff d_244_126 rfl hc53) ?_
        refine m_Rs.n0 b_244 (x_aload_n d_244_129 rfl) ?_
        obtain ⟨v54, e55, h0⟩ := bS h0
        refine m_Rs.callS b_244 (y_cv d_244_130 rfl q_245 (m_isRecv_of rfl h.1) (show m_takeI _ _ = some (_, [_], []) from rfl) (by simp only [m_okf, List.all_cons, List.all_nil, Bool.and_true, Bool.and_self, m_okv_i, m_okv_l, m_okv_0, m_okv_t, m_okv_at h.1]) rfl) (T_m_see h e55) hF rfl (fun w1 h hF => ?_) (by decide) (by decide)
        refine m_Rs.n0 b_244 (x_bipush (z := 72) d_244_133 (by decide)) ?_
        cases hc65 : m_c2 .ne v54 (72 : Int32) with
        | true =>
          have h0 := cT hc65 h0
          refine m_Rs.n0 b_244 (x_ict d_244_135 rfl hc65) ?_
          exact m_Rs.pick [0, 1] rfl (T_m_readText_154 h hF h0)
        | false =>
          have h0 := cF hc65 h0
          refine m_Rs.n0 b_244 (x_icf d_244_135 rfl hc65) ?_
          refine m_Rs.n0 b_244 (x_aload_n d_244_138 rfl) ?_
          refine m_Rs.n0 b_244 (x_textw d_244_139 rfl rfl) ?_
          obtain ⟨q66, e67, h0⟩ := bS h0
          refine m_Rs.callS b_244 (y_cv d_244_142 rfl q_246 (m_isRecv_of rfl h.1) (show m_takeI _ _ = some (_, [_, _], []) from rfl) (by simp only [m_okf, List.all_cons, List.all_nil, Bool.and_true, Bool.and_self, m_okv_i, m_okv_l, m_okv_0, m_okv_t, m_okv_at h.1, m_okv_out (a := 71) (by decide)]) rfl) (T_m_expectWord (by decide) h e67) hF rfl (fun w1 h hF => ?_) (by decide) (by decide)
          refine m_Rs.n0 b_244 (x_pop d_244_145 rfl) ?_
          refine m_Rs.n0 b_244 (x_aload_n d_244_146 rfl) ?_
          refine m_Rs.n0 b_244 (x_iconst (z := 1) d_244_147 (by decide)) ?_
          obtain ⟨S68, e69, h0⟩ := bS h0
          refine m_Rs.dfpub b_244 d_244_148 h hF e69 rfl rfl rfl rfl rfl (fun w1 h hF => ?_)
          refine m_Rs.n0 b_244 (x_goto d_244_151 rfl) ?_
          exact m_Rs.pick [0, 1] rfl (T_m_readText_172 h hF h0)
    | false =>
      have h0 := cF hc43 h0
      refine m_Rs.n0 b_244 (x_icf d_244_109 rfl hc43) ?_
      refine m_Rs.n0 b_244 (x_aload_n d_244_112 rfl) ?_
      refine m_Rs.n0 b_244 (x_getf d_244_113 rfl h.1 rfl) ?_
      refine m_Rs.n0 b_244 (x_iload_n d_244_116 rfl) ?_
      refine m_Rs.n0 b_244 (x_iconst (z := 0) d_244_117 (by decide)) ?_
      obtain ⟨S70, e71, h0⟩ := bS h0
      refine m_Rs.dput b_244 d_244_118 h hF 1 rfl e71 (fun w1 h hF => ?_)
      refine m_Rs.n0 b_244 (x_iinc d_244_119 rfl rfl rfl (show m_put1 _ _ _ = [(2, _), (0, _), (1, _)] from rfl)) ?_
      refine m_Rs.n0 b_244 (x_goto d_244_122 rfl) ?_
      exact m_Rs.pick [1, 2, 0] rfl (ih h hF h0)
def D_m_readText (F : Nat) (a0 : Int32) (S : mS) : Option (Int32 × mS) := (fput S 4 (0 : Int32)).bind fun S1 => (fpub S1 5 (0 : Int32)).bind fun S3 => (fput S3 31 (0 : Int32)).bind fun S5 => (fput S5 9 (0 : Int32)).bind fun S7 => (fput S7 12 (0 : Int32)).bind fun S9 => (fput S9 13 ((-1) : Int32)).bind fun S11 => (fput S11 14 ((-1) : Int32)).bind fun S13 => (fput S13 15 ((-1) : Int32)).bind fun S15 => (fpub S15 17 (0 : Int32)).bind fun S17 => (fpub S17 18 (0 : Int32)).bind fun S19 => (fpub S19 19 (0 : Int32)).bind fun S21 => (fpub S21 16 (0 : Int32)).bind fun S23 => (fput S23 23 (0 : Int32)).bind fun S25 => (fput S25 24 (0 : Int32)).bind fun S27 => (fput S27 25 (0 : Int32)).bind fun S29 => (fput S29 26 (0 : Int32)).bind fun S31 => (fput S31 27 (0 : Int32)).bind fun S33 => (fpub S33 29 (0 : Int32)).bind fun S35 => (fpub S35 30 (0 : Int32)).bind fun S37 => (fput S37 28 (0 : Int32)).bind fun S39 => (fput S39 20 ((-1) : Int32)).bind fun S41 => D_m_readText_107 F F a0 (0 : Int32) S41
theorem T_m_readText {l : Launch} {w : List mM} {F : Nat} {a0 : Int32} {S : mS} {r : Int32 × mS} (h : m_RM S w) (h0 : D_m_readText F a0 S = some r) : m_Rs l M_244 (m_ent M_244 [.ref 583, .int a0] w) (fun v w' => v = some (.int r.1) ∧ m_RM r.2 w' ∧ m_Fq w w') 0 0 8 800 := by
  show m_Rs l M_244 (0, [(0, .ref 583), (1, .int a0)], [], w) _ 0 0 8 800
  generalize hw0 : w = w0 at h ⊢
  have hF : m_Fq w0 w0 := m_Fq.refl
  rw [D_m_readText] at h0
  refine m_Rs.n0 b_244 (x_aload_n d_244_0 rfl) ?_
  refine m_Rs.n0 b_244 (x_iconst (z := 0) d_244_1 (by decide)) ?_
  obtain ⟨S1, e2, h0⟩ := bS h0
  refine m_Rs.dfput b_244 d_244_2 h hF e2 rfl rfl rfl rfl rfl rfl (fun w1 h hF => ?_)
  refine m_Rs.n0 b_244 (x_aload_n d_244_5 rfl) ?_
  refine m_Rs.n0 b_244 (x_iconst (z := 0) d_244_6 (by decide)) ?_
  obtain ⟨S3, e4, h0⟩ := bS h0
  refine m_Rs.dfpub b_244 d_244_7 h hF e4 rfl rfl rfl rfl rfl (fun w1 h hF => ?_)
  refine m_Rs.n0 b_244 (x_aload_n d_244_10 rfl) ?_
  refine m_Rs.n0 b_244 (x_iconst (z := 0) d_244_11 (by decide)) ?_
  obtain ⟨S5, e6, h0⟩ := bS h0
  refine m_Rs.dfput b_244 d_244_12 h hF e6 rfl rfl rfl rfl rfl rfl (fun w1 h hF => ?_)
  refine m_Rs.n0 b_244 (x_aload_n d_244_15 rfl) ?_
  refine m_Rs.n0 b_244 (x_iconst (z := 0) d_244_16 (by decide)) ?_
  obtain ⟨S7, e8, h0⟩ := bS h0
  refine m_Rs.dfput b_244 d_244_17 h hF e8 rfl rfl rfl rfl rfl rfl (fun w1 h hF => ?_)
  refine m_Rs.n0 b_244 (x_aload_n d_244_20 rfl) ?_
  refine m_Rs.n0 b_244 (x_iconst (z := 0) d_244_21 (by decide)) ?_
  obtain ⟨S9, e10, h0⟩ := bS h0
  refine m_Rs.dfput b_244 d_244_22 h hF e10 rfl rfl rfl rfl rfl rfl (fun w1 h hF => ?_)
  refine m_Rs.n0 b_244 (x_aload_n d_244_25 rfl) ?_
  refine m_Rs.n0 b_244 (x_iconst (z := (-1)) d_244_26 (by decide)) ?_
  obtain ⟨S11, e12, h0⟩ := bS h0
  refine m_Rs.dfput b_244 d_244_27 h hF e12 rfl rfl rfl rfl rfl rfl (fun w1 h hF => ?_)
  refine m_Rs.n0 b_244 (x_aload_n d_244_30 rfl) ?_
  refine m_Rs.n0 b_244 (x_iconst (z := (-1)) d_244_31 (by decide)) ?_
  obtain ⟨S13, e14, h0⟩ := bS h0
  refine m_Rs.dfput b_244 d_244_32 h hF e14 rfl rfl rfl rfl rfl rfl (fun w1 h hF => ?_)
  refine m_Rs.n0 b_244 (x_aload_n d_244_35 rfl) ?_
  refine m_Rs.n0 b_244 (x_iconst (z := (-1)) d_244_36 (by decide)) ?_
  obtain ⟨S15, e16, h0⟩ := bS h0
  refine m_Rs.dfput b_244 d_244_37 h hF e16 rfl rfl rfl rfl rfl rfl (fun w1 h hF => ?_)
  refine m_Rs.n0 b_244 (x_aload_n d_244_40 rfl) ?_
  refine m_Rs.n0 b_244 (x_iconst (z := 0) d_244_41 (by decide)) ?_
  obtain ⟨S17, e18, h0⟩ := bS h0
  refine m_Rs.dfpub b_244 d_244_42 h hF e18 rfl rfl rfl rfl rfl (fun w1 h hF => ?_)
  refine m_Rs.n0 b_244 (x_aload_n d_244_45 rfl) ?_
  refine m_Rs.n0 b_244 (x_iconst (z := 0) d_244_46 (by decide)) ?_
  obtain ⟨S19, e20, h0⟩ := bS h0
  refine m_Rs.dfpub b_244 d_244_47 h hF e20 rfl rfl rfl rfl rfl (fun w1 h hF => ?_)
  refine m_Rs.n0 b_244 (x_aload_n d_244_50 rfl) ?_
  refine m_Rs.n0 b_244 (x_iconst (z := 0) d_244_51 (by decide)) ?_
  obtain ⟨S21, e22, h0⟩ := bS h0
  refine m_Rs.dfpub b_244 d_244_52 h hF e22 rfl rfl rfl rfl rfl (fun w1 h hF => ?_)
  refine m_Rs.n0 b_244 (x_aload_n d_244_55 rfl) ?_
  refine m_Rs.n0 b_244 (x_iconst (z := 0) d_244_56 (by decide)) ?_
  obtain ⟨S23, e24, h0⟩ := bS h0
  refine m_Rs.dfpub b_244 d_244_57 h hF e24 rfl rfl rfl rfl rfl (fun w1 h hF => ?_)
  refine m_Rs.n0 b_244 (x_aload_n d_244_60 rfl) ?_
  refine m_Rs.n0 b_244 (x_iconst (z := 0) d_244_61 (by decide)) ?_
  obtain ⟨S25, e26, h0⟩ := bS h0
  refine m_Rs.dfput b_244 d_244_62 h hF e26 rfl rfl rfl rfl rfl rfl (fun w1 h hF => ?_)
  refine m_Rs.n0 b_244 (x_aload_n d_244_65 rfl) ?_
  refine m_Rs.n0 b_244 (x_iconst (z := 0) d_244_66 (by decide)) ?_
  obtain ⟨S27, e28, h0⟩ := bS h0
  refine m_Rs.dfput b_244 d_244_67 h hF e28 rfl rfl rfl rfl rfl rfl (fun w1 h hF => ?_)
  refine m_Rs.n0 b_244 (x_aload_n d_244_70 rfl) ?_
  refine m_Rs.n0 b_244 (x_iconst (z := 0) d_244_71 (by decide)) ?_
  obtain ⟨S29, e30, h0⟩ := bS h0
  refine m_Rs.dfput b_244 d_244_72 h hF e30 rfl rfl rfl rfl rfl rfl (fun w1 h hF => ?_)
  refine m_Rs.n0 b_244 (x_aload_n d_244_75 rfl) ?_
  refine m_Rs.n0 b_244 (x_iconst (z := 0) d_244_76 (by decide)) ?_
  obtain ⟨S31, e32, h0⟩ := bS h0
  refine m_Rs.dfput b_244 d_244_77 h hF e32 rfl rfl rfl rfl rfl rfl (fun w1 h hF => ?_)
  refine m_Rs.n0 b_244 (x_aload_n d_244_80 rfl) ?_
  refine m_Rs.n0 b_244 (x_iconst (z := 0) d_244_81 (by decide)) ?_
  obtain ⟨S33, e34, h0⟩ := bS h0
  refine m_Rs.dfput b_244 d_244_82 h hF e34 rfl rfl rfl rfl rfl rfl (fun w1 h hF => ?_)
  refine m_Rs.n0 b_244 (x_aload_n d_244_85 rfl) ?_
  refine m_Rs.n0 b_244 (x_iconst (z := 0) d_244_86 (by decide)) ?_
  obtain ⟨S35, e36, h0⟩ := bS h0
  refine m_Rs.dfpub b_244 d_244_87 h hF e36 rfl rfl rfl rfl rfl (fun w1 h hF => ?_)
  refine m_Rs.n0 b_244 (x_aload_n d_244_90 rfl) ?_
  refine m_Rs.n0 b_244 (x_iconst (z := 0) d_244_91 (by decide)) ?_
  obtain ⟨S37, e38, h0⟩ := bS h0
  refine m_Rs.dfpub b_244 d_244_92 h hF e38 rfl rfl rfl rfl rfl (fun w1 h hF => ?_)
  refine m_Rs.n0 b_244 (x_aload_n d_244_95 rfl) ?_
  refine m_Rs.n0 b_244 (x_iconst (z := 0) d_244_96 (by decide)) ?_
  obtain ⟨S39, e40, h0⟩ := bS h0
  refine m_Rs.dfput b_244 d_244_97 h hF e40 rfl rfl rfl rfl rfl rfl (fun w1 h hF => ?_)
  refine m_Rs.n0 b_244 (x_aload_n d_244_100 rfl) ?_
  refine m_Rs.n0 b_244 (x_iconst (z := (-1)) d_244_101 (by decide)) ?_
  obtain ⟨S41, e42, h0⟩ := bS h0
  refine m_Rs.dfput b_244 d_244_102 h hF e42 rfl rfl rfl rfl rfl rfl (fun w1 h hF => ?_)
  refine m_Rs.n0 b_244 (x_iconst (z := 0) d_244_105 (by decide)) ?_
  refine m_Rs.n0 b_244 (x_istore_n d_244_106 rfl (show m_put1 _ _ _ = [(2, _), (0, _), (1, _)] from rfl)) ?_
  exact m_Rs.pick [1, 2, 0] rfl (T_m_readText_107 F h hF h0)
def D_m_update (F : Nat) (S : mS) : Option (Int32 × mS) := (D_m_readText F (0 : Int32) S).bind fun q1 => cond (m_c1 .ne q1.1) ((fput q1.2 0 (0 : Int32)).bind fun S4 => (aget 0 32 S4 590 (S4.1 7)).bind fun v6 => (aput 32 S4 590 (S4.1 7) (v6 + (1 : Int32))).bind fun S8 => (aget 0 32 S8 590 (S8.1 7)).bind fun v10 => (aput 288 S8 589 ((9 : Int32) * (S4.1 7)) v10).bind fun S12 => (aput 288 S12 589 (((9 : Int32) * (S4.1 7)) + (1 : Int32)) (S12.1 23)).bind fun S14 => (aput 288 S14 589 (((9 : Int32) * (S4.1 7)) + (2 : Int32)) (S14.1 25)).bind fun S16 => (aput 288 S16 589 (((9 : Int32) * (S4.1 7)) + (3 : Int32)) (S16.1 26)).bind fun S18 => (aput 288 S18 589 (((9 : Int32) * (S4.1 7)) + (4 : Int32)) (S18.1 27)).bind fun S20 => (cond (m_c1 .eq (S20.1 29)) (some (0 : Int32)) (some (1 : Int32))).bind fun v25 => (aput 288 S20 589 (((9 : Int32) * (S4.1 7)) + (5 : Int32)) v25).bind fun S26 => (cond (m_c1 .eq (S26.1 30)) (some (0 : Int32)) (some (1 : Int32))).bind fun v31 => (aput 288 S26 589 (((9 : Int32) * (S4.1 7)) + (6 : Int32)) v31).bind fun S32 => (aput 288 S32 589 (((9 : Int32) * (S4.1 7)) + (7 : Int32)) (S32.1 24)).bind fun S34 => (aput 288 S34 589 (((9 : Int32) * (S4.1 7)) + (8 : Int32)) (S34.1 28)).bind fun S36 => (aget 0 32 S36 590 (S36.1 7)).bind fun v38 => some (v38, S36)) ((fput q1.2 0 (1 : Int32)).bind fun S40 => some ((0 : Int32), S40))
theorem T_m_update {l : Launch} {w : List mM} {F : Nat} {S : mS} {r : Int32 × mS} (h : m_RM S w) (h0 : D_m_update F S = some r) : m_Rs l M_243 (m_ent M_243 [.ref 583] w) (fun v w' => v = some (.int r.1) ∧ m_RM r.2 w' ∧ m_Fq w w') 0 0 9 900 := by
  show m_Rs l M_243 (0, [(0, .ref 583)], [], w) _ 0 0 9 900
  generalize hw0 : w = w0 at h ⊢
  have hF : m_Fq w0 w0 := m_Fq.refl
  rw [D_m_update] at h0
  refine m_Rs.n0 b_243 (x_aload_n d_243_0 rfl) ?_
  refine m_Rs.n0 b_243 (x_iconst (z := 0) d_243_1 (by decide)) ?_
  obtain ⟨q1, e2, h0⟩ := bS h0
  refine m_Rs.callS b_243 (y_cv d_243_2 rfl q_244 (m_isRecv_of rfl h.1) (show m_takeI _ _ = some (_, [_, _], []) from rfl) (by simp only [m_okf, List.all_cons, List.all_nil, Bool.and_true, Bool.and_self, m_okv_i, m_okv_l, m_okv_0, m_okv_t, m_okv_at h.1]) rfl) (T_m_readText h e2) hF rfl (fun w1 h hF => ?_) (by decide) (by decide)
  cases hc3 : m_c1 .ne q1.1 with
  | true =>
    have h0 := cT hc3 h0
    refine m_Rs.n0 b_243 (x_ift d_243_5 rfl hc3) ?_
    refine m_Rs.n0 b_243 (x_aload_n d_243_15 rfl) ?_
    refine m_Rs.n0 b_243 (x_iconst (z := 0) d_243_16 (by decide)) ?_
    obtain ⟨S4, e5, h0⟩ := bS h0
    refine m_Rs.dfput b_243 d_243_17 h hF e5 rfl rfl rfl rfl rfl rfl (fun w1 h hF => ?_)
    refine m_Rs.n0 b_243 (x_bipush (z := 9) d_243_20 (by decide)) ?_
    refine m_Rs.n0 b_243 (x_aload_n d_243_22 rfl) ?_
    refine m_Rs.n0 b_243 (x_getf d_243_23 rfl h.1 rfl) ?_
    refine m_Rs.n0 b_243 (x_imul d_243_26 rfl) ?_
    refine m_Rs.n0 b_243 (x_istore_n d_243_27 rfl (show m_put1 _ _ _ = [(1, _), (0, _)] from rfl)) ?_
    refine m_Rs.n0 b_243 (x_aload_n d_243_28 rfl) ?_
    refine m_Rs.n0 b_243 (x_getf d_243_29 rfl h.1 rfl) ?_
    refine m_Rs.n0 b_243 (x_aload_n d_243_32 rfl) ?_
    refine m_Rs.n0 b_243 (x_getf d_243_33 rfl h.1 rfl) ?_
    refine m_Rs.n0 b_243 (x_dup2 d_243_36 rfl rfl) ?_
    obtain ⟨v6, e7, h0⟩ := bS h0
    refine m_Rs.dget b_243 d_243_37 h 6 rfl e7 ?_
    refine m_Rs.n0 b_243 (x_iconst (z := 1) d_243_38 (by decide)) ?_
    refine m_Rs.n0 b_243 (x_iadd d_243_39 rfl) ?_
    obtain ⟨S8, e9, h0⟩ := bS h0
    refine m_Rs.dput b_243 d_243_40 h hF 6 rfl e9 (fun w1 h hF => ?_)
    refine m_Rs.n0 b_243 (x_aload_n d_243_41 rfl) ?_
    refine m_Rs.n0 b_243 (x_getf d_243_42 rfl h.1 rfl) ?_
    refine m_Rs.n0 b_243 (x_iload_n d_243_45 rfl) ?_
    refine m_Rs.n0 b_243 (x_aload_n d_243_46 rfl) ?_
    refine m_Rs.n0 b_243 (x_getf d_243_47 rfl h.1 rfl) ?_
    refine m_Rs.n0 b_243 (x_aload_n d_243_50 rfl) ?_
    refine m_Rs.n0 b_243 (x_getf d_243_51 rfl h.1 rfl) ?_
    obtain ⟨v10, e11, h0⟩ := bS h0
    refine m_Rs.dget b_243 d_243_54 h 6 rfl e11 ?_
    obtain ⟨S12, e13, h0⟩ := bS h0
    refine m_Rs.dput b_243 d_243_55 h hF 5 rfl e13 (fun w1 h hF => ?_)
    refine m_Rs.n0 b_243 (x_aload_n d_243_56 rfl) ?_
    refine m_Rs.n0 b_243 (x_getf d_243_57 rfl h.1 rfl) ?_
    refine m_Rs.n0 b_243 (x_iload_n d_243_60 rfl) ?_
    refine m_Rs.n0 b_243 (x_iconst (z := 1) d_243_61 (by decide)) ?_
    refine m_Rs.n0 b_243 (x_iadd d_243_62 rfl) ?_
    refine m_Rs.n0 b_243 (x_aload_n d_243_63 rfl) ?_
    refine m_Rs.n0 b_243 (x_getf d_243_64 rfl h.1 rfl) ?_
    obtain ⟨S14, e15, h0⟩ := bS h0
    refine m_Rs.dput b_243 d_243_67 h hF 5 rfl e15 (fun w1 h hF => ?_)
    refine m_Rs.n0 b_243 (x_aload_n d_243_68 rfl) ?_
    refine m_Rs.n0 b_243 (x_getf d_243_69 rfl h.1 rfl) ?_
    refine m_Rs.n0 b_243 (x_iload_n d_243_72 rfl) ?_
    refine m_Rs.n0 b_243 (x_iconst (z := 2) d_243_73 (by decide)) ?_
    refine m_Rs.n0 b_243 (x_iadd d_243_74 rfl) ?_
    refine m_Rs.n0 b_243 (x_aload_n d_243_75 rfl) ?_
    refine m_Rs.n0 b_243 (x_getf d_243_76 rfl h.1 rfl) ?_
    obtain ⟨S16, e17, h0⟩ := bS h0
    refine m_Rs.dput b_243 d_243_79 h hF 5 rfl e17 (fun w1 h hF => ?_)
    refine m_Rs.n0 b_243 (x_aload_n d_243_80 rfl) ?_
    refine m_Rs.n0 b_243 (x_getf d_243_81 rfl h.1 rfl) ?_
    refine m_Rs.n0 b_243 (x_iload_n d_243_84 rfl) ?_
    refine m_Rs.n0 b_243 (x_iconst (z := 3) d_243_85 (by decide)) ?_
    refine m_Rs.n0 b_243 (x_iadd d_243_86 rfl) ?_
    refine m_Rs.n0 b_243 (x_aload_n d_243_87 rfl) ?_
    refine m_Rs.n0 b_243 (x_getf d_243_88 rfl h.1 rfl) ?_
    obtain ⟨S18, e19, h0⟩ := bS h0
    refine m_Rs.dput b_243 d_243_91 h hF 5 rfl e19 (fun w1 h hF => ?_)
    refine m_Rs.n0 b_243 (x_aload_n d_243_92 rfl) ?_
    refine m_Rs.n0 b_243 (x_getf d_243_93 rfl h.1 rfl) ?_
    refine m_Rs.n0 b_243 (x_iload_n d_243_96 rfl) ?_
    refine m_Rs.n0 b_243 (x_iconst (z := 4) d_243_97 (by decide)) ?_
    refine m_Rs.n0 b_243 (x_iadd d_243_98 rfl) ?_
    refine m_Rs.n0 b_243 (x_aload_n d_243_99 rfl) ?_
    refine m_Rs.n0 b_243 (x_getf d_243_100 rfl h.1 rfl) ?_
    obtain ⟨S20, e21, h0⟩ := bS h0
    refine m_Rs.dput b_243 d_243_103 h hF 5 rfl e21 (fun w1 h hF => ?_)
    refine m_Rs.n0 b_243 (x_aload_n d_243_104 rfl) ?_
    refine m_Rs.n0 b_243 (x_getf d_243_105 rfl h.1 rfl) ?_
    refine m_Rs.n0 b_243 (x_iload_n d_243_108 rfl) ?_
    refine m_Rs.n0 b_243 (x_iconst (z := 5) d_243_109 (by decide)) ?_
    refine m_Rs.n0 b_243 (x_iadd d_243_110 rfl) ?_
    refine m_Rs.n0 b_243 (x_aload_n d_243_111 rfl) ?_
    refine m_Rs.n0 b_243 (x_getf d_243_112 rfl h.1 rfl) ?_
    obtain ⟨v25, e23, h0⟩ := bS h0
    have kk22 : ∀ (xz : Int32) (w1 : List mM), xz = v25 → m_RM S20 w1 → m_Fq w0 w1 → m_Rs l M_243 (123, [(1, .int ((9 : Int32) * (S4.1 7))), (0, .ref 583)], [.int xz, .int (((9 : Int32) * (S4.1 7)) + (5 : Int32)), .ref 589], w1) (fun v w' => v = some (.int r.1) ∧ m_RM r.2 w' ∧ m_Fq w0 w') 0 0 9 900 := by
      intro xz w ez h hF
      rw [ez]
      obtain ⟨S26, e27, h0⟩ := bS h0
      refine m_Rs.dput b_243 d_243_123 h hF 5 rfl e27 (fun w1 h hF => ?_)
      refine m_Rs.n0 b_243 (x_aload_n d_243_124 rfl) ?_
      refine m_Rs.n0 b_243 (x_getf d_243_125 rfl h.1 rfl) ?_
      refine m_Rs.n0 b_243 (x_iload_n d_243_128 rfl) ?_
      refine m_Rs.n0 b_243 (x_bipush (z := 6) d_243_129 (by decide)) ?_
      refine m_Rs.n0 b_243 (x_iadd d_243_131 rfl) ?_
      refine m_Rs.n0 b_243 (x_aload_n d_243_132 rfl) ?_
      refine m_Rs.n0 b_243 (x_getf d_243_133 rfl h.1 rfl) ?_
      obtain ⟨v31, e29, h0⟩ := bS h0
      have kk28 : ∀ (xz : Int32) (w1 : List mM), xz = v31 → m_RM S26 w1 → m_Fq w0 w1 → m_Rs l M_243 (144, [(1, .int ((9 : Int32) * (S4.1 7))), (0, .ref 583)], [.int xz, .int (((9 : Int32) * (S4.1 7)) + (6 : Int32)), .ref 589], w1) (fun v w' => v = some (.int r.1) ∧ m_RM r.2 w' ∧ m_Fq w0 w') 0 0 9 900 := by
        intro xz w ez h hF
        rw [ez]
        obtain ⟨S32, e33, h0⟩ := bS h0
        refine m_Rs.dput b_243 d_243_144 h hF 5 rfl e33 (fun w1 h hF => ?_)
        refine m_Rs.n0 b_243 (x_aload_n d_243_145 rfl) ?_
        refine m_Rs.n0 b_243 (x_getf d_243_146 rfl h.1 rfl) ?_
        refine m_Rs.n0 b_243 (x_iload_n d_243_149 rfl) ?_
        refine m_Rs.n0 b_243 (x_bipush (z := 7) d_243_150 (by decide)) ?_
        refine m_Rs.n0 b_243 (x_iadd d_243_152 rfl) ?_
        refine m_Rs.n0 b_243 (x_aload_n d_243_153 rfl) ?_
        refine m_Rs.n0 b_243 (x_getf d_243_154 rfl h.1 rfl) ?_
        obtain ⟨S34, e35, h0⟩ := bS h0
        refine m_Rs.dput b_243 d_243_157 h hF 5 rfl e35 (fun w1 h hF => ?_)
        refine m_Rs.n0 b_243 (x_aload_n d_243_158 rfl) ?_
        refine m_Rs.n0 b_243 (x_getf d_243_159 rfl h.1 rfl) ?_
        refine m_Rs.n0 b_243 (x_iload_n d_243_162 rfl) ?_
        refine m_Rs.n0 b_243 (x_bipush (z := 8) d_243_163 (by decide)) ?_
        refine m_Rs.n0 b_243 (x_iadd d_243_165 rfl) ?_
        refine m_Rs.n0 b_243 (x_aload_n d_243_166 rfl) ?_
        refine m_Rs.n0 b_243 (x_getf d_243_167 rfl h.1 rfl) ?_
        obtain ⟨S36, e37, h0⟩ := bS h0
        refine m_Rs.dput b_243 d_243_170 h hF 5 rfl e37 (fun w1 h hF => ?_)
        refine m_Rs.n0 b_243 (x_aload_n d_243_171 rfl) ?_
        refine m_Rs.n0 b_243 (x_getf d_243_172 rfl h.1 rfl) ?_
        refine m_Rs.n0 b_243 (x_aload_n d_243_175 rfl) ?_
        refine m_Rs.n0 b_243 (x_getf d_243_176 rfl h.1 rfl) ?_
        obtain ⟨v38, e39, h0⟩ := bS h0
        refine m_Rs.dget b_243 d_243_179 h 6 rfl e39 ?_
        exact m_Rs.ret b_243 (m_rt_ir d_243_180 rfl rfl) (rP h0 h hF)
      cases hc30 : m_c1 .eq (S26.1 30) with
      | true =>
        have e29 := cT hc30 e29
        refine m_Rs.n0 b_243 (x_ift d_243_136 rfl hc30) ?_
        refine m_Rs.n0 b_243 (x_iconst (z := 0) d_243_143 (by decide)) ?_
        exact kk28 _ _ (Option.some.inj e29) h hF
      | false =>
        have e29 := cF hc30 e29
        refine m_Rs.n0 b_243 (x_iff d_243_136 rfl hc30) ?_
        refine m_Rs.n0 b_243 (x_iconst (z := 1) d_243_139 (by decide)) ?_
        refine m_Rs.n0 b_243 (x_goto d_243_140 rfl) ?_
        exact kk28 _ _ (Option.some.inj e29) h hF
    cases hc24 : m_c1 .eq (S20.1 29) with
    | true =>
      have e23 := cT hc24 e23
      refine m_Rs.n0 b_243 (x_ift d_243_115 rfl hc24) ?_
      refine m_Rs.n0 b_243 (x_iconst (z := 0) d_243_122 (by decide)) ?_
      exact kk22 _ _ (Option.some.inj e23) h hF
    | false =>
      have e23 := cF hc24 e23
      refine m_Rs.n0 b_243 (x_iff d_243_115 rfl hc24) ?_
      refine m_Rs.n0 b_243 (x_iconst (z := 1) d_243_118 (by decide)) ?_
      refine m_Rs.n0 b_243 (x_goto d_243_119 rfl) ?_
      exact kk22 _ _ (Option.some.inj e23) h hF
  | false =>
    have h0 := cF hc3 h0
    refine m_Rs.n0 b_243 (x_iff d_243_5 rfl hc3) ?_
    refine m_Rs.n0 b_243 (x_aload_n d_243_8 rfl) ?_
    refine m_Rs.n0 b_243 (x_iconst (z := 1) d_243_9 (by decide)) ?_
    obtain ⟨S40, e41, h0⟩ := bS h0
    refine m_Rs.dfput b_243 d_243_10 h hF e41 rfl rfl rfl rfl rfl rfl (fun w1 h hF => ?_)
    refine m_Rs.n0 b_243 (x_iconst (z := 0) d_243_13 (by decide)) ?_
    exact m_Rs.ret b_243 (m_rt_ir d_243_14 rfl rfl) (rP h0 h hF)
def D_m_drop (F : Nat) (a0 : Int32) (S : mS) : Option (Int32 × mS) := (fput S 0 (0 : Int32)).bind fun S1 => cond (m_c1 .lt a0) (some ((0 : Int32), S1)) (cond (m_c2 .gt a0 (31 : Int32)) (some ((0 : Int32), S1)) ((aget 0 288 S1 589 ((9 : Int32) * a0)).bind fun v5 => cond (m_c1 .ne v5) ((aput 288 S1 589 ((9 : Int32) * a0) (0 : Int32)).bind fun S8 => some ((1 : Int32), S8)) (some ((0 : Int32), S1))))
theorem T_m_drop {l : Launch} {w : List mM} {F : Nat} {a0 : Int32} {S : mS} {r : Int32 × mS} (h : m_RM S w) (h0 : D_m_drop F a0 S = some r) : m_Rs l M_268 (m_ent M_268 [.ref 583, .int a0] w) (fun v w' => v = some (.int r.1) ∧ m_RM r.2 w' ∧ m_Fq w w') 0 0 0 0 := by
  show m_Rs l M_268 (0, [(0, .ref 583), (1, .int a0)], [], w) _ 0 0 0 0
  generalize hw0 : w = w0 at h ⊢
  have hF : m_Fq w0 w0 := m_Fq.refl
  rw [D_m_drop] at h0
  refine m_Rs.n0 b_268 (x_aload_n d_268_0 rfl) ?_
  refine m_Rs.n0 b_268 (x_iconst (z := 0) d_268_1 (by decide)) ?_
  obtain ⟨S1, e2, h0⟩ := bS h0
  refine m_Rs.dfput b_268 d_268_2 h hF e2 rfl rfl rfl rfl rfl rfl (fun w1 h hF => ?_)
  refine m_Rs.n0 b_268 (x_iload_n d_268_5 rfl) ?_
  cases hc3 : m_c1 .lt a0 with
  | true =>
    have h0 := cT hc3 h0
    refine m_Rs.n0 b_268 (x_ift d_268_6 rfl hc3) ?_
    refine m_Rs.n0 b_268 (x_iconst (z := 0) d_268_27 (by decide)) ?_
    exact m_Rs.ret b_268 (m_rt_ir d_268_28 rfl m_nb0) (rP h0 h hF)
  | false =>
    have h0 := cF hc3 h0
    refine m_Rs.n0 b_268 (x_iff d_268_6 rfl hc3) ?_
    refine m_Rs.n0 b_268 (x_iload_n d_268_9 rfl) ?_
    refine m_Rs.n0 b_268 (x_bipush (z := 31) d_268_10 (by decide)) ?_
    cases hc4 : m_c2 .gt a0 (31 : Int32) with
    | true =>
      have h0 := cT hc4 h0
      refine m_Rs.n0 b_268 (x_ict d_268_12 rfl hc4) ?_
      refine m_Rs.n0 b_268 (x_iconst (z := 0) d_268_27 (by decide)) ?_
      exact m_Rs.ret b_268 (m_rt_ir d_268_28 rfl m_nb0) (rP h0 h hF)
    | false =>
      have h0 := cF hc4 h0
      refine m_Rs.n0 b_268 (x_icf d_268_12 rfl hc4) ?_
      refine m_Rs.n0 b_268 (x_aload_n d_268_15 rfl) ?_
      refine m_Rs.n0 b_268 (x_getf d_268_16 rfl h.1 rfl) ?_
      refine m_Rs.n0 b_268 (x_bipush (z := 9) d_268_19 (by decide)) ?_
      refine m_Rs.n0 b_268 (x_iload_n d_268_21 rfl) ?_
      refine m_Rs.n0 b_268 (x_imul d_268_22 rfl) ?_
      obtain ⟨v5, e6, h0⟩ := bS h0
      refine m_Rs.dget b_268 d_268_23 h 5 rfl e6 ?_
      cases hc7 : m_c1 .ne v5 with
      | true =>
        have h0 := cT hc7 h0
        refine m_Rs.n0 b_268 (x_ift d_268_24 rfl hc7) ?_
        refine m_Rs.n0 b_268 (x_aload_n d_268_29 rfl) ?_
        refine m_Rs.n0 b_268 (x_getf d_268_30 rfl h.1 rfl) ?_
        refine m_Rs.n0 b_268 (x_bipush (z := 9) d_268_33 (by decide)) ?_
        refine m_Rs.n0 b_268 (x_iload_n d_268_35 rfl) ?_
        refine m_Rs.n0 b_268 (x_imul d_268_36 rfl) ?_
        refine m_Rs.n0 b_268 (x_iconst (z := 0) d_268_37 (by decide)) ?_
        obtain ⟨S8, e9, h0⟩ := bS h0
        refine m_Rs.dput b_268 d_268_38 h hF 5 rfl e9 (fun w1 h hF => ?_)
        refine m_Rs.n0 b_268 (x_iconst (z := 1) d_268_39 (by decide)) ?_
        exact m_Rs.ret b_268 (m_rt_ir d_268_40 rfl m_nb1) (rP h0 h hF)
      | false =>
        have h0 := cF hc7 h0
        refine m_Rs.n0 b_268 (x_iff d_268_24 rfl hc7) ?_
        refine m_Rs.n0 b_268 (x_iconst (z := 0) d_268_27 (by decide)) ?_
        exact m_Rs.ret b_268 (m_rt_ir d_268_28 rfl m_nb0) (rP h0 h hF)
def D_m_close (F : Nat) (a0 : Int32) (a1 : Int32) (a2 : Int32) (a3 : Int32) (S : mS) : Option (mS) := (bput 300 S 621 a0 (0 : Int32)).bind fun S1 => (fput S1 71 ((S1.1 71) + (1 : Int32))).bind fun S3 => (aput 2700 S3 627 ((9 : Int32) * a0) a1).bind fun S5 => (cond (m_c2 .ne a3 (1 : Int32)) (some (0 : Int32)) ((aget 0 9 S5 626 (0 : Int32)).bind fun v10 => some v10)).bind fun v12 => (aput 2700 S5 627 (((9 : Int32) * a0) + (1 : Int32)) v12).bind fun S13 => (cond (m_c2 .ne a3 (1 : Int32)) (some (0 : Int32)) (some (S13.1 85))).bind fun v18 => (aput 2700 S13 627 (((9 : Int32) * a0) + (2 : Int32)) v18).bind fun S19 => (cond (m_c2 .ne a3 (1 : Int32)) (some (0 : Int32)) ((aget 0 9 S19 626 (1 : Int32)).bind fun v24 => some v24)).bind fun v26 => (aput 2700 S19 627 (((9 : Int32) * a0) + (3 : Int32)) v26).bind fun S27 => (cond (m_c2 .ne a3 (1 : Int32)) (some (0 : Int32)) (some a2)).bind fun v32 => (aput 2700 S27 627 (((9 : Int32) * a0) + (4 : Int32)) v32).bind fun S33 => (aput 2700 S33 627 (((9 : Int32) * a0) + (5 : Int32)) (S33.1 36)).bind fun S35 => (cond (m_c2 .ne a3 (1 : Int32)) (some (0 : Int32)) (some (S35.1 87))).bind fun v40 => (aput 2700 S35 627 (((9 : Int32) * a0) + (7 : Int32)) v40).bind fun S41 => (cond (m_c2 .ne a3 (1 : Int32)) (some (0 : Int32)) ((aget 0 9 S41 626 (8 : Int32)).bind fun v46 => some v46)).bind fun v48 => (aput 2700 S41 627 (((9 : Int32) * a0) + (8 : Int32)) v48).bind fun S49 => some S49
theorem T_m_close {l : Launch} {w : List mM} {F : Nat} {a0 : Int32} {a1 : Int32} {a2 : Int32} {a3 : Int32} {S : mS} {r : mS} (h : m_RM S w) (h0 : D_m_close F a0 a1 a2 a3 S = some r) : m_Rs l M_270 (m_ent M_270 [.ref 583, .int a0, .int a1, .int a2, .int a3] w) (fun v w' => v = none ∧ m_RM r w' ∧ m_Fq w w') 0 0 0 0 := by
  show m_Rs l M_270 (0, [(0, .ref 583), (1, .int a0), (2, .int a1), (3, .int a2), (4, .int a3)], [], w) _ 0 0 0 0
  generalize hw0 : w = w0 at h ⊢
  have hF : m_Fq w0 w0 := m_Fq.refl
  rw [D_m_close] at h0
  refine m_Rs.n0 b_270 (x_bipush (z := 9) d_270_0 (by decide)) ?_
  refine m_Rs.n0 b_270 (x_iload_n d_270_2 rfl) ?_
  refine m_Rs.n0 b_270 (x_imul d_270_3 rfl) ?_
  refine m_Rs.n0 b_270 (x_istore d_270_4 rfl (show m_put1 _ _ _ = [(5, _), (0, _), (1, _), (2, _), (3, _), (4, _)] from rfl)) ?_
  refine m_Rs.n0 b_270 (x_aload_n d_270_6 rfl) ?_
  refine m_Rs.n0 b_270 (x_getf d_270_7 rfl h.1 rfl) ?_
  refine m_Rs.n0 b_270 (x_iload_n d_270_10 rfl) ?_
  refine m_Rs.n0 b_270 (x_iconst (z := 0) d_270_11 (by decide)) ?_
  obtain ⟨S1, e2, h0⟩ := bS h0
  refine m_Rs.dputb b_270 d_270_12 h hF 37 rfl e2 (fun w1 h hF => ?_)
  refine m_Rs.n0 b_270 (x_aload_n d_270_13 rfl) ?_
  refine m_Rs.n0 b_270 (x_dup d_270_14 rfl) ?_
  refine m_Rs.n0 b_270 (x_getf d_270_15 rfl h.1 rfl) ?_
  refine m_Rs.n0 b_270 (x_iconst (z := 1) d_270_18 (by decide)) ?_
  refine m_Rs.n0 b_270 (x_iadd d_270_19 rfl) ?_
  obtain ⟨S3, e4, h0⟩ := bS h0
  refine m_Rs.dfput b_270 d_270_20 h hF e4 rfl rfl rfl rfl rfl rfl (fun w1 h hF => ?_)
  refine m_Rs.n0 b_270 (x_aload_n d_270_23 rfl) ?_
  refine m_Rs.n0 b_270 (x_getf d_270_24 rfl h.1 rfl) ?_
  refine m_Rs.n0 b_270 (x_iload d_270_27 rfl) ?_
  refine m_Rs.n0 b_270 (x_iload_n d_270_29 rfl) ?_
  obtain ⟨S5, e6, h0⟩ := bS h0
  refine m_Rs.dput b_270 d_270_30 h hF 43 rfl e6 (fun w1 h hF => ?_)
  refine m_Rs.n0 b_270 (x_aload_n d_270_31 rfl) ?_
  refine m_Rs.n0 b_270 (x_getf d_270_32 rfl h.1 rfl) ?_
  refine m_Rs.n0 b_270 (x_iload d_270_35 rfl) ?_
  refine m_Rs.n0 b_270 (x_iconst (z := 1) d_270_37 (by decide)) ?_
  refine m_Rs.n0 b_270 (x_iadd d_270_38 rfl) ?_
  refine m_Rs.n0 b_270 (x_iload d_270_39 rfl) ?_
  refine m_Rs.n0 b_270 (x_iconst (z := 1) d_270_41 (by decide)) ?_
  obtain ⟨v12, e8, h0⟩ := bS h0
  have kk7 : ∀ (xz : Int32) (w1 : List mM), xz = v12 → m_RM S5 w1 → m_Fq w0 w1 → m_Rs l M_270 (55, [(5, .int ((9 : Int32) * a0)), (0, .ref 583), (1, .int a0), (2, .int a1), (3, .int a2), (4, .int a3)], [.int xz, .int (((9 : Int32) * a0) + (1 : Int32)), .ref 627], w1) (fun v w' => v = none ∧ m_RM r w' ∧ m_Fq w0 w') 0 0 0 0 := by
    intro xz w ez h hF
    rw [ez]
    obtain ⟨S13, e14, h0⟩ := bS h0
    refine m_Rs.dput b_270 d_270_55 h hF 43 rfl e14 (fun w1 h hF => ?_)
    refine m_Rs.n0 b_270 (x_aload_n d_270_56 rfl) ?_
    refine m_Rs.n0 b_270 (x_getf d_270_57 rfl h.1 rfl) ?_
    refine m_Rs.n0 b_270 (x_iload d_270_60 rfl) ?_
    refine m_Rs.n0 b_270 (x_iconst (z := 2) d_270_62 (by decide)) ?_
    refine m_Rs.n0 b_270 (x_iadd d_270_63 rfl) ?_
    refine m_Rs.n0 b_270 (x_iload d_270_64 rfl) ?_
    refine m_Rs.n0 b_270 (x_iconst (z := 1) d_270_66 (by decide)) ?_
    obtain ⟨v18, e16, h0⟩ := bS h0
    have kk15 : ∀ (xz : Int32) (w1 : List mM), xz = v18 → m_RM S13 w1 → m_Fq w0 w1 → m_Rs l M_270 (78, [(5, .int ((9 : Int32) * a0)), (0, .ref 583), (1, .int a0), (2, .int a1), (3, .int a2), (4, .int a3)], [.int xz, .int (((9 : Int32) * a0) + (2 : Int32)), .ref 627], w1) (fun v w' => v = none ∧ m_RM r w' ∧ m_Fq w0 w') 0 0 0 0 := by
      intro xz w ez h hF
      rw [ez]
      obtain ⟨S19, e20, h0⟩ := bS h0
      refine m_Rs.dput b_270 d_270_78 h hF 43 rfl e20 (fun w1 h hF => ?_)
      refine m_Rs.n0 b_270 (x_aload_n d_270_79 rfl) ?_
      refine m_Rs.n0 b_270 (x_getf d_270_80 rfl h.1 rfl) ?_
      refine m_Rs.n0 b_270 (x_iload d_270_83 rfl) ?_
      refine m_Rs.n0 b_270 (x_iconst (z := 3) d_270_85 (by decide)) ?_
      refine m_Rs.n0 b_270 (x_iadd d_270_86 rfl) ?_
      refine m_Rs.n0 b_270 (x_iload d_270_87 rfl) ?_
      refine m_Rs.n0 b_270 (x_iconst (z := 1) d_270_89 (by decide)) ?_
      obtain ⟨v26, e22, h0⟩ := bS h0
      have kk21 : ∀ (xz : Int32) (w1 : List mM), xz = v26 → m_RM S19 w1 → m_Fq w0 w1 → m_Rs l M_270 (103, [(5, .int ((9 : Int32) * a0)), (0, .ref 583), (1, .int a0), (2, .int a1), (3, .int a2), (4, .int a3)], [.int xz, .int (((9 : Int32) * a0) + (3 : Int32)), .ref 627], w1) (fun v w' => v = none ∧ m_RM r w' ∧ m_Fq w0 w') 0 0 0 0 := by
        intro xz w ez h hF
        rw [ez]
        obtain ⟨S27, e28, h0⟩ := bS h0
        refine m_Rs.dput b_270 d_270_103 h hF 43 rfl e28 (fun w1 h hF => ?_)
        refine m_Rs.n0 b_270 (x_aload_n d_270_104 rfl) ?_
        refine m_Rs.n0 b_270 (x_getf d_270_105 rfl h.1 rfl) ?_
        refine m_Rs.n0 b_270 (x_iload d_270_108 rfl) ?_
        refine m_Rs.n0 b_270 (x_iconst (z := 4) d_270_110 (by decide)) ?_
        refine m_Rs.n0 b_270 (x_iadd d_270_111 rfl) ?_
        refine m_Rs.n0 b_270 (x_iload d_270_112 rfl) ?_
        refine m_Rs.n0 b_270 (x_iconst (z := 1) d_270_114 (by decide)) ?_
        obtain ⟨v32, e30, h0⟩ := bS h0
        have kk29 : ∀ (xz : Int32) (w1 : List mM), xz = v32 → m_RM S27 w1 → m_Fq w0 w1 → m_Rs l M_270 (123, [(5, .int ((9 : Int32) * a0)), (0, .ref 583), (1, .int a0), (2, .int a1), (3, .int a2), (4, .int a3)], [.int xz, .int (((9 : Int32) * a0) + (4 : Int32)), .ref 627], w1) (fun v w' => v = none ∧ m_RM r w' ∧ m_Fq w0 w') 0 0 0 0 := by
          intro xz w ez h hF
          rw [ez]
          obtain ⟨S33, e34, h0⟩ := bS h0
          refine m_Rs.dput b_270 d_270_123 h hF 43 rfl e34 (fun w1 h hF => ?_)
          refine m_Rs.n0 b_270 (x_aload_n d_270_124 rfl) ?_
          refine m_Rs.n0 b_270 (x_getf d_270_125 rfl h.1 rfl) ?_
          refine m_Rs.n0 b_270 (x_iload d_270_128 rfl) ?_
          refine m_Rs.n0 b_270 (x_iconst (z := 5) d_270_130 (by decide)) ?_
          refine m_Rs.n0 b_270 (x_iadd d_270_131 rfl) ?_
          refine m_Rs.n0 b_270 (x_aload_n d_270_132 rfl) ?_
          refine m_Rs.n0 b_270 (x_getf d_270_133 rfl h.1 rfl) ?_
          obtain ⟨S35, e36, h0⟩ := bS h0
          refine m_Rs.dput b_270 d_270_136 h hF 43 rfl e36 (fun w1 h hF => ?_)
          refine m_Rs.n0 b_270 (x_aload_n d_270_137 rfl) ?_
          refine m_Rs.n0 b_270 (x_getf d_270_138 rfl h.1 rfl) ?_
          refine m_Rs.n0 b_270 (x_iload d_270_141 rfl) ?_
          refine m_Rs.n0 b_270 (x_bipush (z := 7) d_270_143 (by decide)) ?_
          refine m_Rs.n0 b_270 (x_iadd d_270_145 rfl) ?_
          refine m_Rs.n0 b_270 (x_iload d_270_146 rfl) ?_
          refine m_Rs.n0 b_270 (x_iconst (z := 1) d_270_148 (by decide)) ?_
          obtain ⟨v40, e38, h0⟩ := bS h0
          have kk37 : ∀ (xz : Int32) (w1 : List mM), xz = v40 → m_RM S35 w1 → m_Fq w0 w1 → m_Rs l M_270 (160, [(5, .int ((9 : Int32) * a0)), (0, .ref 583), (1, .int a0), (2, .int a1), (3, .int a2), (4, .int a3)], [.int xz, .int (((9 : Int32) * a0) + (7 : Int32)), .ref 627], w1) (fun v w' => v = none ∧ m_RM r w' ∧ m_Fq w0 w') 0 0 0 0 := by
            intro xz w ez h hF
            rw [ez]
            obtain ⟨S41, e42, h0⟩ := bS h0
            refine m_Rs.dput b_270 d_270_160 h hF 43 rfl e42 (fun w1 h hF => ?_)
            refine m_Rs.n0 b_270 (x_aload_n d_270_161 rfl) ?_
            refine m_Rs.n0 b_270 (x_getf d_270_162 rfl h.1 rfl) ?_
            refine m_Rs.n0 b_270 (x_iload d_270_165 rfl) ?_
            refine m_Rs.n0 b_270 (x_bipush (z := 8) d_270_167 (by decide)) ?_
            refine m_Rs.n0 b_270 (x_iadd d_270_169 rfl) ?_
            refine m_Rs.n0 b_270 (x_iload d_270_170 rfl) ?_
            refine m_Rs.n0 b_270 (x_iconst (z := 1) d_270_172 (by decide)) ?_
            obtain ⟨v48, e44, h0⟩ := bS h0
            have kk43 : ∀ (xz : Int32) (w1 : List mM), xz = v48 → m_RM S41 w1 → m_Fq w0 w1 → m_Rs l M_270 (187, [(5, .int ((9 : Int32) * a0)), (0, .ref 583), (1, .int a0), (2, .int a1), (3, .int a2), (4, .int a3)], [.int xz, .int (((9 : Int32) * a0) + (8 : Int32)), .ref 627], w1) (fun v w' => v = none ∧ m_RM r w' ∧ m_Fq w0 w') 0 0 0 0 := by
              intro xz w ez h hF
              rw [ez]
              obtain ⟨S49, e50, h0⟩ := bS h0
              refine m_Rs.dput b_270 d_270_187 h hF 43 rfl e50 (fun w1 h hF => ?_)
              exact m_Rs.ret b_270 (m_rt_vr d_270_188 rfl) (rV h0 h hF)
            cases hc45 : m_c2 .ne a3 (1 : Int32) with
            | true =>
              have e44 := cT hc45 e44
              refine m_Rs.n0 b_270 (x_ict d_270_173 rfl hc45) ?_
              refine m_Rs.n0 b_270 (x_iconst (z := 0) d_270_186 (by decide)) ?_
              exact kk43 _ _ (Option.some.inj e44) h hF
            | false =>
              have e44 := cF hc45 e44
              refine m_Rs.n0 b_270 (x_icf d_270_173 rfl hc45) ?_
              refine m_Rs.n0 b_270 (x_aload_n d_270_176 rfl) ?_
              refine m_Rs.n0 b_270 (x_getf d_270_177 rfl h.1 rfl) ?_
              refine m_Rs.n0 b_270 (x_bipush (z := 8) d_270_180 (by decide)) ?_
              obtain ⟨v46, e47, e44⟩ := bS e44
              refine m_Rs.dget b_270 d_270_182 h 42 rfl e47 ?_
              refine m_Rs.n0 b_270 (x_goto d_270_183 rfl) ?_
              exact kk43 _ _ (Option.some.inj e44) h hF
          cases hc39 : m_c2 .ne a3 (1 : Int32) with
          | true =>
            have e38 := cT hc39 e38
            refine m_Rs.n0 b_270 (x_ict d_270_149 rfl hc39) ?_
            refine m_Rs.n0 b_270 (x_iconst (z := 0) d_270_159 (by decide)) ?_
            exact kk37 _ _ (Option.some.inj e38) h hF
          | false =>
            have e38 := cF hc39 e38
            refine m_Rs.n0 b_270 (x_icf d_270_149 rfl hc39) ?_
            refine m_Rs.n0 b_270 (x_aload_n d_270_152 rfl) ?_
            refine m_Rs.n0 b_270 (x_getf d_270_153 rfl h.1 rfl) ?_
            refine m_Rs.n0 b_270 (x_goto d_270_156 rfl) ?_
            exact kk37 _ _ (Option.some.inj e38) h hF
        cases hc31 : m_c2 .ne a3 (1 : Int32) with
        | true =>
          have e30 := cT hc31 e30
          refine m_Rs.n0 b_270 (x_ict d_270_115 rfl hc31) ?_
          refine m_Rs.n0 b_270 (x_iconst (z := 0) d_270_122 (by decide)) ?_
          exact kk29 _ _ (Option.some.inj e30) h hF
        | false =>
          have e30 := cF hc31 e30
          refine m_Rs.n0 b_270 (x_icf d_270_115 rfl hc31) ?_
          refine m_Rs.n0 b_270 (x_iload_n d_270_118 rfl) ?_
          refine m_Rs.n0 b_270 (x_goto d_270_119 rfl) ?_
          exact kk29 _ _ (Option.some.inj e30) h hF
      cases hc23 : m_c2 .ne a3 (1 : Int32) with
      | true =>
        have e22 := cT hc23 e22
        refine m_Rs.n0 b_270 (x_ict d_270_90 rfl hc23) ?_
        refine m_Rs.n0 b_270 (x_iconst (z := 0) d_270_102 (by decide)) ?_
        exact kk21 _ _ (Option.some.inj e22) h hF
      | false =>
        have e22 := cF hc23 e22
        refine m_Rs.n0 b_270 (x_icf d_270_90 rfl hc23) ?_
        refine m_Rs.n0 b_270 (x_aload_n d_270_93 rfl) ?_
        refine m_Rs.n0 b_270 (x_getf d_270_94 rfl h.1 rfl) ?_
        refine m_Rs.n0 b_270 (x_iconst (z := 1) d_270_97 (by decide)) ?_
        obtain ⟨v24, e25, e22⟩ := bS e22
        refine m_Rs.dget b_270 d_270_98 h 42 rfl e25 ?_
        refine m_Rs.n0 b_270 (x_goto d_270_99 rfl) ?_
        exact kk21 _ _ (Option.some.inj e22) h hF
    cases hc17 : m_c2 .ne a3 (1 : Int32) with
    | true =>
      have e16 := cT hc17 e16
      refine m_Rs.n0 b_270 (x_ict d_270_67 rfl hc17) ?_
      refine m_Rs.n0 b_270 (x_iconst (z := 0) d_270_77 (by decide)) ?_
      exact kk15 _ _ (Option.some.inj e16) h hF
    | false =>
      have e16 := cF hc17 e16
      refine m_Rs.n0 b_270 (x_icf d_270_67 rfl hc17) ?_
      refine m_Rs.n0 b_270 (x_aload_n d_270_70 rfl) ?_
      refine m_Rs.n0 b_270 (x_getf d_270_71 rfl h.1 rfl) ?_
      refine m_Rs.n0 b_270 (x_goto d_270_74 rfl) ?_
      exact kk15 _ _ (Option.some.inj e16) h hF
  cases hc9 : m_c2 .ne a3 (1 : Int32) with
  | true =>
    have e8 := cT hc9 e8
    refine m_Rs.n0 b_270 (x_ict d_270_42 rfl hc9) ?_
    refine m_Rs.n0 b_270 (x_iconst (z := 0) d_270_54 (by decide)) ?_
    exact kk7 _ _ (Option.some.inj e8) h hF
  | false =>
    have e8 := cF hc9 e8
    refine m_Rs.n0 b_270 (x_icf d_270_42 rfl hc9) ?_
    refine m_Rs.n0 b_270 (x_aload_n d_270_45 rfl) ?_
    refine m_Rs.n0 b_270 (x_getf d_270_46 rfl h.1 rfl) ?_
    refine m_Rs.n0 b_270 (x_iconst (z := 0) d_270_49 (by decide)) ?_
    obtain ⟨v10, e11, e8⟩ := bS e8
    refine m_Rs.dget b_270 d_270_50 h 42 rfl e11 ?_
    refine m_Rs.n0 b_270 (x_goto d_270_51 rfl) ?_
    exact kk7 _ _ (Option.some.inj e8) h hF
def D_m_wanted_4 (F : Nat) : Nat → Int32 → Int32 → mS → Option (Int32)
  | 0, _, _, _ => none
  | n + 1, x1, x2, S => cond (m_c2 .ge x2 (4 : Int32)) ((aget 0 5 S 585 x1).bind fun v2 => (cond (m_c1 .le v2) (some (0 : Int32)) (some x1)).bind fun v7 => (aget 0 5 S 585 (4 : Int32)).bind fun v8 => (cond (m_c1 .le v8) (some (0 : Int32)) (some (4 : Int32))).bind fun v13 => some (v7 + v13)) ((aget 0 5 S 585 x2).bind fun v14 => (aget 0 5 S 585 x1).bind fun v16 => (cond (m_c2 .le v14 v16) (some x1) (some x2)).bind fun v21 => D_m_wanted_4 F n v21 (x2 + Int32.ofInt 1) S)
theorem T_m_wanted_4 {l : Launch} {w0 : List mM} {F : Nat} : ∀ (n : Nat) {x1 : Int32} {x2 : Int32} {S : mS} {w : List mM} {r : Int32}, m_RM S w → m_Fq w0 w → D_m_wanted_4 F n x1 x2 S = some r → m_Rs l M_271 (4, [(0, .ref 583), (1, .int x1), (2, .int x2)], [], w) (fun v w' => v = some (.int r) ∧ m_RM S w' ∧ m_Fq w0 w') 0 0 0 0 := by
  intro n
  induction n with
  | zero => intro x1 x2 S w r h hF h0; cases h0
  | succ n ih =>
    intro x1 x2 S w r h hF h0
    rw [D_m_wanted_4] at h0
    refine m_Rs.n0 b_271 (x_iload_n d_271_4 rfl) ?_
    refine m_Rs.n0 b_271 (x_iconst (z := 4) d_271_5 (by decide)) ?_
    cases hc1 : m_c2 .ge x2 (4 : Int32) with
    | true =>
      have h0 := cT hc1 h0
      refine m_Rs.n0 b_271 (x_ict d_271_6 rfl hc1) ?_
      refine m_Rs.n0 b_271 (x_aload_n d_271_36 rfl) ?_
      refine m_Rs.n0 b_271 (x_getf d_271_37 rfl h.1 rfl) ?_
      refine m_Rs.n0 b_271 (x_iload_n d_271_40 rfl) ?_
      obtain ⟨v2, e3, h0⟩ := bS h0
      refine m_Rs.dget b_271 d_271_41 h 1 rfl e3 ?_
      obtain ⟨v7, e5, h0⟩ := bS h0
      have kk4 : ∀ (xz : Int32) (w1 : List mM), xz = v7 → m_RM S w1 → m_Fq w0 w1 → m_Rs l M_271 (50, [(0, .ref 583), (1, .int x1), (2, .int x2)], [.int xz], w1) (fun v w' => v = some (.int r) ∧ m_RM S w' ∧ m_Fq w0 w') 0 0 0 0 := by
        intro xz w ez h hF
        rw [ez]
        refine m_Rs.n0 b_271 (x_aload_n d_271_50 rfl) ?_
        refine m_Rs.n0 b_271 (x_getf d_271_51 rfl h.1 rfl) ?_
        refine m_Rs.n0 b_271 (x_iconst (z := 4) d_271_54 (by decide)) ?_
        obtain ⟨v8, e9, h0⟩ := bS h0
        refine m_Rs.dget b_271 d_271_55 h 1 rfl e9 ?_
        obtain ⟨v13, e11, h0⟩ := bS h0
        have kk10 : ∀ (xz : Int32) (w1 : List mM), xz = v13 → m_RM S w1 → m_Fq w0 w1 → m_Rs l M_271 (64, [(0, .ref 583), (1, .int x1), (2, .int x2)], [.int xz, .int v7], w1) (fun v w' => v = some (.int r) ∧ m_RM S w' ∧ m_Fq w0 w') 0 0 0 0 := by
          intro xz w ez h hF
          rw [ez]
          refine m_Rs.n0 b_271 (x_iadd d_271_64 rfl) ?_
          exact m_Rs.ret b_271 (m_rt_ir d_271_65 rfl rfl) (rI h0 h hF)
        cases hc12 : m_c1 .le v8 with
        | true =>
          have e11 := cT hc12 e11
          refine m_Rs.n0 b_271 (x_ift d_271_56 rfl hc12) ?_
          refine m_Rs.n0 b_271 (x_iconst (z := 0) d_271_63 (by decide)) ?_
          exact kk10 _ _ (Option.some.inj e11) h hF
        | false =>
          have e11 := cF hc12 e11
          refine m_Rs.n0 b_271 (x_iff d_271_56 rfl hc12) ?_
          refine m_Rs.n0 b_271 (x_iconst (z := 4) d_271_59 (by decide)) ?_
          refine m_Rs.n0 b_271 (x_goto d_271_60 rfl) ?_
          exact kk10 _ _ (Option.some.inj e11) h hF
      cases hc6 : m_c1 .le v2 with
      | true =>
        have e5 := cT hc6 e5
        refine m_Rs.n0 b_271 (x_ift d_271_42 rfl hc6) ?_
        refine m_Rs.n0 b_271 (x_iconst (z := 0) d_271_49 (by decide)) ?_
        exact kk4 _ _ (Option.some.inj e5) h hF
      | false =>
        have e5 := cF hc6 e5
        refine m_Rs.n0 b_271 (x_iff d_271_42 rfl hc6) ?_
        refine m_Rs.n0 b_271 (x_iload_n d_271_45 rfl) ?_
        refine m_Rs.n0 b_271 (x_goto d_271_46 rfl) ?_
        exact kk4 _ _ (Option.some.inj e5) h hF
    | false =>
      have h0 := cF hc1 h0
      refine m_Rs.n0 b_271 (x_icf d_271_6 rfl hc1) ?_
      refine m_Rs.n0 b_271 (x_aload_n d_271_9 rfl) ?_
      refine m_Rs.n0 b_271 (x_getf d_271_10 rfl h.1 rfl) ?_
      refine m_Rs.n0 b_271 (x_iload_n d_271_13 rfl) ?_
      obtain ⟨v14, e15, h0⟩ := bS h0
      refine m_Rs.dget b_271 d_271_14 h 1 rfl e15 ?_
      refine m_Rs.n0 b_271 (x_aload_n d_271_15 rfl) ?_
      refine m_Rs.n0 b_271 (x_getf d_271_16 rfl h.1 rfl) ?_
      refine m_Rs.n0 b_271 (x_iload_n d_271_19 rfl) ?_
      obtain ⟨v16, e17, h0⟩ := bS h0
      refine m_Rs.dget b_271 d_271_20 h 1 rfl e17 ?_
      obtain ⟨v21, e19, h0⟩ := bS h0
      have kk18 : ∀ (xz : Int32) (w1 : List mM), xz = v21 → m_RM S w1 → m_Fq w0 w1 → m_Rs l M_271 (29, [(0, .ref 583), (1, .int x1), (2, .int x2)], [.int xz], w1) (fun v w' => v = some (.int r) ∧ m_RM S w' ∧ m_Fq w0 w') 0 0 0 0 := by
        intro xz w ez h hF
        rw [ez]
        refine m_Rs.n0 b_271 (x_istore_n d_271_29 rfl (show m_put1 _ _ _ = [(1, _), (0, _), (2, _)] from rfl)) ?_
        refine m_Rs.n0 b_271 (x_iinc d_271_30 rfl rfl rfl (show m_put1 _ _ _ = [(2, _), (1, _), (0, _)] from rfl)) ?_
        refine m_Rs.n0 b_271 (x_goto d_271_33 rfl) ?_
        exact m_Rs.pick [2, 1, 0] rfl (ih h hF h0)
      cases hc20 : m_c2 .le v14 v16 with
      | true =>
        have e19 := cT hc20 e19
        refine m_Rs.n0 b_271 (x_ict d_271_21 rfl hc20) ?_
        refine m_Rs.n0 b_271 (x_iload_n d_271_28 rfl) ?_
        exact kk18 _ _ (Option.some.inj e19) h hF
      | false =>
        have e19 := cF hc20 e19
        refine m_Rs.n0 b_271 (x_icf d_271_21 rfl hc20) ?_
        refine m_Rs.n0 b_271 (x_iload_n d_271_24 rfl) ?_
        refine m_Rs.n0 b_271 (x_goto d_271_25 rfl) ?_
        exact kk18 _ _ (Option.some.inj e19) h hF
def D_m_wanted (F : Nat) (S : mS) : Option (Int32) := D_m_wanted_4 F F (0 : Int32) (1 : Int32) S
theorem T_m_wanted {l : Launch} {w : List mM} {F : Nat} {S : mS} {r : Int32} (h : m_RM S w) (h0 : D_m_wanted F S = some r) : m_Rs l M_271 (m_ent M_271 [.ref 583] w) (fun v w' => v = some (.int r) ∧ m_RM S w' ∧ m_Fq w w') 0 0 0 0 := by
  show m_Rs l M_271 (0, [(0, .ref 583)], [], w) _ 0 0 0 0
  generalize hw0 : w = w0 at h ⊢
  have hF : m_Fq w0 w0 := m_Fq.refl
  rw [D_m_wanted] at h0
  refine m_Rs.n0 b_271 (x_iconst (z := 0) d_271_0 (by decide)) ?_
  refine m_Rs.n0 b_271 (x_istore_n d_271_1 rfl (show m_put1 _ _ _ = [(1, _), (0, _)] from rfl)) ?_
  refine m_Rs.n0 b_271 (x_iconst (z := 1) d_271_2 (by decide)) ?_
  refine m_Rs.n0 b_271 (x_istore_n d_271_3 rfl (show m_put1 _ _ _ = [(2, _), (1, _), (0, _)] from rfl)) ?_
  exact m_Rs.pick [2, 1, 0] rfl (T_m_wanted_4 F h hF h0)
def D_m_point (F : Nat) (a0 : Int32) (a1 : Int32) (S : mS) : Option (Int32) := some (((((((a0 * ((-1640531535) : Int32)) + (a1 * ((-2048144789) : Int32))) ^^^ ((((a0 * ((-1640531535) : Int32)) + (a1 * ((-2048144789) : Int32))) : Int32).toUInt32 >>> (((15 : Int32) : Int32).toUInt32 &&& Int32.toUInt32 31)).toInt32) * (739982445 : Int32)) ^^^ ((((((a0 * ((-1640531535) : Int32)) + (a1 * ((-2048144789) : Int32))) ^^^ ((((a0 * ((-1640531535) : Int32)) + (a1 * ((-2048144789) : Int32))) : Int32).toUInt32 >>> (((15 : Int32) : Int32).toUInt32 &&& Int32.toUInt32 31)).toInt32) * (739982445 : Int32)) : Int32).toUInt32 >>> (((12 : Int32) : Int32).toUInt32 &&& Int32.toUInt32 31)).toInt32) : Int32).toUInt32 >>> (((16 : Int32) : Int32).toUInt32 &&& Int32.toUInt32 31)).toInt32
theorem T_m_point {l : Launch} {w : List mM} {F : Nat} {a0 : Int32} {a1 : Int32} {S : mS} {r : Int32} (h : m_RM S w) (h0 : D_m_point F a0 a1 S = some r) : m_Rs l M_273 (m_ent M_273 [.int a0, .int a1] w) (fun v w' => v = some (.int r) ∧ m_RM S w' ∧ m_Fq w w') 0 0 0 0 := by
  show m_Rs l M_273 (0, [(0, .int a0), (1, .int a1)], [], w) _ 0 0 0 0
  generalize hw0 : w = w0 at h ⊢
  have hF : m_Fq w0 w0 := m_Fq.refl
  rw [D_m_point] at h0
  refine m_Rs.n0 b_273 (x_iload_n d_273_0 rfl) ?_
  refine m_Rs.n0 b_273 (x_ldcw (v := .int (-1640531535)) d_273_1 rfl) ?_
  refine m_Rs.n0 b_273 (x_imul d_273_4 rfl) ?_
  refine m_Rs.n0 b_273 (x_iload_n d_273_5 rfl) ?_
  refine m_Rs.n0 b_273 (x_ldcw (v := .int (-2048144789)) d_273_6 rfl) ?_
  refine m_Rs.n0 b_273 (x_imul d_273_9 rfl) ?_
  refine m_Rs.n0 b_273 (x_iadd d_273_10 rfl) ?_
  refine m_Rs.n0 b_273 (x_istore_n d_273_11 rfl (show m_put1 _ _ _ = [(2, _), (0, _), (1, _)] from rfl)) ?_
  refine m_Rs.n0 b_273 (x_iload_n d_273_12 rfl) ?_
  refine m_Rs.n0 b_273 (x_iload_n d_273_13 rfl) ?_
  refine m_Rs.n0 b_273 (x_bipush (z := 15) d_273_14 (by decide)) ?_
  refine m_Rs.n0 b_273 (x_iushr d_273_16 rfl) ?_
  refine m_Rs.n0 b_273 (x_ixor d_273_17 rfl) ?_
  refine m_Rs.n0 b_273 (x_istore_n d_273_18 rfl (show m_put1 _ _ _ = [(2, _), (0, _), (1, _)] from rfl)) ?_
  refine m_Rs.n0 b_273 (x_iload_n d_273_19 rfl) ?_
  refine m_Rs.n0 b_273 (x_ldcw (v := .int 739982445) d_273_20 rfl) ?_
  refine m_Rs.n0 b_273 (x_imul d_273_23 rfl) ?_
  refine m_Rs.n0 b_273 (x_istore_n d_273_24 rfl (show m_put1 _ _ _ = [(2, _), (0, _), (1, _)] from rfl)) ?_
  refine m_Rs.n0 b_273 (x_iload_n d_273_25 rfl) ?_
  refine m_Rs.n0 b_273 (x_iload_n d_273_26 rfl) ?_
  refine m_Rs.n0 b_273 (x_bipush (z := 12) d_273_27 (by decide)) ?_
  refine m_Rs.n0 b_273 (x_iushr d_273_29 rfl) ?_
  refine m_Rs.n0 b_273 (x_ixor d_273_30 rfl) ?_
  refine m_Rs.n0 b_273 (x_istore_n d_273_31 rfl (show m_put1 _ _ _ = [(2, _), (0, _), (1, _)] from rfl)) ?_
  refine m_Rs.n0 b_273 (x_iload_n d_273_32 rfl) ?_
  refine m_Rs.n0 b_273 (x_bipush (z := 16) d_273_33 (by decide)) ?_
  refine m_Rs.n0 b_273 (x_iushr d_273_35 rfl) ?_
  exact m_Rs.ret b_273 (m_rt_ir d_273_36 rfl rfl) (rI h0 h hF)
def D_m_isShunned (F : Nat) (a0 : Int32) (a1 : Int32) (S : mS) : Option (Int32) := (aget 0 14 S 619 ((((2 : Int32) * a0) + a1) - (1 : Int32))).bind fun v1 => (cond (m_c2 .ge (S.1 36) v1) (some (0 : Int32)) (some (1 : Int32))).bind fun v6 => (bret v6).bind fun v7 => some v7
theorem T_m_isShunned {l : Launch} {w : List mM} {F : Nat} {a0 : Int32} {a1 : Int32} {S : mS} {r : Int32} (h : m_RM S w) (h0 : D_m_isShunned F a0 a1 S = some r) : m_Rs l M_274 (m_ent M_274 [.ref 583, .int a0, .int a1] w) (fun v w' => v = some (.int r) ∧ m_RM S w' ∧ m_Fq w w') 0 0 0 0 := by
  show m_Rs l M_274 (0, [(0, .ref 583), (1, .int a0), (2, .int a1)], [], w) _ 0 0 0 0
  generalize hw0 : w = w0 at h ⊢
  have hF : m_Fq w0 w0 := m_Fq.refl
  rw [D_m_isShunned] at h0
  refine m_Rs.n0 b_274 (x_aload_n d_274_0 rfl) ?_
  refine m_Rs.n0 b_274 (x_getf d_274_1 rfl h.1 rfl) ?_
  refine m_Rs.n0 b_274 (x_aload_n d_274_4 rfl) ?_
  refine m_Rs.n0 b_274 (x_getf d_274_5 rfl h.1 rfl) ?_
  refine m_Rs.n0 b_274 (x_iconst (z := 2) d_274_8 (by decide)) ?_
  refine m_Rs.n0 b_274 (x_iload_n d_274_9 rfl) ?_
  refine m_Rs.n0 b_274 (x_imul d_274_10 rfl) ?_
  refine m_Rs.n0 b_274 (x_iload_n d_274_11 rfl) ?_
  refine m_Rs.n0 b_274 (x_iadd d_274_12 rfl) ?_
  refine m_Rs.n0 b_274 (x_iconst (z := 1) d_274_13 (by decide)) ?_
  refine m_Rs.n0 b_274 (x_isub d_274_14 rfl) ?_
  obtain ⟨v1, e2, h0⟩ := bS h0
  refine m_Rs.dget b_274 d_274_15 h 35 rfl e2 ?_
  obtain ⟨v6, e4, h0⟩ := bS h0
  have kk3 : ∀ (xz : Int32) (w1 : List mM), xz = v6 → m_RM S w1 → m_Fq w0 w1 → m_Rs l M_274 (24, [(0, .ref 583), (1, .int a0), (2, .int a1)], [.int xz], w1) (fun v w' => v = some (.int r) ∧ m_RM S w' ∧ m_Fq w0 w') 0 0 0 0 := by
    intro xz w ez h hF
    rw [ez]
    obtain ⟨v7, e8, h0⟩ := bS h0
    exact m_Rs.retb b_274 d_274_24 rfl e8 (rI h0 h hF)
  cases hc5 : m_c2 .ge (S.1 36) v1 with
  | true =>
    have e4 := cT hc5 e4
    refine m_Rs.n0 b_274 (x_ict d_274_16 rfl hc5) ?_
    refine m_Rs.n0 b_274 (x_iconst (z := 0) d_274_23 (by decide)) ?_
    exact kk3 _ _ (Option.some.inj e4) h hF
  | false =>
    have e4 := cF hc5 e4
    refine m_Rs.n0 b_274 (x_icf d_274_16 rfl hc5) ?_
    refine m_Rs.n0 b_274 (x_iconst (z := 1) d_274_19 (by decide)) ?_
    refine m_Rs.n0 b_274 (x_goto d_274_20 rfl) ?_
    exact kk3 _ _ (Option.some.inj e4) h hF
def D_m_ring_116 (F : Nat) (rec25 : Int32 → Int32 → Int32 → Int32 → Int64 → Int32 → mS → Option (Int32)) (rec63 : Int32 → Int32 → Int32 → Int32 → Int64 → Int32 → Int32 → mS → Option (Int32)) (x2 : Int32) (x4 : Int32) (x5 : Int32) (x6 : Int32) (x7 : Int64) (x9 : Int32) (x10 : Int32) (S : mS) : Option (Int32) := rec63 x2 x4 x5 x6 x7 x9 (x10 + Int32.ofInt 1) S
theorem T_m_ring_116 {l : Launch} {w0 : List mM} {F : Nat} {rec25 : Int32 → Int32 → Int32 → Int32 → Int64 → Int32 → mS → Option (Int32)} {rec63 : Int32 → Int32 → Int32 → Int32 → Int64 → Int32 → Int32 → mS → Option (Int32)} (hr25 : ∀ {x2 : Int32} {x4 : Int32} {x5 : Int32} {x6 : Int32} {x7 : Int64} {x9 : Int32} {S : mS} {w : List mM} {r : Int32}, m_RM S w → m_Fq w0 w → rec25 x2 x4 x5 x6 x7 x9 S = some r → m_Rs l M_272 (25, [(0, .ref 583), (2, .int x2), (4, .int x4), (5, .int x5), (6, .int x6), (7, .long x7), (9, .int x9)], [], w) (fun v w' => v = some (.int r) ∧ m_RM S w' ∧ m_Fq w0 w') 0 0 1 100) (hr63 : ∀ {x2 : Int32} {x4 : Int32} {x5 : Int32} {x6 : Int32} {x7 : Int64} {x9 : Int32} {x10 : Int32} {S : mS} {w : List mM} {r : Int32}, m_RM S w → m_Fq w0 w → rec63 x2 x4 x5 x6 x7 x9 x10 S = some r → m_Rs l M_272 (63, [(0, .ref 583), (2, .int x2), (4, .int x4), (5, .int x5), (6, .int x6), (7, .long x7), (9, .int x9), (10, .int x10)], [], w) (fun v w' => v = some (.int r) ∧ m_RM S w' ∧ m_Fq w0 w') 0 0 1 100) {x2 : Int32} {x4 : Int32} {x5 : Int32} {x6 : Int32} {x7 : Int64} {x9 : Int32} {x10 : Int32} {S : mS} {w : List mM} {r : Int32} (h : m_RM S w) (hF : m_Fq w0 w) (h0 : D_m_ring_116 F rec25 rec63 x2 x4 x5 x6 x7 x9 x10 S = some r) : m_Rs l M_272 (116, [(0, .ref 583), (2, .int x2), (4, .int x4), (5, .int x5), (6, .int x6), (7, .long x7), (9, .int x9), (10, .int x10)], [], w) (fun v w' => v = some (.int r) ∧ m_RM S w' ∧ m_Fq w0 w') 0 0 1 100 := by
  rw [D_m_ring_116] at h0
  refine m_Rs.n0 b_272 (x_iinc d_272_116 rfl rfl rfl (show m_put1 _ _ _ = [(10, _), (0, _), (2, _), (4, _), (5, _), (6, _), (7, _), (9, _)] from rfl)) ?_
  refine m_Rs.n0 b_272 (x_goto d_272_119 rfl) ?_
  exact m_Rs.pick [1, 2, 3, 4, 5, 6, 7, 0] rfl (hr63 h hF h0)
def D_m_ring_122 (F : Nat) (rec25 : Int32 → Int32 → Int32 → Int32 → Int64 → Int32 → mS → Option (Int32)) (x2 : Int32) (x4 : Int32) (x5 : Int32) (x6 : Int32) (x7 : Int64) (x9 : Int32) (S : mS) : Option (Int32) := rec25 x2 x4 x5 x6 x7 (x9 + Int32.ofInt 1) S
theorem T_m_ring_122 {l : Launch} {w0 : List mM} {F : Nat} {rec25 : Int32 → Int32 → Int32 → Int32 → Int64 → Int32 → mS → Option (Int32)} (hr25 : ∀ {x2 : Int32} {x4 : Int32} {x5 : Int32} {x6 : Int32} {x7 : Int64} {x9 : Int32} {S : mS} {w : List mM} {r : Int32}, m_RM S w → m_Fq w0 w → rec25 x2 x4 x5 x6 x7 x9 S = some r → m_Rs l M_272 (25, [(0, .ref 583), (2, .int x2), (4, .int x4), (5, .int x5), (6, .int x6), (7, .long x7), (9, .int x9)], [], w) (fun v w' => v = some (.int r) ∧ m_RM S w' ∧ m_Fq w0 w') 0 0 1 100) {x2 : Int32} {x4 : Int32} {x5 : Int32} {x6 : Int32} {x7 : Int64} {x9 : Int32} {S : mS} {w : List mM} {r : Int32} (h : m_RM S w) (hF : m_Fq w0 w) (h0 : D_m_ring_122 F rec25 x2 x4 x5 x6 x7 x9 S = some r) : m_Rs l M_272 (122, [(0, .ref 583), (2, .int x2), (4, .int x4), (5, .int x5), (6, .int x6), (7, .long x7), (9, .int x9)], [], w) (fun v w' => v = some (.int r) ∧ m_RM S w' ∧ m_Fq w0 w') 0 0 1 100 := by
  rw [D_m_ring_122] at h0
  refine m_Rs.n0 b_272 (x_iinc d_272_122 rfl rfl rfl (show m_put1 _ _ _ = [(9, _), (0, _), (2, _), (4, _), (5, _), (6, _), (7, _)] from rfl)) ?_
  refine m_Rs.n0 b_272 (x_goto d_272_125 rfl) ?_
  exact m_Rs.pick [1, 2, 3, 4, 5, 6, 0] rfl (hr25 h hF h0)
def D_m_ring_63 (F : Nat) (rec25 : Int32 → Int32 → Int32 → Int32 → Int64 → Int32 → mS → Option (Int32)) : Nat → Int32 → Int32 → Int32 → Int32 → Int64 → Int32 → Int32 → mS → Option (Int32)
  | 0, _, _, _, _, _, _, _, _ => none
  | n + 1, x2, x4, x5, x6, x7, x9, x10, S => cond (m_c2 .ge x10 (4 : Int32)) (D_m_ring_122 F rec25 x2 x4 x5 x6 x7 x9 S) ((D_m_point F x9 x10 S).bind fun v12 => (cond (m_c2 .lt v12 x5) (some ((v12 : Int32).toInt64 + ((65536) : Int64))) (some (v12 : Int32).toInt64)).bind fun v17 => cond (m_c1 .ge (lg_cmp v17 x7)) (D_m_ring_116 F rec25 (D_m_ring_63 F rec25 n) x2 x4 x5 x6 x7 x9 x10 S) (D_m_ring_116 F rec25 (D_m_ring_63 F rec25 n) x2 x4 x5 x9 v17 x9 x10 S))
theorem T_m_ring_63 {l : Launch} {w0 : List mM} {F : Nat} {rec25 : Int32 → Int32 → Int32 → Int32 → Int64 → Int32 → mS → Option (Int32)} (hr25 : ∀ {x2 : Int32} {x4 : Int32} {x5 : Int32} {x6 : Int32} {x7 : Int64} {x9 : Int32} {S : mS} {w : List mM} {r : Int32}, m_RM S w → m_Fq w0 w → rec25 x2 x4 x5 x6 x7 x9 S = some r → m_Rs l M_272 (25, [(0, .ref 583), (2, .int x2), (4, .int x4), (5, .int x5), (6, .int x6), (7, .long x7), (9, .int x9)], [], w) (fun v w' => v = some (.int r) ∧ m_RM S w' ∧ m_Fq w0 w') 0 0 1 100) : ∀ (n : Nat) {x2 : Int32} {x4 : Int32} {x5 : Int32} {x6 : Int32} {x7 : Int64} {x9 : Int32} {x10 : Int32} {S : mS} {w : List mM} {r : Int32}, m_RM S w → m_Fq w0 w → D_m_ring_63 F rec25 n x2 x4 x5 x6 x7 x9 x10 S = some r → m_Rs l M_272 (63, [(0, .ref 583), (2, .int x2), (4, .int x4), (5, .int x5), (6, .int x6), (7, .long x7), (9, .int x9), (10, .int x10)], [], w) (fun v w' => v = some (.int r) ∧ m_RM S w' ∧ m_Fq w0 w') 0 0 1 100 := by
  intro n
  induction n with
  | zero => intro x2 x4 x5 x6 x7 x9 x10 S w r h hF h0; cases h0
  | succ n ih =>
    intro x2 x4 x5 x6 x7 x9 x10 S w r h hF h0
    rw [D_m_ring_63] at h0
    refine m_Rs.n0 b_272 (x_iload d_272_63 rfl) ?_
    refine m_Rs.n0 b_272 (x_iconst (z := 4) d_272_65 (by decide)) ?_
    cases hc11 : m_c2 .ge x10 (4 : Int32) with
    | true =>
      have h0 := cT hc11 h0
      refine m_Rs.n0 b_272 (x_ict d_272_66 rfl hc11) ?_
      exact m_Rs.pick [0, 1, 2, 3, 4, 5, 6] rfl (T_m_ring_122 hr25 h hF h0)
    | false =>
      have h0 := cF hc11 h0
      refine m_Rs.n0 b_272 (x_icf d_272_66 rfl hc11) ?_
      refine m_Rs.n0 b_272 (x_iload d_272_69 rfl) ?_
      refine m_Rs.n0 b_272 (x_iload d_272_71 rfl) ?_
      obtain ⟨v12, e13, h0⟩ := bS h0
      refine m_Rs.callS b_272 (y_cs d_272_73 rfl q_273 (show m_takeS _ _ = some (_, [_, _], []) from rfl) (by simp only [m_okf, List.all_cons, List.all_nil, Bool.and_true, Bool.and_self, m_okv_i, m_okv_l, m_okv_0, m_okv_t, m_okv_at h.1]) rfl) (T_m_point h e13) hF rfl (fun w1 h hF => ?_) (by decide) (by decide)
      refine m_Rs.n0 b_272 (x_istore d_272_76 rfl (show m_put1 _ _ _ = [(11, _), (0, _), (2, _), (4, _), (5, _), (6, _), (7, _), (9, _), (10, _)] from rfl)) ?_
      refine m_Rs.n0 b_272 (x_iload d_272_78 rfl) ?_
      refine m_Rs.n0 b_272 (x_iload d_272_80 rfl) ?_
      obtain ⟨v17, e15, h0⟩ := bS h0
      have kk14 : ∀ (xz : Int64) (w1 : List mM), xz = v17 → m_RM S w1 → m_Fq w0 w1 → m_Rs l M_272 (98, [(11, .int v12), (0, .ref 583), (2, .int x2), (4, .int x4), (5, .int x5), (6, .int x6), (7, .long x7), (9, .int x9), (10, .int x10)], [.long xz], w1) (fun v w' => v = some (.int r) ∧ m_RM S w' ∧ m_Fq w0 w') 0 0 1 100 := by
        intro xz w ez h hF
        rw [ez]
        refine m_Rs.n0 b_272 (x_lstore d_272_98 rfl (show m_put2 _ _ _ = [(12, _), (11, _), (0, _), (2, _), (4, _), (5, _), (6, _), (7, _), (9, _), (10, _)] from rfl)) ?_
        refine m_Rs.n0 b_272 (x_lload d_272_100 rfl) ?_
        refine m_Rs.n0 b_272 (x_lload d_272_102 rfl) ?_
        refine m_Rs.n0 b_272 (x_lcmp d_272_104 rfl) ?_
        cases hc21 : m_c1 .ge (lg_cmp v17 x7) with
        | true =>
          have h0 := cT hc21 h0
          refine m_Rs.n0 b_272 (x_ift d_272_105 rfl hc21) ?_
          exact m_Rs.pick [2, 3, 4, 5, 6, 7, 8, 9] rfl (T_m_ring_116 hr25 ih h hF h0)
        | false =>
          have h0 := cF hc21 h0
          refine m_Rs.n0 b_272 (x_iff d_272_105 rfl hc21) ?_
          refine m_Rs.n0 b_272 (x_lload d_272_108 rfl) ?_
          refine m_Rs.n0 b_272 (x_lstore d_272_110 rfl (show m_put2 _ _ _ = [(7, _), (12, _), (11, _), (0, _), (2, _), (4, _), (5, _), (6, _), (9, _), (10, _)] from rfl)) ?_
          refine m_Rs.n0 b_272 (x_iload d_272_112 rfl) ?_
          refine m_Rs.n0 b_272 (x_istore d_272_114 rfl (show m_put1 _ _ _ = [(6, _), (7, _), (12, _), (11, _), (0, _), (2, _), (4, _), (5, _), (9, _), (10, _)] from rfl)) ?_
          exact m_Rs.pick [4, 5, 6, 7, 0, 1, 8, 9] rfl (T_m_ring_116 hr25 ih h hF h0)
      cases hc16 : m_c2 .lt v12 x5 with
      | true =>
        have e15 := cT hc16 e15
        refine m_Rs.n0 b_272 (x_ict d_272_82 rfl hc16) ?_
        refine m_Rs.n0 b_272 (x_iload d_272_91 rfl) ?_
        refine m_Rs.n0 b_272 (x_i2l d_272_93 rfl) ?_
        refine m_Rs.n0 b_272 (x_ldc2 (v := .long (65536)) d_272_94 rfl) ?_
        refine m_Rs.n0 b_272 (x_ladd d_272_97 rfl) ?_
        exact kk14 _ _ (Option.some.inj e15) h hF
      | false =>
        have e15 := cF hc16 e15
        refine m_Rs.n0 b_272 (x_icf d_272_82 rfl hc16) ?_
        refine m_Rs.n0 b_272 (x_iload d_272_85 rfl) ?_
        refine m_Rs.n0 b_272 (x_i2l d_272_87 rfl) ?_
        refine m_Rs.n0 b_272 (x_goto d_272_88 rfl) ?_
        exact kk14 _ _ (Option.some.inj e15) h hF
def D_m_ring_60 (F : Nat) (rec25 : Int32 → Int32 → Int32 → Int32 → Int64 → Int32 → mS → Option (Int32)) (x2 : Int32) (x4 : Int32) (x5 : Int32) (x6 : Int32) (x7 : Int64) (x9 : Int32) (S : mS) : Option (Int32) := D_m_ring_63 F rec25 F x2 x4 x5 x6 x7 x9 (0 : Int32) S
theorem T_m_ring_60 {l : Launch} {w0 : List mM} {F : Nat} {rec25 : Int32 → Int32 → Int32 → Int32 → Int64 → Int32 → mS → Option (Int32)} (hr25 : ∀ {x2 : Int32} {x4 : Int32} {x5 : Int32} {x6 : Int32} {x7 : Int64} {x9 : Int32} {S : mS} {w : List mM} {r : Int32}, m_RM S w → m_Fq w0 w → rec25 x2 x4 x5 x6 x7 x9 S = some r → m_Rs l M_272 (25, [(0, .ref 583), (2, .int x2), (4, .int x4), (5, .int x5), (6, .int x6), (7, .long x7), (9, .int x9)], [], w) (fun v w' => v = some (.int r) ∧ m_RM S w' ∧ m_Fq w0 w') 0 0 1 100) {x2 : Int32} {x4 : Int32} {x5 : Int32} {x6 : Int32} {x7 : Int64} {x9 : Int32} {S : mS} {w : List mM} {r : Int32} (h : m_RM S w) (hF : m_Fq w0 w) (h0 : D_m_ring_60 F rec25 x2 x4 x5 x6 x7 x9 S = some r) : m_Rs l M_272 (60, [(0, .ref 583), (2, .int x2), (4, .int x4), (5, .int x5), (6, .int x6), (7, .long x7), (9, .int x9)], [], w) (fun v w' => v = some (.int r) ∧ m_RM S w' ∧ m_Fq w0 w') 0 0 1 100 := by
  rw [D_m_ring_60] at h0
  refine m_Rs.n0 b_272 (x_iconst (z := 0) d_272_60 (by decide)) ?_
  refine m_Rs.n0 b_272 (x_istore d_272_61 rfl (show m_put1 _ _ _ = [(10, _), (0, _), (2, _), (4, _), (5, _), (6, _), (7, _), (9, _)] from rfl)) ?_
  exact m_Rs.pick [1, 2, 3, 4, 5, 6, 7, 0] rfl (T_m_ring_63 hr25 F h hF h0)
def D_m_ring_25 (F : Nat) : Nat → Int32 → Int32 → Int32 → Int32 → Int64 → Int32 → mS → Option (Int32)
  | 0, _, _, _, _, _, _, _ => none
  | n + 1, x2, x4, x5, x6, x7, x9, S => cond (m_c2 .gt x9 x2) (some x6) ((aget 4 7 S 591 x9).bind fun v4 => cond (m_c1 .eq v4) (D_m_ring_122 F (D_m_ring_25 F n) x2 x4 x5 x6 x7 x9 S) (cond (m_c1 .le x4) (D_m_ring_60 F (D_m_ring_25 F n) x2 x4 x5 x6 x7 x9 S) ((D_m_isShunned F x4 x9 S).bind fun v8 => cond (m_c1 .eq v8) (D_m_ring_60 F (D_m_ring_25 F n) x2 x4 x5 x6 x7 x9 S) (D_m_ring_122 F (D_m_ring_25 F n) x2 x4 x5 x6 x7 x9 S))))
theorem T_m_ring_25 {l : Launch} {w0 : List mM} {F : Nat} : ∀ (n : Nat) {x2 : Int32} {x4 : Int32} {x5 : Int32} {x6 : Int32} {x7 : Int64} {x9 : Int32} {S : mS} {w : List mM} {r : Int32}, m_RM S w → m_Fq w0 w → D_m_ring_25 F n x2 x4 x5 x6 x7 x9 S = some r → m_Rs l M_272 (25, [(0, .ref 583), (2, .int x2), (4, .int x4), (5, .int x5), (6, .int x6), (7, .long x7), (9, .int x9)], [], w) (fun v w' => v = some (.int r) ∧ m_RM S w' ∧ m_Fq w0 w') 0 0 1 100 := by
  intro n
  induction n with
  | zero => intro x2 x4 x5 x6 x7 x9 S w r h hF h0; cases h0
  | succ n ih =>
    intro x2 x4 x5 x6 x7 x9 S w r h hF h0
    rw [D_m_ring_25] at h0
    refine m_Rs.n0 b_272 (x_iload d_272_25 rfl) ?_
    refine m_Rs.n0 b_272 (x_iload_n d_272_27 rfl) ?_
    cases hc3 : m_c2 .gt x9 x2 with
    | true =>
      have h0 := cT hc3 h0
      refine m_Rs.n0 b_272 (x_ict d_272_28 rfl hc3) ?_
      refine m_Rs.n0 b_272 (x_iload d_272_128 rfl) ?_
      exact m_Rs.ret b_272 (m_rt_ir d_272_130 rfl rfl) (rI h0 h hF)
    | false =>
      have h0 := cF hc3 h0
      refine m_Rs.n0 b_272 (x_icf d_272_28 rfl hc3) ?_
      refine m_Rs.n0 b_272 (x_aload_n d_272_31 rfl) ?_
      refine m_Rs.n0 b_272 (x_getf d_272_32 rfl h.1 rfl) ?_
      refine m_Rs.n0 b_272 (x_iload d_272_35 rfl) ?_
      obtain ⟨v4, e5, h0⟩ := bS h0
      refine m_Rs.dgetb b_272 d_272_37 h 7 rfl e5 ?_
      cases hc6 : m_c1 .eq v4 with
      | true =>
        have h0 := cT hc6 h0
        refine m_Rs.n0 b_272 (x_ift d_272_38 rfl hc6) ?_
        exact m_Rs.pick [0, 1, 2, 3, 4, 5, 6] rfl (T_m_ring_122 ih h hF h0)
      | false =>
        have h0 := cF hc6 h0
        refine m_Rs.n0 b_272 (x_iff d_272_38 rfl hc6) ?_
        refine m_Rs.n0 b_272 (x_iload d_272_41 rfl) ?_
        cases hc7 : m_c1 .le x4 with
        | true =>
          have h0 := cT hc7 h0
          refine m_Rs.n0 b_272 (x_ift d_272_43 rfl hc7) ?_
          exact m_Rs.pick [0, 1, 2, 3, 4, 5, 6] rfl (T_m_ring_60 ih h hF h0)
        | false =>
          have h0 := cF hc7 h0
          refine m_Rs.n0 b_272 (x_iff d_272_43 rfl hc7) ?_
          refine m_Rs.n0 b_272 (x_aload_n d_272_46 rfl) ?_
          refine m_Rs.n0 b_272 (x_iload d_272_47 rfl) ?_
          refine m_Rs.n0 b_272 (x_iload d_272_49 rfl) ?_
          obtain ⟨v8, e9, h0⟩ := bS h0
          refine m_Rs.callS b_272 (y_cv d_272_51 rfl q_274 (m_isRecv_of rfl h.1) (show m_takeI _ _ = some (_, [_, _, _], []) from rfl) (by simp only [m_okf, List.all_cons, List.all_nil, Bool.and_true, Bool.and_self, m_okv_i, m_okv_l, m_okv_0, m_okv_t, m_okv_at h.1]) rfl) (T_m_isShunned h e9) hF rfl (fun w1 h hF => ?_) (by decide) (by decide)
          cases hc10 : m_c1 .eq v8 with
          | true =>
            have h0 := cT hc10 h0
            refine m_Rs.n0 b_272 (x_ift d_272_54 rfl hc10) ?_
            exact m_Rs.pick [0, 1, 2, 3, 4, 5, 6] rfl (T_m_ring_60 ih h hF h0)
          | false =>
            have h0 := cF hc10 h0
            refine m_Rs.n0 b_272 (x_iff d_272_54 rfl hc10) ?_
            refine m_Rs.n0 b_272 (x_goto d_272_57 rfl) ?_
            exact m_Rs.pick [0, 1, 2, 3, 4, 5, 6] rfl (T_m_ring_122 ih h hF h0)
def D_m_ring (F : Nat) (a0 : Int32) (a1 : Int32) (a2 : Int32) (a3 : Int32) (S : mS) : Option (Int32) := (D_m_point F ((64 : Int32) + (a2 / (4 : Int32))) (a2 - a2 / (4 : Int32) * (4 : Int32)) S).bind fun v1 => D_m_ring_25 F F a1 a3 v1 ((-1) : Int32) ((9223372036854775807) : Int64) a0 S
theorem T_m_ring {l : Launch} {w : List mM} {F : Nat} {a0 : Int32} {a1 : Int32} {a2 : Int32} {a3 : Int32} {S : mS} {r : Int32} (h : m_RM S w) (h0 : D_m_ring F a0 a1 a2 a3 S = some r) : m_Rs l M_272 (m_ent M_272 [.ref 583, .int a0, .int a1, .int a2, .int a3] w) (fun v w' => v = some (.int r) ∧ m_RM S w' ∧ m_Fq w w') 0 0 1 100 := by
  show m_Rs l M_272 (0, [(0, .ref 583), (1, .int a0), (2, .int a1), (3, .int a2), (4, .int a3)], [], w) _ 0 0 1 100
  generalize hw0 : w = w0 at h ⊢
  have hF : m_Fq w0 w0 := m_Fq.refl
  rw [D_m_ring] at h0
  refine m_Rs.n0 b_272 (x_bipush (z := 64) d_272_0 (by decide)) ?_
  refine m_Rs.n0 b_272 (x_iload_n d_272_2 rfl) ?_
  refine m_Rs.n0 b_272 (x_iconst (z := 4) d_272_3 (by decide)) ?_
  refine m_Rs.n0 b_272 (x_idiv d_272_4 (by decide) rfl) ?_
  refine m_Rs.n0 b_272 (x_iadd d_272_5 rfl) ?_
  refine m_Rs.n0 b_272 (x_iload_n d_272_6 rfl) ?_
  refine m_Rs.n0 b_272 (x_iconst (z := 4) d_272_7 (by decide)) ?_
  refine m_Rs.n0 b_272 (x_irem d_272_8 (by decide) rfl) ?_
  obtain ⟨v1, e2, h0⟩ := bS h0
  refine m_Rs.callS b_272 (y_cs d_272_9 rfl q_273 (show m_takeS _ _ = some (_, [_, _], []) from rfl) (by simp only [m_okf, List.all_cons, List.all_nil, Bool.and_true, Bool.and_self, m_okv_i, m_okv_l, m_okv_0, m_okv_t, m_okv_at h.1]) rfl) (T_m_point h e2) hF rfl (fun w1 h hF => ?_) (by decide) (by decide)
  refine m_Rs.n0 b_272 (x_istore d_272_12 rfl (show m_put1 _ _ _ = [(5, _), (0, _), (1, _), (2, _), (3, _), (4, _)] from rfl)) ?_
  refine m_Rs.n0 b_272 (x_iconst (z := (-1)) d_272_14 (by decide)) ?_
  refine m_Rs.n0 b_272 (x_istore d_272_15 rfl (show m_put1 _ _ _ = [(6, _), (5, _), (0, _), (1, _), (2, _), (3, _), (4, _)] from rfl)) ?_
  refine m_Rs.n0 b_272 (x_ldc2 (v := .long (9223372036854775807)) d_272_17 rfl) ?_
  refine m_Rs.n0 b_272 (x_lstore d_272_20 rfl (show m_put2 _ _ _ = [(7, _), (6, _), (5, _), (0, _), (1, _), (2, _), (3, _), (4, _)] from rfl)) ?_
  refine m_Rs.n0 b_272 (x_iload_n d_272_22 rfl) ?_
  refine m_Rs.n0 b_272 (x_istore d_272_23 rfl (show m_put1 _ _ _ = [(9, _), (7, _), (6, _), (5, _), (0, _), (1, _), (2, _), (3, _), (4, _)] from rfl)) ?_
  exact m_Rs.pick [4, 6, 8, 3, 2, 1, 0] rfl (T_m_ring_25 F h hF h0)
def D_m_spare (F : Nat) (S : mS) : Option (Int32) := some ((12 : Int32) * ((S.1 74) + (1 : Int32)))
theorem T_m_spare {l : Launch} {w : List mM} {F : Nat} {S : mS} {r : Int32} (h : m_RM S w) (h0 : D_m_spare F S = some r) : m_Rs l M_275 (m_ent M_275 [.ref 583] w) (fun v w' => v = some (.int r) ∧ m_RM S w' ∧ m_Fq w w') 0 0 0 0 := by
  show m_Rs l M_275 (0, [(0, .ref 583)], [], w) _ 0 0 0 0
  generalize hw0 : w = w0 at h ⊢
  have hF : m_Fq w0 w0 := m_Fq.refl
  rw [D_m_spare] at h0
  refine m_Rs.n0 b_275 (x_bipush (z := 12) d_275_0 (by decide)) ?_
  refine m_Rs.n0 b_275 (x_aload_n d_275_2 rfl) ?_
  refine m_Rs.n0 b_275 (x_getf d_275_3 rfl h.1 rfl) ?_
  refine m_Rs.n0 b_275 (x_iconst (z := 1) d_275_6 (by decide)) ?_
  refine m_Rs.n0 b_275 (x_iadd d_275_7 rfl) ?_
  refine m_Rs.n0 b_275 (x_imul d_275_8 rfl) ?_
  exact m_Rs.ret b_275 (m_rt_ir d_275_9 rfl rfl) (rI h0 h hF)
def D_m_told (F : Nat) (a0 : Int32) (a1 : Int32) (S : mS) : Option (Int32) := (aget 0 64512 S 603 (((9 : Int32) * a0) + a1)).bind fun v1 => some v1
theorem T_m_told {l : Launch} {w : List mM} {F : Nat} {a0 : Int32} {a1 : Int32} {S : mS} {r : Int32} (h : m_RM S w) (h0 : D_m_told F a0 a1 S = some r) : m_Rs l M_278 (m_ent M_278 [.ref 583, .int a0, .int a1] w) (fun v w' => v = some (.int r) ∧ m_RM S w' ∧ m_Fq w w') 0 0 0 0 := by
  show m_Rs l M_278 (0, [(0, .ref 583), (1, .int a0), (2, .int a1)], [], w) _ 0 0 0 0
  generalize hw0 : w = w0 at h ⊢
  have hF : m_Fq w0 w0 := m_Fq.refl
  rw [D_m_told] at h0
  refine m_Rs.n0 b_278 (x_aload_n d_278_0 rfl) ?_
  refine m_Rs.n0 b_278 (x_getf d_278_1 rfl h.1 rfl) ?_
  refine m_Rs.n0 b_278 (x_bipush (z := 9) d_278_4 (by decide)) ?_
  refine m_Rs.n0 b_278 (x_iload_n d_278_6 rfl) ?_
  refine m_Rs.n0 b_278 (x_imul d_278_7 rfl) ?_
  refine m_Rs.n0 b_278 (x_iload_n d_278_8 rfl) ?_
  refine m_Rs.n0 b_278 (x_iadd d_278_9 rfl) ?_
  obtain ⟨v1, e2, h0⟩ := bS h0
  refine m_Rs.dget b_278 d_278_10 h 19 rfl e2 ?_
  exact m_Rs.ret b_278 (m_rt_ir d_278_11 rfl rfl) (rI h0 h hF)
def D_m_whichOf (F : Nat) (a0 : Int32) (a1 : Int32) (S : mS) : Option (Int32) := (cond (m_c2 .ne (a0 &&& (1 : Int32)) (1 : Int32)) (some (0 : Int32)) (some (a1 &&& (3 : Int32)))).bind fun v4 => (cond (m_c2 .ne (a0 &&& (2 : Int32)) (2 : Int32)) (some (0 : Int32)) (some (a1 &&& (4 : Int32)))).bind fun v8 => some (v4 + v8)
theorem T_m_whichOf {l : Launch} {w : List mM} {F : Nat} {a0 : Int32} {a1 : Int32} {S : mS} {r : Int32} (h : m_RM S w) (h0 : D_m_whichOf F a0 a1 S = some r) : m_Rs l M_279 (m_ent M_279 [.int a0, .int a1] w) (fun v w' => v = some (.int r) ∧ m_RM S w' ∧ m_Fq w w') 0 0 0 0 := by
  show m_Rs l M_279 (0, [(0, .int a0), (1, .int a1)], [], w) _ 0 0 0 0
  generalize hw0 : w = w0 at h ⊢
  have hF : m_Fq w0 w0 := m_Fq.refl
  rw [D_m_whichOf] at h0
  refine m_Rs.n0 b_279 (x_iload_n d_279_0 rfl) ?_
  refine m_Rs.n0 b_279 (x_iconst (z := 1) d_279_1 (by decide)) ?_
  refine m_Rs.n0 b_279 (x_iand d_279_2 rfl) ?_
  refine m_Rs.n0 b_279 (x_iconst (z := 1) d_279_3 (by decide)) ?_
  obtain ⟨v4, e2, h0⟩ := bS h0
  have kk1 : ∀ (xz : Int32) (w1 : List mM), xz = v4 → m_RM S w1 → m_Fq w0 w1 → m_Rs l M_279 (14, [(0, .int a0), (1, .int a1)], [.int xz], w1) (fun v w' => v = some (.int r) ∧ m_RM S w' ∧ m_Fq w0 w') 0 0 0 0 := by
    intro xz w ez h hF
    rw [ez]
    refine m_Rs.n0 b_279 (x_iload_n d_279_14 rfl) ?_
    refine m_Rs.n0 b_279 (x_iconst (z := 2) d_279_15 (by decide)) ?_
    refine m_Rs.n0 b_279 (x_iand d_279_16 rfl) ?_
    refine m_Rs.n0 b_279 (x_iconst (z := 2) d_279_17 (by decide)) ?_
    obtain ⟨v8, e6, h0⟩ := bS h0
    have kk5 : ∀ (xz : Int32) (w1 : List mM), xz = v8 → m_RM S w1 → m_Fq w0 w1 → m_Rs l M_279 (28, [(0, .int a0), (1, .int a1)], [.int xz, .int v4], w1) (fun v w' => v = some (.int r) ∧ m_RM S w' ∧ m_Fq w0 w') 0 0 0 0 := by
      intro xz w ez h hF
      rw [ez]
      refine m_Rs.n0 b_279 (x_iadd d_279_28 rfl) ?_
      exact m_Rs.ret b_279 (m_rt_ir d_279_29 rfl rfl) (rI h0 h hF)
    cases hc7 : m_c2 .ne (a0 &&& (2 : Int32)) (2 : Int32) with
    | true =>
      have e6 := cT hc7 e6
      refine m_Rs.n0 b_279 (x_ict d_279_18 rfl hc7) ?_
      refine m_Rs.n0 b_279 (x_iconst (z := 0) d_279_27 (by decide)) ?_
      exact kk5 _ _ (Option.some.inj e6) h hF
    | false =>
      have e6 := cF hc7 e6
      refine m_Rs.n0 b_279 (x_icf d_279_18 rfl hc7) ?_
      refine m_Rs.n0 b_279 (x_iload_n d_279_21 rfl) ?_
      refine m_Rs.n0 b_279 (x_iconst (z := 4) d_279_22 (by decide)) ?_
      refine m_Rs.n0 b_279 (x_iand d_279_23 rfl) ?_
      refine m_Rs.n0 b_279 (x_goto d_279_24 rfl) ?_
      exact kk5 _ _ (Option.some.inj e6) h hF
  cases hc3 : m_c2 .ne (a0 &&& (1 : Int32)) (1 : Int32) with
  | true =>
    have e2 := cT hc3 e2
    refine m_Rs.n0 b_279 (x_ict d_279_4 rfl hc3) ?_
    refine m_Rs.n0 b_279 (x_iconst (z := 0) d_279_13 (by decide)) ?_
    exact kk1 _ _ (Option.some.inj e2) h hF
  | false =>
    have e2 := cF hc3 e2
    refine m_Rs.n0 b_279 (x_icf d_279_4 rfl hc3) ?_
    refine m_Rs.n0 b_279 (x_iload_n d_279_7 rfl) ?_
    refine m_Rs.n0 b_279 (x_iconst (z := 3) d_279_8 (by decide)) ?_
    refine m_Rs.n0 b_279 (x_iand d_279_9 rfl) ?_
    refine m_Rs.n0 b_279 (x_goto d_279_10 rfl) ?_
    exact kk1 _ _ (Option.some.inj e2) h hF
def D_m_suits_49 (F : Nat) (rec2 : Int32 → Int32 → Int32 → mS → Option (Int32)) (x1 : Int32) (x2 : Int32) (x3 : Int32) (S : mS) : Option (Int32) := rec2 x1 x2 (x3 + Int32.ofInt 1) S
theorem T_m_suits_49 {l : Launch} {w0 : List mM} {F : Nat} {rec2 : Int32 → Int32 → Int32 → mS → Option (Int32)} (hr2 : ∀ {x1 : Int32} {x2 : Int32} {x3 : Int32} {S : mS} {w : List mM} {r : Int32}, m_RM S w → m_Fq w0 w → rec2 x1 x2 x3 S = some r → m_Rs l M_277 (2, [(0, .ref 583), (1, .int x1), (2, .int x2), (3, .int x3)], [], w) (fun v w' => v = some (.int r) ∧ m_RM S w' ∧ m_Fq w0 w') 0 0 1 100) {x1 : Int32} {x2 : Int32} {x3 : Int32} {S : mS} {w : List mM} {r : Int32} (h : m_RM S w) (hF : m_Fq w0 w) (h0 : D_m_suits_49 F rec2 x1 x2 x3 S = some r) : m_Rs l M_277 (49, [(0, .ref 583), (1, .int x1), (2, .int x2), (3, .int x3)], [], w) (fun v w' => v = some (.int r) ∧ m_RM S w' ∧ m_Fq w0 w') 0 0 1 100 := by
  rw [D_m_suits_49] at h0
  refine m_Rs.n0 b_277 (x_iinc d_277_49 rfl rfl rfl (show m_put1 _ _ _ = [(3, _), (0, _), (1, _), (2, _)] from rfl)) ?_
  refine m_Rs.n0 b_277 (x_goto d_277_52 rfl) ?_
  exact m_Rs.pick [1, 2, 3, 0] rfl (hr2 h hF h0)
def D_m_suits_2 (F : Nat) : Nat → Int32 → Int32 → Int32 → mS → Option (Int32)
  | 0, _, _, _, _ => none
  | n + 1, x1, x2, x3, S => cond (m_c2 .ge x3 (8 : Int32)) (some ((-1) : Int32)) ((aget 4 7168 S 601 (((8 : Int32) * x1) + x3)).bind fun v2 => cond (m_c1 .eq v2) (D_m_suits_49 F (D_m_suits_2 F n) x1 x2 x3 S) ((D_m_told F (((8 : Int32) * x1) + x3) (8 : Int32) S).bind fun v5 => (D_m_whichOf F v5 x2 S).bind fun v7 => cond (m_c2 .ne v7 x3) (D_m_suits_49 F (D_m_suits_2 F n) x1 x2 x3 S) (some (((8 : Int32) * x1) + x3))))
theorem T_m_suits_2 {l : Launch} {w0 : List mM} {F : Nat} : ∀ (n : Nat) {x1 : Int32} {x2 : Int32} {x3 : Int32} {S : mS} {w : List mM} {r : Int32}, m_RM S w → m_Fq w0 w → D_m_suits_2 F n x1 x2 x3 S = some r → m_Rs l M_277 (2, [(0, .ref 583), (1, .int x1), (2, .int x2), (3, .int x3)], [], w) (fun v w' => v = some (.int r) ∧ m_RM S w' ∧ m_Fq w0 w') 0 0 1 100 := by
  intro n
  induction n with
  | zero => intro x1 x2 x3 S w r h hF h0; cases h0
  | succ n ih =>
    intro x1 x2 x3 S w r h hF h0
    rw [D_m_suits_2] at h0
    refine m_Rs.n0 b_277 (x_iload_n d_277_2 rfl) ?_
    refine m_Rs.n0 b_277 (x_bipush (z := 8) d_277_3 (by decide)) ?_
    cases hc1 : m_c2 .ge x3 (8 : Int32) with
    | true =>
      have h0 := cT hc1 h0
      refine m_Rs.n0 b_277 (x_ict d_277_5 rfl hc1) ?_
      refine m_Rs.n0 b_277 (x_iconst (z := (-1)) d_277_55 (by decide)) ?_
      exact m_Rs.ret b_277 (m_rt_ir d_277_56 rfl rfl) (rI h0 h hF)
    | false =>
      have h0 := cF hc1 h0
      refine m_Rs.n0 b_277 (x_icf d_277_5 rfl hc1) ?_
      refine m_Rs.n0 b_277 (x_aload_n d_277_8 rfl) ?_
      refine m_Rs.n0 b_277 (x_getf d_277_9 rfl h.1 rfl) ?_
      refine m_Rs.n0 b_277 (x_bipush (z := 8) d_277_12 (by decide)) ?_
      refine m_Rs.n0 b_277 (x_iload_n d_277_14 rfl) ?_
      refine m_Rs.n0 b_277 (x_imul d_277_15 rfl) ?_
      refine m_Rs.n0 b_277 (x_iload_n d_277_16 rfl) ?_
      refine m_Rs.n0 b_277 (x_iadd d_277_17 rfl) ?_
      obtain ⟨v2, e3, h0⟩ := bS h0
      refine m_Rs.dgetb b_277 d_277_18 h 17 rfl e3 ?_
      cases hc4 : m_c1 .eq v2 with
      | true =>
        have h0 := cT hc4 h0
        refine m_Rs.n0 b_277 (x_ift d_277_19 rfl hc4) ?_
        exact m_Rs.pick [0, 1, 2, 3] rfl (T_m_suits_49 ih h hF h0)
      | false =>
        have h0 := cF hc4 h0
        refine m_Rs.n0 b_277 (x_iff d_277_19 rfl hc4) ?_
        refine m_Rs.n0 b_277 (x_aload_n d_277_22 rfl) ?_
        refine m_Rs.n0 b_277 (x_bipush (z := 8) d_277_23 (by decide)) ?_
        refine m_Rs.n0 b_277 (x_iload_n d_277_25 rfl) ?_
        refine m_Rs.n0 b_277 (x_imul d_277_26 rfl) ?_
        refine m_Rs.n0 b_277 (x_iload_n d_277_27 rfl) ?_
        refine m_Rs.n0 b_277 (x_iadd d_277_28 rfl) ?_
        refine m_Rs.n0 b_277 (x_bipush (z := 8) d_277_29 (by decide)) ?_
        obtain ⟨v5, e6, h0⟩ := bS h0
        refine m_Rs.callS b_277 (y_cv d_277_31 rfl q_278 (m_isRecv_of rfl h.1) (show m_takeI _ _ = some (_, [_, _, _], []) from rfl) (by simp only [m_okf, List.all_cons, List.all_nil, Bool.and_true, Bool.and_self, m_okv_i, m_okv_l, m_okv_0, m_okv_t, m_okv_at h.1]) rfl) (T_m_told h e6) hF rfl (fun w1 h hF => ?_) (by decide) (by decide)
        refine m_Rs.n0 b_277 (x_iload_n d_277_34 rfl) ?_
        obtain ⟨v7, e8, h0⟩ := bS h0
        refine m_Rs.callS b_277 (y_cs d_277_35 rfl q_279 (show m_takeS _ _ = some (_, [_, _], []) from rfl) (by simp only [m_okf, List.all_cons, List.all_nil, Bool.and_true, Bool.and_self, m_okv_i, m_okv_l, m_okv_0, m_okv_t, m_okv_at h.1]) rfl) (T_m_whichOf h e8) hF rfl (fun w1 h hF => ?_) (by decide) (by decide)
        refine m_Rs.n0 b_277 (x_iload_n d_277_38 rfl) ?_
        cases hc9 : m_c2 .ne v7 x3 with
        | true =>
          have h0 := cT hc9 h0
          refine m_Rs.n0 b_277 (x_ict d_277_39 rfl hc9) ?_
          exact m_Rs.pick [0, 1, 2, 3] rfl (T_m_suits_49 ih h hF h0)
        | false =>
          have h0 := cF hc9 h0
          refine m_Rs.n0 b_277 (x_icf d_277_39 rfl hc9) ?_
          refine m_Rs.n0 b_277 (x_bipush (z := 8) d_277_42 (by decide)) ?_
          refine m_Rs.n0 b_277 (x_iload_n d_277_44 rfl) ?_
          refine m_Rs.n0 b_277 (x_imul d_277_45 rfl) ?_
          refine m_Rs.n0 b_277 (x_iload_n d_277_46 rfl) ?_
          refine m_Rs.n0 b_277 (x_iadd d_277_47 rfl) ?_
          exact m_Rs.ret b_277 (m_rt_ir d_277_48 rfl rfl) (rI h0 h hF)
def D_m_suits (F : Nat) (a0 : Int32) (a1 : Int32) (S : mS) : Option (Int32) := D_m_suits_2 F F a0 a1 (0 : Int32) S
theorem T_m_suits {l : Launch} {w : List mM} {F : Nat} {a0 : Int32} {a1 : Int32} {S : mS} {r : Int32} (h : m_RM S w) (h0 : D_m_suits F a0 a1 S = some r) : m_Rs l M_277 (m_ent M_277 [.ref 583, .int a0, .int a1] w) (fun v w' => v = some (.int r) ∧ m_RM S w' ∧ m_Fq w w') 0 0 1 100 := by
  show m_Rs l M_277 (0, [(0, .ref 583), (1, .int a0), (2, .int a1)], [], w) _ 0 0 1 100
  generalize hw0 : w = w0 at h ⊢
  have hF : m_Fq w0 w0 := m_Fq.refl
  rw [D_m_suits] at h0
  refine m_Rs.n0 b_277 (x_iconst (z := 0) d_277_0 (by decide)) ?_
  refine m_Rs.n0 b_277 (x_istore_n d_277_1 rfl (show m_put1 _ _ _ = [(3, _), (0, _), (1, _), (2, _)] from rfl)) ?_
  exact m_Rs.pick [1, 2, 3, 0] rfl (T_m_suits_2 F h hF h0)
def D_m_isMarked (F : Nat) (a0 : Int32) (a1 : Int32) (S : mS) : Option (Int32) := (cond (m_c2 .eq a1 ((-1) : Int32)) (some (0 : Int32)) ((aget 0 7168 S 604 a1).bind fun v4 => (aget 0 48000 S 622 (a0 + (7 : Int32))).bind fun v6 => cond (m_c2 .lt v4 v6) (some (0 : Int32)) (some (1 : Int32)))).bind fun v9 => (bret v9).bind fun v10 => some v10
theorem T_m_isMarked {l : Launch} {w : List mM} {F : Nat} {a0 : Int32} {a1 : Int32} {S : mS} {r : Int32} (h : m_RM S w) (h0 : D_m_isMarked F a0 a1 S = some r) : m_Rs l M_280 (m_ent M_280 [.ref 583, .int a0, .int a1] w) (fun v w' => v = some (.int r) ∧ m_RM S w' ∧ m_Fq w w') 0 0 0 0 := by
  show m_Rs l M_280 (0, [(0, .ref 583), (1, .int a0), (2, .int a1)], [], w) _ 0 0 0 0
  generalize hw0 : w = w0 at h ⊢
  have hF : m_Fq w0 w0 := m_Fq.refl
  rw [D_m_isMarked] at h0
  refine m_Rs.n0 b_280 (x_iload_n d_280_0 rfl) ?_
  refine m_Rs.n0 b_280 (x_iconst (z := (-1)) d_280_1 (by decide)) ?_
  obtain ⟨v9, e2, h0⟩ := bS h0
  have kk1 : ∀ (xz : Int32) (w1 : List mM), xz = v9 → m_RM S w1 → m_Fq w0 w1 → m_Rs l M_280 (28, [(0, .ref 583), (1, .int a0), (2, .int a1)], [.int xz], w1) (fun v w' => v = some (.int r) ∧ m_RM S w' ∧ m_Fq w0 w') 0 0 0 0 := by
    intro xz w ez h hF
    rw [ez]
    obtain ⟨v10, e11, h0⟩ := bS h0
    exact m_Rs.retb b_280 d_280_28 rfl e11 (rI h0 h hF)
  cases hc3 : m_c2 .eq a1 ((-1) : Int32) with
  | true =>
    have e2 := cT hc3 e2
    refine m_Rs.n0 b_280 (x_ict d_280_2 rfl hc3) ?_
    refine m_Rs.n0 b_280 (x_iconst (z := 0) d_280_27 (by decide)) ?_
    exact kk1 _ _ (Option.some.inj e2) h hF
  | false =>
    have e2 := cF hc3 e2
    refine m_Rs.n0 b_280 (x_icf d_280_2 rfl hc3) ?_
    refine m_Rs.n0 b_280 (x_aload_n d_280_5 rfl) ?_
    refine m_Rs.n0 b_280 (x_getf d_280_6 rfl h.1 rfl) ?_
    refine m_Rs.n0 b_280 (x_iload_n d_280_9 rfl) ?_
    obtain ⟨v4, e5, e2⟩ := bS e2
    refine m_Rs.dget b_280 d_280_10 h 20 rfl e5 ?_
    refine m_Rs.n0 b_280 (x_aload_n d_280_11 rfl) ?_
    refine m_Rs.n0 b_280 (x_getf d_280_12 rfl h.1 rfl) ?_
    refine m_Rs.n0 b_280 (x_iload_n d_280_15 rfl) ?_
    refine m_Rs.n0 b_280 (x_bipush (z := 7) d_280_16 (by decide)) ?_
    refine m_Rs.n0 b_280 (x_iadd d_280_18 rfl) ?_
    obtain ⟨v6, e7, e2⟩ := bS e2
    refine m_Rs.dget b_280 d_280_19 h 38 rfl e7 ?_
    cases hc8 : m_c2 .lt v4 v6 with
    | true =>
      have e2 := cT hc8 e2
      refine m_Rs.n0 b_280 (x_ict d_280_20 rfl hc8) ?_
      refine m_Rs.n0 b_280 (x_iconst (z := 0) d_280_27 (by decide)) ?_
      exact kk1 _ _ (Option.some.inj e2) h hF
    | false =>
      have e2 := cF hc8 e2
      refine m_Rs.n0 b_280 (x_icf d_280_20 rfl hc8) ?_
      refine m_Rs.n0 b_280 (x_iconst (z := 1) d_280_23 (by decide)) ?_
      refine m_Rs.n0 b_280 (x_goto d_280_24 rfl) ?_
      exact kk1 _ _ (Option.some.inj e2) h hF
def D_m_asks (F : Nat) (a0 : Int32) (a1 : Int32) (S : mS) : Option (Int32) := (aget 0 6900 S 620 (((23 : Int32) * a0) + a1)).bind fun v1 => some v1
theorem T_m_asks {l : Launch} {w : List mM} {F : Nat} {a0 : Int32} {a1 : Int32} {S : mS} {r : Int32} (h : m_RM S w) (h0 : D_m_asks F a0 a1 S = some r) : m_Rs l M_282 (m_ent M_282 [.ref 583, .int a0, .int a1] w) (fun v w' => v = some (.int r) ∧ m_RM S w' ∧ m_Fq w w') 0 0 0 0 := by
  show m_Rs l M_282 (0, [(0, .ref 583), (1, .int a0), (2, .int a1)], [], w) _ 0 0 0 0
  generalize hw0 : w = w0 at h ⊢
  have hF : m_Fq w0 w0 := m_Fq.refl
  rw [D_m_asks] at h0
  refine m_Rs.n0 b_282 (x_aload_n d_282_0 rfl) ?_
  refine m_Rs.n0 b_282 (x_getf d_282_1 rfl h.1 rfl) ?_
  refine m_Rs.n0 b_282 (x_bipush (z := 23) d_282_4 (by decide)) ?_
  refine m_Rs.n0 b_282 (x_iload_n d_282_6 rfl) ?_
  refine m_Rs.n0 b_282 (x_imul d_282_7 rfl) ?_
  refine m_Rs.n0 b_282 (x_iload_n d_282_8 rfl) ?_
  refine m_Rs.n0 b_282 (x_iadd d_282_9 rfl) ?_
  obtain ⟨v1, e2, h0⟩ := bS h0
  refine m_Rs.dget b_282 d_282_10 h 36 rfl e2 ?_
  exact m_Rs.ret b_282 (m_rt_ir d_282_11 rfl rfl) (rI h0 h hF)
def D_m_isForced (F : Nat) (a0 : Int32) (S : mS) : Option (Int32) := (aget 0 48000 S 622 (a0 + (8 : Int32))).bind fun v1 => (cond (m_c2 .eq v1 (1 : Int32)) (some (1 : Int32)) ((aget 0 48000 S 622 (a0 + (2 : Int32))).bind fun v6 => cond (m_c2 .eq v6 ((-1) : Int32)) (some (0 : Int32)) ((aget 0 48000 S 622 (a0 + (2 : Int32))).bind fun v9 => (D_m_asks F v9 (16 : Int32) S).bind fun v11 => cond (m_c2 .ne v11 (1 : Int32)) (some (0 : Int32)) (some (1 : Int32))))).bind fun v14 => (bret v14).bind fun v15 => some v15
theorem T_m_isForced {l : Launch} {w : List mM} {F : Nat} {a0 : Int32} {S : mS} {r : Int32} (h : m_RM S w) (h0 : D_m_isForced F a0 S = some r) : m_Rs l M_281 (m_ent M_281 [.ref 583, .int a0] w) (fun v w' => v = some (.int r) ∧ m_RM S w' ∧ m_Fq w w') 0 0 1 100 := by
  show m_Rs l M_281 (0, [(0, .ref 583), (1, .int a0)], [], w) _ 0 0 1 100
  generalize hw0 : w = w0 at h ⊢
  have hF : m_Fq w0 w0 := m_Fq.refl
  rw [D_m_isForced] at h0
  refine m_Rs.n0 b_281 (x_aload_n d_281_0 rfl) ?_
  refine m_Rs.n0 b_281 (x_getf d_281_1 rfl h.1 rfl) ?_
  refine m_Rs.n0 b_281 (x_iload_n d_281_4 rfl) ?_
  refine m_Rs.n0 b_281 (x_bipush (z := 8) d_281_5 (by decide)) ?_
  refine m_Rs.n0 b_281 (x_iadd d_281_7 rfl) ?_
  obtain ⟨v1, e2, h0⟩ := bS h0
  refine m_Rs.dget b_281 d_281_8 h 38 rfl e2 ?_
  refine m_Rs.n0 b_281 (x_iconst (z := 1) d_281_9 (by decide)) ?_
  obtain ⟨v14, e4, h0⟩ := bS h0
  have kk3 : ∀ (xz : Int32) (w1 : List mM), xz = v14 → m_RM S w1 → m_Fq w0 w1 → m_Rs l M_281 (48, [(0, .ref 583), (1, .int a0)], [.int xz], w1) (fun v w' => v = some (.int r) ∧ m_RM S w' ∧ m_Fq w0 w') 0 0 1 100 := by
    intro xz w ez h hF
    rw [ez]
    obtain ⟨v15, e16, h0⟩ := bS h0
    exact m_Rs.retb b_281 d_281_48 rfl e16 (rI h0 h hF)
  cases hc5 : m_c2 .eq v1 (1 : Int32) with
  | true =>
    have e4 := cT hc5 e4
    refine m_Rs.n0 b_281 (x_ict d_281_10 rfl hc5) ?_
    refine m_Rs.n0 b_281 (x_iconst (z := 1) d_281_43 (by decide)) ?_
    refine m_Rs.n0 b_281 (x_goto d_281_44 rfl) ?_
    exact kk3 _ _ (Option.some.inj e4) h hF
  | false =>
    have e4 := cF hc5 e4
    refine m_Rs.n0 b_281 (x_icf d_281_10 rfl hc5) ?_
    refine m_Rs.n0 b_281 (x_aload_n d_281_13 rfl) ?_
    refine m_Rs.n0 b_281 (x_getf d_281_14 rfl h.1 rfl) ?_
    refine m_Rs.n0 b_281 (x_iload_n d_281_17 rfl) ?_
    refine m_Rs.n0 b_281 (x_iconst (z := 2) d_281_18 (by decide)) ?_
    refine m_Rs.n0 b_281 (x_iadd d_281_19 rfl) ?_
    obtain ⟨v6, e7, e4⟩ := bS e4
    refine m_Rs.dget b_281 d_281_20 h 38 rfl e7 ?_
    refine m_Rs.n0 b_281 (x_iconst (z := (-1)) d_281_21 (by decide)) ?_
    cases hc8 : m_c2 .eq v6 ((-1) : Int32) with
    | true =>
      have e4 := cT hc8 e4
      refine m_Rs.n0 b_281 (x_ict d_281_22 rfl hc8) ?_
      refine m_Rs.n0 b_281 (x_iconst (z := 0) d_281_47 (by decide)) ?_
      exact kk3 _ _ (Option.some.inj e4) h hF
    | false =>
      have e4 := cF hc8 e4
      refine m_Rs.n0 b_281 (x_icf d_281_22 rfl hc8) ?_
      refine m_Rs.n0 b_281 (x_aload_n d_281_25 rfl) ?_
      refine m_Rs.n0 b_281 (x_aload_n d_281_26 rfl) ?_
      refine m_Rs.n0 b_281 (x_getf d_281_27 rfl h.1 rfl) ?_
      refine m_Rs.n0 b_281 (x_iload_n d_281_30 rfl) ?_
      refine m_Rs.n0 b_281 (x_iconst (z := 2) d_281_31 (by decide)) ?_
      refine m_Rs.n0 b_281 (x_iadd d_281_32 rfl) ?_
      obtain ⟨v9, e10, e4⟩ := bS e4
      refine m_Rs.dget b_281 d_281_33 h 38 rfl e10 ?_
      refine m_Rs.n0 b_281 (x_bipush (z := 16) d_281_34 (by decide)) ?_
      obtain ⟨v11, e12, e4⟩ := bS e4
      refine m_Rs.callS b_281 (y_cv d_281_36 rfl q_282 (m_isRecv_of rfl h.1) (show m_takeI _ _ = some (_, [_, _, _], []) from rfl) (by simp only [m_okf, List.all_cons, List.all_nil, Bool.and_true, Bool.and_self, m_okv_i, m_okv_l, m_okv_0, m_okv_t, m_okv_at h.1]) rfl) (T_m_asks h e12) hF rfl (fun w1 h hF => ?_) (by decide) (by decide)
      refine m_Rs.n0 b_281 (x_iconst (z := 1) d_281_39 (by decide)) ?_
      cases hc13 : m_c2 .ne v11 (1 : Int32) with
      | true =>
        have e4 := cT hc13 e4
        refine m_Rs.n0 b_281 (x_ict d_281_40 rfl hc13) ?_
        refine m_Rs.n0 b_281 (x_iconst (z := 0) d_281_47 (by decide)) ?_
        exact kk3 _ _ (Option.some.inj e4) h hF
      | false =>
        have e4 := cF hc13 e4
        refine m_Rs.n0 b_281 (x_icf d_281_40 rfl hc13) ?_
        refine m_Rs.n0 b_281 (x_iconst (z := 1) d_281_43 (by decide)) ?_
        refine m_Rs.n0 b_281 (x_goto d_281_44 rfl) ?_
        exact kk3 _ _ (Option.some.inj e4) h hF
def D_m_tagOf (F : Nat) (a0 : Int32) (S : mS) : Option (Int32) := (D_m_told F a0 (0 : Int32) S).bind fun v1 => some (((8 : Int32) * v1) + (a0 - a0 / (8 : Int32) * (8 : Int32)))
theorem T_m_tagOf {l : Launch} {w : List mM} {F : Nat} {a0 : Int32} {S : mS} {r : Int32} (h : m_RM S w) (h0 : D_m_tagOf F a0 S = some r) : m_Rs l M_284 (m_ent M_284 [.ref 583, .int a0] w) (fun v w' => v = some (.int r) ∧ m_RM S w' ∧ m_Fq w w') 0 0 1 100 := by
  show m_Rs l M_284 (0, [(0, .ref 583), (1, .int a0)], [], w) _ 0 0 1 100
  generalize hw0 : w = w0 at h ⊢
  have hF : m_Fq w0 w0 := m_Fq.refl
  rw [D_m_tagOf] at h0
  refine m_Rs.n0 b_284 (x_bipush (z := 8) d_284_0 (by decide)) ?_
  refine m_Rs.n0 b_284 (x_aload_n d_284_2 rfl) ?_
  refine m_Rs.n0 b_284 (x_iload_n d_284_3 rfl) ?_
  refine m_Rs.n0 b_284 (x_iconst (z := 0) d_284_4 (by decide)) ?_
  obtain ⟨v1, e2, h0⟩ := bS h0
  refine m_Rs.callS b_284 (y_cv d_284_5 rfl q_278 (m_isRecv_of rfl h.1) (show m_takeI _ _ = some (_, [_, _, _], [_]) from rfl) (by simp only [m_okf, List.all_cons, List.all_nil, Bool.and_true, Bool.and_self, m_okv_i, m_okv_l, m_okv_0, m_okv_t, m_okv_at h.1]) rfl) (T_m_told h e2) hF rfl (fun w1 h hF => ?_) (by decide) (by decide)
  refine m_Rs.n0 b_284 (x_imul d_284_8 rfl) ?_
  refine m_Rs.n0 b_284 (x_iload_n d_284_9 rfl) ?_
  refine m_Rs.n0 b_284 (x_bipush (z := 8) d_284_10 (by decide)) ?_
  refine m_Rs.n0 b_284 (x_irem d_284_12 (by decide) rfl) ?_
  refine m_Rs.n0 b_284 (x_iadd d_284_13 rfl) ?_
  exact m_Rs.ret b_284 (m_rt_ir d_284_14 rfl rfl) (rI h0 h hF)
