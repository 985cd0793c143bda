/-! Texts of the class as guarded functions. Written by wip/tool/textc3.py. -/
theorem q_219 : m_mt[219]? = some M_219 := by rfl
theorem q_213 : m_mt[213]? = some M_213 := by rfl
theorem q_158 : m_mt[158]? = some M_158 := by rfl
theorem q_157 : m_mt[157]? = some M_157 := by rfl
theorem q_237 : m_mt[237]? = some M_237 := by rfl
theorem b_219 : m_bOk M_219 := (m_mt_ok M_219 (List.mem_of_getElem? q_219)).body
theorem b_213 : m_bOk M_213 := (m_mt_ok M_213 (List.mem_of_getElem? q_213)).body
theorem b_158 : m_bOk M_158 := (m_mt_ok M_158 (List.mem_of_getElem? q_158)).body
theorem b_157 : m_bOk M_157 := (m_mt_ok M_157 (List.mem_of_getElem? q_157)).body
theorem b_237 : m_bOk M_237 := (m_mt_ok M_237 (List.mem_of_getElem? q_237)).body
theorem d_157_0 : m_dn M_157 0 (.iload_n 1) 1 1 := by decide +kernel
theorem d_157_1 : m_dn M_157 1 (.ifCond .lt 14) 3 4 := by decide +kernel
theorem d_157_12 : m_dn M_157 12 (.if_icmp .lt 5) 3 15 := by decide +kernel
theorem d_157_15 : m_dn M_157 15 (.iconst (-1)) 1 16 := by decide +kernel
theorem d_157_16 : m_dn M_157 16 (.ireturn) 1 17 := by decide +kernel
theorem d_157_17 : m_dn M_157 17 (.aload_n 0) 1 18 := by decide +kernel
theorem d_157_18 : m_dn M_157 18 (.aload_n 0) 1 19 := by decide +kernel
theorem d_157_19 : m_dn M_157 19 (.getfield 48) 3 22 := by decide +kernel
theorem d_157_22 : m_dn M_157 22 (.iload_n 1) 1 23 := by decide +kernel
theorem d_157_23 : m_dn M_157 23 (.invokevirtual 187) 3 26 := by decide +kernel
theorem d_157_26 : m_dn M_157 26 (.checkcast 102) 3 29 := by decide +kernel
theorem d_157_29 : m_dn M_157 29 (.invokevirtual 230) 3 32 := by decide +kernel
theorem d_157_32 : m_dn M_157 32 (.astore_n 3) 1 33 := by decide +kernel
theorem d_157_33 : m_dn M_157 33 (.iload_n 2) 1 34 := by decide +kernel
theorem d_157_34 : m_dn M_157 34 (.ifCond .lt 11) 3 37 := by decide +kernel
theorem d_157_37 : m_dn M_157 37 (.iload_n 2) 1 38 := by decide +kernel
theorem d_157_38 : m_dn M_157 38 (.aload_n 3) 1 39 := by decide +kernel
theorem d_157_39 : m_dn M_157 39 (.invokevirtual 234) 3 42 := by decide +kernel
theorem d_157_4 : m_dn M_157 4 (.iload_n 1) 1 5 := by decide +kernel
theorem d_157_42 : m_dn M_157 42 (.if_icmp .lt 5) 3 45 := by decide +kernel
theorem d_157_45 : m_dn M_157 45 (.iconst (-1)) 1 46 := by decide +kernel
theorem d_157_46 : m_dn M_157 46 (.ireturn) 1 47 := by decide +kernel
theorem d_157_47 : m_dn M_157 47 (.aload_n 3) 1 48 := by decide +kernel
theorem d_157_48 : m_dn M_157 48 (.iload_n 2) 1 49 := by decide +kernel
theorem d_157_49 : m_dn M_157 49 (.invokevirtual 243) 3 52 := by decide +kernel
theorem d_157_5 : m_dn M_157 5 (.aload_n 0) 1 6 := by decide +kernel
theorem d_157_52 : m_dn M_157 52 (.ireturn) 1 53 := by decide +kernel
theorem d_157_6 : m_dn M_157 6 (.getfield 48) 3 9 := by decide +kernel
theorem d_157_9 : m_dn M_157 9 (.invokevirtual 94) 3 12 := by decide +kernel
theorem d_158_0 : m_dn M_158 0 (.aload_n 1) 1 1 := by decide +kernel
theorem d_158_1 : m_dn M_158 1 (.getfield 531) 3 4 := by decide +kernel
theorem d_158_11 : m_dn M_158 11 (.invokevirtual 545) 3 14 := by decide +kernel
theorem d_158_14 : m_dn M_158 14 (.ifCond .eq 30) 3 17 := by decide +kernel
theorem d_158_17 : m_dn M_158 17 (.aload_n 0) 1 18 := by decide +kernel
theorem d_158_18 : m_dn M_158 18 (.getfield 54) 3 21 := by decide +kernel
theorem d_158_21 : m_dn M_158 21 (.iconst 0) 1 22 := by decide +kernel
theorem d_158_22 : m_dn M_158 22 (.invokevirtual 546) 3 25 := by decide +kernel
theorem d_158_25 : m_dn M_158 25 (.aload_n 1) 1 26 := by decide +kernel
theorem d_158_26 : m_dn M_158 26 (.aload_n 0) 1 27 := by decide +kernel
theorem d_158_27 : m_dn M_158 27 (.getfield 54) 3 30 := by decide +kernel
theorem d_158_30 : m_dn M_158 30 (.invokevirtual 549) 3 33 := by decide +kernel
theorem d_158_33 : m_dn M_158 33 (.aload_n 1) 1 34 := by decide +kernel
theorem d_158_34 : m_dn M_158 34 (.aload_n 0) 1 35 := by decide +kernel
theorem d_158_35 : m_dn M_158 35 (.getfield 54) 3 38 := by decide +kernel
theorem d_158_38 : m_dn M_158 38 (.invokevirtual 553) 3 41 := by decide +kernel
theorem d_158_4 : m_dn M_158 4 (.ifCond .eq 40) 3 7 := by decide +kernel
theorem d_158_41 : m_dn M_158 41 (.putfield 541) 3 44 := by decide +kernel
theorem d_158_44 : m_dn M_158 44 (.aload_n 1) 1 45 := by decide +kernel
theorem d_158_45 : m_dn M_158 45 (.getfield 541) 3 48 := by decide +kernel
theorem d_158_48 : m_dn M_158 48 (.areturn) 1 49 := by decide +kernel
theorem d_158_7 : m_dn M_158 7 (.aload_n 1) 1 8 := by decide +kernel
theorem d_158_8 : m_dn M_158 8 (.getfield 541) 3 11 := by decide +kernel
theorem d_213_0 : m_dn M_213 0 (.aload_n 1) 1 1 := by decide +kernel
theorem d_213_1 : m_dn M_213 1 (.aload_n 0) 1 2 := by decide +kernel
theorem d_213_10 : m_dn M_213 10 (.invokevirtual 108) 3 13 := by decide +kernel
theorem d_213_13 : m_dn M_213 13 (.aload_n 0) 1 14 := by decide +kernel
theorem d_213_14 : m_dn M_213 14 (.invokevirtual 111) 3 17 := by decide +kernel
theorem d_213_17 : m_dn M_213 17 (.invokevirtual 115) 3 20 := by decide +kernel
theorem d_213_2 : m_dn M_213 2 (.getfield 84) 3 5 := by decide +kernel
theorem d_213_20 : m_dn M_213 20 (.bipush 10) 2 22 := by decide +kernel
theorem d_213_22 : m_dn M_213 22 (.invokevirtual 108) 3 25 := by decide +kernel
theorem d_213_25 : m_dn M_213 25 (.pop) 1 26 := by decide +kernel
theorem d_213_26 : m_dn M_213 26 (.aload_n 0) 1 27 := by decide +kernel
theorem d_213_27 : m_dn M_213 27 (.getfield 40) 3 30 := by decide +kernel
theorem d_213_30 : m_dn M_213 30 (.ifCond .eq 8) 3 33 := by decide +kernel
theorem d_213_33 : m_dn M_213 33 (.aload_n 0) 1 34 := by decide +kernel
theorem d_213_34 : m_dn M_213 34 (.aload_n 1) 1 35 := by decide +kernel
theorem d_213_35 : m_dn M_213 35 (.invokevirtual 118) 3 38 := by decide +kernel
theorem d_213_38 : m_dn M_213 38 (.aload_n 1) 1 39 := by decide +kernel
theorem d_213_39 : m_dn M_213 39 (.bipush 10) 2 41 := by decide +kernel
theorem d_213_41 : m_dn M_213 41 (.invokevirtual 108) 3 44 := by decide +kernel
theorem d_213_44 : m_dn M_213 44 (.pop) 1 45 := by decide +kernel
theorem d_213_45 : m_dn M_213 45 (.aload_n 0) 1 46 := by decide +kernel
theorem d_213_46 : m_dn M_213 46 (.getfield 70) 3 49 := by decide +kernel
theorem d_213_49 : m_dn M_213 49 (.istore_n 2) 1 50 := by decide +kernel
theorem d_213_5 : m_dn M_213 5 (.invokevirtual 102) 3 8 := by decide +kernel
theorem d_213_50 : m_dn M_213 50 (.iload_n 2) 1 51 := by decide +kernel
theorem d_213_51 : m_dn M_213 51 (.aload_n 0) 1 52 := by decide +kernel
theorem d_213_52 : m_dn M_213 52 (.getfield 70) 3 55 := by decide +kernel
theorem d_213_55 : m_dn M_213 55 (.aload_n 0) 1 56 := by decide +kernel
theorem d_213_56 : m_dn M_213 56 (.getfield 87) 3 59 := by decide +kernel
theorem d_213_59 : m_dn M_213 59 (.iadd) 1 60 := by decide +kernel
theorem d_213_60 : m_dn M_213 60 (.if_icmp .ge 39) 3 63 := by decide +kernel
theorem d_213_63 : m_dn M_213 63 (.aload_n 0) 1 64 := by decide +kernel
theorem d_213_64 : m_dn M_213 64 (.getfield 29) 3 67 := by decide +kernel
theorem d_213_67 : m_dn M_213 67 (.ifCond .ne 32) 3 70 := by decide +kernel
theorem d_213_70 : m_dn M_213 70 (.aload_n 1) 1 71 := by decide +kernel
theorem d_213_71 : m_dn M_213 71 (.aload_n 0) 1 72 := by decide +kernel
theorem d_213_72 : m_dn M_213 72 (.getfield 59) 3 75 := by decide +kernel
theorem d_213_75 : m_dn M_213 75 (.bipush 7) 2 77 := by decide +kernel
theorem d_213_77 : m_dn M_213 77 (.iload_n 2) 1 78 := by decide +kernel
theorem d_213_78 : m_dn M_213 78 (.imul) 1 79 := by decide +kernel
theorem d_213_79 : m_dn M_213 79 (.iadd) 1 80 := by decide +kernel
theorem d_213_8 : m_dn M_213 8 (.bipush 32) 2 10 := by decide +kernel
theorem d_213_80 : m_dn M_213 80 (.iload_n 2) 1 81 := by decide +kernel
theorem d_213_81 : m_dn M_213 81 (.iconst 4) 1 82 := by decide +kernel
theorem d_213_82 : m_dn M_213 82 (.ishr) 1 83 := by decide +kernel
theorem d_213_83 : m_dn M_213 83 (.iadd) 1 84 := by decide +kernel
theorem d_213_84 : m_dn M_213 84 (.sipush 255) 3 87 := by decide +kernel
theorem d_213_87 : m_dn M_213 87 (.iand) 1 88 := by decide +kernel
theorem d_213_88 : m_dn M_213 88 (.i2c) 1 89 := by decide +kernel
theorem d_213_89 : m_dn M_213 89 (.invokevirtual 108) 3 92 := by decide +kernel
theorem d_213_92 : m_dn M_213 92 (.pop) 1 93 := by decide +kernel
theorem d_213_93 : m_dn M_213 93 (.iinc 2 1) 3 96 := by decide +kernel
theorem d_213_96 : m_dn M_213 96 (.goto (-46)) 3 99 := by decide +kernel
theorem d_213_99 : m_dn M_213 99 (.return_) 1 100 := by decide +kernel
theorem d_219_0 : m_dn M_219 0 (.aload_n 1) 1 1 := by decide +kernel
theorem d_219_1 : m_dn M_219 1 (.ldc 122) 2 3 := by decide +kernel
theorem d_219_102 : m_dn M_219 102 (.aload_n 0) 1 103 := by decide +kernel
theorem d_219_103 : m_dn M_219 103 (.getfield 48) 3 106 := by decide +kernel
theorem d_219_106 : m_dn M_219 106 (.iconst 1) 1 107 := by decide +kernel
theorem d_219_107 : m_dn M_219 107 (.iand) 1 108 := by decide +kernel
theorem d_219_108 : m_dn M_219 108 (.ifCond .eq 8) 3 111 := by decide +kernel
theorem d_219_111 : m_dn M_219 111 (.ldc 138) 2 113 := by decide +kernel
theorem d_219_113 : m_dn M_219 113 (.goto 5) 3 116 := by decide +kernel
theorem d_219_116 : m_dn M_219 116 (.ldc 9) 2 118 := by decide +kernel
theorem d_219_118 : m_dn M_219 118 (.invokevirtual 115) 3 121 := by decide +kernel
theorem d_219_12 : m_dn M_219 12 (.imul) 1 13 := by decide +kernel
theorem d_219_121 : m_dn M_219 121 (.pop) 1 122 := by decide +kernel
theorem d_219_122 : m_dn M_219 122 (.aload_n 1) 1 123 := by decide +kernel
theorem d_219_123 : m_dn M_219 123 (.aload_n 0) 1 124 := by decide +kernel
theorem d_219_124 : m_dn M_219 124 (.getfield 48) 3 127 := by decide +kernel
theorem d_219_127 : m_dn M_219 127 (.iconst 3) 1 128 := by decide +kernel
theorem d_219_128 : m_dn M_219 128 (.if_icmp .ne 8) 3 131 := by decide +kernel
theorem d_219_13 : m_dn M_219 13 (.aload_n 0) 1 14 := by decide +kernel
theorem d_219_131 : m_dn M_219 131 (.ldc 140) 2 133 := by decide +kernel
theorem d_219_133 : m_dn M_219 133 (.goto 5) 3 136 := by decide +kernel
theorem d_219_136 : m_dn M_219 136 (.ldc 9) 2 138 := by decide +kernel
theorem d_219_138 : m_dn M_219 138 (.invokevirtual 115) 3 141 := by decide +kernel
theorem d_219_14 : m_dn M_219 14 (.getfield 44) 3 17 := by decide +kernel
theorem d_219_141 : m_dn M_219 141 (.aload_n 0) 1 142 := by decide +kernel
theorem d_219_142 : m_dn M_219 142 (.getfield 48) 3 145 := by decide +kernel
theorem d_219_145 : m_dn M_219 145 (.iconst 2) 1 146 := by decide +kernel
theorem d_219_146 : m_dn M_219 146 (.iand) 1 147 := by decide +kernel
theorem d_219_147 : m_dn M_219 147 (.ifCond .eq 8) 3 150 := by decide +kernel
theorem d_219_150 : m_dn M_219 150 (.ldc 142) 2 152 := by decide +kernel
theorem d_219_152 : m_dn M_219 152 (.goto 5) 3 155 := by decide +kernel
theorem d_219_155 : m_dn M_219 155 (.ldc 9) 2 157 := by decide +kernel
theorem d_219_157 : m_dn M_219 157 (.invokevirtual 115) 3 160 := by decide +kernel
theorem d_219_160 : m_dn M_219 160 (.bipush 10) 2 162 := by decide +kernel
theorem d_219_162 : m_dn M_219 162 (.invokevirtual 108) 3 165 := by decide +kernel
theorem d_219_165 : m_dn M_219 165 (.pop) 1 166 := by decide +kernel
theorem d_219_166 : m_dn M_219 166 (.aload_n 0) 1 167 := by decide +kernel
theorem d_219_167 : m_dn M_219 167 (.getfield 84) 3 170 := by decide +kernel
theorem d_219_17 : m_dn M_219 17 (.iadd) 1 18 := by decide +kernel
theorem d_219_170 : m_dn M_219 170 (.sipush 206) 3 173 := by decide +kernel
theorem d_219_173 : m_dn M_219 173 (.if_icmp .ne 55) 3 176 := by decide +kernel
theorem d_219_176 : m_dn M_219 176 (.aload_n 1) 1 177 := by decide +kernel
theorem d_219_177 : m_dn M_219 177 (.ldc 144) 2 179 := by decide +kernel
theorem d_219_179 : m_dn M_219 179 (.invokevirtual 115) 3 182 := by decide +kernel
theorem d_219_18 : m_dn M_219 18 (.invokevirtual 102) 3 21 := by decide +kernel
theorem d_219_182 : m_dn M_219 182 (.aload_n 0) 1 183 := by decide +kernel
theorem d_219_183 : m_dn M_219 183 (.getfield 70) 3 186 := by decide +kernel
theorem d_219_186 : m_dn M_219 186 (.invokevirtual 102) 3 189 := by decide +kernel
theorem d_219_189 : m_dn M_219 189 (.bipush 45) 2 191 := by decide +kernel
theorem d_219_191 : m_dn M_219 191 (.invokevirtual 108) 3 194 := by decide +kernel
theorem d_219_194 : m_dn M_219 194 (.aload_n 0) 1 195 := by decide +kernel
theorem d_219_195 : m_dn M_219 195 (.getfield 70) 3 198 := by decide +kernel
theorem d_219_198 : m_dn M_219 198 (.aload_n 0) 1 199 := by decide +kernel
theorem d_219_199 : m_dn M_219 199 (.getfield 87) 3 202 := by decide +kernel
theorem d_219_202 : m_dn M_219 202 (.iadd) 1 203 := by decide +kernel
theorem d_219_203 : m_dn M_219 203 (.iconst 1) 1 204 := by decide +kernel
theorem d_219_204 : m_dn M_219 204 (.isub) 1 205 := by decide +kernel
theorem d_219_205 : m_dn M_219 205 (.invokevirtual 102) 3 208 := by decide +kernel
theorem d_219_208 : m_dn M_219 208 (.pop) 1 209 := by decide +kernel
theorem d_219_209 : m_dn M_219 209 (.aload_n 1) 1 210 := by decide +kernel
theorem d_219_21 : m_dn M_219 21 (.ldc 124) 2 23 := by decide +kernel
theorem d_219_210 : m_dn M_219 210 (.bipush 47) 2 212 := by decide +kernel
theorem d_219_212 : m_dn M_219 212 (.invokevirtual 108) 3 215 := by decide +kernel
theorem d_219_215 : m_dn M_219 215 (.aload_n 0) 1 216 := by decide +kernel
theorem d_219_216 : m_dn M_219 216 (.getfield 52) 3 219 := by decide +kernel
theorem d_219_219 : m_dn M_219 219 (.invokevirtual 102) 3 222 := by decide +kernel
theorem d_219_222 : m_dn M_219 222 (.bipush 10) 2 224 := by decide +kernel
theorem d_219_224 : m_dn M_219 224 (.invokevirtual 108) 3 227 := by decide +kernel
theorem d_219_227 : m_dn M_219 227 (.pop) 1 228 := by decide +kernel
theorem d_219_228 : m_dn M_219 228 (.aload_n 0) 1 229 := by decide +kernel
theorem d_219_229 : m_dn M_219 229 (.getfield 84) 3 232 := by decide +kernel
theorem d_219_23 : m_dn M_219 23 (.invokevirtual 115) 3 26 := by decide +kernel
theorem d_219_232 : m_dn M_219 232 (.sipush 416) 3 235 := by decide +kernel
theorem d_219_235 : m_dn M_219 235 (.if_icmp .ne 22) 3 238 := by decide +kernel
theorem d_219_238 : m_dn M_219 238 (.aload_n 1) 1 239 := by decide +kernel
theorem d_219_239 : m_dn M_219 239 (.ldc 146) 2 241 := by decide +kernel
theorem d_219_241 : m_dn M_219 241 (.invokevirtual 115) 3 244 := by decide +kernel
theorem d_219_244 : m_dn M_219 244 (.aload_n 0) 1 245 := by decide +kernel
theorem d_219_245 : m_dn M_219 245 (.getfield 52) 3 248 := by decide +kernel
theorem d_219_248 : m_dn M_219 248 (.invokevirtual 102) 3 251 := by decide +kernel
theorem d_219_251 : m_dn M_219 251 (.bipush 10) 2 253 := by decide +kernel
theorem d_219_253 : m_dn M_219 253 (.invokevirtual 108) 3 256 := by decide +kernel
theorem d_219_256 : m_dn M_219 256 (.pop) 1 257 := by decide +kernel
theorem d_219_257 : m_dn M_219 257 (.aload_n 0) 1 258 := by decide +kernel
theorem d_219_258 : m_dn M_219 258 (.getfield 84) 3 261 := by decide +kernel
theorem d_219_26 : m_dn M_219 26 (.pop) 1 27 := by decide +kernel
theorem d_219_261 : m_dn M_219 261 (.sipush 200) 3 264 := by decide +kernel
theorem d_219_264 : m_dn M_219 264 (.if_icmp .eq 13) 3 267 := by decide +kernel
theorem d_219_267 : m_dn M_219 267 (.aload_n 0) 1 268 := by decide +kernel
theorem d_219_268 : m_dn M_219 268 (.getfield 84) 3 271 := by decide +kernel
theorem d_219_27 : m_dn M_219 27 (.aload_n 1) 1 28 := by decide +kernel
theorem d_219_271 : m_dn M_219 271 (.sipush 206) 3 274 := by decide +kernel
theorem d_219_274 : m_dn M_219 274 (.if_icmp .ne 22) 3 277 := by decide +kernel
theorem d_219_277 : m_dn M_219 277 (.aload_n 1) 1 278 := by decide +kernel
theorem d_219_278 : m_dn M_219 278 (.ldc 148) 2 280 := by decide +kernel
theorem d_219_28 : m_dn M_219 28 (.ldc 126) 2 30 := by decide +kernel
theorem d_219_280 : m_dn M_219 280 (.invokevirtual 115) 3 283 := by decide +kernel
theorem d_219_283 : m_dn M_219 283 (.aload_n 0) 1 284 := by decide +kernel
theorem d_219_284 : m_dn M_219 284 (.getfield 87) 3 287 := by decide +kernel
theorem d_219_287 : m_dn M_219 287 (.invokevirtual 102) 3 290 := by decide +kernel
theorem d_219_290 : m_dn M_219 290 (.bipush 10) 2 292 := by decide +kernel
theorem d_219_292 : m_dn M_219 292 (.invokevirtual 108) 3 295 := by decide +kernel
theorem d_219_295 : m_dn M_219 295 (.pop) 1 296 := by decide +kernel
theorem d_219_296 : m_dn M_219 296 (.return_) 1 297 := by decide +kernel
theorem d_219_3 : m_dn M_219 3 (.invokevirtual 115) 3 6 := by decide +kernel
theorem d_219_30 : m_dn M_219 30 (.invokevirtual 115) 3 33 := by decide +kernel
theorem d_219_33 : m_dn M_219 33 (.aload_n 0) 1 34 := by decide +kernel
theorem d_219_34 : m_dn M_219 34 (.getfield 90) 3 37 := by decide +kernel
theorem d_219_37 : m_dn M_219 37 (.invokevirtual 102) 3 40 := by decide +kernel
theorem d_219_40 : m_dn M_219 40 (.bipush 10) 2 42 := by decide +kernel
theorem d_219_42 : m_dn M_219 42 (.invokevirtual 108) 3 45 := by decide +kernel
theorem d_219_45 : m_dn M_219 45 (.pop) 1 46 := by decide +kernel
theorem d_219_46 : m_dn M_219 46 (.aload_n 1) 1 47 := by decide +kernel
theorem d_219_47 : m_dn M_219 47 (.ldc 128) 2 49 := by decide +kernel
theorem d_219_49 : m_dn M_219 49 (.invokevirtual 115) 3 52 := by decide +kernel
theorem d_219_52 : m_dn M_219 52 (.aload_n 0) 1 53 := by decide +kernel
theorem d_219_53 : m_dn M_219 53 (.getfield 93) 3 56 := by decide +kernel
theorem d_219_56 : m_dn M_219 56 (.iconst 1) 1 57 := by decide +kernel
theorem d_219_57 : m_dn M_219 57 (.if_icmp .ne 8) 3 60 := by decide +kernel
theorem d_219_6 : m_dn M_219 6 (.bipush 8) 2 8 := by decide +kernel
theorem d_219_60 : m_dn M_219 60 (.ldc 130) 2 62 := by decide +kernel
theorem d_219_62 : m_dn M_219 62 (.goto 18) 3 65 := by decide +kernel
theorem d_219_65 : m_dn M_219 65 (.aload_n 0) 1 66 := by decide +kernel
theorem d_219_66 : m_dn M_219 66 (.getfield 93) 3 69 := by decide +kernel
theorem d_219_69 : m_dn M_219 69 (.iconst 2) 1 70 := by decide +kernel
theorem d_219_70 : m_dn M_219 70 (.if_icmp .ne 8) 3 73 := by decide +kernel
theorem d_219_73 : m_dn M_219 73 (.ldc 132) 2 75 := by decide +kernel
theorem d_219_75 : m_dn M_219 75 (.goto 5) 3 78 := by decide +kernel
theorem d_219_78 : m_dn M_219 78 (.ldc 134) 2 80 := by decide +kernel
theorem d_219_8 : m_dn M_219 8 (.aload_n 0) 1 9 := by decide +kernel
theorem d_219_80 : m_dn M_219 80 (.invokevirtual 115) 3 83 := by decide +kernel
theorem d_219_83 : m_dn M_219 83 (.bipush 10) 2 85 := by decide +kernel
theorem d_219_85 : m_dn M_219 85 (.invokevirtual 108) 3 88 := by decide +kernel
theorem d_219_88 : m_dn M_219 88 (.pop) 1 89 := by decide +kernel
theorem d_219_89 : m_dn M_219 89 (.aload_n 0) 1 90 := by decide +kernel
theorem d_219_9 : m_dn M_219 9 (.getfield 40) 3 12 := by decide +kernel
theorem d_219_90 : m_dn M_219 90 (.getfield 48) 3 93 := by decide +kernel
theorem d_219_93 : m_dn M_219 93 (.ifCond .eq 73) 3 96 := by decide +kernel
theorem d_219_96 : m_dn M_219 96 (.aload_n 1) 1 97 := by decide +kernel
theorem d_219_97 : m_dn M_219 97 (.ldc 136) 2 99 := by decide +kernel
theorem d_219_99 : m_dn M_219 99 (.invokevirtual 115) 3 102 := by decide +kernel
theorem d_237_0 : m_dn M_237 0 (.iload_n 1) 1 1 := by decide +kernel
theorem d_237_1 : m_dn M_237 1 (.ifCond .lt 14) 3 4 := by decide +kernel
theorem d_237_12 : m_dn M_237 12 (.if_icmp .lt 13) 3 15 := by decide +kernel
theorem d_237_25 : m_dn M_237 25 (.iload_n 2) 1 26 := by decide +kernel
theorem d_237_26 : m_dn M_237 26 (.ifCond .lt 9) 3 29 := by decide +kernel
theorem d_237_29 : m_dn M_237 29 (.iload_n 2) 1 30 := by decide +kernel
theorem d_237_30 : m_dn M_237 30 (.bipush 8) 2 32 := by decide +kernel
theorem d_237_32 : m_dn M_237 32 (.if_icmp .le 13) 3 35 := by decide +kernel
theorem d_237_4 : m_dn M_237 4 (.iload_n 1) 1 5 := by decide +kernel
theorem d_237_45 : m_dn M_237 45 (.aload_n 0) 1 46 := by decide +kernel
theorem d_237_46 : m_dn M_237 46 (.getfield 48) 3 49 := by decide +kernel
theorem d_237_49 : m_dn M_237 49 (.iload_n 1) 1 50 := by decide +kernel
theorem d_237_5 : m_dn M_237 5 (.aload_n 0) 1 6 := by decide +kernel
theorem d_237_50 : m_dn M_237 50 (.invokevirtual 187) 3 53 := by decide +kernel
theorem d_237_53 : m_dn M_237 53 (.checkcast 102) 3 56 := by decide +kernel
theorem d_237_56 : m_dn M_237 56 (.astore_n 3) 1 57 := by decide +kernel
theorem d_237_57 : m_dn M_237 57 (.iload_n 2) 1 58 := by decide +kernel
theorem d_237_58 : m_dn M_237 58 (.iconst 5) 1 59 := by decide +kernel
theorem d_237_59 : m_dn M_237 59 (.if_icmp .ne 12) 3 62 := by decide +kernel
theorem d_237_6 : m_dn M_237 6 (.getfield 48) 3 9 := by decide +kernel
theorem d_237_62 : m_dn M_237 62 (.aload_n 0) 1 63 := by decide +kernel
theorem d_237_63 : m_dn M_237 63 (.aload_n 3) 1 64 := by decide +kernel
theorem d_237_64 : m_dn M_237 64 (.invokevirtual 230) 3 67 := by decide +kernel
theorem d_237_67 : m_dn M_237 67 (.invokevirtual 234) 3 70 := by decide +kernel
theorem d_237_70 : m_dn M_237 70 (.ireturn) 1 71 := by decide +kernel
theorem d_237_71 : m_dn M_237 71 (.aload_n 3) 1 72 := by decide +kernel
theorem d_237_72 : m_dn M_237 72 (.iload_n 2) 1 73 := by decide +kernel
theorem d_237_73 : m_dn M_237 73 (.invokevirtual 239) 3 76 := by decide +kernel
theorem d_237_76 : m_dn M_237 76 (.ireturn) 1 77 := by decide +kernel
theorem d_237_9 : m_dn M_237 9 (.invokevirtual 94) 3 12 := by decide +kernel
def D_c_Reply_renderLines_277 (F : Nat) (x0 : Nat) (x1 : Option Nat) (T : tT) : Option (tT) := (x1).bind fun a411 => (tcl T a411 3).bind fun _ => bd2 (D_c_StringBuilder_append F a411 45 T) fun v417 T418 => (tgi T418 x0 8 10).bind fun v422 => (v417).bind fun a425 => (tcl T418 a425 3).bind fun _ => bd2 (D_c_StringBuilder_append184 F a425 v422 T418) fun v431 T432 => (v431).bind fun a436 => (tcl T432 a436 3).bind fun _ => bd2 (D_c_StringBuilder_append214 F a436 (10 : Int32) T432) fun v442 T443 => some T443
theorem T_c_Reply_renderLines_277 {l : Launch} {w0 : List mM} {F : Nat} {x0 : Nat} {x1 : Option Nat} {T : tT} {w : List mM} {Tz : tT} (hx0 : okr T.2.1 (some x0)) (hx1 : okr T.2.1 x1) (h : RT T w) (hF : m_Fm w0 w) (h0 : D_c_Reply_renderLines_277 F x0 x1 T = some Tz) : m_Rb l M_219 (277, [(0, .ref x0), (1, rv x1)], [], w) (fun v w' => v = none ∧ RT Tz w' ∧ m_Fm w0 w') T Tz 10 1000 := by
  rw [D_c_Reply_renderLines_277] at h0
  refine m_Rb.n0 b_219 (x_aloadr_n (x := x1) d_219_277 rfl) ?_
  refine m_Rb.n0 b_219 (x_text d_219_278 rfl rfl) ?_
  obtain ⟨a411, e412, j413⟩ := bS h0
  subst e412
  obtain ⟨_, e414, j415⟩ := bS j413
  obtain ⟨_, g416⟩ := RT.cls h e414
  obtain ⟨v417, T418, e419, j420⟩ := bS2 j415
  refine m_Rb.callR b_219 (y_cv d_219_280 rfl q_163 (m_isRecv_of rfl g416) (show m_takeI _ _ = some (_, [_, _], []) from m_takeI_of rfl rfl rfl (Nat.le_of_ble_eq_true rfl)) (by simp only [m_okf, List.all_cons, List.all_nil, Bool.and_true, Bool.and_self, m_okv_i, m_okv_l, m_okv_0, m_okv_n0, m_okv_t, RT.okn h hx0, RT.okv h hx0, RT.okn h hx1, RT.okv h hx1, m_okv_out (a := 45) (by decide)]) rfl) (T_c_StringBuilder_append hx1 (by decide) h e419) hF rfl (fun w421 o421 h421 f421 k421 => ?_) (by decide) (by decide)
  refine m_Rb.n0 b_219 (x_aload_n d_219_283 rfl) ?_
  obtain ⟨v422, e423, j424⟩ := bS j420
  refine m_Rb.tgetI b_219 d_219_284 rfl h421 e423 ?_
  obtain ⟨a425, e426, j427⟩ := bS j424
  subst e426
  obtain ⟨_, e428, j429⟩ := bS j427
  obtain ⟨_, g430⟩ := RT.cls h421 e428
  obtain ⟨v431, T432, e433, j434⟩ := bS2 j429
  refine m_Rb.callR b_219 (y_cv d_219_287 rfl q_184 (m_isRecv_of rfl g430) (show m_takeI _ _ = some (_, [_, _], []) from m_takeI_of rfl rfl rfl (Nat.le_of_ble_eq_true rfl)) (by simp only [m_okf, List.all_cons, List.all_nil, Bool.and_true, Bool.and_self, m_okv_i, m_okv_l, m_okv_0, m_okv_n0, m_okv_t, RT.okn h421 (okm hx0 k421), RT.okv h421 (okm hx0 k421), RT.okn h421 (okm hx1 k421), RT.okv h421 (okm hx1 k421), RT.okn h421 o421, RT.okv h421 o421]) rfl) (T_c_StringBuilder_append184 o421 h421 e433) f421 rfl (fun w435 o435 h435 f435 k435 => ?_) (by decide) (by decide)
  refine m_Rb.n0 b_219 (x_bipush (z := 10) d_219_290 (by decide)) ?_
  obtain ⟨a436, e437, j438⟩ := bS j434
  subst e437
  obtain ⟨_, e439, j440⟩ := bS j438
  obtain ⟨_, g441⟩ := RT.cls h435 e439
  obtain ⟨v442, T443, e444, j445⟩ := bS2 j440
  refine m_Rb.callR b_219 (y_cv d_219_292 rfl q_214 (m_isRecv_of rfl g441) (show m_takeI _ _ = some (_, [_, _], []) from m_takeI_of rfl rfl rfl (Nat.le_of_ble_eq_true rfl)) (by simp only [m_okf, List.all_cons, List.all_nil, Bool.and_true, Bool.and_self, m_okv_i, m_okv_l, m_okv_0, m_okv_n0, m_okv_t, RT.okn h435 (okm (okm hx0 k421) k435), RT.okv h435 (okm (okm hx0 k421) k435), RT.okn h435 (okm (okm hx1 k421) k435), RT.okv h435 (okm (okm hx1 k421) k435), RT.okn h435 o435, RT.okv h435 o435]) rfl) (T_c_StringBuilder_append214 o435 h435 e444) f435 rfl (fun w446 o446 h446 f446 k446 => ?_) (by decide) (by decide)
  refine m_Rb.n0 b_219 (x_pop d_219_295 (cat_rv v442)) ?_
  cases j445
  exact m_Rb.ret b_219 (m_rt_vr d_219_296 rfl) ⟨rfl, h446, f446⟩
def D_c_Reply_renderLines_257 (F : Nat) (x0 : Nat) (x1 : Option Nat) (T : tT) : Option (tT) := (tgi T x0 8 1).bind fun v357 => cond (m_c2 .eq v357 (200 : Int32)) (D_c_Reply_renderLines_277 F x0 x1 T) ((tgi T x0 8 1).bind fun v402 => cond (m_c2 .ne v402 (206 : Int32)) (some T) (D_c_Reply_renderLines_277 F x0 x1 T))
theorem T_c_Reply_renderLines_257 {l : Launch} {w0 : List mM} {F : Nat} {x0 : Nat} {x1 : Option Nat} {T : tT} {w : List mM} {Tz : tT} (hx0 : okr T.2.1 (some x0)) (hx1 : okr T.2.1 x1) (h : RT T w) (hF : m_Fm w0 w) (h0 : D_c_Reply_renderLines_257 F x0 x1 T = some Tz) : m_Rb l M_219 (257, [(0, .ref x0), (1, rv x1)], [], w) (fun v w' => v = none ∧ RT Tz w' ∧ m_Fm w0 w') T Tz 10 1000 := by
  rw [D_c_Reply_renderLines_257] at h0
  refine m_Rb.n0 b_219 (x_aload_n d_219_257 rfl) ?_
  obtain ⟨v357, e358, j359⟩ := bS h0
  refine m_Rb.tgetI b_219 d_219_258 rfl h e358 ?_
  refine m_Rb.n0 b_219 (x_sipush (z := 200) d_219_261 (by decide)) ?_
  cases hc400 : m_c2 .eq v357 (200 : Int32) with
  | true =>
    have j401 := cT hc400 j359
    refine m_Rb.n0 b_219 (x_ict d_219_264 rfl hc400) ?_
    exact m_Rb.pick [0, 1] rfl (T_c_Reply_renderLines_277 hx0 hx1 h hF j401)
  | false =>
    have j401 := cF hc400 j359
    refine m_Rb.n0 b_219 (x_icf d_219_264 rfl hc400) ?_
    refine m_Rb.n0 b_219 (x_aload_n d_219_267 rfl) ?_
    obtain ⟨v402, e403, j404⟩ := bS j401
    refine m_Rb.tgetI b_219 d_219_268 rfl h e403 ?_
    refine m_Rb.n0 b_219 (x_sipush (z := 206) d_219_271 (by decide)) ?_
    cases hc409 : m_c2 .ne v402 (206 : Int32) with
    | true =>
      have j410 := cT hc409 j404
      refine m_Rb.n0 b_219 (x_ict d_219_274 rfl hc409) ?_
      cases j410
      exact m_Rb.ret b_219 (m_rt_vr d_219_296 rfl) ⟨rfl, h, hF⟩
    | false =>
      have j410 := cF hc409 j404
      refine m_Rb.n0 b_219 (x_icf d_219_274 rfl hc409) ?_
      exact m_Rb.pick [0, 1] rfl (T_c_Reply_renderLines_277 hx0 hx1 h hF j410)
def D_c_Reply_renderLines_228 (F : Nat) (x0 : Nat) (x1 : Option Nat) (T : tT) : Option (tT) := (tgi T x0 8 1).bind fun v312 => cond (m_c2 .ne v312 (416 : Int32)) (D_c_Reply_renderLines_257 F x0 x1 T) ((x1).bind fun a321 => (tcl T a321 3).bind fun _ => bd2 (D_c_StringBuilder_append F a321 44 T) fun v327 T328 => (tgi T328 x0 8 8).bind fun v332 => (v327).bind fun a335 => (tcl T328 a335 3).bind fun _ => bd2 (D_c_StringBuilder_append184 F a335 v332 T328) fun v341 T342 => (v341).bind fun a346 => (tcl T342 a346 3).bind fun _ => bd2 (D_c_StringBuilder_append214 F a346 (10 : Int32) T342) fun v352 T353 => D_c_Reply_renderLines_257 F x0 (some a321) T353)
theorem T_c_Reply_renderLines_228 {l : Launch} {w0 : List mM} {F : Nat} {x0 : Nat} {x1 : Option Nat} {T : tT} {w : List mM} {Tz : tT} (hx0 : okr T.2.1 (some x0)) (hx1 : okr T.2.1 x1) (h : RT T w) (hF : m_Fm w0 w) (h0 : D_c_Reply_renderLines_228 F x0 x1 T = some Tz) : m_Rb l M_219 (228, [(0, .ref x0), (1, rv x1)], [], w) (fun v w' => v = none ∧ RT Tz w' ∧ m_Fm w0 w') T Tz 10 1000 := by
  rw [D_c_Reply_renderLines_228] at h0
  refine m_Rb.n0 b_219 (x_aload_n d_219_228 rfl) ?_
  obtain ⟨v312, e313, j314⟩ := bS h0
  refine m_Rb.tgetI b_219 d_219_229 rfl h e313 ?_
  refine m_Rb.n0 b_219 (x_sipush (z := 416) d_219_232 (by decide)) ?_
  cases hc319 : m_c2 .ne v312 (416 : Int32) with
  | true =>
    have j320 := cT hc319 j314
    refine m_Rb.n0 b_219 (x_ict d_219_235 rfl hc319) ?_
    exact m_Rb.pick [0, 1] rfl (T_c_Reply_renderLines_257 hx0 hx1 h hF j320)
  | false =>
    have j320 := cF hc319 j314
    refine m_Rb.n0 b_219 (x_icf d_219_235 rfl hc319) ?_
    refine m_Rb.n0 b_219 (x_aloadr_n (x := x1) d_219_238 rfl) ?_
    refine m_Rb.n0 b_219 (x_text d_219_239 rfl rfl) ?_
    obtain ⟨a321, e322, j323⟩ := bS j320
    subst e322
    obtain ⟨_, e324, j325⟩ := bS j323
    obtain ⟨_, g326⟩ := RT.cls h e324
    obtain ⟨v327, T328, e329, j330⟩ := bS2 j325
    refine m_Rb.callR b_219 (y_cv d_219_241 rfl q_163 (m_isRecv_of rfl g326) (show m_takeI _ _ = some (_, [_, _], []) from m_takeI_of rfl rfl rfl (Nat.le_of_ble_eq_true rfl)) (by simp only [m_okf, List.all_cons, List.all_nil, Bool.and_true, Bool.and_self, m_okv_i, m_okv_l, m_okv_0, m_okv_n0, m_okv_t, RT.okn h hx0, RT.okv h hx0, RT.okn h hx1, RT.okv h hx1, m_okv_out (a := 44) (by decide)]) rfl) (T_c_StringBuilder_append hx1 (by decide) h e329) hF rfl (fun w331 o331 h331 f331 k331 => ?_) (by decide) (by decide)
    refine m_Rb.n0 b_219 (x_aload_n d_219_244 rfl) ?_
    obtain ⟨v332, e333, j334⟩ := bS j330
    refine m_Rb.tgetI b_219 d_219_245 rfl h331 e333 ?_
    obtain ⟨a335, e336, j337⟩ := bS j334
    subst e336
    obtain ⟨_, e338, j339⟩ := bS j337
    obtain ⟨_, g340⟩ := RT.cls h331 e338
    obtain ⟨v341, T342, e343, j344⟩ := bS2 j339
    refine m_Rb.callR b_219 (y_cv d_219_248 rfl q_184 (m_isRecv_of rfl g340) (show m_takeI _ _ = some (_, [_, _], []) from m_takeI_of rfl rfl rfl (Nat.le_of_ble_eq_true rfl)) (by simp only [m_okf, List.all_cons, List.all_nil, Bool.and_true, Bool.and_self, m_okv_i, m_okv_l, m_okv_0, m_okv_n0, m_okv_t, RT.okn h331 (okm hx0 k331), RT.okv h331 (okm hx0 k331), RT.okn h331 (okm hx1 k331), RT.okv h331 (okm hx1 k331), RT.okn h331 o331, RT.okv h331 o331]) rfl) (T_c_StringBuilder_append184 o331 h331 e343) f331 rfl (fun w345 o345 h345 f345 k345 => ?_) (by decide) (by decide)
    refine m_Rb.n0 b_219 (x_bipush (z := 10) d_219_251 (by decide)) ?_
    obtain ⟨a346, e347, j348⟩ := bS j344
    subst e347
    obtain ⟨_, e349, j350⟩ := bS j348
    obtain ⟨_, g351⟩ := RT.cls h345 e349
    obtain ⟨v352, T353, e354, j355⟩ := bS2 j350
    refine m_Rb.callR b_219 (y_cv d_219_253 rfl q_214 (m_isRecv_of rfl g351) (show m_takeI _ _ = some (_, [_, _], []) from m_takeI_of rfl rfl rfl (Nat.le_of_ble_eq_true rfl)) (by simp only [m_okf, List.all_cons, List.all_nil, Bool.and_true, Bool.and_self, m_okv_i, m_okv_l, m_okv_0, m_okv_n0, m_okv_t, RT.okn h345 (okm (okm hx0 k331) k345), RT.okv h345 (okm (okm hx0 k331) k345), RT.okn h345 (okm (okm hx1 k331) k345), RT.okv h345 (okm (okm hx1 k331) k345), RT.okn h345 o345, RT.okv h345 o345]) rfl) (T_c_StringBuilder_append214 o345 h345 e354) f345 rfl (fun w356 o356 h356 f356 k356 => ?_) (by decide) (by decide)
    refine m_Rb.n0 b_219 (x_pop d_219_256 (cat_rv v352)) ?_
    exact m_Rb.pick [0, 1] rfl (T_c_Reply_renderLines_257 (okm (okm (okm hx0 k331) k345) k356) (okm (okm (okm hx1 k331) k345) k356) h356 f356 j355)
def D_c_Reply_renderLines_166 (F : Nat) (x0 : Nat) (x1 : Option Nat) (T : tT) : Option (tT) := (tgi T x0 8 1).bind fun v217 => cond (m_c2 .ne v217 (206 : Int32)) (D_c_Reply_renderLines_228 F x0 x1 T) ((x1).bind fun a226 => (tcl T a226 3).bind fun _ => bd2 (D_c_StringBuilder_append F a226 43 T) fun v232 T233 => (tgi T233 x0 8 9).bind fun v237 => (v232).bind fun a240 => (tcl T233 a240 3).bind fun _ => bd2 (D_c_StringBuilder_append184 F a240 v237 T233) fun v246 T247 => (v246).bind fun a251 => (tcl T247 a251 3).bind fun _ => bd2 (D_c_StringBuilder_append214 F a251 (45 : Int32) T247) fun v257 T258 => (tgi T258 x0 8 9).bind fun v262 => (tgi T258 x0 8 10).bind fun v265 => (v257).bind fun a268 => (tcl T258 a268 3).bind fun _ => bd2 (D_c_StringBuilder_append184 F a268 ((v262 + v265) - (1 : Int32)) T258) fun v274 T275 => (tcl T275 a226 3).bind fun _ => bd2 (D_c_StringBuilder_append214 F a226 (47 : Int32) T275) fun v282 T283 => (tgi T283 x0 8 8).bind fun v287 => (v282).bind fun a290 => (tcl T283 a290 3).bind fun _ => bd2 (D_c_StringBuilder_append184 F a290 v287 T283) fun v296 T297 => (v296).bind fun a301 => (tcl T297 a301 3).bind fun _ => bd2 (D_c_StringBuilder_append214 F a301 (10 : Int32) T297) fun v307 T308 => D_c_Reply_renderLines_228 F x0 (some a226) T308)
theorem T_c_Reply_renderLines_166 {l : Launch} {w0 : List mM} {F : Nat} {x0 : Nat} {x1 : Option Nat} {T : tT} {w : List mM} {Tz : tT} (hx0 : okr T.2.1 (some x0)) (hx1 : okr T.2.1 x1) (h : RT T w) (hF : m_Fm w0 w) (h0 : D_c_Reply_renderLines_166 F x0 x1 T = some Tz) : m_Rb l M_219 (166, [(0, .ref x0), (1, rv x1)], [], w) (fun v w' => v = none ∧ RT Tz w' ∧ m_Fm w0 w') T Tz 10 1000 := by
  rw [D_c_Reply_renderLines_166] at h0
  refine m_Rb.n0 b_219 (x_aload_n d_219_166 rfl) ?_
  obtain ⟨v217, e218, j219⟩ := bS h0
  refine m_Rb.tgetI b_219 d_219_167 rfl h e218 ?_
  refine m_Rb.n0 b_219 (x_sipush (z := 206) d_219_170 (by decide)) ?_
  cases hc224 : m_c2 .ne v217 (206 : Int32) with
  | true =>
    have j225 := cT hc224 j219
    refine m_Rb.n0 b_219 (x_ict d_219_173 rfl hc224) ?_
    exact m_Rb.pick [0, 1] rfl (T_c_Reply_renderLines_228 hx0 hx1 h hF j225)
  | false =>
    have j225 := cF hc224 j219
    refine m_Rb.n0 b_219 (x_icf d_219_173 rfl hc224) ?_
    refine m_Rb.n0 b_219 (x_aloadr_n (x := x1) d_219_176 rfl) ?_
    refine m_Rb.n0 b_219 (x_text d_219_177 rfl rfl) ?_
    obtain ⟨a226, e227, j228⟩ := bS j225
    subst e227
    obtain ⟨_, e229, j230⟩ := bS j228
    obtain ⟨_, g231⟩ := RT.cls h e229
    obtain ⟨v232, T233, e234, j235⟩ := bS2 j230
    refine m_Rb.callR b_219 (y_cv d_219_179 rfl q_163 (m_isRecv_of rfl g231) (show m_takeI _ _ = some (_, [_, _], []) from m_takeI_of rfl rfl rfl (Nat.le_of_ble_eq_true rfl)) (by simp only [m_okf, List.all_cons, List.all_nil, Bool.and_true, Bool.and_self, m_okv_i, m_okv_l, m_okv_0, m_okv_n0, m_okv_t, RT.okn h hx0, RT.okv h hx0, RT.okn h hx1, RT.okv h hx1, m_okv_out (a := 43) (by decide)]) rfl) (T_c_StringBuilder_append hx1 (by decide) h e234) hF rfl (fun w236 o236 h236 f236 k236 => ?_) (by decide) (by decide)
    refine m_Rb.n0 b_219 (x_aload_n d_219_182 rfl) ?_
    obtain ⟨v237, e238, j239⟩ := bS j235
    refine m_Rb.tgetI b_219 d_219_183 rfl h236 e238 ?_
    obtain ⟨a240, e241, j242⟩ := bS j239
    subst e241
    obtain ⟨_, e243, j244⟩ := bS j242
    obtain ⟨_, g245⟩ := RT.cls h236 e243
    obtain ⟨v246, T247, e248, j249⟩ := bS2 j244
    refine m_Rb.callR b_219 (y_cv d_219_186 rfl q_184 (m_isRecv_of rfl g245) (show m_takeI _ _ = some (_, [_, _], []) from m_takeI_of rfl rfl rfl (Nat.le_of_ble_eq_true rfl)) (by simp only [m_okf, List.all_cons, List.all_nil, Bool.and_true, Bool.and_self, m_okv_i, m_okv_l, m_okv_0, m_okv_n0, m_okv_t, RT.okn h236 (okm hx0 k236), RT.okv h236 (okm hx0 k236), RT.okn h236 (okm hx1 k236), RT.okv h236 (okm hx1 k236), RT.okn h236 o236, RT.okv h236 o236]) rfl) (T_c_StringBuilder_append184 o236 h236 e248) f236 rfl (fun w250 o250 h250 f250 k250 => ?_) (by decide) (by decide)
    refine m_Rb.n0 b_219 (x_bipush (z := 45) d_219_189 (by decide)) ?_
    obtain ⟨a251, e252, j253⟩ := bS j249
    subst e252
    obtain ⟨_, e254, j255⟩ := bS j253
    obtain ⟨_, g256⟩ := RT.cls h250 e254
    obtain ⟨v257, T258, e259, j260⟩ := bS2 j255
    refine m_Rb.callR b_219 (y_cv d_219_191 rfl q_214 (m_isRecv_of rfl g256) (show m_takeI _ _ = some (_, [_, _], []) from m_takeI_of rfl rfl rfl (Nat.le_of_ble_eq_true rfl)) (by simp only [m_okf, List.all_cons, List.all_nil, Bool.and_true, Bool.and_self, m_okv_i, m_okv_l, m_okv_0, m_okv_n0, m_okv_t, RT.okn h250 (okm (okm hx0 k236) k250), RT.okv h250 (okm (okm hx0 k236) k250), RT.okn h250 (okm (okm hx1 k236) k250), RT.okv h250 (okm (okm hx1 k236) k250), RT.okn h250 o250, RT.okv h250 o250]) rfl) (T_c_StringBuilder_append214 o250 h250 e259) f250 rfl (fun w261 o261 h261 f261 k261 => ?_) (by decide) (by decide)
    refine m_Rb.n0 b_219 (x_aload_n d_219_194 rfl) ?_
    obtain ⟨v262, e263, j264⟩ := bS j260
    refine m_Rb.tgetI b_219 d_219_195 rfl h261 e263 ?_
    refine m_Rb.n0 b_219 (x_aload_n d_219_198 rfl) ?_
    obtain ⟨v265, e266, j267⟩ := bS j264
    refine m_Rb.tgetI b_219 d_219_199 rfl h261 e266 ?_
    refine m_Rb.n0 b_219 (x_iadd d_219_202 rfl) ?_
    refine m_Rb.n0 b_219 (x_iconst (z := 1) d_219_203 (by decide)) ?_
    refine m_Rb.n0 b_219 (x_isub d_219_204 rfl) ?_
    obtain ⟨a268, e269, j270⟩ := bS j267
    subst e269
    obtain ⟨_, e271, j272⟩ := bS j270
    obtain ⟨_, g273⟩ := RT.cls h261 e271
    obtain ⟨v274, T275, e276, j277⟩ := bS2 j272
    refine m_Rb.callR b_219 (y_cv d_219_205 rfl q_184 (m_isRecv_of rfl g273) (show m_takeI _ _ = some (_, [_, _], []) from m_takeI_of rfl rfl rfl (Nat.le_of_ble_eq_true rfl)) (by simp only [m_okf, List.all_cons, List.all_nil, Bool.and_true, Bool.and_self, m_okv_i, m_okv_l, m_okv_0, m_okv_n0, m_okv_t, RT.okn h261 (okm (okm (okm hx0 k236) k250) k261), RT.okv h261 (okm (okm (okm hx0 k236) k250) k261), RT.okn h261 (okm (okm (okm hx1 k236) k250) k261), RT.okv h261 (okm (okm (okm hx1 k236) k250) k261), RT.okn h261 o261, RT.okv h261 o261]) rfl) (T_c_StringBuilder_append184 o261 h261 e276) f261 rfl (fun w278 o278 h278 f278 k278 => ?_) (by decide) (by decide)
    refine m_Rb.n0 b_219 (x_pop d_219_208 (cat_rv v274)) ?_
    refine m_Rb.n0 b_219 (x_aload_n d_219_209 rfl) ?_
    refine m_Rb.n0 b_219 (x_bipush (z := 47) d_219_210 (by decide)) ?_
    obtain ⟨_, e279, j280⟩ := bS j277
    obtain ⟨_, g281⟩ := RT.cls h278 e279
    obtain ⟨v282, T283, e284, j285⟩ := bS2 j280
    refine m_Rb.callR b_219 (y_cv d_219_212 rfl q_214 (m_isRecv_of rfl g281) (show m_takeI _ _ = some (_, [_, _], []) from m_takeI_of rfl rfl rfl (Nat.le_of_ble_eq_true rfl)) (by simp only [m_okf, List.all_cons, List.all_nil, Bool.and_true, Bool.and_self, m_okv_i, m_okv_l, m_okv_0, m_okv_n0, m_okv_t, RT.okn h278 (okm (okm (okm (okm hx0 k236) k250) k261) k278), RT.okv h278 (okm (okm (okm (okm hx0 k236) k250) k261) k278), RT.okn h278 (okm (okm (okm (okm hx1 k236) k250) k261) k278), RT.okv h278 (okm (okm (okm (okm hx1 k236) k250) k261) k278)]) rfl) (T_c_StringBuilder_append214 (okm (okm (okm (okm hx1 k236) k250) k261) k278) h278 e284) f278 rfl (fun w286 o286 h286 f286 k286 => ?_) (by decide) (by decide)
    refine m_Rb.n0 b_219 (x_aload_n d_219_215 rfl) ?_
    obtain ⟨v287, e288, j289⟩ := bS j285
    refine m_Rb.tgetI b_219 d_219_216 rfl h286 e288 ?_
    obtain ⟨a290, e291, j292⟩ := bS j289
    subst e291
    obtain ⟨_, e293, j294⟩ := bS j292
    obtain ⟨_, g295⟩ := RT.cls h286 e293
    obtain ⟨v296, T297, e298, j299⟩ := bS2 j294
    refine m_Rb.callR b_219 (y_cv d_219_219 rfl q_184 (m_isRecv_of rfl g295) (show m_takeI _ _ = some (_, [_, _], []) from m_takeI_of rfl rfl rfl (Nat.le_of_ble_eq_true rfl)) (by simp only [m_okf, List.all_cons, List.all_nil, Bool.and_true, Bool.and_self, m_okv_i, m_okv_l, m_okv_0, m_okv_n0, m_okv_t, RT.okn h286 (okm (okm (okm (okm (okm hx0 k236) k250) k261) k278) k286), RT.okv h286 (okm (okm (okm (okm (okm hx0 k236) k250) k261) k278) k286), RT.okn h286 (okm (okm (okm (okm (okm hx1 k236) k250) k261) k278) k286), RT.okv h286 (okm (okm (okm (okm (okm hx1 k236) k250) k261) k278) k286), RT.okn h286 o286, RT.okv h286 o286]) rfl) (T_c_StringBuilder_append184 o286 h286 e298) f286 rfl (fun w300 o300 h300 f300 k300 => ?_) (by decide) (by decide)
    refine m_Rb.n0 b_219 (x_bipush (z := 10) d_219_222 (by decide)) ?_
    obtain ⟨a301, e302, j303⟩ := bS j299
    subst e302
    obtain ⟨_, e304, j305⟩ := bS j303
    obtain ⟨_, g306⟩ := RT.cls h300 e304
    obtain ⟨v307, T308, e309, j310⟩ := bS2 j305
    refine m_Rb.callR b_219 (y_cv d_219_224 rfl q_214 (m_isRecv_of rfl g306) (show m_takeI _ _ = some (_, [_, _], []) from m_takeI_of rfl rfl rfl (Nat.le_of_ble_eq_true rfl)) (by simp only [m_okf, List.all_cons, List.all_nil, Bool.and_true, Bool.and_self, m_okv_i, m_okv_l, m_okv_0, m_okv_n0, m_okv_t, RT.okn h300 (okm (okm (okm (okm (okm (okm hx0 k236) k250) k261) k278) k286) k300), RT.okv h300 (okm (okm (okm (okm (okm (okm hx0 k236) k250) k261) k278) k286) k300), RT.okn h300 (okm (okm (okm (okm (okm (okm hx1 k236) k250) k261) k278) k286) k300), RT.okv h300 (okm (okm (okm (okm (okm (okm hx1 k236) k250) k261) k278) k286) k300), RT.okn h300 o300, RT.okv h300 o300]) rfl) (T_c_StringBuilder_append214 o300 h300 e309) f300 rfl (fun w311 o311 h311 f311 k311 => ?_) (by decide) (by decide)
    refine m_Rb.n0 b_219 (x_pop d_219_227 (cat_rv v307)) ?_
    exact m_Rb.pick [0, 1] rfl (T_c_Reply_renderLines_228 (okm (okm (okm (okm (okm (okm (okm hx0 k236) k250) k261) k278) k286) k300) k311) (okm (okm (okm (okm (okm (okm (okm hx1 k236) k250) k261) k278) k286) k300) k311) h311 f311 j310)
def D_c_Reply_renderLines_157 (F : Nat) (x0 : Nat) (x1 : Option Nat) (y0 : Nat) (y1 : Option Nat) (T : tT) : Option (tT) := (y1).bind fun a195 => (tcl T a195 3).bind fun _ => bd2 (D_c_StringBuilder_append F a195 y0 T) fun v201 T202 => (v201).bind fun a206 => (tcl T202 a206 3).bind fun _ => bd2 (D_c_StringBuilder_append214 F a206 (10 : Int32) T202) fun v212 T213 => D_c_Reply_renderLines_166 F x0 x1 T213
theorem T_c_Reply_renderLines_157 {l : Launch} {w0 : List mM} {F : Nat} {x0 : Nat} {x1 : Option Nat} {y0 : Nat} {y1 : Option Nat} {T : tT} {w : List mM} {Tz : tT} (hx0 : okr T.2.1 (some x0)) (hx1 : okr T.2.1 x1) (hy0 : y0 < 512) (hy1 : okr T.2.1 y1) (h : RT T w) (hF : m_Fm w0 w) (h0 : D_c_Reply_renderLines_157 F x0 x1 y0 y1 T = some Tz) : m_Rb l M_219 (157, [(0, .ref x0), (1, rv x1)], [.ref y0, rv y1], w) (fun v w' => v = none ∧ RT Tz w' ∧ m_Fm w0 w') T Tz 10 1000 := by
  rw [D_c_Reply_renderLines_157] at h0
  obtain ⟨a195, e196, j197⟩ := bS h0
  subst e196
  obtain ⟨_, e198, j199⟩ := bS j197
  obtain ⟨_, g200⟩ := RT.cls h e198
  obtain ⟨v201, T202, e203, j204⟩ := bS2 j199
  refine m_Rb.callR b_219 (y_cv d_219_157 rfl q_163 (m_isRecv_of rfl g200) (show m_takeI _ _ = some (_, [_, _], []) from m_takeI_of rfl rfl rfl (Nat.le_of_ble_eq_true rfl)) (by simp only [m_okf, List.all_cons, List.all_nil, Bool.and_true, Bool.and_self, m_okv_i, m_okv_l, m_okv_0, m_okv_n0, m_okv_t, RT.okn h hx0, RT.okv h hx0, RT.okv h hx1, m_okv_out (a := y0) hy0, RT.okn h hy1, RT.okv h hy1]) rfl) (T_c_StringBuilder_append hy1 hy0 h e203) hF rfl (fun w205 o205 h205 f205 k205 => ?_) (by decide) (by decide)
  refine m_Rb.n0 b_219 (x_bipush (z := 10) d_219_160 (by decide)) ?_
  obtain ⟨a206, e207, j208⟩ := bS j204
  subst e207
  obtain ⟨_, e209, j210⟩ := bS j208
  obtain ⟨_, g211⟩ := RT.cls h205 e209
  obtain ⟨v212, T213, e214, j215⟩ := bS2 j210
  refine m_Rb.callR b_219 (y_cv d_219_162 rfl q_214 (m_isRecv_of rfl g211) (show m_takeI _ _ = some (_, [_, _], []) from m_takeI_of rfl rfl rfl (Nat.le_of_ble_eq_true rfl)) (by simp only [m_okf, List.all_cons, List.all_nil, Bool.and_true, Bool.and_self, m_okv_i, m_okv_l, m_okv_0, m_okv_n0, m_okv_t, RT.okn h205 (okm hx0 k205), RT.okv h205 (okm hx0 k205), RT.okv h205 (okm hx1 k205), RT.okn h205 o205, RT.okv h205 o205]) rfl) (T_c_StringBuilder_append214 o205 h205 e214) f205 rfl (fun w216 o216 h216 f216 k216 => ?_) (by decide) (by decide)
  refine m_Rb.n0 b_219 (x_pop d_219_165 (cat_rv v212)) ?_
  exact m_Rb.pick [0, 1] rfl (T_c_Reply_renderLines_166 (okm (okm hx0 k205) k216) (okm (okm hx1 k205) k216) h216 f216 j215)
def D_c_Reply_renderLines_138 (F : Nat) (x0 : Nat) (x1 : Option Nat) (y0 : Nat) (y1 : Option Nat) (T : tT) : Option (tT) := (y1).bind fun a175 => (tcl T a175 3).bind fun _ => bd2 (D_c_StringBuilder_append F a175 y0 T) fun v181 T182 => (tgi T182 x0 8 5).bind fun v186 => cond (m_c1 .eq (v186 &&& (2 : Int32))) (D_c_Reply_renderLines_157 F x0 x1 31 v181 T182) (D_c_Reply_renderLines_157 F x0 x1 42 v181 T182)
theorem T_c_Reply_renderLines_138 {l : Launch} {w0 : List mM} {F : Nat} {x0 : Nat} {x1 : Option Nat} {y0 : Nat} {y1 : Option Nat} {T : tT} {w : List mM} {Tz : tT} (hx0 : okr T.2.1 (some x0)) (hx1 : okr T.2.1 x1) (hy0 : y0 < 512) (hy1 : okr T.2.1 y1) (h : RT T w) (hF : m_Fm w0 w) (h0 : D_c_Reply_renderLines_138 F x0 x1 y0 y1 T = some Tz) : m_Rb l M_219 (138, [(0, .ref x0), (1, rv x1)], [.ref y0, rv y1], w) (fun v w' => v = none ∧ RT Tz w' ∧ m_Fm w0 w') T Tz 10 1000 := by
  rw [D_c_Reply_renderLines_138] at h0
  obtain ⟨a175, e176, j177⟩ := bS h0
  subst e176
  obtain ⟨_, e178, j179⟩ := bS j177
  obtain ⟨_, g180⟩ := RT.cls h e178
  obtain ⟨v181, T182, e183, j184⟩ := bS2 j179
  refine m_Rb.callR b_219 (y_cv d_219_138 rfl q_163 (m_isRecv_of rfl g180) (show m_takeI _ _ = some (_, [_, _], []) from m_takeI_of rfl rfl rfl (Nat.le_of_ble_eq_true rfl)) (by simp only [m_okf, List.all_cons, List.all_nil, Bool.and_true, Bool.and_self, m_okv_i, m_okv_l, m_okv_0, m_okv_n0, m_okv_t, RT.okn h hx0, RT.okv h hx0, RT.okv h hx1, m_okv_out (a := y0) hy0, RT.okn h hy1, RT.okv h hy1]) rfl) (T_c_StringBuilder_append hy1 hy0 h e183) hF rfl (fun w185 o185 h185 f185 k185 => ?_) (by decide) (by decide)
  refine m_Rb.n0 b_219 (x_aload_n d_219_141 rfl) ?_
  obtain ⟨v186, e187, j188⟩ := bS j184
  refine m_Rb.tgetI b_219 d_219_142 rfl h185 e187 ?_
  refine m_Rb.n0 b_219 (x_iconst (z := 2) d_219_145 (by decide)) ?_
  refine m_Rb.n0 b_219 (x_iand d_219_146 rfl) ?_
  cases hc193 : m_c1 .eq (v186 &&& (2 : Int32)) with
  | true =>
    have j194 := cT hc193 j188
    refine m_Rb.n0 b_219 (x_ift d_219_147 rfl hc193) ?_
    refine m_Rb.n0 b_219 (x_text d_219_155 rfl rfl) ?_
    exact m_Rb.pick [0, 1] rfl (T_c_Reply_renderLines_157 (okm hx0 k185) (okm hx1 k185) (by decide) o185 h185 f185 j194)
  | false =>
    have j194 := cF hc193 j188
    refine m_Rb.n0 b_219 (x_iff d_219_147 rfl hc193) ?_
    refine m_Rb.n0 b_219 (x_text d_219_150 rfl rfl) ?_
    refine m_Rb.n0 b_219 (x_goto d_219_152 rfl) ?_
    exact m_Rb.pick [0, 1] rfl (T_c_Reply_renderLines_157 (okm hx0 k185) (okm hx1 k185) (by decide) o185 h185 f185 j194)
def D_c_Reply_renderLines_118 (F : Nat) (x0 : Nat) (x1 : Option Nat) (y0 : Nat) (y1 : Option Nat) (T : tT) : Option (tT) := (y1).bind fun a155 => (tcl T a155 3).bind fun _ => bd2 (D_c_StringBuilder_append F a155 y0 T) fun v161 T162 => (tgi T162 x0 8 5).bind fun v166 => cond (m_c2 .ne v166 (3 : Int32)) (D_c_Reply_renderLines_138 F x0 x1 31 x1 T162) (D_c_Reply_renderLines_138 F x0 x1 41 x1 T162)
theorem T_c_Reply_renderLines_118 {l : Launch} {w0 : List mM} {F : Nat} {x0 : Nat} {x1 : Option Nat} {y0 : Nat} {y1 : Option Nat} {T : tT} {w : List mM} {Tz : tT} (hx0 : okr T.2.1 (some x0)) (hx1 : okr T.2.1 x1) (hy0 : y0 < 512) (hy1 : okr T.2.1 y1) (h : RT T w) (hF : m_Fm w0 w) (h0 : D_c_Reply_renderLines_118 F x0 x1 y0 y1 T = some Tz) : m_Rb l M_219 (118, [(0, .ref x0), (1, rv x1)], [.ref y0, rv y1], w) (fun v w' => v = none ∧ RT Tz w' ∧ m_Fm w0 w') T Tz 10 1000 := by
  rw [D_c_Reply_renderLines_118] at h0
  obtain ⟨a155, e156, j157⟩ := bS h0
  subst e156
  obtain ⟨_, e158, j159⟩ := bS j157
  obtain ⟨_, g160⟩ := RT.cls h e158
  obtain ⟨v161, T162, e163, j164⟩ := bS2 j159
  refine m_Rb.callR b_219 (y_cv d_219_118 rfl q_163 (m_isRecv_of rfl g160) (show m_takeI _ _ = some (_, [_, _], []) from m_takeI_of rfl rfl rfl (Nat.le_of_ble_eq_true rfl)) (by simp only [m_okf, List.all_cons, List.all_nil, Bool.and_true, Bool.and_self, m_okv_i, m_okv_l, m_okv_0, m_okv_n0, m_okv_t, RT.okn h hx0, RT.okv h hx0, RT.okv h hx1, m_okv_out (a := y0) hy0, RT.okn h hy1, RT.okv h hy1]) rfl) (T_c_StringBuilder_append hy1 hy0 h e163) hF rfl (fun w165 o165 h165 f165 k165 => ?_) (by decide) (by decide)
  refine m_Rb.n0 b_219 (x_pop d_219_121 (cat_rv v161)) ?_
  refine m_Rb.n0 b_219 (x_aloadr_n (x := x1) d_219_122 rfl) ?_
  refine m_Rb.n0 b_219 (x_aload_n d_219_123 rfl) ?_
  obtain ⟨v166, e167, j168⟩ := bS j164
  refine m_Rb.tgetI b_219 d_219_124 rfl h165 e167 ?_
  refine m_Rb.n0 b_219 (x_iconst (z := 3) d_219_127 (by decide)) ?_
  cases hc173 : m_c2 .ne v166 (3 : Int32) with
  | true =>
    have j174 := cT hc173 j168
    refine m_Rb.n0 b_219 (x_ict d_219_128 rfl hc173) ?_
    refine m_Rb.n0 b_219 (x_text d_219_136 rfl rfl) ?_
    exact m_Rb.pick [0, 1] rfl (T_c_Reply_renderLines_138 (okm hx0 k165) (okm hx1 k165) (by decide) (okm hx1 k165) h165 f165 j174)
  | false =>
    have j174 := cF hc173 j168
    refine m_Rb.n0 b_219 (x_icf d_219_128 rfl hc173) ?_
    refine m_Rb.n0 b_219 (x_text d_219_131 rfl rfl) ?_
    refine m_Rb.n0 b_219 (x_goto d_219_133 rfl) ?_
    exact m_Rb.pick [0, 1] rfl (T_c_Reply_renderLines_138 (okm hx0 k165) (okm hx1 k165) (by decide) (okm hx1 k165) h165 f165 j174)
def D_c_Reply_renderLines_80 (F : Nat) (x0 : Nat) (x1 : Option Nat) (y0 : Nat) (y1 : Option Nat) (T : tT) : Option (tT) := (y1).bind fun a104 => (tcl T a104 3).bind fun _ => bd2 (D_c_StringBuilder_append F a104 y0 T) fun v110 T111 => (v110).bind fun a115 => (tcl T111 a115 3).bind fun _ => bd2 (D_c_StringBuilder_append214 F a115 (10 : Int32) T111) fun v121 T122 => (tgi T122 x0 8 5).bind fun v126 => cond (m_c1 .eq v126) (D_c_Reply_renderLines_166 F x0 x1 T122) ((x1).bind fun a135 => (tcl T122 a135 3).bind fun _ => bd2 (D_c_StringBuilder_append F a135 39 T122) fun v141 T142 => (tgi T142 x0 8 5).bind fun v146 => cond (m_c1 .eq (v146 &&& (1 : Int32))) (D_c_Reply_renderLines_118 F x0 (some a135) 31 v141 T142) (D_c_Reply_renderLines_118 F x0 (some a135) 40 v141 T142))
theorem T_c_Reply_renderLines_80 {l : Launch} {w0 : List mM} {F : Nat} {x0 : Nat} {x1 : Option Nat} {y0 : Nat} {y1 : Option Nat} {T : tT} {w : List mM} {Tz : tT} (hx0 : okr T.2.1 (some x0)) (hx1 : okr T.2.1 x1) (hy0 : y0 < 512) (hy1 : okr T.2.1 y1) (h : RT T w) (hF : m_Fm w0 w) (h0 : D_c_Reply_renderLines_80 F x0 x1 y0 y1 T = some Tz) : m_Rb l M_219 (80, [(0, .ref x0), (1, rv x1)], [.ref y0, rv y1], w) (fun v w' => v = none ∧ RT Tz w' ∧ m_Fm w0 w') T Tz 10 1000 := by
  rw [D_c_Reply_renderLines_80] at h0
  obtain ⟨a104, e105, j106⟩ := bS h0
  subst e105
  obtain ⟨_, e107, j108⟩ := bS j106
  obtain ⟨_, g109⟩ := RT.cls h e107
  obtain ⟨v110, T111, e112, j113⟩ := bS2 j108
  refine m_Rb.callR b_219 (y_cv d_219_80 rfl q_163 (m_isRecv_of rfl g109) (show m_takeI _ _ = some (_, [_, _], []) from m_takeI_of rfl rfl rfl (Nat.le_of_ble_eq_true rfl)) (by simp only [m_okf, List.all_cons, List.all_nil, Bool.and_true, Bool.and_self, m_okv_i, m_okv_l, m_okv_0, m_okv_n0, m_okv_t, RT.okn h hx0, RT.okv h hx0, RT.okv h hx1, m_okv_out (a := y0) hy0, RT.okn h hy1, RT.okv h hy1]) rfl) (T_c_StringBuilder_append hy1 hy0 h e112) hF rfl (fun w114 o114 h114 f114 k114 => ?_) (by decide) (by decide)
  refine m_Rb.n0 b_219 (x_bipush (z := 10) d_219_83 (by decide)) ?_
  obtain ⟨a115, e116, j117⟩ := bS j113
  subst e116
  obtain ⟨_, e118, j119⟩ := bS j117
  obtain ⟨_, g120⟩ := RT.cls h114 e118
  obtain ⟨v121, T122, e123, j124⟩ := bS2 j119
  refine m_Rb.callR b_219 (y_cv d_219_85 rfl q_214 (m_isRecv_of rfl g120) (show m_takeI _ _ = some (_, [_, _], []) from m_takeI_of rfl rfl rfl (Nat.le_of_ble_eq_true rfl)) (by simp only [m_okf, List.all_cons, List.all_nil, Bool.and_true, Bool.and_self, m_okv_i, m_okv_l, m_okv_0, m_okv_n0, m_okv_t, RT.okn h114 (okm hx0 k114), RT.okv h114 (okm hx0 k114), RT.okv h114 (okm hx1 k114), RT.okn h114 o114, RT.okv h114 o114]) rfl) (T_c_StringBuilder_append214 o114 h114 e123) f114 rfl (fun w125 o125 h125 f125 k125 => ?_) (by decide) (by decide)
  refine m_Rb.n0 b_219 (x_pop d_219_88 (cat_rv v121)) ?_
  refine m_Rb.n0 b_219 (x_aload_n d_219_89 rfl) ?_
  obtain ⟨v126, e127, j128⟩ := bS j124
  refine m_Rb.tgetI b_219 d_219_90 rfl h125 e127 ?_
  cases hc133 : m_c1 .eq v126 with
  | true =>
    have j134 := cT hc133 j128
    refine m_Rb.n0 b_219 (x_ift d_219_93 rfl hc133) ?_
    exact m_Rb.pick [0, 1] rfl (T_c_Reply_renderLines_166 (okm (okm hx0 k114) k125) (okm (okm hx1 k114) k125) h125 f125 j134)
  | false =>
    have j134 := cF hc133 j128
    refine m_Rb.n0 b_219 (x_iff d_219_93 rfl hc133) ?_
    refine m_Rb.n0 b_219 (x_aloadr_n (x := x1) d_219_96 rfl) ?_
    refine m_Rb.n0 b_219 (x_text d_219_97 rfl rfl) ?_
    obtain ⟨a135, e136, j137⟩ := bS j134
    subst e136
    obtain ⟨_, e138, j139⟩ := bS j137
    obtain ⟨_, g140⟩ := RT.cls h125 e138
    obtain ⟨v141, T142, e143, j144⟩ := bS2 j139
    refine m_Rb.callR b_219 (y_cv d_219_99 rfl q_163 (m_isRecv_of rfl g140) (show m_takeI _ _ = some (_, [_, _], []) from m_takeI_of rfl rfl rfl (Nat.le_of_ble_eq_true rfl)) (by simp only [m_okf, List.all_cons, List.all_nil, Bool.and_true, Bool.and_self, m_okv_i, m_okv_l, m_okv_0, m_okv_n0, m_okv_t, RT.okn h125 (okm (okm hx0 k114) k125), RT.okv h125 (okm (okm hx0 k114) k125), RT.okn h125 (okm (okm hx1 k114) k125), RT.okv h125 (okm (okm hx1 k114) k125), m_okv_out (a := 39) (by decide)]) rfl) (T_c_StringBuilder_append (okm (okm hx1 k114) k125) (by decide) h125 e143) f125 rfl (fun w145 o145 h145 f145 k145 => ?_) (by decide) (by decide)
    refine m_Rb.n0 b_219 (x_aload_n d_219_102 rfl) ?_
    obtain ⟨v146, e147, j148⟩ := bS j144
    refine m_Rb.tgetI b_219 d_219_103 rfl h145 e147 ?_
    refine m_Rb.n0 b_219 (x_iconst (z := 1) d_219_106 (by decide)) ?_
    refine m_Rb.n0 b_219 (x_iand d_219_107 rfl) ?_
    cases hc153 : m_c1 .eq (v146 &&& (1 : Int32)) with
    | true =>
      have j154 := cT hc153 j148
      refine m_Rb.n0 b_219 (x_ift d_219_108 rfl hc153) ?_
      refine m_Rb.n0 b_219 (x_text d_219_116 rfl rfl) ?_
      exact m_Rb.pick [0, 1] rfl (T_c_Reply_renderLines_118 (okm (okm (okm hx0 k114) k125) k145) (okm (okm (okm hx1 k114) k125) k145) (by decide) o145 h145 f145 j154)
    | false =>
      have j154 := cF hc153 j148
      refine m_Rb.n0 b_219 (x_iff d_219_108 rfl hc153) ?_
      refine m_Rb.n0 b_219 (x_text d_219_111 rfl rfl) ?_
      refine m_Rb.n0 b_219 (x_goto d_219_113 rfl) ?_
      exact m_Rb.pick [0, 1] rfl (T_c_Reply_renderLines_118 (okm (okm (okm hx0 k114) k125) k145) (okm (okm (okm hx1 k114) k125) k145) (by decide) o145 h145 f145 j154)
def D_c_Reply_renderLines (F : Nat) (a0 : Nat) (p0 : Option Nat) (T : tT) : Option (tT) := (p0).bind fun a1 => (tcl T a1 3).bind fun _ => bd2 (D_c_StringBuilder_append F a1 32 T) fun v7 T8 => (tgi T8 a0 8 3).bind fun v12 => (tgi T8 a0 8 4).bind fun v15 => (v7).bind fun a18 => (tcl T8 a18 3).bind fun _ => bd2 (D_c_StringBuilder_append184 F a18 (((8 : Int32) * v12) + v15) T8) fun v24 T25 => (v24).bind fun a29 => (tcl T25 a29 3).bind fun _ => bd2 (D_c_StringBuilder_append F a29 33 T25) fun v35 T36 => (tcl T36 a1 3).bind fun _ => bd2 (D_c_StringBuilder_append F a1 34 T36) fun v43 T44 => (tgi T44 a0 8 6).bind fun v48 => (v43).bind fun a51 => (tcl T44 a51 3).bind fun _ => bd2 (D_c_StringBuilder_append184 F a51 v48 T44) fun v57 T58 => (v57).bind fun a62 => (tcl T58 a62 3).bind fun _ => bd2 (D_c_StringBuilder_append214 F a62 (10 : Int32) T58) fun v68 T69 => (tcl T69 a1 3).bind fun _ => bd2 (D_c_StringBuilder_append F a1 35 T69) fun v76 T77 => (tgi T77 a0 8 7).bind fun v81 => cond (m_c2 .ne v81 (1 : Int32)) ((tgi T77 a0 8 7).bind fun v95 => cond (m_c2 .ne v95 (2 : Int32)) (D_c_Reply_renderLines_80 F a0 (some a1) 38 v76 T77) (D_c_Reply_renderLines_80 F a0 (some a1) 37 v76 T77)) (D_c_Reply_renderLines_80 F a0 (some a1) 36 v76 T77)
theorem T_c_Reply_renderLines {l : Launch} {w : List mM} {F : Nat} {a0 : Nat} {p0 : Option Nat} {T : tT} {Tz : tT} (ha0 : okr T.2.1 (some a0)) (hp0 : okr T.2.1 p0) (h : RT T w) (h0 : D_c_Reply_renderLines F a0 p0 T = some Tz) : m_Rb l M_219 (m_ent M_219 [.ref a0, rv p0] w) (fun v w' => v = none ∧ RT Tz w' ∧ m_Fm w w') T Tz 10 1000 := by
  rw [show m_ent M_219 [.ref a0, rv p0] w = (0, [(0, .ref a0), (1, rv p0)], [], w) from by first | rfl | (simp only [m_ent, lv_args_r, lv_args_a, lv_args_i, lv_args_l, lv_args_0]; done) | (simp only [m_ent, lv_args_r, lv_args_a, lv_args_i, lv_args_l, lv_args_0]; rfl)]
  generalize hw0 : w = w0 at h ⊢
  have hF : m_Fm w0 w0 := m_Fm.refl
  rw [D_c_Reply_renderLines] at h0
  refine m_Rb.n0 b_219 (x_aloadr_n (x := p0) d_219_0 rfl) ?_
  refine m_Rb.n0 b_219 (x_text d_219_1 rfl rfl) ?_
  obtain ⟨a1, e2, j3⟩ := bS h0
  subst e2
  obtain ⟨_, e4, j5⟩ := bS j3
  obtain ⟨_, g6⟩ := RT.cls h e4
  obtain ⟨v7, T8, e9, j10⟩ := bS2 j5
  refine m_Rb.callR b_219 (y_cv d_219_3 rfl q_163 (m_isRecv_of rfl g6) (show m_takeI _ _ = some (_, [_, _], []) from m_takeI_of rfl rfl rfl (Nat.le_of_ble_eq_true rfl)) (by simp only [m_okf, List.all_cons, List.all_nil, Bool.and_true, Bool.and_self, m_okv_i, m_okv_l, m_okv_0, m_okv_n0, m_okv_t, RT.okn h ha0, RT.okv h ha0, RT.okn h hp0, RT.okv h hp0, m_okv_out (a := 32) (by decide)]) rfl) (T_c_StringBuilder_append hp0 (by decide) h e9) hF rfl (fun w11 o11 h11 f11 k11 => ?_) (by decide) (by decide)
  refine m_Rb.n0 b_219 (x_bipush (z := 8) d_219_6 (by decide)) ?_
  refine m_Rb.n0 b_219 (x_aload_n d_219_8 rfl) ?_
  obtain ⟨v12, e13, j14⟩ := bS j10
  refine m_Rb.tgetI b_219 d_219_9 rfl h11 e13 ?_
  refine m_Rb.n0 b_219 (x_imul d_219_12 rfl) ?_
  refine m_Rb.n0 b_219 (x_aload_n d_219_13 rfl) ?_
  obtain ⟨v15, e16, j17⟩ := bS j14
  refine m_Rb.tgetI b_219 d_219_14 rfl h11 e16 ?_
  refine m_Rb.n0 b_219 (x_iadd d_219_17 rfl) ?_
  obtain ⟨a18, e19, j20⟩ := bS j17
  subst e19
  obtain ⟨_, e21, j22⟩ := bS j20
  obtain ⟨_, g23⟩ := RT.cls h11 e21
  obtain ⟨v24, T25, e26, j27⟩ := bS2 j22
  refine m_Rb.callR b_219 (y_cv d_219_18 rfl q_184 (m_isRecv_of rfl g23) (show m_takeI _ _ = some (_, [_, _], []) from m_takeI_of rfl rfl rfl (Nat.le_of_ble_eq_true rfl)) (by simp only [m_okf, List.all_cons, List.all_nil, Bool.and_true, Bool.and_self, m_okv_i, m_okv_l, m_okv_0, m_okv_n0, m_okv_t, RT.okn h11 (okm ha0 k11), RT.okv h11 (okm ha0 k11), RT.okn h11 (okm hp0 k11), RT.okv h11 (okm hp0 k11), RT.okn h11 o11, RT.okv h11 o11]) rfl) (T_c_StringBuilder_append184 o11 h11 e26) f11 rfl (fun w28 o28 h28 f28 k28 => ?_) (by decide) (by decide)
  refine m_Rb.n0 b_219 (x_text d_219_21 rfl rfl) ?_
  obtain ⟨a29, e30, j31⟩ := bS j27
  subst e30
  obtain ⟨_, e32, j33⟩ := bS j31
  obtain ⟨_, g34⟩ := RT.cls h28 e32
  obtain ⟨v35, T36, e37, j38⟩ := bS2 j33
  refine m_Rb.callR b_219 (y_cv d_219_23 rfl q_163 (m_isRecv_of rfl g34) (show m_takeI _ _ = some (_, [_, _], []) from m_takeI_of rfl rfl rfl (Nat.le_of_ble_eq_true rfl)) (by simp only [m_okf, List.all_cons, List.all_nil, Bool.and_true, Bool.and_self, m_okv_i, m_okv_l, m_okv_0, m_okv_n0, m_okv_t, RT.okn h28 (okm (okm ha0 k11) k28), RT.okv h28 (okm (okm ha0 k11) k28), RT.okn h28 (okm (okm hp0 k11) k28), RT.okv h28 (okm (okm hp0 k11) k28), m_okv_out (a := 33) (by decide), RT.okn h28 o28, RT.okv h28 o28]) rfl) (T_c_StringBuilder_append o28 (by decide) h28 e37) f28 rfl (fun w39 o39 h39 f39 k39 => ?_) (by decide) (by decide)
  refine m_Rb.n0 b_219 (x_pop d_219_26 (cat_rv v35)) ?_
  refine m_Rb.n0 b_219 (x_aload_n d_219_27 rfl) ?_
  refine m_Rb.n0 b_219 (x_text d_219_28 rfl rfl) ?_
  obtain ⟨_, e40, j41⟩ := bS j38
  obtain ⟨_, g42⟩ := RT.cls h39 e40
  obtain ⟨v43, T44, e45, j46⟩ := bS2 j41
  refine m_Rb.callR b_219 (y_cv d_219_30 rfl q_163 (m_isRecv_of rfl g42) (show m_takeI _ _ = some (_, [_, _], []) from m_takeI_of rfl rfl rfl (Nat.le_of_ble_eq_true rfl)) (by simp only [m_okf, List.all_cons, List.all_nil, Bool.and_true, Bool.and_self, m_okv_i, m_okv_l, m_okv_0, m_okv_n0, m_okv_t, RT.okn h39 (okm (okm (okm ha0 k11) k28) k39), RT.okv h39 (okm (okm (okm ha0 k11) k28) k39), RT.okn h39 (okm (okm (okm hp0 k11) k28) k39), RT.okv h39 (okm (okm (okm hp0 k11) k28) k39), m_okv_out (a := 34) (by decide)]) rfl) (T_c_StringBuilder_append (okm (okm (okm hp0 k11) k28) k39) (by decide) h39 e45) f39 rfl (fun w47 o47 h47 f47 k47 => ?_) (by decide) (by decide)
  refine m_Rb.n0 b_219 (x_aload_n d_219_33 rfl) ?_
  obtain ⟨v48, e49, j50⟩ := bS j46
  refine m_Rb.tgetI b_219 d_219_34 rfl h47 e49 ?_
  obtain ⟨a51, e52, j53⟩ := bS j50
  subst e52
  obtain ⟨_, e54, j55⟩ := bS j53
  obtain ⟨_, g56⟩ := RT.cls h47 e54
  obtain ⟨v57, T58, e59, j60⟩ := bS2 j55
  refine m_Rb.callR b_219 (y_cv d_219_37 rfl q_184 (m_isRecv_of rfl g56) (show m_takeI _ _ = some (_, [_, _], []) from m_takeI_of rfl rfl rfl (Nat.le_of_ble_eq_true rfl)) (by simp only [m_okf, List.all_cons, List.all_nil, Bool.and_true, Bool.and_self, m_okv_i, m_okv_l, m_okv_0, m_okv_n0, m_okv_t, RT.okn h47 (okm (okm (okm (okm ha0 k11) k28) k39) k47), RT.okv h47 (okm (okm (okm (okm ha0 k11) k28) k39) k47), RT.okn h47 (okm (okm (okm (okm hp0 k11) k28) k39) k47), RT.okv h47 (okm (okm (okm (okm hp0 k11) k28) k39) k47), RT.okn h47 o47, RT.okv h47 o47]) rfl) (T_c_StringBuilder_append184 o47 h47 e59) f47 rfl (fun w61 o61 h61 f61 k61 => ?_) (by decide) (by decide)
  refine m_Rb.n0 b_219 (x_bipush (z := 10) d_219_40 (by decide)) ?_
  obtain ⟨a62, e63, j64⟩ := bS j60
  subst e63
  obtain ⟨_, e65, j66⟩ := bS j64
  obtain ⟨_, g67⟩ := RT.cls h61 e65
  obtain ⟨v68, T69, e70, j71⟩ := bS2 j66
  refine m_Rb.callR b_219 (y_cv d_219_42 rfl q_214 (m_isRecv_of rfl g67) (show m_takeI _ _ = some (_, [_, _], []) from m_takeI_of rfl rfl rfl (Nat.le_of_ble_eq_true rfl)) (by simp only [m_okf, List.all_cons, List.all_nil, Bool.and_true, Bool.and_self, m_okv_i, m_okv_l, m_okv_0, m_okv_n0, m_okv_t, RT.okn h61 (okm (okm (okm (okm (okm ha0 k11) k28) k39) k47) k61), RT.okv h61 (okm (okm (okm (okm (okm ha0 k11) k28) k39) k47) k61), RT.okn h61 (okm (okm (okm (okm (okm hp0 k11) k28) k39) k47) k61), RT.okv h61 (okm (okm (okm (okm (okm hp0 k11) k28) k39) k47) k61), RT.okn h61 o61, RT.okv h61 o61]) rfl) (T_c_StringBuilder_append214 o61 h61 e70) f61 rfl (fun w72 o72 h72 f72 k72 => ?_) (by decide) (by decide)
  refine m_Rb.n0 b_219 (x_pop d_219_45 (cat_rv v68)) ?_
  refine m_Rb.n0 b_219 (x_aload_n d_219_46 rfl) ?_
  refine m_Rb.n0 b_219 (x_text d_219_47 rfl rfl) ?_
  obtain ⟨_, e73, j74⟩ := bS j71
  obtain ⟨_, g75⟩ := RT.cls h72 e73
  obtain ⟨v76, T77, e78, j79⟩ := bS2 j74
  refine m_Rb.callR b_219 (y_cv d_219_49 rfl q_163 (m_isRecv_of rfl g75) (show m_takeI _ _ = some (_, [_, _], []) from m_takeI_of rfl rfl rfl (Nat.le_of_ble_eq_true rfl)) (by simp only [m_okf, List.all_cons, List.all_nil, Bool.and_true, Bool.and_self, m_okv_i, m_okv_l, m_okv_0, m_okv_n0, m_okv_t, RT.okn h72 (okm (okm (okm (okm (okm (okm ha0 k11) k28) k39) k47) k61) k72), RT.okv h72 (okm (okm (okm (okm (okm (okm ha0 k11) k28) k39) k47) k61) k72), RT.okn h72 (okm (okm (okm (okm (okm (okm hp0 k11) k28) k39) k47) k61) k72), RT.okv h72 (okm (okm (okm (okm (okm (okm hp0 k11) k28) k39) k47) k61) k72), m_okv_out (a := 35) (by decide)]) rfl) (T_c_StringBuilder_append (okm (okm (okm (okm (okm (okm hp0 k11) k28) k39) k47) k61) k72) (by decide) h72 e78) f72 rfl (fun w80 o80 h80 f80 k80 => ?_) (by decide) (by decide)
  refine m_Rb.n0 b_219 (x_aload_n d_219_52 rfl) ?_
  obtain ⟨v81, e82, j83⟩ := bS j79
  refine m_Rb.tgetI b_219 d_219_53 rfl h80 e82 ?_
  refine m_Rb.n0 b_219 (x_iconst (z := 1) d_219_56 (by decide)) ?_
  cases hc93 : m_c2 .ne v81 (1 : Int32) with
  | true =>
    have j94 := cT hc93 j83
    refine m_Rb.n0 b_219 (x_ict d_219_57 rfl hc93) ?_
    refine m_Rb.n0 b_219 (x_aload_n d_219_65 rfl) ?_
    obtain ⟨v95, e96, j97⟩ := bS j94
    refine m_Rb.tgetI b_219 d_219_66 rfl h80 e96 ?_
    refine m_Rb.n0 b_219 (x_iconst (z := 2) d_219_69 (by decide)) ?_
    cases hc102 : m_c2 .ne v95 (2 : Int32) with
    | true =>
      have j103 := cT hc102 j97
      refine m_Rb.n0 b_219 (x_ict d_219_70 rfl hc102) ?_
      refine m_Rb.n0 b_219 (x_text d_219_78 rfl rfl) ?_
      exact m_Rb.pick [0, 1] rfl (T_c_Reply_renderLines_80 (okm (okm (okm (okm (okm (okm (okm ha0 k11) k28) k39) k47) k61) k72) k80) (okm (okm (okm (okm (okm (okm (okm hp0 k11) k28) k39) k47) k61) k72) k80) (by decide) o80 h80 f80 j103)
    | false =>
      have j103 := cF hc102 j97
      refine m_Rb.n0 b_219 (x_icf d_219_70 rfl hc102) ?_
      refine m_Rb.n0 b_219 (x_text d_219_73 rfl rfl) ?_
      refine m_Rb.n0 b_219 (x_goto d_219_75 rfl) ?_
      exact m_Rb.pick [0, 1] rfl (T_c_Reply_renderLines_80 (okm (okm (okm (okm (okm (okm (okm ha0 k11) k28) k39) k47) k61) k72) k80) (okm (okm (okm (okm (okm (okm (okm hp0 k11) k28) k39) k47) k61) k72) k80) (by decide) o80 h80 f80 j103)
  | false =>
    have j94 := cF hc93 j83
    refine m_Rb.n0 b_219 (x_icf d_219_57 rfl hc93) ?_
    refine m_Rb.n0 b_219 (x_text d_219_60 rfl rfl) ?_
    refine m_Rb.n0 b_219 (x_goto d_219_62 rfl) ?_
    exact m_Rb.pick [0, 1] rfl (T_c_Reply_renderLines_80 (okm (okm (okm (okm (okm (okm (okm ha0 k11) k28) k39) k47) k61) k72) k80) (okm (okm (okm (okm (okm (okm (okm hp0 k11) k28) k39) k47) k61) k72) k80) (by decide) o80 h80 f80 j94)
def D_c_Reply_render_50 (F : Nat) : Nat → Nat → Option Nat → Int32 → tT → Option (tT)
  | 0, _, _, _, _ => none
  | n + 1, x0, x1, x2, T => (tgi T x0 8 9).bind fun v91 => (tgi T x0 8 10).bind fun v94 => cond (m_c2 .ge x2 (v91 + v94)) (some T) ((tgi T x0 8 2).bind fun v99 => cond (m_c1 .ne v99) (some T) ((tgi T x0 8 11).bind fun v104 => (x1).bind fun a107 => (tcl T a107 3).bind fun _ => bd2 (D_c_StringBuilder_append214 F a107 (((((v104 + ((7 : Int32) * x2)) + (x2 >>> ((4 : Int32) &&& 31))) &&& (255 : Int32)).toUInt32 % 65536).toInt32) T) fun v113 T114 => D_c_Reply_render_50 F n x0 (some a107) (x2 + Int32.ofInt 1) T114))
theorem T_c_Reply_render_50 {l : Launch} {w0 : List mM} {F : Nat} : ∀ (n : Nat) {x0 : Nat} {x1 : Option Nat} {x2 : Int32} {T : tT} {w : List mM} {Tz : tT}, okr T.2.1 (some x0) → okr T.2.1 x1 → RT T w → m_Fm w0 w → D_c_Reply_render_50 F n x0 x1 x2 T = some Tz → m_Rb l M_213 (50, [(0, .ref x0), (1, rv x1), (2, .int x2)], [], w) (fun v w' => v = none ∧ RT Tz w' ∧ m_Fm w0 w') T Tz 11 1100 := by
  intro n
  induction n with
  | zero => intro x0 x1 x2 T w Tz hx0 hx1 h hF h0; cases h0
  | succ n ih =>
    intro x0 x1 x2 T w Tz hx0 hx1 h hF h0
    rw [D_c_Reply_render_50] at h0
    refine m_Rb.n0 b_213 (x_iload_n d_213_50 rfl) ?_
    refine m_Rb.n0 b_213 (x_aload_n d_213_51 rfl) ?_
    obtain ⟨v91, e92, j93⟩ := bS h0
    refine m_Rb.tgetI b_213 d_213_52 rfl h e92 ?_
    refine m_Rb.n0 b_213 (x_aload_n d_213_55 rfl) ?_
    obtain ⟨v94, e95, j96⟩ := bS j93
    refine m_Rb.tgetI b_213 d_213_56 rfl h e95 ?_
    refine m_Rb.n0 b_213 (x_iadd d_213_59 rfl) ?_
    cases hc97 : m_c2 .ge x2 (v91 + v94) with
    | true =>
      have j98 := cT hc97 j96
      refine m_Rb.n0 b_213 (x_ict d_213_60 rfl hc97) ?_
      cases j98
      exact m_Rb.ret b_213 (m_rt_vr d_213_99 rfl) ⟨rfl, h, hF⟩
    | false =>
      have j98 := cF hc97 j96
      refine m_Rb.n0 b_213 (x_icf d_213_60 rfl hc97) ?_
      refine m_Rb.n0 b_213 (x_aload_n d_213_63 rfl) ?_
      obtain ⟨v99, e100, j101⟩ := bS j98
      refine m_Rb.tgetI b_213 d_213_64 rfl h e100 ?_
      cases hc102 : m_c1 .ne v99 with
      | true =>
        have j103 := cT hc102 j101
        refine m_Rb.n0 b_213 (x_ift d_213_67 rfl hc102) ?_
        cases j103
        exact m_Rb.ret b_213 (m_rt_vr d_213_99 rfl) ⟨rfl, h, hF⟩
      | false =>
        have j103 := cF hc102 j101
        refine m_Rb.n0 b_213 (x_iff d_213_67 rfl hc102) ?_
        refine m_Rb.n0 b_213 (x_aloadr_n (x := x1) d_213_70 rfl) ?_
        refine m_Rb.n0 b_213 (x_aload_n d_213_71 rfl) ?_
        obtain ⟨v104, e105, j106⟩ := bS j103
        refine m_Rb.tgetI b_213 d_213_72 rfl h e105 ?_
        refine m_Rb.n0 b_213 (x_bipush (z := 7) d_213_75 (by decide)) ?_
        refine m_Rb.n0 b_213 (x_iload_n d_213_77 rfl) ?_
        refine m_Rb.n0 b_213 (x_imul d_213_78 rfl) ?_
        refine m_Rb.n0 b_213 (x_iadd d_213_79 rfl) ?_
        refine m_Rb.n0 b_213 (x_iload_n d_213_80 rfl) ?_
        refine m_Rb.n0 b_213 (x_iconst (z := 4) d_213_81 (by decide)) ?_
        refine m_Rb.n0 b_213 (x_ishr d_213_82 rfl) ?_
        refine m_Rb.n0 b_213 (x_iadd d_213_83 rfl) ?_
        refine m_Rb.n0 b_213 (x_sipush (z := 255) d_213_84 (by decide)) ?_
        refine m_Rb.n0 b_213 (x_iand d_213_87 rfl) ?_
        refine m_Rb.n0 b_213 (x_i2c d_213_88 rfl) ?_
        obtain ⟨a107, e108, j109⟩ := bS j106
        subst e108
        obtain ⟨_, e110, j111⟩ := bS j109
        obtain ⟨_, g112⟩ := RT.cls h e110
        obtain ⟨v113, T114, e115, j116⟩ := bS2 j111
        refine m_Rb.callR b_213 (y_cv d_213_89 rfl q_214 (m_isRecv_of rfl g112) (show m_takeI _ _ = some (_, [_, _], []) from m_takeI_of rfl rfl rfl (Nat.le_of_ble_eq_true rfl)) (by simp only [m_okf, List.all_cons, List.all_nil, Bool.and_true, Bool.and_self, m_okv_i, m_okv_l, m_okv_0, m_okv_n0, m_okv_t, RT.okn h hx0, RT.okv h hx0, RT.okn h hx1, RT.okv h hx1]) rfl) (T_c_StringBuilder_append214 hx1 h e115) hF rfl (fun w117 o117 h117 f117 k117 => ?_) (by decide) (by decide)
        refine m_Rb.n0 b_213 (x_pop d_213_92 (cat_rv v113)) ?_
        refine m_Rb.n0 b_213 (x_iinc d_213_93 rfl rfl rfl (show m_put1 _ _ _ = [(2, _), (0, _), (1, _)] from rfl)) ?_
        refine m_Rb.n0 b_213 (x_goto d_213_96 rfl) ?_
        exact m_Rb.pick [1, 2, 0] rfl (ih (okm hx0 k117) (okm hx1 k117) h117 f117 j116)
def D_c_Reply_render_38 (F : Nat) (x0 : Nat) (x1 : Option Nat) (T : tT) : Option (tT) := (x1).bind fun a77 => (tcl T a77 3).bind fun _ => bd2 (D_c_StringBuilder_append214 F a77 (10 : Int32) T) fun v83 T84 => (tgi T84 x0 8 9).bind fun v88 => D_c_Reply_render_50 F F x0 (some a77) v88 T84
theorem T_c_Reply_render_38 {l : Launch} {w0 : List mM} {F : Nat} {x0 : Nat} {x1 : Option Nat} {T : tT} {w : List mM} {Tz : tT} (hx0 : okr T.2.1 (some x0)) (hx1 : okr T.2.1 x1) (h : RT T w) (hF : m_Fm w0 w) (h0 : D_c_Reply_render_38 F x0 x1 T = some Tz) : m_Rb l M_213 (38, [(0, .ref x0), (1, rv x1)], [], w) (fun v w' => v = none ∧ RT Tz w' ∧ m_Fm w0 w') T Tz 11 1100 := by
  rw [D_c_Reply_render_38] at h0
  refine m_Rb.n0 b_213 (x_aloadr_n (x := x1) d_213_38 rfl) ?_
  refine m_Rb.n0 b_213 (x_bipush (z := 10) d_213_39 (by decide)) ?_
  obtain ⟨a77, e78, j79⟩ := bS h0
  subst e78
  obtain ⟨_, e80, j81⟩ := bS j79
  obtain ⟨_, g82⟩ := RT.cls h e80
  obtain ⟨v83, T84, e85, j86⟩ := bS2 j81
  refine m_Rb.callR b_213 (y_cv d_213_41 rfl q_214 (m_isRecv_of rfl g82) (show m_takeI _ _ = some (_, [_, _], []) from m_takeI_of rfl rfl rfl (Nat.le_of_ble_eq_true rfl)) (by simp only [m_okf, List.all_cons, List.all_nil, Bool.and_true, Bool.and_self, m_okv_i, m_okv_l, m_okv_0, m_okv_n0, m_okv_t, RT.okn h hx0, RT.okv h hx0, RT.okn h hx1, RT.okv h hx1]) rfl) (T_c_StringBuilder_append214 hx1 h e85) hF rfl (fun w87 o87 h87 f87 k87 => ?_) (by decide) (by decide)
  refine m_Rb.n0 b_213 (x_pop d_213_44 (cat_rv v83)) ?_
  refine m_Rb.n0 b_213 (x_aload_n d_213_45 rfl) ?_
  obtain ⟨v88, e89, j90⟩ := bS j86
  refine m_Rb.tgetI b_213 d_213_46 rfl h87 e89 ?_
  refine m_Rb.n0 b_213 (x_istore_n d_213_49 rfl (show m_put1 _ _ _ = [(2, _), (0, _), (1, _)] from rfl)) ?_
  exact m_Rb.pick [1, 2, 0] rfl (T_c_Reply_render_50 F (okm hx0 k87) (okm hx1 k87) h87 f87 j90)
def D_c_Reply_render (F : Nat) (a0 : Nat) (p0 : Option Nat) (T : tT) : Option (tT) := (tgi T a0 8 1).bind fun v1 => (p0).bind fun a4 => (tcl T a4 3).bind fun _ => bd2 (D_c_StringBuilder_append184 F a4 v1 T) fun v10 T11 => (v10).bind fun a15 => (tcl T11 a15 3).bind fun _ => bd2 (D_c_StringBuilder_append214 F a15 (32 : Int32) T11) fun v21 T22 => (tcl T22 a0 8).bind fun _ => (D_c_Reply_words F a0 T22).bind fun v29 => (v21).bind fun a33 => (tcl T22 a33 3).bind fun _ => (v29).bind fun a39 => (tou a39).bind fun _ => bd2 (D_c_StringBuilder_append F a33 a39 T22) fun v45 T46 => (v45).bind fun a50 => (tcl T46 a50 3).bind fun _ => bd2 (D_c_StringBuilder_append214 F a50 (10 : Int32) T46) fun v56 T57 => (tgi T57 a0 8 3).bind fun v61 => cond (m_c1 .eq v61) (D_c_Reply_render_38 F a0 (some a4) T57) ((tcl T57 a0 8).bind fun _ => (D_c_Reply_renderLines F a0 (some a4) T57).bind fun T73 => D_c_Reply_render_38 F a0 (some a4) T73)
theorem T_c_Reply_render {l : Launch} {w : List mM} {F : Nat} {a0 : Nat} {p0 : Option Nat} {T : tT} {Tz : tT} (ha0 : okr T.2.1 (some a0)) (hp0 : okr T.2.1 p0) (h : RT T w) (h0 : D_c_Reply_render F a0 p0 T = some Tz) : m_Rb l M_213 (m_ent M_213 [.ref a0, rv p0] w) (fun v w' => v = none ∧ RT Tz w' ∧ m_Fm w w') T Tz 11 1100 := by
  rw [show m_ent M_213 [.ref a0, rv p0] w = (0, [(0, .ref a0), (1, rv p0)], [], w) from by first | rfl | (simp only [m_ent, lv_args_r, lv_args_a, lv_args_i, lv_args_l, lv_args_0]; done) | (simp only [m_ent, lv_args_r, lv_args_a, lv_args_i, lv_args_l, lv_args_0]; rfl)]
  generalize hw0 : w = w0 at h ⊢
  have hF : m_Fm w0 w0 := m_Fm.refl
  rw [D_c_Reply_render] at h0
  refine m_Rb.n0 b_213 (x_aloadr_n (x := p0) d_213_0 rfl) ?_
  refine m_Rb.n0 b_213 (x_aload_n d_213_1 rfl) ?_
  obtain ⟨v1, e2, j3⟩ := bS h0
  refine m_Rb.tgetI b_213 d_213_2 rfl h e2 ?_
  obtain ⟨a4, e5, j6⟩ := bS j3
  subst e5
  obtain ⟨_, e7, j8⟩ := bS j6
  obtain ⟨_, g9⟩ := RT.cls h e7
  obtain ⟨v10, T11, e12, j13⟩ := bS2 j8
  refine m_Rb.callR b_213 (y_cv d_213_5 rfl q_184 (m_isRecv_of rfl g9) (show m_takeI _ _ = some (_, [_, _], []) from m_takeI_of rfl rfl rfl (Nat.le_of_ble_eq_true rfl)) (by simp only [m_okf, List.all_cons, List.all_nil, Bool.and_true, Bool.and_self, m_okv_i, m_okv_l, m_okv_0, m_okv_n0, m_okv_t, RT.okn h ha0, RT.okv h ha0, RT.okn h hp0, RT.okv h hp0]) rfl) (T_c_StringBuilder_append184 hp0 h e12) hF rfl (fun w14 o14 h14 f14 k14 => ?_) (by decide) (by decide)
  refine m_Rb.n0 b_213 (x_bipush (z := 32) d_213_8 (by decide)) ?_
  obtain ⟨a15, e16, j17⟩ := bS j13
  subst e16
  obtain ⟨_, e18, j19⟩ := bS j17
  obtain ⟨_, g20⟩ := RT.cls h14 e18
  obtain ⟨v21, T22, e23, j24⟩ := bS2 j19
  refine m_Rb.callR b_213 (y_cv d_213_10 rfl q_214 (m_isRecv_of rfl g20) (show m_takeI _ _ = some (_, [_, _], []) from m_takeI_of rfl rfl rfl (Nat.le_of_ble_eq_true rfl)) (by simp only [m_okf, List.all_cons, List.all_nil, Bool.and_true, Bool.and_self, m_okv_i, m_okv_l, m_okv_0, m_okv_n0, m_okv_t, RT.okn h14 (okm ha0 k14), RT.okv h14 (okm ha0 k14), RT.okn h14 (okm hp0 k14), RT.okv h14 (okm hp0 k14), RT.okn h14 o14, RT.okv h14 o14]) rfl) (T_c_StringBuilder_append214 o14 h14 e23) f14 rfl (fun w25 o25 h25 f25 k25 => ?_) (by decide) (by decide)
  refine m_Rb.n0 b_213 (x_aload_n d_213_13 rfl) ?_
  obtain ⟨_, e26, j27⟩ := bS j24
  obtain ⟨_, g28⟩ := RT.cls h25 e26
  obtain ⟨v29, e30, j31⟩ := bS j27
  refine m_Rb.callR b_213 (y_cv d_213_14 rfl q_218 (m_isRecv_of rfl g28) (show m_takeI _ _ = some (_, [_], [_]) from m_takeI_of rfl rfl rfl (Nat.le_of_ble_eq_true rfl)) (by simp only [m_okf, List.all_cons, List.all_nil, Bool.and_true, Bool.and_self, m_okv_i, m_okv_l, m_okv_0, m_okv_n0, m_okv_t, RT.okn h25 (okm (okm ha0 k14) k25), RT.okv h25 (okm (okm ha0 k14) k25), RT.okn h25 (okm (okm hp0 k14) k25), RT.okv h25 (okm (okm hp0 k14) k25), RT.okv h25 o25]) rfl) (T_c_Reply_words (okm (okm ha0 k14) k25) h25 e30) f25 rfl (fun w32 o32 h32 f32 k32 => ?_) (by decide) (by decide)
  obtain ⟨a33, e34, j35⟩ := bS j31
  subst e34
  obtain ⟨_, e36, j37⟩ := bS j35
  obtain ⟨_, g38⟩ := RT.cls h32 e36
  obtain ⟨a39, e40, j41⟩ := bS j37
  subst e40
  obtain ⟨_, e42, j43⟩ := bS j41
  have u44 := tou_ok e42
  obtain ⟨v45, T46, e47, j48⟩ := bS2 j43
  refine m_Rb.callR b_213 (y_cv d_213_17 rfl q_163 (m_isRecv_of rfl g38) (show m_takeI _ _ = some (_, [_, _], []) from m_takeI_of rfl rfl rfl (Nat.le_of_ble_eq_true rfl)) (by simp only [m_okf, List.all_cons, List.all_nil, Bool.and_true, Bool.and_self, m_okv_i, m_okv_l, m_okv_0, m_okv_n0, m_okv_t, RT.okn h32 (okm (okm ha0 k14) k25), RT.okv h32 (okm (okm ha0 k14) k25), RT.okn h32 (okm (okm hp0 k14) k25), RT.okv h32 (okm (okm hp0 k14) k25), m_okv_out (a := a39) u44, m_okv_outr (a := a39) u44, RT.okn h32 o25, RT.okv h32 o25]) rfl) (T_c_StringBuilder_append o25 u44 h32 e47) f32 rfl (fun w49 o49 h49 f49 k49 => ?_) (by decide) (by decide)
  refine m_Rb.n0 b_213 (x_bipush (z := 10) d_213_20 (by decide)) ?_
  obtain ⟨a50, e51, j52⟩ := bS j48
  subst e51
  obtain ⟨_, e53, j54⟩ := bS j52
  obtain ⟨_, g55⟩ := RT.cls h49 e53
  obtain ⟨v56, T57, e58, j59⟩ := bS2 j54
  refine m_Rb.callR b_213 (y_cv d_213_22 rfl q_214 (m_isRecv_of rfl g55) (show m_takeI _ _ = some (_, [_, _], []) from m_takeI_of rfl rfl rfl (Nat.le_of_ble_eq_true rfl)) (by simp only [m_okf, List.all_cons, List.all_nil, Bool.and_true, Bool.and_self, m_okv_i, m_okv_l, m_okv_0, m_okv_n0, m_okv_t, RT.okn h49 (okm (okm (okm ha0 k14) k25) k49), RT.okv h49 (okm (okm (okm ha0 k14) k25) k49), RT.okn h49 (okm (okm (okm hp0 k14) k25) k49), RT.okv h49 (okm (okm (okm hp0 k14) k25) k49), RT.okn h49 o49, RT.okv h49 o49]) rfl) (T_c_StringBuilder_append214 o49 h49 e58) f49 rfl (fun w60 o60 h60 f60 k60 => ?_) (by decide) (by decide)
  refine m_Rb.n0 b_213 (x_pop d_213_25 (cat_rv v56)) ?_
  refine m_Rb.n0 b_213 (x_aload_n d_213_26 rfl) ?_
  obtain ⟨v61, e62, j63⟩ := bS j59
  refine m_Rb.tgetI b_213 d_213_27 rfl h60 e62 ?_
  cases hc68 : m_c1 .eq v61 with
  | true =>
    have j69 := cT hc68 j63
    refine m_Rb.n0 b_213 (x_ift d_213_30 rfl hc68) ?_
    exact m_Rb.pick [0, 1] rfl (T_c_Reply_render_38 (okm (okm (okm (okm ha0 k14) k25) k49) k60) (okm (okm (okm (okm hp0 k14) k25) k49) k60) h60 f60 j69)
  | false =>
    have j69 := cF hc68 j63
    refine m_Rb.n0 b_213 (x_iff d_213_30 rfl hc68) ?_
    refine m_Rb.n0 b_213 (x_aload_n d_213_33 rfl) ?_
    refine m_Rb.n0 b_213 (x_aload_n d_213_34 rfl) ?_
    obtain ⟨_, e70, j71⟩ := bS j69
    obtain ⟨_, g72⟩ := RT.cls h60 e70
    obtain ⟨T73, e74, j75⟩ := bS j71
    refine m_Rb.callV b_213 (y_cv d_213_35 rfl q_219 (m_isRecv_of rfl g72) (show m_takeI _ _ = some (_, [_, _], []) from m_takeI_of rfl rfl rfl (Nat.le_of_ble_eq_true rfl)) (by simp only [m_okf, List.all_cons, List.all_nil, Bool.and_true, Bool.and_self, m_okv_i, m_okv_l, m_okv_0, m_okv_n0, m_okv_t, RT.okn h60 (okm (okm (okm (okm ha0 k14) k25) k49) k60), RT.okv h60 (okm (okm (okm (okm ha0 k14) k25) k49) k60), RT.okn h60 (okm (okm (okm (okm hp0 k14) k25) k49) k60), RT.okv h60 (okm (okm (okm (okm hp0 k14) k25) k49) k60)]) rfl) (T_c_Reply_renderLines (okm (okm (okm (okm ha0 k14) k25) k49) k60) (okm (okm (okm (okm hp0 k14) k25) k49) k60) h60 e74) f60 rfl (fun w76 h76 f76 k76 => ?_) (by decide) (by decide)
    exact m_Rb.pick [0, 1] rfl (T_c_Reply_render_38 (okm (okm (okm (okm (okm ha0 k14) k25) k49) k60) k76) (okm (okm (okm (okm (okm hp0 k14) k25) k49) k60) k76) h76 f76 j75)
def D_c_EdgeHouse_textOf_44 (F : Nat) (x0 : Nat) (x1 : Option Nat) (T : tT) : Option (Option Nat × tT) := (x1).bind fun a74 => (tgr T a74 8 13).bind fun v77 => some (v77, T)
theorem T_c_EdgeHouse_textOf_44 {l : Launch} {w0 : List mM} {F : Nat} {x0 : Nat} {x1 : Option Nat} {T : tT} {w : List mM} {yz : Option Nat} {Tz : tT} (hx0 : okr T.2.1 (some x0)) (hx1 : okr T.2.1 x1) (h : RT T w) (hF : m_Fm w0 w) (h0 : D_c_EdgeHouse_textOf_44 F x0 x1 T = some (yz, Tz)) : m_Rb l M_158 (44, [(0, .ref x0), (1, rv x1)], [], w) (fun v w' => v = some (rv yz) ∧ okr Tz.2.1 yz ∧ RT Tz w' ∧ m_Fm w0 w') T Tz 12 1200 := by
  rw [D_c_EdgeHouse_textOf_44] at h0
  refine m_Rb.n0 b_158 (x_aloadr_n (x := x1) d_158_44 rfl) ?_
  obtain ⟨a74, e75, j76⟩ := bS h0
  subst e75
  obtain ⟨v77, e78, j79⟩ := bS j76
  refine m_Rb.tgetR b_158 d_158_45 rfl h e78 (fun o80 => ?_)
  have o9 : okr T.2.1 v77 := o80
  cases j79
  exact m_Rb.ret b_158 (m_rt_rr d_158_48 rfl) ⟨rfl, o9, h, hF⟩
def D_c_EdgeHouse_textOf (F : Nat) (a0 : Nat) (p0 : Option Nat) (T : tT) : Option (Option Nat × tT) := (p0).bind fun a1 => (tgi T a1 8 1).bind fun v4 => cond (m_c1 .eq v4) (D_c_EdgeHouse_textOf_44 F a0 (some a1) T) ((tgr T a1 8 13).bind fun v13 => (v13).bind fun a17 => (tse F T a17).bind fun v20 => cond (m_c1 .eq v20) (D_c_EdgeHouse_textOf_44 F a0 (some a1) T) ((tgr T a0 0 9).bind fun v30 => (v30).bind fun a34 => (tcl T a34 3).bind fun _ => (D_c_StringBuilder_setLength F a34 (0 : Int32) T).bind fun T40 => (tgr T40 a0 0 9).bind fun v44 => (tcl T40 a1 8).bind fun _ => (D_c_Reply_render F a1 v44 T40).bind fun T51 => (tgr T51 a0 0 9).bind fun v55 => (v55).bind fun a59 => (tcl T51 a59 3).bind fun _ => bd2 (D_c_StringBuilder_toString F a59 T51) fun v65 T66 => (tpr T66 a1 8 13 v65).bind fun T70 => D_c_EdgeHouse_textOf_44 F a0 (some a1) T70))
theorem T_c_EdgeHouse_textOf {l : Launch} {w : List mM} {F : Nat} {a0 : Nat} {p0 : Option Nat} {T : tT} {yz : Option Nat} {Tz : tT} (ha0 : okr T.2.1 (some a0)) (hp0 : okr T.2.1 p0) (h : RT T w) (h0 : D_c_EdgeHouse_textOf F a0 p0 T = some (yz, Tz)) : m_Rb l M_158 (m_ent M_158 [.ref a0, rv p0] w) (fun v w' => v = some (rv yz) ∧ okr Tz.2.1 yz ∧ RT Tz w' ∧ m_Fm w w') T Tz 12 1200 := by
  rw [show m_ent M_158 [.ref a0, rv p0] w = (0, [(0, .ref a0), (1, rv p0)], [], w) from by first | rfl | (simp only [m_ent, lv_args_r, lv_args_a, lv_args_i, lv_args_l, lv_args_0]; done) | (simp only [m_ent, lv_args_r, lv_args_a, lv_args_i, lv_args_l, lv_args_0]; rfl)]
  generalize hw0 : w = w0 at h ⊢
  have hF : m_Fm w0 w0 := m_Fm.refl
  rw [D_c_EdgeHouse_textOf] at h0
  refine m_Rb.n0 b_158 (x_aloadr_n (x := p0) d_158_0 rfl) ?_
  obtain ⟨a1, e2, j3⟩ := bS h0
  subst e2
  obtain ⟨v4, e5, j6⟩ := bS j3
  refine m_Rb.tgetI b_158 d_158_1 rfl h e5 ?_
  cases hc11 : m_c1 .eq v4 with
  | true =>
    have j12 := cT hc11 j6
    refine m_Rb.n0 b_158 (x_ift d_158_4 rfl hc11) ?_
    exact m_Rb.pick [0, 1] rfl (T_c_EdgeHouse_textOf_44 ha0 hp0 h hF j12)
  | false =>
    have j12 := cF hc11 j6
    refine m_Rb.n0 b_158 (x_iff d_158_4 rfl hc11) ?_
    refine m_Rb.n0 b_158 (x_aload_n d_158_7 rfl) ?_
    obtain ⟨v13, e14, j15⟩ := bS j12
    refine m_Rb.tgetR b_158 d_158_8 rfl h e14 (fun o16 => ?_)
    obtain ⟨a17, e18, j19⟩ := bS j15
    subst e18
    obtain ⟨v20, e21, j22⟩ := bS j19
    refine m_Rb.rtse b_158 d_158_11 rfl (by simp only [m_okf, List.all_cons, List.all_nil, Bool.and_true, Bool.and_self, m_okv_i, m_okv_l, m_okv_0, m_okv_n0, m_okv_t, RT.okn h ha0, RT.okv h ha0, RT.okn h hp0, RT.okv h hp0, RT.okn h o16, RT.okv h o16]) (Nat.le_of_ble_eq_true rfl) h hF e21 (fun w23 h23 f23 k23 => ?_) (by decide) (by decide)
    cases hc28 : m_c1 .eq v20 with
    | true =>
      have j29 := cT hc28 j22
      refine m_Rb.n0 b_158 (x_ift d_158_14 rfl hc28) ?_
      exact m_Rb.pick [0, 1] rfl (T_c_EdgeHouse_textOf_44 ha0 hp0 h23 f23 j29)
    | false =>
      have j29 := cF hc28 j22
      refine m_Rb.n0 b_158 (x_iff d_158_14 rfl hc28) ?_
      refine m_Rb.n0 b_158 (x_aload_n d_158_17 rfl) ?_
      obtain ⟨v30, e31, j32⟩ := bS j29
      refine m_Rb.tgetR b_158 d_158_18 rfl h23 e31 (fun o33 => ?_)
      refine m_Rb.n0 b_158 (x_iconst (z := 0) d_158_21 (by decide)) ?_
      obtain ⟨a34, e35, j36⟩ := bS j32
      subst e35
      obtain ⟨_, e37, j38⟩ := bS j36
      obtain ⟨_, g39⟩ := RT.cls h23 e37
      obtain ⟨T40, e41, j42⟩ := bS j38
      refine m_Rb.callV b_158 (y_cv d_158_22 rfl q_160 (m_isRecv_of rfl g39) (show m_takeI _ _ = some (_, [_, _], []) from m_takeI_of rfl rfl rfl (Nat.le_of_ble_eq_true rfl)) (by simp only [m_okf, List.all_cons, List.all_nil, Bool.and_true, Bool.and_self, m_okv_i, m_okv_l, m_okv_0, m_okv_n0, m_okv_t, RT.okn h23 ha0, RT.okv h23 ha0, RT.okn h23 hp0, RT.okv h23 hp0, RT.okn h23 o33, RT.okv h23 o33]) rfl) (T_c_StringBuilder_setLength o33 h23 e41) f23 rfl (fun w43 h43 f43 k43 => ?_) (by decide) (by decide)
      refine m_Rb.n0 b_158 (x_aload_n d_158_25 rfl) ?_
      refine m_Rb.n0 b_158 (x_aload_n d_158_26 rfl) ?_
      obtain ⟨v44, e45, j46⟩ := bS j42
      refine m_Rb.tgetR b_158 d_158_27 rfl h43 e45 (fun o47 => ?_)
      obtain ⟨_, e48, j49⟩ := bS j46
      obtain ⟨_, g50⟩ := RT.cls h43 e48
      obtain ⟨T51, e52, j53⟩ := bS j49
      refine m_Rb.callV b_158 (y_cv d_158_30 rfl q_213 (m_isRecv_of rfl g50) (show m_takeI _ _ = some (_, [_, _], []) from m_takeI_of rfl rfl rfl (Nat.le_of_ble_eq_true rfl)) (by simp only [m_okf, List.all_cons, List.all_nil, Bool.and_true, Bool.and_self, m_okv_i, m_okv_l, m_okv_0, m_okv_n0, m_okv_t, RT.okn h43 (okm ha0 k43), RT.okv h43 (okm ha0 k43), RT.okn h43 (okm hp0 k43), RT.okv h43 (okm hp0 k43), RT.okv h43 o47]) (decide_eq_true (by simp only [lgs_r, lgs_a, lgs_i, lgs_l, lgs_0]; exact Nat.le_of_ble_eq_true rfl))) (T_c_Reply_render (okm hp0 k43) o47 h43 e52) f43 rfl (fun w54 h54 f54 k54 => ?_) (by decide) (by decide)
      refine m_Rb.n0 b_158 (x_aload_n d_158_33 rfl) ?_
      refine m_Rb.n0 b_158 (x_aload_n d_158_34 rfl) ?_
      obtain ⟨v55, e56, j57⟩ := bS j53
      refine m_Rb.tgetR b_158 d_158_35 rfl h54 e56 (fun o58 => ?_)
      obtain ⟨a59, e60, j61⟩ := bS j57
      subst e60
      obtain ⟨_, e62, j63⟩ := bS j61
      obtain ⟨_, g64⟩ := RT.cls h54 e62
      obtain ⟨v65, T66, e67, j68⟩ := bS2 j63
      refine m_Rb.callR b_158 (y_cv d_158_38 rfl q_190 (m_isRecv_of rfl g64) (show m_takeI _ _ = some (_, [_], [_]) from m_takeI_of rfl rfl rfl (Nat.le_of_ble_eq_true rfl)) (by simp only [m_okf, List.all_cons, List.all_nil, Bool.and_true, Bool.and_self, m_okv_i, m_okv_l, m_okv_0, m_okv_n0, m_okv_t, RT.okn h54 (okm (okm ha0 k43) k54), RT.okv h54 (okm (okm ha0 k43) k54), RT.okn h54 (okm (okm hp0 k43) k54), RT.okv h54 (okm (okm hp0 k43) k54), RT.okn h54 o58, RT.okv h54 o58]) rfl) (T_c_StringBuilder_toString o58 h54 e67) f54 rfl (fun w69 o69 h69 f69 k69 => ?_) (by decide) (by decide)
      obtain ⟨T70, e71, j72⟩ := bS j68
      refine m_Rb.tputR (z := v65) b_158 d_158_41 rfl rfl (by decide) h69 f69 e71 o69 (fun w73 h73 f73 k73 => ?_)
      exact m_Rb.pick [0, 1] rfl (T_c_EdgeHouse_textOf_44 (okm (okm (okm (okm ha0 k43) k54) k69) k73) (okm (okm (okm (okm hp0 k43) k54) k69) k73) h73 f73 j72)
def D_c_EdgeHouse_letter (F : Nat) (a0 : Nat) (p0 : Int32) (p1 : Int32) (T : tT) : Option (Int32 × tT) := cond (m_c1 .lt p0) (some (((-1) : Int32), T)) ((tgr T a0 0 8).bind fun v3 => (v3).bind fun a7 => (tls T a7).bind fun v10 => cond (m_c2 .lt p0 v10) ((tgr T a0 0 8).bind fun v15 => (v15).bind fun a19 => (tlg T a19 p0).bind fun b22 => (tcc T (some b22) 8).bind fun _ => (tcl T a0 0).bind fun _ => bd2 (D_c_EdgeHouse_textOf F a0 (some b22) T) fun v31 T32 => cond (m_c1 .lt p1) (some (((-1) : Int32), T32)) ((v31).bind fun a38 => (tsl F T32 a38).bind fun v41 => cond (m_c2 .lt p1 v41) ((tsc F T32 a38 p1).bind fun v47 => some (v47, T32)) (some (((-1) : Int32), T32)))) (some (((-1) : Int32), T)))
theorem T_c_EdgeHouse_letter {l : Launch} {w : List mM} {F : Nat} {a0 : Nat} {p0 : Int32} {p1 : Int32} {T : tT} {yz : Int32} {Tz : tT} (ha0 : okr T.2.1 (some a0)) (h : RT T w) (h0 : D_c_EdgeHouse_letter F a0 p0 p1 T = some (yz, Tz)) : m_Rb l M_157 (m_ent M_157 [.ref a0, .int p0, .int p1] w) (fun v w' => v = some (.int yz) ∧ RT Tz w' ∧ m_Fm w w') T Tz 13 1300 := by
  rw [show m_ent M_157 [.ref a0, .int p0, .int p1] w = (0, [(0, .ref a0), (1, .int p0), (2, .int p1)], [], w) from by first | rfl | (simp only [m_ent, lv_args_r, lv_args_a, lv_args_i, lv_args_l, lv_args_0]; done) | (simp only [m_ent, lv_args_r, lv_args_a, lv_args_i, lv_args_l, lv_args_0]; rfl)]
  generalize hw0 : w = w0 at h ⊢
  have hF : m_Fm w0 w0 := m_Fm.refl
  rw [D_c_EdgeHouse_letter] at h0
  refine m_Rb.n0 b_157 (x_iload_n d_157_0 rfl) ?_
  cases hc1 : m_c1 .lt p0 with
  | true =>
    have j2 := cT hc1 h0
    refine m_Rb.n0 b_157 (x_ift d_157_1 rfl hc1) ?_
    refine m_Rb.n0 b_157 (x_iconst (z := (-1)) d_157_15 (by decide)) ?_
    cases j2
    exact m_Rb.ret b_157 (m_rt_ir d_157_16 rfl rfl) ⟨rfl, h, hF⟩
  | false =>
    have j2 := cF hc1 h0
    refine m_Rb.n0 b_157 (x_iff d_157_1 rfl hc1) ?_
    refine m_Rb.n0 b_157 (x_iload_n d_157_4 rfl) ?_
    refine m_Rb.n0 b_157 (x_aload_n d_157_5 rfl) ?_
    obtain ⟨v3, e4, j5⟩ := bS j2
    refine m_Rb.tgetR b_157 d_157_6 rfl h e4 (fun o6 => ?_)
    obtain ⟨a7, e8, j9⟩ := bS j5
    subst e8
    obtain ⟨v10, e11, j12⟩ := bS j9
    refine m_Rb.tlsize b_157 d_157_9 rfl (by simp only [m_okf, List.all_cons, List.all_nil, Bool.and_true, Bool.and_self, m_okv_i, m_okv_l, m_okv_0, m_okv_n0, m_okv_t, RT.okn h ha0, RT.okv h ha0, RT.okn h o6, RT.okv h o6]) (Nat.le_of_ble_eq_true rfl) h e11 ?_ (by decide) (by decide)
    cases hc13 : m_c2 .lt p0 v10 with
    | true =>
      have j14 := cT hc13 j12
      refine m_Rb.n0 b_157 (x_ict d_157_12 rfl hc13) ?_
      refine m_Rb.n0 b_157 (x_aload_n d_157_17 rfl) ?_
      refine m_Rb.n0 b_157 (x_aload_n d_157_18 rfl) ?_
      obtain ⟨v15, e16, j17⟩ := bS j14
      refine m_Rb.tgetR b_157 d_157_19 rfl h e16 (fun o18 => ?_)
      refine m_Rb.n0 b_157 (x_iload_n d_157_22 rfl) ?_
      obtain ⟨a19, e20, j21⟩ := bS j17
      subst e20
      obtain ⟨b22, e23, j24⟩ := bS j21
      refine m_Rb.tlget b_157 d_157_23 rfl (by simp only [m_okf, List.all_cons, List.all_nil, Bool.and_true, Bool.and_self, m_okv_i, m_okv_l, m_okv_0, m_okv_n0, m_okv_t, RT.okn h ha0, RT.okv h ha0, RT.okn h o18, RT.okv h o18]) (Nat.le_of_ble_eq_true rfl) h e23 (fun o25 => ?_) (by decide) (by decide)
      obtain ⟨_, e26, j27⟩ := bS j24
      refine m_Rb.tcast (z := (some b22)) b_157 d_157_26 rfl h e26 ?_
      obtain ⟨_, e28, j29⟩ := bS j27
      obtain ⟨_, g30⟩ := RT.cls h e28
      obtain ⟨v31, T32, e33, j34⟩ := bS2 j29
      refine m_Rb.callR b_157 (y_cv d_157_29 rfl q_158 (m_isRecv_of rfl g30) (show m_takeI _ _ = some (_, [_, _], []) from m_takeI_of rfl rfl rfl (Nat.le_of_ble_eq_true rfl)) (by simp only [m_okf, List.all_cons, List.all_nil, Bool.and_true, Bool.and_self, m_okv_i, m_okv_l, m_okv_0, m_okv_n0, m_okv_t, RT.okn h ha0, RT.okv h ha0, RT.okn h o25, RT.okv h o25]) rfl) (T_c_EdgeHouse_textOf ha0 o25 h e33) hF rfl (fun w35 o35 h35 f35 k35 => ?_) (by decide) (by decide)
      refine m_Rb.n0 b_157 (x_astorer_n (x := v31) d_157_32 rfl (show m_put1 _ _ _ = [(3, _), (0, _), (1, _), (2, _)] from rfl)) ?_
      refine m_Rb.n0 b_157 (x_iload_n d_157_33 rfl) ?_
      cases hc36 : m_c1 .lt p1 with
      | true =>
        have j37 := cT hc36 j34
        refine m_Rb.n0 b_157 (x_ift d_157_34 rfl hc36) ?_
        refine m_Rb.n0 b_157 (x_iconst (z := (-1)) d_157_45 (by decide)) ?_
        cases j37
        exact m_Rb.ret b_157 (m_rt_ir d_157_46 rfl rfl) ⟨rfl, h35, f35⟩
      | false =>
        have j37 := cF hc36 j34
        refine m_Rb.n0 b_157 (x_iff d_157_34 rfl hc36) ?_
        refine m_Rb.n0 b_157 (x_iload_n d_157_37 rfl) ?_
        refine m_Rb.n0 b_157 (x_aloadr_n (x := v31) d_157_38 rfl) ?_
        obtain ⟨a38, e39, j40⟩ := bS j37
        subst e39
        obtain ⟨v41, e42, j43⟩ := bS j40
        refine m_Rb.rtsl b_157 d_157_39 rfl (by simp only [m_okf, List.all_cons, List.all_nil, Bool.and_true, Bool.and_self, m_okv_i, m_okv_l, m_okv_0, m_okv_n0, m_okv_t, RT.okn h35 o35, RT.okv h35 o35, RT.okn h35 (okm ha0 k35), RT.okv h35 (okm ha0 k35)]) (Nat.le_of_ble_eq_true rfl) h35 f35 e42 (fun w44 h44 f44 k44 => ?_) (by decide) (by decide)
        cases hc45 : m_c2 .lt p1 v41 with
        | true =>
          have j46 := cT hc45 j43
          refine m_Rb.n0 b_157 (x_ict d_157_42 rfl hc45) ?_
          refine m_Rb.n0 b_157 (x_aload_n d_157_47 rfl) ?_
          refine m_Rb.n0 b_157 (x_iload_n d_157_48 rfl) ?_
          obtain ⟨v47, e48, j49⟩ := bS j46
          refine m_Rb.rtsc b_157 d_157_49 rfl (by simp only [m_okf, List.all_cons, List.all_nil, Bool.and_true, Bool.and_self, m_okv_i, m_okv_l, m_okv_0, m_okv_n0, m_okv_t, RT.okn h44 o35, RT.okv h44 o35, RT.okn h44 (okm ha0 k35), RT.okv h44 (okm ha0 k35)]) (Nat.le_of_ble_eq_true rfl) h44 f44 e48 (fun w50 h50 f50 k50 => ?_) (by decide) (by decide)
          cases j49
          exact m_Rb.ret b_157 (m_rt_ir d_157_52 rfl rfl) ⟨rfl, h50, f50⟩
        | false =>
          have j46 := cF hc45 j43
          refine m_Rb.n0 b_157 (x_icf d_157_42 rfl hc45) ?_
          refine m_Rb.n0 b_157 (x_iconst (z := (-1)) d_157_45 (by decide)) ?_
          cases j46
          exact m_Rb.ret b_157 (m_rt_ir d_157_46 rfl rfl) ⟨rfl, h44, f44⟩
    | false =>
      have j14 := cF hc13 j12
      refine m_Rb.n0 b_157 (x_icf d_157_12 rfl hc13) ?_
      refine m_Rb.n0 b_157 (x_iconst (z := (-1)) d_157_15 (by decide)) ?_
      cases j14
      exact m_Rb.ret b_157 (m_rt_ir d_157_16 rfl rfl) ⟨rfl, h, hF⟩
def D_c_EdgeHouse_answer_15 (F : Nat) (x0 : Nat) (T : tT) : Option (Int32 × tT) := none
theorem T_c_EdgeHouse_answer_15 {l : Launch} {w0 : List mM} {F : Nat} {x0 : Nat} {T : tT} {w : List mM} {yz : Int32} {Tz : tT} (hx0 : okr T.2.1 (some x0)) (h : RT T w) (hF : m_Fm w0 w) (h0 : D_c_EdgeHouse_answer_15 F x0 T = some (yz, Tz)) : m_Rb l M_237 (15, [(0, .ref x0)], [], w) (fun v w' => v = some (.int yz) ∧ RT Tz w' ∧ m_Fm w0 w') T Tz 13 1300 := by
  rw [D_c_EdgeHouse_answer_15] at h0
  cases h0
def D_c_EdgeHouse_answer_35 (F : Nat) (x0 : Nat) (T : tT) : Option (Int32 × tT) := none
theorem T_c_EdgeHouse_answer_35 {l : Launch} {w0 : List mM} {F : Nat} {x0 : Nat} {T : tT} {w : List mM} {yz : Int32} {Tz : tT} (hx0 : okr T.2.1 (some x0)) (h : RT T w) (hF : m_Fm w0 w) (h0 : D_c_EdgeHouse_answer_35 F x0 T = some (yz, Tz)) : m_Rb l M_237 (35, [(0, .ref x0)], [], w) (fun v w' => v = some (.int yz) ∧ RT Tz w' ∧ m_Fm w0 w') T Tz 13 1300 := by
  rw [D_c_EdgeHouse_answer_35] at h0
  cases h0
def D_c_EdgeHouse_answer (F : Nat) (a0 : Nat) (p0 : Int32) (p1 : Int32) (T : tT) : Option (Int32 × tT) := cond (m_c1 .lt p0) (D_c_EdgeHouse_answer_15 F a0 T) ((tgr T a0 0 8).bind fun v3 => (v3).bind fun a7 => (tls T a7).bind fun v10 => cond (m_c2 .lt p0 v10) (cond (m_c1 .lt p1) (D_c_EdgeHouse_answer_35 F a0 T) (cond (m_c2 .le p1 (8 : Int32)) ((tgr T a0 0 8).bind fun v19 => (v19).bind fun a23 => (tlg T a23 p0).bind fun b26 => (tcc T (some b26) 8).bind fun _ => cond (m_c2 .ne p1 (5 : Int32)) ((tcl T b26 8).bind fun _ => (D_c_Reply_tell F b26 p1 T).bind fun v37 => some (v37, T)) ((tcl T a0 0).bind fun _ => bd2 (D_c_EdgeHouse_textOf F a0 (some b26) T) fun v44 T45 => (v44).bind fun a49 => (tsl F T45 a49).bind fun v52 => some (v52, T45))) (D_c_EdgeHouse_answer_35 F a0 T))) (D_c_EdgeHouse_answer_15 F a0 T))
theorem T_c_EdgeHouse_answer {l : Launch} {w : List mM} {F : Nat} {a0 : Nat} {p0 : Int32} {p1 : Int32} {T : tT} {yz : Int32} {Tz : tT} (ha0 : okr T.2.1 (some a0)) (h : RT T w) (h0 : D_c_EdgeHouse_answer F a0 p0 p1 T = some (yz, Tz)) : m_Rb l M_237 (m_ent M_237 [.ref a0, .int p0, .int p1] w) (fun v w' => v = some (.int yz) ∧ RT Tz w' ∧ m_Fm w w') T Tz 13 1300 := by
  rw [show m_ent M_237 [.ref a0, .int p0, .int p1] w = (0, [(0, .ref a0), (1, .int p0), (2, .int p1)], [], w) from by first | rfl | (simp only [m_ent, lv_args_r, lv_args_a, lv_args_i, lv_args_l, lv_args_0]; done) | (simp only [m_ent, lv_args_r, lv_args_a, lv_args_i, lv_args_l, lv_args_0]; rfl)]
  generalize hw0 : w = w0 at h ⊢
  have hF : m_Fm w0 w0 := m_Fm.refl
  rw [D_c_EdgeHouse_answer] at h0
  refine m_Rb.n0 b_237 (x_iload_n d_237_0 rfl) ?_
  cases hc1 : m_c1 .lt p0 with
  | true =>
    have j2 := cT hc1 h0
    refine m_Rb.n0 b_237 (x_ift d_237_1 rfl hc1) ?_
    exact m_Rb.pick [0] rfl (T_c_EdgeHouse_answer_15 ha0 h hF j2)
  | false =>
    have j2 := cF hc1 h0
    refine m_Rb.n0 b_237 (x_iff d_237_1 rfl hc1) ?_
    refine m_Rb.n0 b_237 (x_iload_n d_237_4 rfl) ?_
    refine m_Rb.n0 b_237 (x_aload_n d_237_5 rfl) ?_
    obtain ⟨v3, e4, j5⟩ := bS j2
    refine m_Rb.tgetR b_237 d_237_6 rfl h e4 (fun o6 => ?_)
    obtain ⟨a7, e8, j9⟩ := bS j5
    subst e8
    obtain ⟨v10, e11, j12⟩ := bS j9
    refine m_Rb.tlsize b_237 d_237_9 rfl (by simp only [m_okf, List.all_cons, List.all_nil, Bool.and_true, Bool.and_self, m_okv_i, m_okv_l, m_okv_0, m_okv_n0, m_okv_t, RT.okn h ha0, RT.okv h ha0, RT.okn h o6, RT.okv h o6]) (Nat.le_of_ble_eq_true rfl) h e11 ?_ (by decide) (by decide)
    cases hc13 : m_c2 .lt p0 v10 with
    | true =>
      have j14 := cT hc13 j12
      refine m_Rb.n0 b_237 (x_ict d_237_12 rfl hc13) ?_
      refine m_Rb.n0 b_237 (x_iload_n d_237_25 rfl) ?_
      cases hc15 : m_c1 .lt p1 with
      | true =>
        have j16 := cT hc15 j14
        refine m_Rb.n0 b_237 (x_ift d_237_26 rfl hc15) ?_
        exact m_Rb.pick [0] rfl (T_c_EdgeHouse_answer_35 ha0 h hF j16)
      | false =>
        have j16 := cF hc15 j14
        refine m_Rb.n0 b_237 (x_iff d_237_26 rfl hc15) ?_
        refine m_Rb.n0 b_237 (x_iload_n d_237_29 rfl) ?_
        refine m_Rb.n0 b_237 (x_bipush (z := 8) d_237_30 (by decide)) ?_
        cases hc17 : m_c2 .le p1 (8 : Int32) with
        | true =>
          have j18 := cT hc17 j16
          refine m_Rb.n0 b_237 (x_ict d_237_32 rfl hc17) ?_
          refine m_Rb.n0 b_237 (x_aload_n d_237_45 rfl) ?_
          obtain ⟨v19, e20, j21⟩ := bS j18
          refine m_Rb.tgetR b_237 d_237_46 rfl h e20 (fun o22 => ?_)
          refine m_Rb.n0 b_237 (x_iload_n d_237_49 rfl) ?_
          obtain ⟨a23, e24, j25⟩ := bS j21
          subst e24
          obtain ⟨b26, e27, j28⟩ := bS j25
          refine m_Rb.tlget b_237 d_237_50 rfl (by simp only [m_okf, List.all_cons, List.all_nil, Bool.and_true, Bool.and_self, m_okv_i, m_okv_l, m_okv_0, m_okv_n0, m_okv_t, RT.okn h ha0, RT.okv h ha0, RT.okn h o22, RT.okv h o22]) (Nat.le_of_ble_eq_true rfl) h e27 (fun o29 => ?_) (by decide) (by decide)
          obtain ⟨_, e30, j31⟩ := bS j28
          refine m_Rb.tcast (z := (some b26)) b_237 d_237_53 rfl h e30 ?_
          refine m_Rb.n0 b_237 (x_astore_n d_237_56 rfl (show m_put1 _ _ _ = [(3, _), (0, _), (1, _), (2, _)] from rfl)) ?_
          refine m_Rb.n0 b_237 (x_iload_n d_237_57 rfl) ?_
          refine m_Rb.n0 b_237 (x_iconst (z := 5) d_237_58 (by decide)) ?_
          cases hc32 : m_c2 .ne p1 (5 : Int32) with
          | true =>
            have j33 := cT hc32 j31
            refine m_Rb.n0 b_237 (x_ict d_237_59 rfl hc32) ?_
            refine m_Rb.n0 b_237 (x_aload_n d_237_71 rfl) ?_
            refine m_Rb.n0 b_237 (x_iload_n d_237_72 rfl) ?_
            obtain ⟨_, e34, j35⟩ := bS j33
            obtain ⟨_, g36⟩ := RT.cls h e34
            obtain ⟨v37, e38, j39⟩ := bS j35
            refine m_Rb.callI b_237 (y_cv d_237_73 rfl q_239 (m_isRecv_of rfl g36) (show m_takeI _ _ = some (_, [_, _], []) from m_takeI_of rfl rfl rfl (Nat.le_of_ble_eq_true rfl)) (by simp only [m_okf, List.all_cons, List.all_nil, Bool.and_true, Bool.and_self, m_okv_i, m_okv_l, m_okv_0, m_okv_n0, m_okv_t, RT.okn h o29, RT.okv h o29, RT.okn h ha0, RT.okv h ha0]) rfl) (T_c_Reply_tell o29 h e38) hF rfl (fun w40 h40 f40 k40 => ?_) (by decide) (by decide)
            cases j39
            exact m_Rb.ret b_237 (m_rt_ir d_237_76 rfl rfl) ⟨rfl, h40, f40⟩
          | false =>
            have j33 := cF hc32 j31
            refine m_Rb.n0 b_237 (x_icf d_237_59 rfl hc32) ?_
            refine m_Rb.n0 b_237 (x_aload_n d_237_62 rfl) ?_
            refine m_Rb.n0 b_237 (x_aload_n d_237_63 rfl) ?_
            obtain ⟨_, e41, j42⟩ := bS j33
            obtain ⟨_, g43⟩ := RT.cls h e41
            obtain ⟨v44, T45, e46, j47⟩ := bS2 j42
            refine m_Rb.callR b_237 (y_cv d_237_64 rfl q_158 (m_isRecv_of rfl g43) (show m_takeI _ _ = some (_, [_, _], []) from m_takeI_of rfl rfl rfl (Nat.le_of_ble_eq_true rfl)) (by simp only [m_okf, List.all_cons, List.all_nil, Bool.and_true, Bool.and_self, m_okv_i, m_okv_l, m_okv_0, m_okv_n0, m_okv_t, RT.okn h o29, RT.okv h o29, RT.okn h ha0, RT.okv h ha0]) rfl) (T_c_EdgeHouse_textOf ha0 o29 h e46) hF rfl (fun w48 o48 h48 f48 k48 => ?_) (by decide) (by decide)
            obtain ⟨a49, e50, j51⟩ := bS j47
            subst e50
            obtain ⟨v52, e53, j54⟩ := bS j51
            refine m_Rb.rtsl b_237 d_237_67 rfl (by simp only [m_okf, List.all_cons, List.all_nil, Bool.and_true, Bool.and_self, m_okv_i, m_okv_l, m_okv_0, m_okv_n0, m_okv_t, RT.okn h48 (okm o29 k48), RT.okv h48 (okm o29 k48), RT.okn h48 (okm ha0 k48), RT.okv h48 (okm ha0 k48), RT.okn h48 o48, RT.okv h48 o48]) (Nat.le_of_ble_eq_true rfl) h48 f48 e53 (fun w55 h55 f55 k55 => ?_) (by decide) (by decide)
            cases j54
            exact m_Rb.ret b_237 (m_rt_ir d_237_70 rfl rfl) ⟨rfl, h55, f55⟩
        | false =>
          have j18 := cF hc17 j16
          refine m_Rb.n0 b_237 (x_icf d_237_32 rfl hc17) ?_
          exact m_Rb.pick [0] rfl (T_c_EdgeHouse_answer_35 ha0 h hF j18)
    | false =>
      have j14 := cF hc13 j12
      refine m_Rb.n0 b_237 (x_icf d_237_12 rfl hc13) ?_
      exact m_Rb.pick [0] rfl (T_c_EdgeHouse_answer_15 ha0 h hF j14)
