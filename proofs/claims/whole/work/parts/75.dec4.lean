/-! The reference's methods as guarded functions. Written by wip/tool/dec2.py. -/
theorem q_340 : m_mt[340]? = some M_340 := by rfl
theorem q_343 : m_mt[343]? = some M_343 := by rfl
theorem q_339 : m_mt[339]? = some M_339 := by rfl
theorem q_336 : m_mt[336]? = some M_336 := by rfl
theorem q_344 : m_mt[344]? = some M_344 := by rfl
theorem q_345 : m_mt[345]? = some M_345 := by rfl
theorem q_346 : m_mt[346]? = some M_346 := by rfl
theorem q_347 : m_mt[347]? = some M_347 := by rfl
theorem q_348 : m_mt[348]? = some M_348 := by rfl
theorem b_340 : m_bOk M_340 := (m_mt_ok M_340 (List.mem_of_getElem? q_340)).body
theorem b_343 : m_bOk M_343 := (m_mt_ok M_343 (List.mem_of_getElem? q_343)).body
theorem b_339 : m_bOk M_339 := (m_mt_ok M_339 (List.mem_of_getElem? q_339)).body
theorem b_336 : m_bOk M_336 := (m_mt_ok M_336 (List.mem_of_getElem? q_336)).body
theorem b_344 : m_bOk M_344 := (m_mt_ok M_344 (List.mem_of_getElem? q_344)).body
theorem b_345 : m_bOk M_345 := (m_mt_ok M_345 (List.mem_of_getElem? q_345)).body
theorem b_346 : m_bOk M_346 := (m_mt_ok M_346 (List.mem_of_getElem? q_346)).body
theorem b_347 : m_bOk M_347 := (m_mt_ok M_347 (List.mem_of_getElem? q_347)).body
theorem b_348 : m_bOk M_348 := (m_mt_ok M_348 (List.mem_of_getElem? q_348)).body
theorem d_336_0 : m_dn M_336 0 (.aload_n 0) 1 1 := by decide +kernel
theorem d_336_1 : m_dn M_336 1 (.iload_n 1) 1 2 := by decide +kernel
theorem d_336_10 : m_dn M_336 10 (.if_icmp .lt 7) 3 13 := by decide +kernel
theorem d_336_124 : m_dn M_336 124 (.aload_n 0) 1 125 := by decide +kernel
theorem d_336_125 : m_dn M_336 125 (.getfield 146) 3 128 := by decide +kernel
theorem d_336_128 : m_dn M_336 128 (.bipush 9) 2 130 := by decide +kernel
theorem d_336_13 : m_dn M_336 13 (.iconst 1) 1 14 := by decide +kernel
theorem d_336_130 : m_dn M_336 130 (.iload_n 1) 1 131 := by decide +kernel
theorem d_336_131 : m_dn M_336 131 (.imul) 1 132 := by decide +kernel
theorem d_336_132 : m_dn M_336 132 (.iaload) 1 133 := by decide +kernel
theorem d_336_133 : m_dn M_336 133 (.ireturn) 1 134 := by decide +kernel
theorem d_336_134 : m_dn M_336 134 (.aload_n 0) 1 135 := by decide +kernel
theorem d_336_135 : m_dn M_336 135 (.getfield 146) 3 138 := by decide +kernel
theorem d_336_138 : m_dn M_336 138 (.bipush 9) 2 140 := by decide +kernel
theorem d_336_14 : m_dn M_336 14 (.goto 18) 3 17 := by decide +kernel
theorem d_336_140 : m_dn M_336 140 (.iload_n 1) 1 141 := by decide +kernel
theorem d_336_141 : m_dn M_336 141 (.imul) 1 142 := by decide +kernel
theorem d_336_142 : m_dn M_336 142 (.iconst 1) 1 143 := by decide +kernel
theorem d_336_143 : m_dn M_336 143 (.iadd) 1 144 := by decide +kernel
theorem d_336_144 : m_dn M_336 144 (.iaload) 1 145 := by decide +kernel
theorem d_336_145 : m_dn M_336 145 (.ireturn) 1 146 := by decide +kernel
theorem d_336_146 : m_dn M_336 146 (.aload_n 0) 1 147 := by decide +kernel
theorem d_336_147 : m_dn M_336 147 (.getfield 146) 3 150 := by decide +kernel
theorem d_336_150 : m_dn M_336 150 (.bipush 9) 2 152 := by decide +kernel
theorem d_336_152 : m_dn M_336 152 (.iload_n 1) 1 153 := by decide +kernel
theorem d_336_153 : m_dn M_336 153 (.imul) 1 154 := by decide +kernel
theorem d_336_154 : m_dn M_336 154 (.iconst 2) 1 155 := by decide +kernel
theorem d_336_155 : m_dn M_336 155 (.iadd) 1 156 := by decide +kernel
theorem d_336_156 : m_dn M_336 156 (.iaload) 1 157 := by decide +kernel
theorem d_336_157 : m_dn M_336 157 (.ireturn) 1 158 := by decide +kernel
theorem d_336_158 : m_dn M_336 158 (.aload_n 0) 1 159 := by decide +kernel
theorem d_336_159 : m_dn M_336 159 (.iload_n 1) 1 160 := by decide +kernel
theorem d_336_160 : m_dn M_336 160 (.invokevirtual 698) 3 163 := by decide +kernel
theorem d_336_163 : m_dn M_336 163 (.ireturn) 1 164 := by decide +kernel
theorem d_336_164 : m_dn M_336 164 (.aload_n 0) 1 165 := by decide +kernel
theorem d_336_165 : m_dn M_336 165 (.getfield 146) 3 168 := by decide +kernel
theorem d_336_168 : m_dn M_336 168 (.bipush 9) 2 170 := by decide +kernel
theorem d_336_17 : m_dn M_336 17 (.iload_n 2) 1 18 := by decide +kernel
theorem d_336_170 : m_dn M_336 170 (.iload_n 1) 1 171 := by decide +kernel
theorem d_336_171 : m_dn M_336 171 (.imul) 1 172 := by decide +kernel
theorem d_336_172 : m_dn M_336 172 (.iconst 4) 1 173 := by decide +kernel
theorem d_336_173 : m_dn M_336 173 (.iadd) 1 174 := by decide +kernel
theorem d_336_174 : m_dn M_336 174 (.iaload) 1 175 := by decide +kernel
theorem d_336_175 : m_dn M_336 175 (.ireturn) 1 176 := by decide +kernel
theorem d_336_176 : m_dn M_336 176 (.aload_n 0) 1 177 := by decide +kernel
theorem d_336_177 : m_dn M_336 177 (.iload_n 1) 1 178 := by decide +kernel
theorem d_336_178 : m_dn M_336 178 (.invokevirtual 701) 3 181 := by decide +kernel
theorem d_336_18 : m_dn M_336 18 (.ifCond .lt 9) 3 21 := by decide +kernel
theorem d_336_181 : m_dn M_336 181 (.aload_n 0) 1 182 := by decide +kernel
theorem d_336_182 : m_dn M_336 182 (.getfield 630) 3 185 := by decide +kernel
theorem d_336_185 : m_dn M_336 185 (.ireturn) 1 186 := by decide +kernel
theorem d_336_186 : m_dn M_336 186 (.aload_n 0) 1 187 := by decide +kernel
theorem d_336_187 : m_dn M_336 187 (.getfield 146) 3 190 := by decide +kernel
theorem d_336_190 : m_dn M_336 190 (.bipush 9) 2 192 := by decide +kernel
theorem d_336_192 : m_dn M_336 192 (.iload_n 1) 1 193 := by decide +kernel
theorem d_336_193 : m_dn M_336 193 (.imul) 1 194 := by decide +kernel
theorem d_336_194 : m_dn M_336 194 (.bipush 7) 2 196 := by decide +kernel
theorem d_336_196 : m_dn M_336 196 (.iadd) 1 197 := by decide +kernel
theorem d_336_197 : m_dn M_336 197 (.iaload) 1 198 := by decide +kernel
theorem d_336_198 : m_dn M_336 198 (.ireturn) 1 199 := by decide +kernel
theorem d_336_199 : m_dn M_336 199 (.aload_n 0) 1 200 := by decide +kernel
theorem d_336_2 : m_dn M_336 2 (.ifCond .lt 11) 3 5 := by decide +kernel
theorem d_336_200 : m_dn M_336 200 (.getfield 146) 3 203 := by decide +kernel
theorem d_336_203 : m_dn M_336 203 (.bipush 9) 2 205 := by decide +kernel
theorem d_336_205 : m_dn M_336 205 (.iload_n 1) 1 206 := by decide +kernel
theorem d_336_206 : m_dn M_336 206 (.imul) 1 207 := by decide +kernel
theorem d_336_207 : m_dn M_336 207 (.iconst 5) 1 208 := by decide +kernel
theorem d_336_208 : m_dn M_336 208 (.iadd) 1 209 := by decide +kernel
theorem d_336_209 : m_dn M_336 209 (.iaload) 1 210 := by decide +kernel
theorem d_336_21 : m_dn M_336 21 (.iload_n 2) 1 22 := by decide +kernel
theorem d_336_210 : m_dn M_336 210 (.ireturn) 1 211 := by decide +kernel
theorem d_336_22 : m_dn M_336 22 (.bipush 8) 2 24 := by decide +kernel
theorem d_336_24 : m_dn M_336 24 (.if_icmp .le 7) 3 27 := by decide +kernel
theorem d_336_27 : m_dn M_336 27 (.iconst 2) 1 28 := by decide +kernel
theorem d_336_28 : m_dn M_336 28 (.goto 4) 3 31 := by decide +kernel
theorem d_336_31 : m_dn M_336 31 (.iconst 0) 1 32 := by decide +kernel
theorem d_336_32 : m_dn M_336 32 (.putfield 155) 3 35 := by decide +kernel
theorem d_336_35 : m_dn M_336 35 (.aload_n 0) 1 36 := by decide +kernel
theorem d_336_36 : m_dn M_336 36 (.getfield 155) 3 39 := by decide +kernel
theorem d_336_39 : m_dn M_336 39 (.ifCond .eq 5) 3 42 := by decide +kernel
theorem d_336_42 : m_dn M_336 42 (.iconst 0) 1 43 := by decide +kernel
theorem d_336_43 : m_dn M_336 43 (.ireturn) 1 44 := by decide +kernel
theorem d_336_44 : m_dn M_336 44 (.iload_n 2) 1 45 := by decide +kernel
theorem d_336_45 : m_dn M_336 45 (.bipush 7) 2 47 := by decide +kernel
theorem d_336_47 : m_dn M_336 47 (.if_icmp .ne 16) 3 50 := by decide +kernel
theorem d_336_5 : m_dn M_336 5 (.iload_n 1) 1 6 := by decide +kernel
theorem d_336_50 : m_dn M_336 50 (.aload_n 0) 1 51 := by decide +kernel
theorem d_336_51 : m_dn M_336 51 (.getfield 146) 3 54 := by decide +kernel
theorem d_336_54 : m_dn M_336 54 (.bipush 9) 2 56 := by decide +kernel
theorem d_336_56 : m_dn M_336 56 (.iload_n 1) 1 57 := by decide +kernel
theorem d_336_57 : m_dn M_336 57 (.imul) 1 58 := by decide +kernel
theorem d_336_58 : m_dn M_336 58 (.bipush 6) 2 60 := by decide +kernel
theorem d_336_6 : m_dn M_336 6 (.aload_n 0) 1 7 := by decide +kernel
theorem d_336_60 : m_dn M_336 60 (.iadd) 1 61 := by decide +kernel
theorem d_336_61 : m_dn M_336 61 (.iaload) 1 62 := by decide +kernel
theorem d_336_62 : m_dn M_336 62 (.ireturn) 1 63 := by decide +kernel
theorem d_336_63 : m_dn M_336 63 (.aload_n 0) 1 64 := by decide +kernel
theorem d_336_64 : m_dn M_336 64 (.getfield 127) 3 67 := by decide +kernel
theorem d_336_67 : m_dn M_336 67 (.iload_n 1) 1 68 := by decide +kernel
theorem d_336_68 : m_dn M_336 68 (.baload) 1 69 := by decide +kernel
theorem d_336_69 : m_dn M_336 69 (.ifCond .eq 5) 3 72 := by decide +kernel
theorem d_336_7 : m_dn M_336 7 (.getfield 612) 3 10 := by decide +kernel
theorem d_336_72 : m_dn M_336 72 (.iconst 0) 1 73 := by decide +kernel
theorem d_336_73 : m_dn M_336 73 (.ireturn) 1 74 := by decide +kernel
theorem d_336_74 : m_dn M_336 74 (.iload_n 2) 1 75 := by decide +kernel
theorem d_336_75 : m_dn M_336 75 (.tableswitch 124 0 8 #[49, 59, 71, 83, 89, 101, 124, 124, 111]) 49 124 := by decide +kernel
theorem d_339_0 : m_dn M_339 0 (.aload_n 0) 1 1 := by decide +kernel
theorem d_339_1 : m_dn M_339 1 (.iconst 0) 1 2 := by decide +kernel
theorem d_339_10 : m_dn M_339 10 (.baload) 1 11 := by decide +kernel
theorem d_339_102 : m_dn M_339 102 (.invokevirtual 633) 3 105 := by decide +kernel
theorem d_339_105 : m_dn M_339 105 (.aload_n 0) 1 106 := by decide +kernel
theorem d_339_106 : m_dn M_339 106 (.ldc_w 670) 3 109 := by decide +kernel
theorem d_339_109 : m_dn M_339 109 (.aload_n 0) 1 110 := by decide +kernel
theorem d_339_11 : m_dn M_339 11 (.ifCond .eq 4) 3 14 := by decide +kernel
theorem d_339_110 : m_dn M_339 110 (.getfield 146) 3 113 := by decide +kernel
theorem d_339_113 : m_dn M_339 113 (.iload_n 2) 1 114 := by decide +kernel
theorem d_339_114 : m_dn M_339 114 (.iconst 2) 1 115 := by decide +kernel
theorem d_339_115 : m_dn M_339 115 (.iadd) 1 116 := by decide +kernel
theorem d_339_116 : m_dn M_339 116 (.iaload) 1 117 := by decide +kernel
theorem d_339_117 : m_dn M_339 117 (.invokevirtual 672) 3 120 := by decide +kernel
theorem d_339_120 : m_dn M_339 120 (.aload_n 0) 1 121 := by decide +kernel
theorem d_339_121 : m_dn M_339 121 (.aload_n 0) 1 122 := by decide +kernel
theorem d_339_122 : m_dn M_339 122 (.getfield 146) 3 125 := by decide +kernel
theorem d_339_125 : m_dn M_339 125 (.iload_n 2) 1 126 := by decide +kernel
theorem d_339_126 : m_dn M_339 126 (.iconst 4) 1 127 := by decide +kernel
theorem d_339_127 : m_dn M_339 127 (.iadd) 1 128 := by decide +kernel
theorem d_339_128 : m_dn M_339 128 (.iaload) 1 129 := by decide +kernel
theorem d_339_129 : m_dn M_339 129 (.iconst 1) 1 130 := by decide +kernel
theorem d_339_130 : m_dn M_339 130 (.if_icmp .ne 9) 3 133 := by decide +kernel
theorem d_339_133 : m_dn M_339 133 (.ldc_w 676) 3 136 := by decide +kernel
theorem d_339_136 : m_dn M_339 136 (.goto 24) 3 139 := by decide +kernel
theorem d_339_139 : m_dn M_339 139 (.aload_n 0) 1 140 := by decide +kernel
theorem d_339_14 : m_dn M_339 14 (.return_) 1 15 := by decide +kernel
theorem d_339_140 : m_dn M_339 140 (.getfield 146) 3 143 := by decide +kernel
theorem d_339_143 : m_dn M_339 143 (.iload_n 2) 1 144 := by decide +kernel
theorem d_339_144 : m_dn M_339 144 (.iconst 4) 1 145 := by decide +kernel
theorem d_339_145 : m_dn M_339 145 (.iadd) 1 146 := by decide +kernel
theorem d_339_146 : m_dn M_339 146 (.iaload) 1 147 := by decide +kernel
theorem d_339_147 : m_dn M_339 147 (.iconst 2) 1 148 := by decide +kernel
theorem d_339_148 : m_dn M_339 148 (.if_icmp .ne 9) 3 151 := by decide +kernel
theorem d_339_15 : m_dn M_339 15 (.bipush 9) 2 17 := by decide +kernel
theorem d_339_151 : m_dn M_339 151 (.ldc_w 678) 3 154 := by decide +kernel
theorem d_339_154 : m_dn M_339 154 (.goto 6) 3 157 := by decide +kernel
theorem d_339_157 : m_dn M_339 157 (.ldc_w 680) 3 160 := by decide +kernel
theorem d_339_160 : m_dn M_339 160 (.invokevirtual 633) 3 163 := by decide +kernel
theorem d_339_163 : m_dn M_339 163 (.aload_n 0) 1 164 := by decide +kernel
theorem d_339_164 : m_dn M_339 164 (.getfield 146) 3 167 := by decide +kernel
theorem d_339_167 : m_dn M_339 167 (.iload_n 2) 1 168 := by decide +kernel
theorem d_339_168 : m_dn M_339 168 (.bipush 8) 2 170 := by decide +kernel
theorem d_339_17 : m_dn M_339 17 (.iload_n 1) 1 18 := by decide +kernel
theorem d_339_170 : m_dn M_339 170 (.iadd) 1 171 := by decide +kernel
theorem d_339_171 : m_dn M_339 171 (.iaload) 1 172 := by decide +kernel
theorem d_339_172 : m_dn M_339 172 (.ifCond .le 48) 3 175 := by decide +kernel
theorem d_339_175 : m_dn M_339 175 (.aload_n 0) 1 176 := by decide +kernel
theorem d_339_176 : m_dn M_339 176 (.aload_n 0) 1 177 := by decide +kernel
theorem d_339_177 : m_dn M_339 177 (.getfield 146) 3 180 := by decide +kernel
theorem d_339_18 : m_dn M_339 18 (.imul) 1 19 := by decide +kernel
theorem d_339_180 : m_dn M_339 180 (.iload_n 2) 1 181 := by decide +kernel
theorem d_339_181 : m_dn M_339 181 (.bipush 8) 2 183 := by decide +kernel
theorem d_339_183 : m_dn M_339 183 (.iadd) 1 184 := by decide +kernel
theorem d_339_184 : m_dn M_339 184 (.iaload) 1 185 := by decide +kernel
theorem d_339_185 : m_dn M_339 185 (.iconst 1) 1 186 := by decide +kernel
theorem d_339_186 : m_dn M_339 186 (.if_icmp .ne 9) 3 189 := by decide +kernel
theorem d_339_189 : m_dn M_339 189 (.ldc_w 682) 3 192 := by decide +kernel
theorem d_339_19 : m_dn M_339 19 (.istore_n 2) 1 20 := by decide +kernel
theorem d_339_192 : m_dn M_339 192 (.goto 25) 3 195 := by decide +kernel
theorem d_339_195 : m_dn M_339 195 (.aload_n 0) 1 196 := by decide +kernel
theorem d_339_196 : m_dn M_339 196 (.getfield 146) 3 199 := by decide +kernel
theorem d_339_199 : m_dn M_339 199 (.iload_n 2) 1 200 := by decide +kernel
theorem d_339_2 : m_dn M_339 2 (.putfield 630) 3 5 := by decide +kernel
theorem d_339_20 : m_dn M_339 20 (.aload_n 0) 1 21 := by decide +kernel
theorem d_339_200 : m_dn M_339 200 (.bipush 8) 2 202 := by decide +kernel
theorem d_339_202 : m_dn M_339 202 (.iadd) 1 203 := by decide +kernel
theorem d_339_203 : m_dn M_339 203 (.iaload) 1 204 := by decide +kernel
theorem d_339_204 : m_dn M_339 204 (.iconst 2) 1 205 := by decide +kernel
theorem d_339_205 : m_dn M_339 205 (.if_icmp .ne 9) 3 208 := by decide +kernel
theorem d_339_208 : m_dn M_339 208 (.ldc_w 684) 3 211 := by decide +kernel
theorem d_339_21 : m_dn M_339 21 (.getfield 146) 3 24 := by decide +kernel
theorem d_339_211 : m_dn M_339 211 (.goto 6) 3 214 := by decide +kernel
theorem d_339_214 : m_dn M_339 214 (.ldc_w 686) 3 217 := by decide +kernel
theorem d_339_217 : m_dn M_339 217 (.invokevirtual 633) 3 220 := by decide +kernel
theorem d_339_220 : m_dn M_339 220 (.iload_n 3) 1 221 := by decide +kernel
theorem d_339_221 : m_dn M_339 221 (.sipush 206) 3 224 := by decide +kernel
theorem d_339_224 : m_dn M_339 224 (.if_icmp .ne 18) 3 227 := by decide +kernel
theorem d_339_227 : m_dn M_339 227 (.aload_n 0) 1 228 := by decide +kernel
theorem d_339_228 : m_dn M_339 228 (.iload_n 1) 1 229 := by decide +kernel
theorem d_339_229 : m_dn M_339 229 (.iload 4) 2 231 := by decide +kernel
theorem d_339_231 : m_dn M_339 231 (.aload_n 0) 1 232 := by decide +kernel
theorem d_339_232 : m_dn M_339 232 (.iload_n 1) 1 233 := by decide +kernel
theorem d_339_233 : m_dn M_339 233 (.invokevirtual 660) 3 236 := by decide +kernel
theorem d_339_236 : m_dn M_339 236 (.invokevirtual 442) 3 239 := by decide +kernel
theorem d_339_239 : m_dn M_339 239 (.goto 4) 3 242 := by decide +kernel
theorem d_339_24 : m_dn M_339 24 (.iload_n 2) 1 25 := by decide +kernel
theorem d_339_242 : m_dn M_339 242 (.iconst 0) 1 243 := by decide +kernel
theorem d_339_243 : m_dn M_339 243 (.istore 6) 2 245 := by decide +kernel
theorem d_339_245 : m_dn M_339 245 (.iload_n 3) 1 246 := by decide +kernel
theorem d_339_246 : m_dn M_339 246 (.sipush 206) 3 249 := by decide +kernel
theorem d_339_249 : m_dn M_339 249 (.if_icmp .ne 50) 3 252 := by decide +kernel
theorem d_339_25 : m_dn M_339 25 (.iaload) 1 26 := by decide +kernel
theorem d_339_252 : m_dn M_339 252 (.aload_n 0) 1 253 := by decide +kernel
theorem d_339_253 : m_dn M_339 253 (.ldc_w 688) 3 256 := by decide +kernel
theorem d_339_256 : m_dn M_339 256 (.invokevirtual 633) 3 259 := by decide +kernel
theorem d_339_259 : m_dn M_339 259 (.aload_n 0) 1 260 := by decide +kernel
theorem d_339_26 : m_dn M_339 26 (.istore_n 3) 1 27 := by decide +kernel
theorem d_339_260 : m_dn M_339 260 (.iload 6) 2 262 := by decide +kernel
theorem d_339_262 : m_dn M_339 262 (.invokevirtual 637) 3 265 := by decide +kernel
theorem d_339_265 : m_dn M_339 265 (.aload_n 0) 1 266 := by decide +kernel
theorem d_339_266 : m_dn M_339 266 (.ldc_w 690) 3 269 := by decide +kernel
theorem d_339_269 : m_dn M_339 269 (.invokevirtual 633) 3 272 := by decide +kernel
theorem d_339_27 : m_dn M_339 27 (.aload_n 0) 1 28 := by decide +kernel
theorem d_339_272 : m_dn M_339 272 (.aload_n 0) 1 273 := by decide +kernel
theorem d_339_273 : m_dn M_339 273 (.aload_n 0) 1 274 := by decide +kernel
theorem d_339_274 : m_dn M_339 274 (.iload_n 1) 1 275 := by decide +kernel
theorem d_339_275 : m_dn M_339 275 (.iload 4) 2 277 := by decide +kernel
theorem d_339_277 : m_dn M_339 277 (.aload_n 0) 1 278 := by decide +kernel
theorem d_339_278 : m_dn M_339 278 (.iload_n 1) 1 279 := by decide +kernel
theorem d_339_279 : m_dn M_339 279 (.invokevirtual 660) 3 282 := by decide +kernel
theorem d_339_28 : m_dn M_339 28 (.getfield 146) 3 31 := by decide +kernel
theorem d_339_282 : m_dn M_339 282 (.invokevirtual 446) 3 285 := by decide +kernel
theorem d_339_285 : m_dn M_339 285 (.iconst 1) 1 286 := by decide +kernel
theorem d_339_286 : m_dn M_339 286 (.isub) 1 287 := by decide +kernel
theorem d_339_287 : m_dn M_339 287 (.invokevirtual 637) 3 290 := by decide +kernel
theorem d_339_290 : m_dn M_339 290 (.aload_n 0) 1 291 := by decide +kernel
theorem d_339_291 : m_dn M_339 291 (.ldc_w 692) 3 294 := by decide +kernel
theorem d_339_294 : m_dn M_339 294 (.iload 4) 2 296 := by decide +kernel
theorem d_339_296 : m_dn M_339 296 (.invokevirtual 672) 3 299 := by decide +kernel
theorem d_339_299 : m_dn M_339 299 (.iload_n 3) 1 300 := by decide +kernel
theorem d_339_300 : m_dn M_339 300 (.sipush 416) 3 303 := by decide +kernel
theorem d_339_303 : m_dn M_339 303 (.if_icmp .ne 12) 3 306 := by decide +kernel
theorem d_339_306 : m_dn M_339 306 (.aload_n 0) 1 307 := by decide +kernel
theorem d_339_307 : m_dn M_339 307 (.ldc_w 694) 3 310 := by decide +kernel
theorem d_339_31 : m_dn M_339 31 (.iload_n 2) 1 32 := by decide +kernel
theorem d_339_310 : m_dn M_339 310 (.iload 4) 2 312 := by decide +kernel
theorem d_339_312 : m_dn M_339 312 (.invokevirtual 672) 3 315 := by decide +kernel
theorem d_339_315 : m_dn M_339 315 (.iload_n 3) 1 316 := by decide +kernel
theorem d_339_316 : m_dn M_339 316 (.sipush 200) 3 319 := by decide +kernel
theorem d_339_319 : m_dn M_339 319 (.if_icmp .eq 10) 3 322 := by decide +kernel
theorem d_339_32 : m_dn M_339 32 (.iconst 3) 1 33 := by decide +kernel
theorem d_339_322 : m_dn M_339 322 (.iload_n 3) 1 323 := by decide +kernel
theorem d_339_323 : m_dn M_339 323 (.sipush 206) 3 326 := by decide +kernel
theorem d_339_326 : m_dn M_339 326 (.if_icmp .ne 15) 3 329 := by decide +kernel
theorem d_339_329 : m_dn M_339 329 (.aload_n 0) 1 330 := by decide +kernel
theorem d_339_33 : m_dn M_339 33 (.iadd) 1 34 := by decide +kernel
theorem d_339_330 : m_dn M_339 330 (.ldc_w 696) 3 333 := by decide +kernel
theorem d_339_333 : m_dn M_339 333 (.aload_n 0) 1 334 := by decide +kernel
theorem d_339_334 : m_dn M_339 334 (.iload_n 1) 1 335 := by decide +kernel
theorem d_339_335 : m_dn M_339 335 (.invokevirtual 698) 3 338 := by decide +kernel
theorem d_339_338 : m_dn M_339 338 (.invokevirtual 672) 3 341 := by decide +kernel
theorem d_339_34 : m_dn M_339 34 (.iaload) 1 35 := by decide +kernel
theorem d_339_341 : m_dn M_339 341 (.aload_n 0) 1 342 := by decide +kernel
theorem d_339_342 : m_dn M_339 342 (.ldc_w 640) 3 345 := by decide +kernel
theorem d_339_345 : m_dn M_339 345 (.invokevirtual 633) 3 348 := by decide +kernel
theorem d_339_348 : m_dn M_339 348 (.aload_n 0) 1 349 := by decide +kernel
theorem d_339_349 : m_dn M_339 349 (.iload_n 1) 1 350 := by decide +kernel
theorem d_339_35 : m_dn M_339 35 (.istore 4) 2 37 := by decide +kernel
theorem d_339_350 : m_dn M_339 350 (.iconst 2) 1 351 := by decide +kernel
theorem d_339_351 : m_dn M_339 351 (.invokevirtual 436) 3 354 := by decide +kernel
theorem d_339_354 : m_dn M_339 354 (.iconst 1) 1 355 := by decide +kernel
theorem d_339_355 : m_dn M_339 355 (.if_icmp .eq 17) 3 358 := by decide +kernel
theorem d_339_358 : m_dn M_339 358 (.iload_n 3) 1 359 := by decide +kernel
theorem d_339_359 : m_dn M_339 359 (.sipush 200) 3 362 := by decide +kernel
theorem d_339_362 : m_dn M_339 362 (.if_icmp .eq 11) 3 365 := by decide +kernel
theorem d_339_365 : m_dn M_339 365 (.iload_n 3) 1 366 := by decide +kernel
theorem d_339_366 : m_dn M_339 366 (.sipush 206) 3 369 := by decide +kernel
theorem d_339_369 : m_dn M_339 369 (.if_icmp .eq 4) 3 372 := by decide +kernel
theorem d_339_37 : m_dn M_339 37 (.aload_n 0) 1 38 := by decide +kernel
theorem d_339_372 : m_dn M_339 372 (.return_) 1 373 := by decide +kernel
theorem d_339_373 : m_dn M_339 373 (.iload 6) 2 375 := by decide +kernel
theorem d_339_375 : m_dn M_339 375 (.istore 7) 2 377 := by decide +kernel
theorem d_339_377 : m_dn M_339 377 (.iload 7) 2 379 := by decide +kernel
theorem d_339_379 : m_dn M_339 379 (.iload 6) 2 381 := by decide +kernel
theorem d_339_38 : m_dn M_339 38 (.iload_n 3) 1 39 := by decide +kernel
theorem d_339_381 : m_dn M_339 381 (.aload_n 0) 1 382 := by decide +kernel
theorem d_339_382 : m_dn M_339 382 (.iload_n 1) 1 383 := by decide +kernel
theorem d_339_383 : m_dn M_339 383 (.invokevirtual 698) 3 386 := by decide +kernel
theorem d_339_386 : m_dn M_339 386 (.iadd) 1 387 := by decide +kernel
theorem d_339_387 : m_dn M_339 387 (.if_icmp .ge 86) 3 390 := by decide +kernel
theorem d_339_39 : m_dn M_339 39 (.invokevirtual 663) 3 42 := by decide +kernel
theorem d_339_390 : m_dn M_339 390 (.aload_n 0) 1 391 := by decide +kernel
theorem d_339_391 : m_dn M_339 391 (.getfield 152) 3 394 := by decide +kernel
theorem d_339_394 : m_dn M_339 394 (.aload_n 0) 1 395 := by decide +kernel
theorem d_339_395 : m_dn M_339 395 (.getfield 630) 3 398 := by decide +kernel
theorem d_339_398 : m_dn M_339 398 (.bipush 31) 2 400 := by decide +kernel
theorem d_339_400 : m_dn M_339 400 (.aload_n 0) 1 401 := by decide +kernel
theorem d_339_401 : m_dn M_339 401 (.iload_n 1) 1 402 := by decide +kernel
theorem d_339_402 : m_dn M_339 402 (.iconst 0) 1 403 := by decide +kernel
theorem d_339_403 : m_dn M_339 403 (.invokevirtual 436) 3 406 := by decide +kernel
theorem d_339_406 : m_dn M_339 406 (.imul) 1 407 := by decide +kernel
theorem d_339_407 : m_dn M_339 407 (.bipush 17) 2 409 := by decide +kernel
theorem d_339_409 : m_dn M_339 409 (.aload_n 0) 1 410 := by decide +kernel
theorem d_339_410 : m_dn M_339 410 (.iload_n 1) 1 411 := by decide +kernel
theorem d_339_411 : m_dn M_339 411 (.iconst 1) 1 412 := by decide +kernel
theorem d_339_412 : m_dn M_339 412 (.invokevirtual 436) 3 415 := by decide +kernel
theorem d_339_415 : m_dn M_339 415 (.imul) 1 416 := by decide +kernel
theorem d_339_416 : m_dn M_339 416 (.iadd) 1 417 := by decide +kernel
theorem d_339_417 : m_dn M_339 417 (.iconst 5) 1 418 := by decide +kernel
theorem d_339_418 : m_dn M_339 418 (.aload_n 0) 1 419 := by decide +kernel
theorem d_339_419 : m_dn M_339 419 (.getfield 146) 3 422 := by decide +kernel
theorem d_339_42 : m_dn M_339 42 (.iload_n 3) 1 43 := by decide +kernel
theorem d_339_422 : m_dn M_339 422 (.iload_n 2) 1 423 := by decide +kernel
theorem d_339_423 : m_dn M_339 423 (.bipush 7) 2 425 := by decide +kernel
theorem d_339_425 : m_dn M_339 425 (.iadd) 1 426 := by decide +kernel
theorem d_339_426 : m_dn M_339 426 (.iaload) 1 427 := by decide +kernel
theorem d_339_427 : m_dn M_339 427 (.imul) 1 428 := by decide +kernel
theorem d_339_428 : m_dn M_339 428 (.iadd) 1 429 := by decide +kernel
theorem d_339_429 : m_dn M_339 429 (.bipush 13) 2 431 := by decide +kernel
theorem d_339_43 : m_dn M_339 43 (.sipush 200) 3 46 := by decide +kernel
theorem d_339_431 : m_dn M_339 431 (.aload_n 0) 1 432 := by decide +kernel
theorem d_339_432 : m_dn M_339 432 (.getfield 146) 3 435 := by decide +kernel
theorem d_339_435 : m_dn M_339 435 (.iload_n 2) 1 436 := by decide +kernel
theorem d_339_436 : m_dn M_339 436 (.iconst 1) 1 437 := by decide +kernel
theorem d_339_437 : m_dn M_339 437 (.iadd) 1 438 := by decide +kernel
theorem d_339_438 : m_dn M_339 438 (.iaload) 1 439 := by decide +kernel
theorem d_339_439 : m_dn M_339 439 (.imul) 1 440 := by decide +kernel
theorem d_339_440 : m_dn M_339 440 (.iadd) 1 441 := by decide +kernel
theorem d_339_441 : m_dn M_339 441 (.bipush 7) 2 443 := by decide +kernel
theorem d_339_443 : m_dn M_339 443 (.iload 7) 2 445 := by decide +kernel
theorem d_339_445 : m_dn M_339 445 (.imul) 1 446 := by decide +kernel
theorem d_339_446 : m_dn M_339 446 (.iadd) 1 447 := by decide +kernel
theorem d_339_447 : m_dn M_339 447 (.iload 7) 2 449 := by decide +kernel
theorem d_339_449 : m_dn M_339 449 (.iconst 4) 1 450 := by decide +kernel
theorem d_339_450 : m_dn M_339 450 (.ishr) 1 451 := by decide +kernel
theorem d_339_451 : m_dn M_339 451 (.iadd) 1 452 := by decide +kernel
theorem d_339_452 : m_dn M_339 452 (.sipush 255) 3 455 := by decide +kernel
theorem d_339_455 : m_dn M_339 455 (.iand) 1 456 := by decide +kernel
theorem d_339_456 : m_dn M_339 456 (.iastore) 1 457 := by decide +kernel
theorem d_339_457 : m_dn M_339 457 (.aload_n 0) 1 458 := by decide +kernel
theorem d_339_458 : m_dn M_339 458 (.dup) 1 459 := by decide +kernel
theorem d_339_459 : m_dn M_339 459 (.getfield 630) 3 462 := by decide +kernel
theorem d_339_46 : m_dn M_339 46 (.if_icmp .eq 24) 3 49 := by decide +kernel
theorem d_339_462 : m_dn M_339 462 (.iconst 1) 1 463 := by decide +kernel
theorem d_339_463 : m_dn M_339 463 (.iadd) 1 464 := by decide +kernel
theorem d_339_464 : m_dn M_339 464 (.putfield 630) 3 467 := by decide +kernel
theorem d_339_467 : m_dn M_339 467 (.iinc 7 1) 3 470 := by decide +kernel
theorem d_339_470 : m_dn M_339 470 (.goto (-93)) 3 473 := by decide +kernel
theorem d_339_473 : m_dn M_339 473 (.return_) 1 474 := by decide +kernel
theorem d_339_49 : m_dn M_339 49 (.iload_n 3) 1 50 := by decide +kernel
theorem d_339_5 : m_dn M_339 5 (.aload_n 0) 1 6 := by decide +kernel
theorem d_339_50 : m_dn M_339 50 (.sipush 206) 3 53 := by decide +kernel
theorem d_339_53 : m_dn M_339 53 (.if_icmp .eq 17) 3 56 := by decide +kernel
theorem d_339_56 : m_dn M_339 56 (.iload_n 3) 1 57 := by decide +kernel
theorem d_339_57 : m_dn M_339 57 (.sipush 304) 3 60 := by decide +kernel
theorem d_339_6 : m_dn M_339 6 (.getfield 127) 3 9 := by decide +kernel
theorem d_339_60 : m_dn M_339 60 (.if_icmp .eq 10) 3 63 := by decide +kernel
theorem d_339_63 : m_dn M_339 63 (.iload_n 3) 1 64 := by decide +kernel
theorem d_339_64 : m_dn M_339 64 (.sipush 416) 3 67 := by decide +kernel
theorem d_339_67 : m_dn M_339 67 (.if_icmp .ne 7) 3 70 := by decide +kernel
theorem d_339_70 : m_dn M_339 70 (.iconst 1) 1 71 := by decide +kernel
theorem d_339_71 : m_dn M_339 71 (.goto 4) 3 74 := by decide +kernel
theorem d_339_74 : m_dn M_339 74 (.iconst 0) 1 75 := by decide +kernel
theorem d_339_75 : m_dn M_339 75 (.istore 5) 2 77 := by decide +kernel
theorem d_339_77 : m_dn M_339 77 (.iload 5) 2 79 := by decide +kernel
theorem d_339_79 : m_dn M_339 79 (.ifCond .eq 141) 3 82 := by decide +kernel
theorem d_339_82 : m_dn M_339 82 (.aload_n 0) 1 83 := by decide +kernel
theorem d_339_83 : m_dn M_339 83 (.ldc_w 666) 3 86 := by decide +kernel
theorem d_339_86 : m_dn M_339 86 (.invokevirtual 633) 3 89 := by decide +kernel
theorem d_339_89 : m_dn M_339 89 (.aload_n 0) 1 90 := by decide +kernel
theorem d_339_9 : m_dn M_339 9 (.iload_n 1) 1 10 := by decide +kernel
theorem d_339_90 : m_dn M_339 90 (.aload_n 0) 1 91 := by decide +kernel
theorem d_339_91 : m_dn M_339 91 (.iload_n 1) 1 92 := by decide +kernel
theorem d_339_92 : m_dn M_339 92 (.invokevirtual 660) 3 95 := by decide +kernel
theorem d_339_95 : m_dn M_339 95 (.invokevirtual 637) 3 98 := by decide +kernel
theorem d_339_98 : m_dn M_339 98 (.aload_n 0) 1 99 := by decide +kernel
theorem d_339_99 : m_dn M_339 99 (.ldc_w 668) 3 102 := by decide +kernel
theorem d_340_0 : m_dn M_340 0 (.aload_n 0) 1 1 := by decide +kernel
theorem d_340_1 : m_dn M_340 1 (.iload_n 1) 1 2 := by decide +kernel
theorem d_340_100 : m_dn M_340 100 (.aload_n 0) 1 101 := by decide +kernel
theorem d_340_101 : m_dn M_340 101 (.ldc_w 646) 3 104 := by decide +kernel
theorem d_340_104 : m_dn M_340 104 (.invokevirtual 633) 3 107 := by decide +kernel
theorem d_340_107 : m_dn M_340 107 (.goto 60) 3 110 := by decide +kernel
theorem d_340_110 : m_dn M_340 110 (.aload_n 0) 1 111 := by decide +kernel
theorem d_340_111 : m_dn M_340 111 (.ldc_w 648) 3 114 := by decide +kernel
theorem d_340_114 : m_dn M_340 114 (.invokevirtual 633) 3 117 := by decide +kernel
theorem d_340_117 : m_dn M_340 117 (.goto 50) 3 120 := by decide +kernel
theorem d_340_120 : m_dn M_340 120 (.aload_n 0) 1 121 := by decide +kernel
theorem d_340_121 : m_dn M_340 121 (.ldc_w 650) 3 124 := by decide +kernel
theorem d_340_124 : m_dn M_340 124 (.invokevirtual 633) 3 127 := by decide +kernel
theorem d_340_127 : m_dn M_340 127 (.goto 40) 3 130 := by decide +kernel
theorem d_340_130 : m_dn M_340 130 (.aload_n 0) 1 131 := by decide +kernel
theorem d_340_131 : m_dn M_340 131 (.ldc_w 652) 3 134 := by decide +kernel
theorem d_340_134 : m_dn M_340 134 (.invokevirtual 633) 3 137 := by decide +kernel
theorem d_340_137 : m_dn M_340 137 (.goto 30) 3 140 := by decide +kernel
theorem d_340_140 : m_dn M_340 140 (.aload_n 0) 1 141 := by decide +kernel
theorem d_340_141 : m_dn M_340 141 (.ldc_w 654) 3 144 := by decide +kernel
theorem d_340_144 : m_dn M_340 144 (.invokevirtual 633) 3 147 := by decide +kernel
theorem d_340_147 : m_dn M_340 147 (.goto 20) 3 150 := by decide +kernel
theorem d_340_150 : m_dn M_340 150 (.aload_n 0) 1 151 := by decide +kernel
theorem d_340_151 : m_dn M_340 151 (.ldc_w 656) 3 154 := by decide +kernel
theorem d_340_154 : m_dn M_340 154 (.invokevirtual 633) 3 157 := by decide +kernel
theorem d_340_157 : m_dn M_340 157 (.goto 10) 3 160 := by decide +kernel
theorem d_340_160 : m_dn M_340 160 (.aload_n 0) 1 161 := by decide +kernel
theorem d_340_161 : m_dn M_340 161 (.ldc_w 658) 3 164 := by decide +kernel
theorem d_340_164 : m_dn M_340 164 (.invokevirtual 633) 3 167 := by decide +kernel
theorem d_340_167 : m_dn M_340 167 (.return_) 1 168 := by decide +kernel
theorem d_340_2 : m_dn M_340 2 (.invokevirtual 637) 3 5 := by decide +kernel
theorem d_340_5 : m_dn M_340 5 (.iload_n 1) 1 6 := by decide +kernel
theorem d_340_6 : m_dn M_340 6 (.lookupswitch 154 #[(200, 74), (206, 84), (304, 94), (400, 104), (404, 114), (416, 124), (502, 134), (503, 144)]) 74 80 := by decide +kernel
theorem d_340_80 : m_dn M_340 80 (.aload_n 0) 1 81 := by decide +kernel
theorem d_340_81 : m_dn M_340 81 (.ldc_w 642) 3 84 := by decide +kernel
theorem d_340_84 : m_dn M_340 84 (.invokevirtual 633) 3 87 := by decide +kernel
theorem d_340_87 : m_dn M_340 87 (.goto 80) 3 90 := by decide +kernel
theorem d_340_90 : m_dn M_340 90 (.aload_n 0) 1 91 := by decide +kernel
theorem d_340_91 : m_dn M_340 91 (.ldc_w 644) 3 94 := by decide +kernel
theorem d_340_94 : m_dn M_340 94 (.invokevirtual 633) 3 97 := by decide +kernel
theorem d_340_97 : m_dn M_340 97 (.goto 70) 3 100 := by decide +kernel
theorem d_343_0 : m_dn M_343 0 (.aload_n 0) 1 1 := by decide +kernel
theorem d_343_1 : m_dn M_343 1 (.aload_n 1) 1 2 := by decide +kernel
theorem d_343_10 : m_dn M_343 10 (.aload_n 0) 1 11 := by decide +kernel
theorem d_343_11 : m_dn M_343 11 (.ldc_w 640) 3 14 := by decide +kernel
theorem d_343_14 : m_dn M_343 14 (.invokevirtual 633) 3 17 := by decide +kernel
theorem d_343_17 : m_dn M_343 17 (.return_) 1 18 := by decide +kernel
theorem d_343_2 : m_dn M_343 2 (.invokevirtual 633) 3 5 := by decide +kernel
theorem d_343_5 : m_dn M_343 5 (.aload_n 0) 1 6 := by decide +kernel
theorem d_343_6 : m_dn M_343 6 (.iload_n 2) 1 7 := by decide +kernel
theorem d_343_7 : m_dn M_343 7 (.invokevirtual 637) 3 10 := by decide +kernel
theorem d_344_0 : m_dn M_344 0 (.aload_n 0) 1 1 := by decide +kernel
theorem d_344_1 : m_dn M_344 1 (.iconst 0) 1 2 := by decide +kernel
theorem d_344_10 : m_dn M_344 10 (.aload_n 0) 1 11 := by decide +kernel
theorem d_344_11 : m_dn M_344 11 (.getfield 612) 3 14 := by decide +kernel
theorem d_344_14 : m_dn M_344 14 (.if_icmp .lt 5) 3 17 := by decide +kernel
theorem d_344_17 : m_dn M_344 17 (.iconst (-1)) 1 18 := by decide +kernel
theorem d_344_18 : m_dn M_344 18 (.ireturn) 1 19 := by decide +kernel
theorem d_344_19 : m_dn M_344 19 (.aload_n 0) 1 20 := by decide +kernel
theorem d_344_2 : m_dn M_344 2 (.putfield 155) 3 5 := by decide +kernel
theorem d_344_20 : m_dn M_344 20 (.iload_n 1) 1 21 := by decide +kernel
theorem d_344_21 : m_dn M_344 21 (.invokevirtual 701) 3 24 := by decide +kernel
theorem d_344_24 : m_dn M_344 24 (.iload_n 2) 1 25 := by decide +kernel
theorem d_344_25 : m_dn M_344 25 (.ifCond .lt 11) 3 28 := by decide +kernel
theorem d_344_28 : m_dn M_344 28 (.iload_n 2) 1 29 := by decide +kernel
theorem d_344_29 : m_dn M_344 29 (.aload_n 0) 1 30 := by decide +kernel
theorem d_344_30 : m_dn M_344 30 (.getfield 630) 3 33 := by decide +kernel
theorem d_344_33 : m_dn M_344 33 (.if_icmp .lt 7) 3 36 := by decide +kernel
theorem d_344_36 : m_dn M_344 36 (.iconst (-1)) 1 37 := by decide +kernel
theorem d_344_37 : m_dn M_344 37 (.goto 9) 3 40 := by decide +kernel
theorem d_344_40 : m_dn M_344 40 (.aload_n 0) 1 41 := by decide +kernel
theorem d_344_41 : m_dn M_344 41 (.getfield 152) 3 44 := by decide +kernel
theorem d_344_44 : m_dn M_344 44 (.iload_n 2) 1 45 := by decide +kernel
theorem d_344_45 : m_dn M_344 45 (.iaload) 1 46 := by decide +kernel
theorem d_344_46 : m_dn M_344 46 (.ireturn) 1 47 := by decide +kernel
theorem d_344_5 : m_dn M_344 5 (.iload_n 1) 1 6 := by decide +kernel
theorem d_344_6 : m_dn M_344 6 (.ifCond .lt 11) 3 9 := by decide +kernel
theorem d_344_9 : m_dn M_344 9 (.iload_n 1) 1 10 := by decide +kernel
theorem d_345_0 : m_dn M_345 0 (.aload_n 0) 1 1 := by decide +kernel
theorem d_345_1 : m_dn M_345 1 (.iconst 0) 1 2 := by decide +kernel
theorem d_345_100 : m_dn M_345 100 (.iload_n 1) 1 101 := by decide +kernel
theorem d_345_101 : m_dn M_345 101 (.imul) 1 102 := by decide +kernel
theorem d_345_102 : m_dn M_345 102 (.istore 6) 2 104 := by decide +kernel
theorem d_345_104 : m_dn M_345 104 (.iload 6) 2 106 := by decide +kernel
theorem d_345_106 : m_dn M_345 106 (.sipush 128) 3 109 := by decide +kernel
theorem d_345_109 : m_dn M_345 109 (.iload_n 1) 1 110 := by decide +kernel
theorem d_345_110 : m_dn M_345 110 (.imul) 1 111 := by decide +kernel
theorem d_345_111 : m_dn M_345 111 (.sipush 128) 3 114 := by decide +kernel
theorem d_345_114 : m_dn M_345 114 (.iadd) 1 115 := by decide +kernel
theorem d_345_115 : m_dn M_345 115 (.if_icmp .ge 29) 3 118 := by decide +kernel
theorem d_345_118 : m_dn M_345 118 (.iload 5) 2 120 := by decide +kernel
theorem d_345_12 : m_dn M_345 12 (.iconst (-1)) 1 13 := by decide +kernel
theorem d_345_120 : m_dn M_345 120 (.aload_n 0) 1 121 := by decide +kernel
theorem d_345_121 : m_dn M_345 121 (.getfield 91) 3 124 := by decide +kernel
theorem d_345_124 : m_dn M_345 124 (.iload 6) 2 126 := by decide +kernel
theorem d_345_126 : m_dn M_345 126 (.baload) 1 127 := by decide +kernel
theorem d_345_127 : m_dn M_345 127 (.ifCond .eq 7) 3 130 := by decide +kernel
theorem d_345_13 : m_dn M_345 13 (.ireturn) 1 14 := by decide +kernel
theorem d_345_130 : m_dn M_345 130 (.iconst 1) 1 131 := by decide +kernel
theorem d_345_131 : m_dn M_345 131 (.goto 4) 3 134 := by decide +kernel
theorem d_345_134 : m_dn M_345 134 (.iconst 0) 1 135 := by decide +kernel
theorem d_345_135 : m_dn M_345 135 (.iadd) 1 136 := by decide +kernel
theorem d_345_136 : m_dn M_345 136 (.istore 5) 2 138 := by decide +kernel
theorem d_345_138 : m_dn M_345 138 (.iinc 6 1) 3 141 := by decide +kernel
theorem d_345_14 : m_dn M_345 14 (.iconst 0) 1 15 := by decide +kernel
theorem d_345_141 : m_dn M_345 141 (.goto (-37)) 3 144 := by decide +kernel
theorem d_345_144 : m_dn M_345 144 (.iconst 0) 1 145 := by decide +kernel
theorem d_345_145 : m_dn M_345 145 (.istore 6) 2 147 := by decide +kernel
theorem d_345_147 : m_dn M_345 147 (.iconst 0) 1 148 := by decide +kernel
theorem d_345_148 : m_dn M_345 148 (.istore 7) 2 150 := by decide +kernel
theorem d_345_15 : m_dn M_345 15 (.istore_n 3) 1 16 := by decide +kernel
theorem d_345_150 : m_dn M_345 150 (.iload 7) 2 152 := by decide +kernel
theorem d_345_152 : m_dn M_345 152 (.aload_n 0) 1 153 := by decide +kernel
theorem d_345_153 : m_dn M_345 153 (.getfield 507) 3 156 := by decide +kernel
theorem d_345_156 : m_dn M_345 156 (.if_icmp .ge 33) 3 159 := by decide +kernel
theorem d_345_159 : m_dn M_345 159 (.iload 6) 2 161 := by decide +kernel
theorem d_345_16 : m_dn M_345 16 (.iconst 0) 1 17 := by decide +kernel
theorem d_345_161 : m_dn M_345 161 (.aload_n 0) 1 162 := by decide +kernel
theorem d_345_162 : m_dn M_345 162 (.getfield 131) 3 165 := by decide +kernel
theorem d_345_165 : m_dn M_345 165 (.bipush 12) 2 167 := by decide +kernel
theorem d_345_167 : m_dn M_345 167 (.iload 7) 2 169 := by decide +kernel
theorem d_345_169 : m_dn M_345 169 (.imul) 1 170 := by decide +kernel
theorem d_345_17 : m_dn M_345 17 (.istore 4) 2 19 := by decide +kernel
theorem d_345_170 : m_dn M_345 170 (.iaload) 1 171 := by decide +kernel
theorem d_345_171 : m_dn M_345 171 (.iload_n 1) 1 172 := by decide +kernel
theorem d_345_172 : m_dn M_345 172 (.if_icmp .ne 7) 3 175 := by decide +kernel
theorem d_345_175 : m_dn M_345 175 (.iconst 1) 1 176 := by decide +kernel
theorem d_345_176 : m_dn M_345 176 (.goto 4) 3 179 := by decide +kernel
theorem d_345_179 : m_dn M_345 179 (.iconst 0) 1 180 := by decide +kernel
theorem d_345_180 : m_dn M_345 180 (.iadd) 1 181 := by decide +kernel
theorem d_345_181 : m_dn M_345 181 (.istore 6) 2 183 := by decide +kernel
theorem d_345_183 : m_dn M_345 183 (.iinc 7 1) 3 186 := by decide +kernel
theorem d_345_186 : m_dn M_345 186 (.goto (-36)) 3 189 := by decide +kernel
theorem d_345_189 : m_dn M_345 189 (.iload_n 2) 1 190 := by decide +kernel
theorem d_345_19 : m_dn M_345 19 (.iconst 0) 1 20 := by decide +kernel
theorem d_345_190 : m_dn M_345 190 (.tableswitch 164 0 12 #[66, 81, 83, 90, 93, 100, 107, 110, 113, 120, 120, 134, 134]) 66 256 := by decide +kernel
theorem d_345_2 : m_dn M_345 2 (.putfield 155) 3 5 := by decide +kernel
theorem d_345_20 : m_dn M_345 20 (.istore 5) 2 22 := by decide +kernel
theorem d_345_22 : m_dn M_345 22 (.sipush 1024) 3 25 := by decide +kernel
theorem d_345_25 : m_dn M_345 25 (.iload_n 1) 1 26 := by decide +kernel
theorem d_345_256 : m_dn M_345 256 (.aload_n 0) 1 257 := by decide +kernel
theorem d_345_257 : m_dn M_345 257 (.getfield 35) 3 260 := by decide +kernel
theorem d_345_26 : m_dn M_345 26 (.imul) 1 27 := by decide +kernel
theorem d_345_260 : m_dn M_345 260 (.iload_n 1) 1 261 := by decide +kernel
theorem d_345_261 : m_dn M_345 261 (.baload) 1 262 := by decide +kernel
theorem d_345_262 : m_dn M_345 262 (.ifCond .eq 7) 3 265 := by decide +kernel
theorem d_345_265 : m_dn M_345 265 (.iconst 1) 1 266 := by decide +kernel
theorem d_345_266 : m_dn M_345 266 (.goto 4) 3 269 := by decide +kernel
theorem d_345_269 : m_dn M_345 269 (.iconst 0) 1 270 := by decide +kernel
theorem d_345_27 : m_dn M_345 27 (.istore 6) 2 29 := by decide +kernel
theorem d_345_270 : m_dn M_345 270 (.ireturn) 1 271 := by decide +kernel
theorem d_345_271 : m_dn M_345 271 (.iload_n 3) 1 272 := by decide +kernel
theorem d_345_272 : m_dn M_345 272 (.ireturn) 1 273 := by decide +kernel
theorem d_345_273 : m_dn M_345 273 (.aload_n 0) 1 274 := by decide +kernel
theorem d_345_274 : m_dn M_345 274 (.iload_n 1) 1 275 := by decide +kernel
theorem d_345_275 : m_dn M_345 275 (.iconst 0) 1 276 := by decide +kernel
theorem d_345_276 : m_dn M_345 276 (.invokevirtual 418) 3 279 := by decide +kernel
theorem d_345_279 : m_dn M_345 279 (.ireturn) 1 280 := by decide +kernel
theorem d_345_280 : m_dn M_345 280 (.iload 4) 2 282 := by decide +kernel
theorem d_345_282 : m_dn M_345 282 (.ireturn) 1 283 := by decide +kernel
theorem d_345_283 : m_dn M_345 283 (.aload_n 0) 1 284 := by decide +kernel
theorem d_345_284 : m_dn M_345 284 (.getfield 45) 3 287 := by decide +kernel
theorem d_345_287 : m_dn M_345 287 (.iload_n 1) 1 288 := by decide +kernel
theorem d_345_288 : m_dn M_345 288 (.iaload) 1 289 := by decide +kernel
theorem d_345_289 : m_dn M_345 289 (.ireturn) 1 290 := by decide +kernel
theorem d_345_29 : m_dn M_345 29 (.iload 6) 2 31 := by decide +kernel
theorem d_345_290 : m_dn M_345 290 (.aload_n 0) 1 291 := by decide +kernel
theorem d_345_291 : m_dn M_345 291 (.getfield 48) 3 294 := by decide +kernel
theorem d_345_294 : m_dn M_345 294 (.iload_n 1) 1 295 := by decide +kernel
theorem d_345_295 : m_dn M_345 295 (.iaload) 1 296 := by decide +kernel
theorem d_345_296 : m_dn M_345 296 (.ireturn) 1 297 := by decide +kernel
theorem d_345_297 : m_dn M_345 297 (.iload 5) 2 299 := by decide +kernel
theorem d_345_299 : m_dn M_345 299 (.ireturn) 1 300 := by decide +kernel
theorem d_345_300 : m_dn M_345 300 (.iload 6) 2 302 := by decide +kernel
theorem d_345_302 : m_dn M_345 302 (.ireturn) 1 303 := by decide +kernel
theorem d_345_303 : m_dn M_345 303 (.aload_n 0) 1 304 := by decide +kernel
theorem d_345_304 : m_dn M_345 304 (.getfield 42) 3 307 := by decide +kernel
theorem d_345_307 : m_dn M_345 307 (.iload_n 1) 1 308 := by decide +kernel
theorem d_345_308 : m_dn M_345 308 (.iaload) 1 309 := by decide +kernel
theorem d_345_309 : m_dn M_345 309 (.ireturn) 1 310 := by decide +kernel
theorem d_345_31 : m_dn M_345 31 (.sipush 1024) 3 34 := by decide +kernel
theorem d_345_310 : m_dn M_345 310 (.aload_n 0) 1 311 := by decide +kernel
theorem d_345_311 : m_dn M_345 311 (.getfield 118) 3 314 := by decide +kernel
theorem d_345_314 : m_dn M_345 314 (.iconst 2) 1 315 := by decide +kernel
theorem d_345_315 : m_dn M_345 315 (.iload_n 1) 1 316 := by decide +kernel
theorem d_345_316 : m_dn M_345 316 (.imul) 1 317 := by decide +kernel
theorem d_345_317 : m_dn M_345 317 (.iload_n 2) 1 318 := by decide +kernel
theorem d_345_318 : m_dn M_345 318 (.iadd) 1 319 := by decide +kernel
theorem d_345_319 : m_dn M_345 319 (.bipush 9) 2 321 := by decide +kernel
theorem d_345_321 : m_dn M_345 321 (.isub) 1 322 := by decide +kernel
theorem d_345_322 : m_dn M_345 322 (.iaload) 1 323 := by decide +kernel
theorem d_345_323 : m_dn M_345 323 (.ireturn) 1 324 := by decide +kernel
theorem d_345_324 : m_dn M_345 324 (.aload_n 0) 1 325 := by decide +kernel
theorem d_345_325 : m_dn M_345 325 (.iload_n 1) 1 326 := by decide +kernel
theorem d_345_326 : m_dn M_345 326 (.iload_n 2) 1 327 := by decide +kernel
theorem d_345_327 : m_dn M_345 327 (.bipush 10) 2 329 := by decide +kernel
theorem d_345_329 : m_dn M_345 329 (.isub) 1 330 := by decide +kernel
theorem d_345_330 : m_dn M_345 330 (.invokevirtual 401) 3 333 := by decide +kernel
theorem d_345_333 : m_dn M_345 333 (.ifCond .eq 19) 3 336 := by decide +kernel
theorem d_345_336 : m_dn M_345 336 (.aload_n 0) 1 337 := by decide +kernel
theorem d_345_337 : m_dn M_345 337 (.getfield 121) 3 340 := by decide +kernel
theorem d_345_34 : m_dn M_345 34 (.iload_n 1) 1 35 := by decide +kernel
theorem d_345_340 : m_dn M_345 340 (.iconst 2) 1 341 := by decide +kernel
theorem d_345_341 : m_dn M_345 341 (.iload_n 1) 1 342 := by decide +kernel
theorem d_345_342 : m_dn M_345 342 (.imul) 1 343 := by decide +kernel
theorem d_345_343 : m_dn M_345 343 (.iload_n 2) 1 344 := by decide +kernel
theorem d_345_344 : m_dn M_345 344 (.iadd) 1 345 := by decide +kernel
theorem d_345_345 : m_dn M_345 345 (.bipush 11) 2 347 := by decide +kernel
theorem d_345_347 : m_dn M_345 347 (.isub) 1 348 := by decide +kernel
theorem d_345_348 : m_dn M_345 348 (.iaload) 1 349 := by decide +kernel
theorem d_345_349 : m_dn M_345 349 (.goto 4) 3 352 := by decide +kernel
theorem d_345_35 : m_dn M_345 35 (.imul) 1 36 := by decide +kernel
theorem d_345_352 : m_dn M_345 352 (.iconst 0) 1 353 := by decide +kernel
theorem d_345_353 : m_dn M_345 353 (.ireturn) 1 354 := by decide +kernel
theorem d_345_354 : m_dn M_345 354 (.iconst (-1)) 1 355 := by decide +kernel
theorem d_345_355 : m_dn M_345 355 (.ireturn) 1 356 := by decide +kernel
theorem d_345_36 : m_dn M_345 36 (.sipush 1024) 3 39 := by decide +kernel
theorem d_345_39 : m_dn M_345 39 (.iadd) 1 40 := by decide +kernel
theorem d_345_40 : m_dn M_345 40 (.if_icmp .ge 57) 3 43 := by decide +kernel
theorem d_345_43 : m_dn M_345 43 (.iload_n 3) 1 44 := by decide +kernel
theorem d_345_44 : m_dn M_345 44 (.aload_n 0) 1 45 := by decide +kernel
theorem d_345_45 : m_dn M_345 45 (.getfield 66) 3 48 := by decide +kernel
theorem d_345_48 : m_dn M_345 48 (.iload 6) 2 50 := by decide +kernel
theorem d_345_5 : m_dn M_345 5 (.iload_n 1) 1 6 := by decide +kernel
theorem d_345_50 : m_dn M_345 50 (.baload) 1 51 := by decide +kernel
theorem d_345_51 : m_dn M_345 51 (.ifCond .eq 7) 3 54 := by decide +kernel
theorem d_345_54 : m_dn M_345 54 (.iconst 1) 1 55 := by decide +kernel
theorem d_345_55 : m_dn M_345 55 (.goto 4) 3 58 := by decide +kernel
theorem d_345_58 : m_dn M_345 58 (.iconst 0) 1 59 := by decide +kernel
theorem d_345_59 : m_dn M_345 59 (.iadd) 1 60 := by decide +kernel
theorem d_345_6 : m_dn M_345 6 (.invokestatic 627) 3 9 := by decide +kernel
theorem d_345_60 : m_dn M_345 60 (.istore_n 3) 1 61 := by decide +kernel
theorem d_345_61 : m_dn M_345 61 (.iload 4) 2 63 := by decide +kernel
theorem d_345_63 : m_dn M_345 63 (.aload_n 0) 1 64 := by decide +kernel
theorem d_345_64 : m_dn M_345 64 (.getfield 66) 3 67 := by decide +kernel
theorem d_345_67 : m_dn M_345 67 (.iload 6) 2 69 := by decide +kernel
theorem d_345_69 : m_dn M_345 69 (.baload) 1 70 := by decide +kernel
theorem d_345_70 : m_dn M_345 70 (.ifCond .eq 17) 3 73 := by decide +kernel
theorem d_345_73 : m_dn M_345 73 (.aload_n 0) 1 74 := by decide +kernel
theorem d_345_74 : m_dn M_345 74 (.getfield 69) 3 77 := by decide +kernel
theorem d_345_77 : m_dn M_345 77 (.iload 6) 2 79 := by decide +kernel
theorem d_345_79 : m_dn M_345 79 (.baload) 1 80 := by decide +kernel
theorem d_345_80 : m_dn M_345 80 (.ifCond .eq 7) 3 83 := by decide +kernel
theorem d_345_83 : m_dn M_345 83 (.iconst 1) 1 84 := by decide +kernel
theorem d_345_84 : m_dn M_345 84 (.goto 4) 3 87 := by decide +kernel
theorem d_345_87 : m_dn M_345 87 (.iconst 0) 1 88 := by decide +kernel
theorem d_345_88 : m_dn M_345 88 (.iadd) 1 89 := by decide +kernel
theorem d_345_89 : m_dn M_345 89 (.istore 4) 2 91 := by decide +kernel
theorem d_345_9 : m_dn M_345 9 (.ifCond .ne 5) 3 12 := by decide +kernel
theorem d_345_91 : m_dn M_345 91 (.iinc 6 1) 3 94 := by decide +kernel
theorem d_345_94 : m_dn M_345 94 (.goto (-65)) 3 97 := by decide +kernel
theorem d_345_97 : m_dn M_345 97 (.sipush 128) 3 100 := by decide +kernel
theorem d_346_0 : m_dn M_346 0 (.aload_n 0) 1 1 := by decide +kernel
theorem d_346_1 : m_dn M_346 1 (.iconst 0) 1 2 := by decide +kernel
theorem d_346_101 : m_dn M_346 101 (.isub) 1 102 := by decide +kernel
theorem d_346_102 : m_dn M_346 102 (.ishr) 1 103 := by decide +kernel
theorem d_346_103 : m_dn M_346 103 (.iconst 1) 1 104 := by decide +kernel
theorem d_346_104 : m_dn M_346 104 (.iand) 1 105 := by decide +kernel
theorem d_346_105 : m_dn M_346 105 (.ireturn) 1 106 := by decide +kernel
theorem d_346_106 : m_dn M_346 106 (.iconst 0) 1 107 := by decide +kernel
theorem d_346_107 : m_dn M_346 107 (.istore 7) 2 109 := by decide +kernel
theorem d_346_109 : m_dn M_346 109 (.sipush 1024) 3 112 := by decide +kernel
theorem d_346_112 : m_dn M_346 112 (.iload_n 1) 1 113 := by decide +kernel
theorem d_346_113 : m_dn M_346 113 (.imul) 1 114 := by decide +kernel
theorem d_346_114 : m_dn M_346 114 (.istore 8) 2 116 := by decide +kernel
theorem d_346_116 : m_dn M_346 116 (.iload 8) 2 118 := by decide +kernel
theorem d_346_118 : m_dn M_346 118 (.sipush 1024) 3 121 := by decide +kernel
theorem d_346_12 : m_dn M_346 12 (.iload_n 2) 1 13 := by decide +kernel
theorem d_346_121 : m_dn M_346 121 (.iload_n 1) 1 122 := by decide +kernel
theorem d_346_122 : m_dn M_346 122 (.imul) 1 123 := by decide +kernel
theorem d_346_123 : m_dn M_346 123 (.sipush 1024) 3 126 := by decide +kernel
theorem d_346_126 : m_dn M_346 126 (.iadd) 1 127 := by decide +kernel
theorem d_346_127 : m_dn M_346 127 (.if_icmp .ge 63) 3 130 := by decide +kernel
theorem d_346_13 : m_dn M_346 13 (.ifCond .lt 30) 3 16 := by decide +kernel
theorem d_346_130 : m_dn M_346 130 (.iload 7) 2 132 := by decide +kernel
theorem d_346_132 : m_dn M_346 132 (.aload_n 0) 1 133 := by decide +kernel
theorem d_346_133 : m_dn M_346 133 (.getfield 66) 3 136 := by decide +kernel
theorem d_346_136 : m_dn M_346 136 (.iload 8) 2 138 := by decide +kernel
theorem d_346_138 : m_dn M_346 138 (.baload) 1 139 := by decide +kernel
theorem d_346_139 : m_dn M_346 139 (.ifCond .eq 41) 3 142 := by decide +kernel
theorem d_346_142 : m_dn M_346 142 (.aload_n 0) 1 143 := by decide +kernel
theorem d_346_143 : m_dn M_346 143 (.getfield 69) 3 146 := by decide +kernel
theorem d_346_146 : m_dn M_346 146 (.iload 8) 2 148 := by decide +kernel
theorem d_346_148 : m_dn M_346 148 (.baload) 1 149 := by decide +kernel
theorem d_346_149 : m_dn M_346 149 (.aload_n 0) 1 150 := by decide +kernel
theorem d_346_150 : m_dn M_346 150 (.getfield 69) 3 153 := by decide +kernel
theorem d_346_153 : m_dn M_346 153 (.iload 6) 2 155 := by decide +kernel
theorem d_346_155 : m_dn M_346 155 (.baload) 1 156 := by decide +kernel
theorem d_346_156 : m_dn M_346 156 (.if_icmp .ne 24) 3 159 := by decide +kernel
theorem d_346_159 : m_dn M_346 159 (.aload_n 0) 1 160 := by decide +kernel
theorem d_346_16 : m_dn M_346 16 (.iload_n 2) 1 17 := by decide +kernel
theorem d_346_160 : m_dn M_346 160 (.getfield 88) 3 163 := by decide +kernel
theorem d_346_163 : m_dn M_346 163 (.iload 8) 2 165 := by decide +kernel
theorem d_346_165 : m_dn M_346 165 (.iaload) 1 166 := by decide +kernel
theorem d_346_166 : m_dn M_346 166 (.aload_n 0) 1 167 := by decide +kernel
theorem d_346_167 : m_dn M_346 167 (.getfield 88) 3 170 := by decide +kernel
theorem d_346_17 : m_dn M_346 17 (.bipush 31) 2 19 := by decide +kernel
theorem d_346_170 : m_dn M_346 170 (.iload 6) 2 172 := by decide +kernel
theorem d_346_172 : m_dn M_346 172 (.iaload) 1 173 := by decide +kernel
theorem d_346_173 : m_dn M_346 173 (.if_icmp .ge 7) 3 176 := by decide +kernel
theorem d_346_176 : m_dn M_346 176 (.iconst 1) 1 177 := by decide +kernel
theorem d_346_177 : m_dn M_346 177 (.goto 4) 3 180 := by decide +kernel
theorem d_346_180 : m_dn M_346 180 (.iconst 0) 1 181 := by decide +kernel
theorem d_346_181 : m_dn M_346 181 (.iadd) 1 182 := by decide +kernel
theorem d_346_182 : m_dn M_346 182 (.istore 7) 2 184 := by decide +kernel
theorem d_346_184 : m_dn M_346 184 (.iinc 8 1) 3 187 := by decide +kernel
theorem d_346_187 : m_dn M_346 187 (.goto (-71)) 3 190 := by decide +kernel
theorem d_346_19 : m_dn M_346 19 (.if_icmp .gt 24) 3 22 := by decide +kernel
theorem d_346_190 : m_dn M_346 190 (.iload 5) 2 192 := by decide +kernel
theorem d_346_192 : m_dn M_346 192 (.tableswitch 106 0 6 #[44, 52, 59, 70, 78, 94, 97]) 44 236 := by decide +kernel
theorem d_346_2 : m_dn M_346 2 (.putfield 155) 3 5 := by decide +kernel
theorem d_346_22 : m_dn M_346 22 (.iload_n 3) 1 23 := by decide +kernel
theorem d_346_23 : m_dn M_346 23 (.ifCond .lt 20) 3 26 := by decide +kernel
theorem d_346_236 : m_dn M_346 236 (.aload_n 0) 1 237 := by decide +kernel
theorem d_346_237 : m_dn M_346 237 (.iload 6) 2 239 := by decide +kernel
theorem d_346_239 : m_dn M_346 239 (.iconst 0) 1 240 := by decide +kernel
theorem d_346_240 : m_dn M_346 240 (.invokevirtual 431) 3 243 := by decide +kernel
theorem d_346_243 : m_dn M_346 243 (.ireturn) 1 244 := by decide +kernel
theorem d_346_244 : m_dn M_346 244 (.aload_n 0) 1 245 := by decide +kernel
theorem d_346_245 : m_dn M_346 245 (.iload 6) 2 247 := by decide +kernel
theorem d_346_247 : m_dn M_346 247 (.invokevirtual 462) 3 250 := by decide +kernel
theorem d_346_250 : m_dn M_346 250 (.ireturn) 1 251 := by decide +kernel
theorem d_346_251 : m_dn M_346 251 (.aload_n 0) 1 252 := by decide +kernel
theorem d_346_252 : m_dn M_346 252 (.getfield 85) 3 255 := by decide +kernel
theorem d_346_255 : m_dn M_346 255 (.iload 6) 2 257 := by decide +kernel
theorem d_346_257 : m_dn M_346 257 (.iaload) 1 258 := by decide +kernel
theorem d_346_258 : m_dn M_346 258 (.invokestatic 407) 3 261 := by decide +kernel
theorem d_346_26 : m_dn M_346 26 (.iload_n 3) 1 27 := by decide +kernel
theorem d_346_261 : m_dn M_346 261 (.ireturn) 1 262 := by decide +kernel
theorem d_346_262 : m_dn M_346 262 (.aload_n 0) 1 263 := by decide +kernel
theorem d_346_263 : m_dn M_346 263 (.getfield 76) 3 266 := by decide +kernel
theorem d_346_266 : m_dn M_346 266 (.iload 6) 2 268 := by decide +kernel
theorem d_346_268 : m_dn M_346 268 (.iaload) 1 269 := by decide +kernel
theorem d_346_269 : m_dn M_346 269 (.ireturn) 1 270 := by decide +kernel
theorem d_346_27 : m_dn M_346 27 (.iconst 3) 1 28 := by decide +kernel
theorem d_346_270 : m_dn M_346 270 (.aload_n 0) 1 271 := by decide +kernel
theorem d_346_271 : m_dn M_346 271 (.getfield 69) 3 274 := by decide +kernel
theorem d_346_274 : m_dn M_346 274 (.iload 6) 2 276 := by decide +kernel
theorem d_346_276 : m_dn M_346 276 (.baload) 1 277 := by decide +kernel
theorem d_346_277 : m_dn M_346 277 (.ifCond .eq 7) 3 280 := by decide +kernel
theorem d_346_28 : m_dn M_346 28 (.if_icmp .gt 15) 3 31 := by decide +kernel
theorem d_346_280 : m_dn M_346 280 (.iconst 1) 1 281 := by decide +kernel
theorem d_346_281 : m_dn M_346 281 (.goto 4) 3 284 := by decide +kernel
theorem d_346_284 : m_dn M_346 284 (.iconst 0) 1 285 := by decide +kernel
theorem d_346_285 : m_dn M_346 285 (.ireturn) 1 286 := by decide +kernel
theorem d_346_286 : m_dn M_346 286 (.iload 7) 2 288 := by decide +kernel
theorem d_346_288 : m_dn M_346 288 (.ireturn) 1 289 := by decide +kernel
theorem d_346_289 : m_dn M_346 289 (.aload_n 0) 1 290 := by decide +kernel
theorem d_346_290 : m_dn M_346 290 (.iload 6) 2 292 := by decide +kernel
theorem d_346_292 : m_dn M_346 292 (.bipush 8) 2 294 := by decide +kernel
theorem d_346_294 : m_dn M_346 294 (.invokevirtual 431) 3 297 := by decide +kernel
theorem d_346_297 : m_dn M_346 297 (.ireturn) 1 298 := by decide +kernel
theorem d_346_298 : m_dn M_346 298 (.iconst (-1)) 1 299 := by decide +kernel
theorem d_346_299 : m_dn M_346 299 (.ireturn) 1 300 := by decide +kernel
theorem d_346_31 : m_dn M_346 31 (.iload 4) 2 33 := by decide +kernel
theorem d_346_33 : m_dn M_346 33 (.ifCond .lt 10) 3 36 := by decide +kernel
theorem d_346_36 : m_dn M_346 36 (.iload 4) 2 38 := by decide +kernel
theorem d_346_38 : m_dn M_346 38 (.bipush 8) 2 40 := by decide +kernel
theorem d_346_40 : m_dn M_346 40 (.if_icmp .lt 5) 3 43 := by decide +kernel
theorem d_346_43 : m_dn M_346 43 (.iconst (-1)) 1 44 := by decide +kernel
theorem d_346_44 : m_dn M_346 44 (.ireturn) 1 45 := by decide +kernel
theorem d_346_45 : m_dn M_346 45 (.bipush 8) 2 47 := by decide +kernel
theorem d_346_47 : m_dn M_346 47 (.sipush 128) 3 50 := by decide +kernel
theorem d_346_5 : m_dn M_346 5 (.iload_n 1) 1 6 := by decide +kernel
theorem d_346_50 : m_dn M_346 50 (.iload_n 1) 1 51 := by decide +kernel
theorem d_346_51 : m_dn M_346 51 (.imul) 1 52 := by decide +kernel
theorem d_346_52 : m_dn M_346 52 (.iconst 4) 1 53 := by decide +kernel
theorem d_346_53 : m_dn M_346 53 (.iload_n 2) 1 54 := by decide +kernel
theorem d_346_54 : m_dn M_346 54 (.imul) 1 55 := by decide +kernel
theorem d_346_55 : m_dn M_346 55 (.iadd) 1 56 := by decide +kernel
theorem d_346_56 : m_dn M_346 56 (.iload_n 3) 1 57 := by decide +kernel
theorem d_346_57 : m_dn M_346 57 (.iadd) 1 58 := by decide +kernel
theorem d_346_58 : m_dn M_346 58 (.imul) 1 59 := by decide +kernel
theorem d_346_59 : m_dn M_346 59 (.iload 4) 2 61 := by decide +kernel
theorem d_346_6 : m_dn M_346 6 (.invokestatic 627) 3 9 := by decide +kernel
theorem d_346_61 : m_dn M_346 61 (.iadd) 1 62 := by decide +kernel
theorem d_346_62 : m_dn M_346 62 (.istore 6) 2 64 := by decide +kernel
theorem d_346_64 : m_dn M_346 64 (.aload_n 0) 1 65 := by decide +kernel
theorem d_346_65 : m_dn M_346 65 (.getfield 66) 3 68 := by decide +kernel
theorem d_346_68 : m_dn M_346 68 (.iload 6) 2 70 := by decide +kernel
theorem d_346_70 : m_dn M_346 70 (.baload) 1 71 := by decide +kernel
theorem d_346_71 : m_dn M_346 71 (.ifCond .ne 5) 3 74 := by decide +kernel
theorem d_346_74 : m_dn M_346 74 (.iconst (-1)) 1 75 := by decide +kernel
theorem d_346_75 : m_dn M_346 75 (.ireturn) 1 76 := by decide +kernel
theorem d_346_76 : m_dn M_346 76 (.iload 5) 2 78 := by decide +kernel
theorem d_346_78 : m_dn M_346 78 (.bipush 15) 2 80 := by decide +kernel
theorem d_346_80 : m_dn M_346 80 (.if_icmp .le 26) 3 83 := by decide +kernel
theorem d_346_83 : m_dn M_346 83 (.iload 5) 2 85 := by decide +kernel
theorem d_346_85 : m_dn M_346 85 (.bipush 32) 2 87 := by decide +kernel
theorem d_346_87 : m_dn M_346 87 (.if_icmp .ge 19) 3 90 := by decide +kernel
theorem d_346_9 : m_dn M_346 9 (.ifCond .eq 34) 3 12 := by decide +kernel
theorem d_346_90 : m_dn M_346 90 (.aload_n 0) 1 91 := by decide +kernel
theorem d_346_91 : m_dn M_346 91 (.getfield 85) 3 94 := by decide +kernel
theorem d_346_94 : m_dn M_346 94 (.iload 6) 2 96 := by decide +kernel
theorem d_346_96 : m_dn M_346 96 (.iaload) 1 97 := by decide +kernel
theorem d_346_97 : m_dn M_346 97 (.iload 5) 2 99 := by decide +kernel
theorem d_346_99 : m_dn M_346 99 (.bipush 16) 2 101 := by decide +kernel
theorem d_347_0 : m_dn M_347 0 (.aload_n 0) 1 1 := by decide +kernel
theorem d_347_1 : m_dn M_347 1 (.iconst 0) 1 2 := by decide +kernel
theorem d_347_10 : m_dn M_347 10 (.aload_n 0) 1 11 := by decide +kernel
theorem d_347_11 : m_dn M_347 11 (.getfield 533) 3 14 := by decide +kernel
theorem d_347_14 : m_dn M_347 14 (.if_icmp .ge 13) 3 17 := by decide +kernel
theorem d_347_17 : m_dn M_347 17 (.iload_n 2) 1 18 := by decide +kernel
theorem d_347_18 : m_dn M_347 18 (.ifCond .lt 9) 3 21 := by decide +kernel
theorem d_347_2 : m_dn M_347 2 (.putfield 155) 3 5 := by decide +kernel
theorem d_347_21 : m_dn M_347 21 (.iload_n 2) 1 22 := by decide +kernel
theorem d_347_22 : m_dn M_347 22 (.bipush 11) 2 24 := by decide +kernel
theorem d_347_24 : m_dn M_347 24 (.if_icmp .le 5) 3 27 := by decide +kernel
theorem d_347_27 : m_dn M_347 27 (.iconst (-1)) 1 28 := by decide +kernel
theorem d_347_28 : m_dn M_347 28 (.ireturn) 1 29 := by decide +kernel
theorem d_347_29 : m_dn M_347 29 (.iload_n 2) 1 30 := by decide +kernel
theorem d_347_30 : m_dn M_347 30 (.bipush 11) 2 32 := by decide +kernel
theorem d_347_32 : m_dn M_347 32 (.if_icmp .ne 16) 3 35 := by decide +kernel
theorem d_347_35 : m_dn M_347 35 (.aload_n 0) 1 36 := by decide +kernel
theorem d_347_36 : m_dn M_347 36 (.getfield 137) 3 39 := by decide +kernel
theorem d_347_39 : m_dn M_347 39 (.bipush 22) 2 41 := by decide +kernel
theorem d_347_41 : m_dn M_347 41 (.iload_n 1) 1 42 := by decide +kernel
theorem d_347_42 : m_dn M_347 42 (.imul) 1 43 := by decide +kernel
theorem d_347_43 : m_dn M_347 43 (.bipush 21) 2 45 := by decide +kernel
theorem d_347_45 : m_dn M_347 45 (.iadd) 1 46 := by decide +kernel
theorem d_347_46 : m_dn M_347 46 (.iaload) 1 47 := by decide +kernel
theorem d_347_47 : m_dn M_347 47 (.ireturn) 1 48 := by decide +kernel
theorem d_347_48 : m_dn M_347 48 (.iload_n 2) 1 49 := by decide +kernel
theorem d_347_49 : m_dn M_347 49 (.bipush 10) 2 51 := by decide +kernel
theorem d_347_5 : m_dn M_347 5 (.iload_n 1) 1 6 := by decide +kernel
theorem d_347_51 : m_dn M_347 51 (.if_icmp .lt 15) 3 54 := by decide +kernel
theorem d_347_54 : m_dn M_347 54 (.aload_n 0) 1 55 := by decide +kernel
theorem d_347_55 : m_dn M_347 55 (.getfield 137) 3 58 := by decide +kernel
theorem d_347_58 : m_dn M_347 58 (.bipush 22) 2 60 := by decide +kernel
theorem d_347_6 : m_dn M_347 6 (.ifCond .lt 21) 3 9 := by decide +kernel
theorem d_347_60 : m_dn M_347 60 (.iload_n 1) 1 61 := by decide +kernel
theorem d_347_61 : m_dn M_347 61 (.imul) 1 62 := by decide +kernel
theorem d_347_62 : m_dn M_347 62 (.iaload) 1 63 := by decide +kernel
theorem d_347_63 : m_dn M_347 63 (.ifCond .ne 17) 3 66 := by decide +kernel
theorem d_347_66 : m_dn M_347 66 (.aload_n 0) 1 67 := by decide +kernel
theorem d_347_67 : m_dn M_347 67 (.getfield 137) 3 70 := by decide +kernel
theorem d_347_70 : m_dn M_347 70 (.bipush 22) 2 72 := by decide +kernel
theorem d_347_72 : m_dn M_347 72 (.iload_n 1) 1 73 := by decide +kernel
theorem d_347_73 : m_dn M_347 73 (.imul) 1 74 := by decide +kernel
theorem d_347_74 : m_dn M_347 74 (.iload_n 2) 1 75 := by decide +kernel
theorem d_347_75 : m_dn M_347 75 (.iadd) 1 76 := by decide +kernel
theorem d_347_76 : m_dn M_347 76 (.iaload) 1 77 := by decide +kernel
theorem d_347_77 : m_dn M_347 77 (.goto 4) 3 80 := by decide +kernel
theorem d_347_80 : m_dn M_347 80 (.iconst 0) 1 81 := by decide +kernel
theorem d_347_81 : m_dn M_347 81 (.ireturn) 1 82 := by decide +kernel
theorem d_347_9 : m_dn M_347 9 (.iload_n 1) 1 10 := by decide +kernel
theorem d_348_0 : m_dn M_348 0 (.aload_n 0) 1 1 := by decide +kernel
theorem d_348_1 : m_dn M_348 1 (.iconst 0) 1 2 := by decide +kernel
theorem d_348_2 : m_dn M_348 2 (.putfield 155) 3 5 := by decide +kernel
theorem d_348_48 : m_dn M_348 48 (.aload_n 0) 1 49 := by decide +kernel
theorem d_348_49 : m_dn M_348 49 (.getfield 533) 3 52 := by decide +kernel
theorem d_348_5 : m_dn M_348 5 (.iload_n 1) 1 6 := by decide +kernel
theorem d_348_52 : m_dn M_348 52 (.ireturn) 1 53 := by decide +kernel
theorem d_348_53 : m_dn M_348 53 (.aload_n 0) 1 54 := by decide +kernel
theorem d_348_54 : m_dn M_348 54 (.getfield 581) 3 57 := by decide +kernel
theorem d_348_57 : m_dn M_348 57 (.ireturn) 1 58 := by decide +kernel
theorem d_348_58 : m_dn M_348 58 (.aload_n 0) 1 59 := by decide +kernel
theorem d_348_59 : m_dn M_348 59 (.getfield 612) 3 62 := by decide +kernel
theorem d_348_6 : m_dn M_348 6 (.tableswitch 77 0 6 #[42, 47, 52, 57, 62, 67, 72]) 42 48 := by decide +kernel
theorem d_348_62 : m_dn M_348 62 (.ireturn) 1 63 := by decide +kernel
theorem d_348_63 : m_dn M_348 63 (.aload_n 0) 1 64 := by decide +kernel
theorem d_348_64 : m_dn M_348 64 (.getfield 563) 3 67 := by decide +kernel
theorem d_348_67 : m_dn M_348 67 (.ireturn) 1 68 := by decide +kernel
theorem d_348_68 : m_dn M_348 68 (.aload_n 0) 1 69 := by decide +kernel
theorem d_348_69 : m_dn M_348 69 (.getfield 536) 3 72 := by decide +kernel
theorem d_348_72 : m_dn M_348 72 (.ireturn) 1 73 := by decide +kernel
theorem d_348_73 : m_dn M_348 73 (.aload_n 0) 1 74 := by decide +kernel
theorem d_348_74 : m_dn M_348 74 (.getfield 578) 3 77 := by decide +kernel
theorem d_348_77 : m_dn M_348 77 (.ireturn) 1 78 := by decide +kernel
theorem d_348_78 : m_dn M_348 78 (.aload_n 0) 1 79 := by decide +kernel
theorem d_348_79 : m_dn M_348 79 (.getfield 390) 3 82 := by decide +kernel
theorem d_348_82 : m_dn M_348 82 (.ireturn) 1 83 := by decide +kernel
theorem d_348_83 : m_dn M_348 83 (.iconst (-1)) 1 84 := by decide +kernel
theorem d_348_84 : m_dn M_348 84 (.ireturn) 1 85 := by decide +kernel
def D_m_saySort (F : Nat) (a0 : Int32) (S : mS) : Option (mS) := (D_m_sayNumber F a0 S).bind fun S1 => cond (decide (a0 = (200 : Int32))) ((D_m_say F 82 S1).bind fun S4 => some S4) (cond (decide (a0 = (206 : Int32))) ((D_m_say F 83 S1).bind fun S7 => some S7) (cond (decide (a0 = (304 : Int32))) ((D_m_say F 84 S1).bind fun S10 => some S10) (cond (decide (a0 = (400 : Int32))) ((D_m_say F 85 S1).bind fun S13 => some S13) (cond (decide (a0 = (404 : Int32))) ((D_m_say F 86 S1).bind fun S16 => some S16) (cond (decide (a0 = (416 : Int32))) ((D_m_say F 87 S1).bind fun S19 => some S19) (cond (decide (a0 = (502 : Int32))) ((D_m_say F 88 S1).bind fun S22 => some S22) (cond (decide (a0 = (503 : Int32))) ((D_m_say F 89 S1).bind fun S25 => some S25) ((D_m_say F 90 S1).bind fun S27 => some S27))))))))
theorem T_m_saySort {l : Launch} {w : List mM} {F : Nat} {a0 : Int32} {S : mS} {r : mS} (h : m_RM S w) (h0 : D_m_saySort F a0 S = some r) : m_Rs l M_340 (m_ent M_340 [.ref 583, .int a0] w) (fun v w' => v = none ∧ m_RM r w' ∧ m_Fq w w') 0 0 5 500 := by
  show m_Rs l M_340 (0, [(0, .ref 583), (1, .int a0)], [], w) _ 0 0 5 500
  generalize hw0 : w = w0 at h ⊢
  have hF : m_Fq w0 w0 := m_Fq.refl
  rw [D_m_saySort] at h0
  refine m_Rs.n0 b_340 (x_aload_n d_340_0 rfl) ?_
  refine m_Rs.n0 b_340 (x_iload_n d_340_1 rfl) ?_
  obtain ⟨S1, e2, h0⟩ := bS h0
  refine m_Rs.callSv b_340 (y_cv d_340_2 rfl q_341 (m_isRecv_of rfl h.1) (show m_takeI _ _ = some (_, [_, _], []) from rfl) (by simp only [m_okf, List.all_cons, List.all_nil, Bool.and_true, Bool.and_self, m_okv_i, m_okv_l, m_okv_0, m_okv_t, m_okv_at h.1]) rfl) (T_m_sayNumber h e2) hF rfl (fun w1 h hF => ?_) (by decide) (by decide)
  refine m_Rs.n0 b_340 (x_iload_n d_340_5 rfl) ?_
  cases hc3 : decide (a0 = (200 : Int32)) with
  | true =>
    have h0 := cT hc3 h0
    refine m_Rs.n0 b_340 (x_lsw (t := 80) d_340_6 (by rw [of_decide_eq_true hc3]; decide)) ?_
    refine m_Rs.n0 b_340 (x_aload_n d_340_80 rfl) ?_
    refine m_Rs.n0 b_340 (x_textw d_340_81 rfl rfl) ?_
    obtain ⟨S4, e5, h0⟩ := bS h0
    refine m_Rs.callSv b_340 (y_cv d_340_84 rfl q_342 (m_isRecv_of rfl h.1) (show m_takeI _ _ = some (_, [_, _], []) from rfl) (by simp only [m_okf, List.all_cons, List.all_nil, Bool.and_true, Bool.and_self, m_okv_i, m_okv_l, m_okv_0, m_okv_t, m_okv_at h.1, m_okv_out (a := 82) (by decide)]) rfl) (T_m_say (by decide) h e5) hF rfl (fun w1 h hF => ?_) (by decide) (by decide)
    refine m_Rs.n0 b_340 (x_goto d_340_87 rfl) ?_
    exact m_Rs.ret b_340 (m_rt_vr d_340_167 rfl) (rV h0 h hF)
  | false =>
    have h0 := cF hc3 h0
    cases hc6 : decide (a0 = (206 : Int32)) with
    | true =>
      have h0 := cT hc6 h0
      refine m_Rs.n0 b_340 (x_lsw (t := 90) d_340_6 (by rw [of_decide_eq_true hc6]; decide)) ?_
      refine m_Rs.n0 b_340 (x_aload_n d_340_90 rfl) ?_
      refine m_Rs.n0 b_340 (x_textw d_340_91 rfl rfl) ?_
      obtain ⟨S7, e8, h0⟩ := bS h0
      refine m_Rs.callSv b_340 (y_cv d_340_94 rfl q_342 (m_isRecv_of rfl h.1) (show m_takeI _ _ = some (_, [_, _], []) from rfl) (by simp only [m_okf, List.all_cons, List.all_nil, Bool.and_true, Bool.and_self, m_okv_i, m_okv_l, m_okv_0, m_okv_t, m_okv_at h.1, m_okv_out (a := 83) (by decide)]) rfl) (T_m_say (by decide) h e8) hF rfl (fun w1 h hF => ?_) (by decide) (by decide)
      refine m_Rs.n0 b_340 (x_goto d_340_97 rfl) ?_
      exact m_Rs.ret b_340 (m_rt_vr d_340_167 rfl) (rV h0 h hF)
    | false =>
      have h0 := cF hc6 h0
      cases hc9 : decide (a0 = (304 : Int32)) with
      | true =>
        have h0 := cT hc9 h0
        refine m_Rs.n0 b_340 (x_lsw (t := 100) d_340_6 (by rw [of_decide_eq_true hc9]; decide)) ?_
        refine m_Rs.n0 b_340 (x_aload_n d_340_100 rfl) ?_
        refine m_Rs.n0 b_340 (x_textw d_340_101 rfl rfl) ?_
        obtain ⟨S10, e11, h0⟩ := bS h0
        refine m_Rs.callSv b_340 (y_cv d_340_104 rfl q_342 (m_isRecv_of rfl h.1) (show m_takeI _ _ = some (_, [_, _], []) from rfl) (by simp only [m_okf, List.all_cons, List.all_nil, Bool.and_true, Bool.and_self, m_okv_i, m_okv_l, m_okv_0, m_okv_t, m_okv_at h.1, m_okv_out (a := 84) (by decide)]) rfl) (T_m_say (by decide) h e11) hF rfl (fun w1 h hF => ?_) (by decide) (by decide)
        refine m_Rs.n0 b_340 (x_goto d_340_107 rfl) ?_
        exact m_Rs.ret b_340 (m_rt_vr d_340_167 rfl) (rV h0 h hF)
      | false =>
        have h0 := cF hc9 h0
        cases hc12 : decide (a0 = (400 : Int32)) with
        | true =>
          have h0 := cT hc12 h0
          refine m_Rs.n0 b_340 (x_lsw (t := 110) d_340_6 (by rw [of_decide_eq_true hc12]; decide)) ?_
          refine m_Rs.n0 b_340 (x_aload_n d_340_110 rfl) ?_
          refine m_Rs.n0 b_340 (x_textw d_340_111 rfl rfl) ?_
          obtain ⟨S13, e14, h0⟩ := bS h0
          refine m_Rs.callSv b_340 (y_cv d_340_114 rfl q_342 (m_isRecv_of rfl h.1) (show m_takeI _ _ = some (_, [_, _], []) from rfl) (by simp only [m_okf, List.all_cons, List.all_nil, Bool.and_true, Bool.and_self, m_okv_i, m_okv_l, m_okv_0, m_okv_t, m_okv_at h.1, m_okv_out (a := 85) (by decide)]) rfl) (T_m_say (by decide) h e14) hF rfl (fun w1 h hF => ?_) (by decide) (by decide)
          refine m_Rs.n0 b_340 (x_goto d_340_117 rfl) ?_
          exact m_Rs.ret b_340 (m_rt_vr d_340_167 rfl) (rV h0 h hF)
        | false =>
          have h0 := cF hc12 h0
          cases hc15 : decide (a0 = (404 : Int32)) with
          | true =>
            have h0 := cT hc15 h0
            refine m_Rs.n0 b_340 (x_lsw (t := 120) d_340_6 (by rw [of_decide_eq_true hc15]; decide)) ?_
            refine m_Rs.n0 b_340 (x_aload_n d_340_120 rfl) ?_
            refine m_Rs.n0 b_340 (x_textw d_340_121 rfl rfl) ?_
            obtain ⟨S16, e17, h0⟩ := bS h0
            refine m_Rs.callSv b_340 (y_cv d_340_124 rfl q_342 (m_isRecv_of rfl h.1) (show m_takeI _ _ = some (_, [_, _], []) from rfl) (by simp only [m_okf, List.all_cons, List.all_nil, Bool.and_true, Bool.and_self, m_okv_i, m_okv_l, m_okv_0, m_okv_t, m_okv_at h.1, m_okv_out (a := 86) (by decide)]) rfl) (T_m_say (by decide) h e17) hF rfl (fun w1 h hF => ?_) (by decide) (by decide)
            refine m_Rs.n0 b_340 (x_goto d_340_127 rfl) ?_
            exact m_Rs.ret b_340 (m_rt_vr d_340_167 rfl) (rV h0 h hF)
          | false =>
            have h0 := cF hc15 h0
            cases hc18 : decide (a0 = (416 : Int32)) with
            | true =>
              have h0 := cT hc18 h0
              refine m_Rs.n0 b_340 (x_lsw (t := 130) d_340_6 (by rw [of_decide_eq_true hc18]; decide)) ?_
              refine m_Rs.n0 b_340 (x_aload_n d_340_130 rfl) ?_
              refine m_Rs.n0 b_340 (x_textw d_340_131 rfl rfl) ?_
              obtain ⟨S19, e20, h0⟩ := bS h0
              refine m_Rs.callSv b_340 (y_cv d_340_134 rfl q_342 (m_isRecv_of rfl h.1) (show m_takeI _ _ = some (_, [_, _], []) from rfl) (by simp only [m_okf, List.all_cons, List.all_nil, Bool.and_true, Bool.and_self, m_okv_i, m_okv_l, m_okv_0, m_okv_t, m_okv_at h.1, m_okv_out (a := 87) (by decide)]) rfl) (T_m_say (by decide) h e20) hF rfl (fun w1 h hF => ?_) (by decide) (by decide)
              refine m_Rs.n0 b_340 (x_goto d_340_137 rfl) ?_
              exact m_Rs.ret b_340 (m_rt_vr d_340_167 rfl) (rV h0 h hF)
            | false =>
              have h0 := cF hc18 h0
              cases hc21 : decide (a0 = (502 : Int32)) with
              | true =>
                have h0 := cT hc21 h0
                refine m_Rs.n0 b_340 (x_lsw (t := 140) d_340_6 (by rw [of_decide_eq_true hc21]; decide)) ?_
                refine m_Rs.n0 b_340 (x_aload_n d_340_140 rfl) ?_
                refine m_Rs.n0 b_340 (x_textw d_340_141 rfl rfl) ?_
                obtain ⟨S22, e23, h0⟩ := bS h0
                refine m_Rs.callSv b_340 (y_cv d_340_144 rfl q_342 (m_isRecv_of rfl h.1) (show m_takeI _ _ = some (_, [_, _], []) from rfl) (by simp only [m_okf, List.all_cons, List.all_nil, Bool.and_true, Bool.and_self, m_okv_i, m_okv_l, m_okv_0, m_okv_t, m_okv_at h.1, m_okv_out (a := 88) (by decide)]) rfl) (T_m_say (by decide) h e23) hF rfl (fun w1 h hF => ?_) (by decide) (by decide)
                refine m_Rs.n0 b_340 (x_goto d_340_147 rfl) ?_
                exact m_Rs.ret b_340 (m_rt_vr d_340_167 rfl) (rV h0 h hF)
              | false =>
                have h0 := cF hc21 h0
                cases hc24 : decide (a0 = (503 : Int32)) with
                | true =>
                  have h0 := cT hc24 h0
                  refine m_Rs.n0 b_340 (x_lsw (t := 150) d_340_6 (by rw [of_decide_eq_true hc24]; decide)) ?_
                  refine m_Rs.n0 b_340 (x_aload_n d_340_150 rfl) ?_
                  refine m_Rs.n0 b_340 (x_textw d_340_151 rfl rfl) ?_
                  obtain ⟨S25, e26, h0⟩ := bS h0
                  refine m_Rs.callSv b_340 (y_cv d_340_154 rfl q_342 (m_isRecv_of rfl h.1) (show m_takeI _ _ = some (_, [_, _], []) from rfl) (by simp only [m_okf, List.all_cons, List.all_nil, Bool.and_true, Bool.and_self, m_okv_i, m_okv_l, m_okv_0, m_okv_t, m_okv_at h.1, m_okv_out (a := 89) (by decide)]) rfl) (T_m_say (by decide) h e26) hF rfl (fun w1 h hF => ?_) (by decide) (by decide)
                  refine m_Rs.n0 b_340 (x_goto d_340_157 rfl) ?_
                  exact m_Rs.ret b_340 (m_rt_vr d_340_167 rfl) (rV h0 h hF)
                | false =>
                  have h0 := cF hc24 h0
                  refine m_Rs.n0 b_340 (x_lsw (t := 160) d_340_6 (m_lsw_d (by decide) (by simp only [List.forall_mem_cons]; exact ⟨m_lsw_n (of_decide_eq_false hc3) rfl, m_lsw_n (of_decide_eq_false hc6) rfl, m_lsw_n (of_decide_eq_false hc9) rfl, m_lsw_n (of_decide_eq_false hc12) rfl, m_lsw_n (of_decide_eq_false hc15) rfl, m_lsw_n (of_decide_eq_false hc18) rfl, m_lsw_n (of_decide_eq_false hc21) rfl, m_lsw_n (of_decide_eq_false hc24) rfl, fun _ hz => by cases hz⟩) rfl)) ?_
                  refine m_Rs.n0 b_340 (x_aload_n d_340_160 rfl) ?_
                  refine m_Rs.n0 b_340 (x_textw d_340_161 rfl rfl) ?_
                  obtain ⟨S27, e28, h0⟩ := bS h0
                  refine m_Rs.callSv b_340 (y_cv d_340_164 rfl q_342 (m_isRecv_of rfl h.1) (show m_takeI _ _ = some (_, [_, _], []) from rfl) (by simp only [m_okf, List.all_cons, List.all_nil, Bool.and_true, Bool.and_self, m_okv_i, m_okv_l, m_okv_0, m_okv_t, m_okv_at h.1, m_okv_out (a := 90) (by decide)]) rfl) (T_m_say (by decide) h e28) hF rfl (fun w1 h hF => ?_) (by decide) (by decide)
                  exact m_Rs.ret b_340 (m_rt_vr d_340_167 rfl) (rV h0 h hF)
def D_m_sayLine (F : Nat) (a0 : Nat) (a1 : Int32) (S : mS) : Option (mS) := (D_m_say F a0 S).bind fun S1 => (D_m_sayNumber F a1 S1).bind fun S3 => (D_m_say F 81 S3).bind fun S5 => some S5
theorem T_m_sayLine {l : Launch} {w : List mM} {F : Nat} {a0 : Nat} {a1 : Int32} {S : mS} {r : mS} (ha0 : a0 < 512) (h : m_RM S w) (h0 : D_m_sayLine F a0 a1 S = some r) : m_Rs l M_343 (m_ent M_343 [.ref 583, .ref a0, .int a1] w) (fun v w' => v = none ∧ m_RM r w' ∧ m_Fq w w') 0 0 5 500 := by
  show m_Rs l M_343 (0, [(0, .ref 583), (1, .ref a0), (2, .int a1)], [], w) _ 0 0 5 500
  generalize hw0 : w = w0 at h ⊢
  have hF : m_Fq w0 w0 := m_Fq.refl
  rw [D_m_sayLine] at h0
  refine m_Rs.n0 b_343 (x_aload_n d_343_0 rfl) ?_
  refine m_Rs.n0 b_343 (x_aload_n d_343_1 rfl) ?_
  obtain ⟨S1, e2, h0⟩ := bS h0
  refine m_Rs.callSv b_343 (y_cv d_343_2 rfl q_342 (m_isRecv_of rfl h.1) (show m_takeI _ _ = some (_, [_, _], []) from rfl) (by simp only [m_okf, List.all_cons, List.all_nil, Bool.and_true, Bool.and_self, m_okv_i, m_okv_l, m_okv_0, m_okv_t, m_okv_at h.1, m_okv_out (a := a0) ha0]) rfl) (T_m_say ha0 h e2) hF rfl (fun w1 h hF => ?_) (by decide) (by decide)
  refine m_Rs.n0 b_343 (x_aload_n d_343_5 rfl) ?_
  refine m_Rs.n0 b_343 (x_iload_n d_343_6 rfl) ?_
  obtain ⟨S3, e4, h0⟩ := bS h0
  refine m_Rs.callSv b_343 (y_cv d_343_7 rfl q_341 (m_isRecv_of rfl h.1) (show m_takeI _ _ = some (_, [_, _], []) from rfl) (by simp only [m_okf, List.all_cons, List.all_nil, Bool.and_true, Bool.and_self, m_okv_i, m_okv_l, m_okv_0, m_okv_t, m_okv_at h.1, m_okv_out (a := a0) ha0]) rfl) (T_m_sayNumber h e4) hF rfl (fun w1 h hF => ?_) (by decide) (by decide)
  refine m_Rs.n0 b_343 (x_aload_n d_343_10 rfl) ?_
  refine m_Rs.n0 b_343 (x_textw d_343_11 rfl rfl) ?_
  obtain ⟨S5, e6, h0⟩ := bS h0
  refine m_Rs.callSv b_343 (y_cv d_343_14 rfl q_342 (m_isRecv_of rfl h.1) (show m_takeI _ _ = some (_, [_, _], []) from rfl) (by simp only [m_okf, List.all_cons, List.all_nil, Bool.and_true, Bool.and_self, m_okv_i, m_okv_l, m_okv_0, m_okv_t, m_okv_at h.1, m_okv_out (a := a0) ha0, m_okv_out (a := 81) (by decide)]) rfl) (T_m_say (by decide) h e6) hF rfl (fun w1 h hF => ?_) (by decide) (by decide)
  exact m_Rs.ret b_343 (m_rt_vr d_343_17 rfl) (rV h0 h hF)
def D_m_write_377 (F : Nat) : Nat → Int32 → Int32 → Int32 → Int32 → mS → Option (mS)
  | 0, _, _, _, _, _ => none
  | n + 1, x1, x2, x6, x7, S => (D_m_bytesOf F x1 S).bind fun v126 => cond (m_c2 .ge x7 (x6 + v126)) (some S) ((D_m_asks F x1 (0 : Int32) S).bind fun v129 => (D_m_asks F x1 (1 : Int32) S).bind fun v131 => (aget 0 2700 S 627 (x2 + (7 : Int32))).bind fun v133 => (aget 0 2700 S 627 (x2 + (1 : Int32))).bind fun v135 => (aput 700 S 629 (S.1 91) ((((((((31 : Int32) * v129) + ((17 : Int32) * v131)) + ((5 : Int32) * v133)) + ((13 : Int32) * v135)) + ((7 : Int32) * x7)) + (x7 >>> ((4 : Int32) &&& 31))) &&& (255 : Int32))).bind fun S137 => (fput S137 91 ((S137.1 91) + (1 : Int32))).bind fun S139 => D_m_write_377 F n x1 x2 x6 (x7 + Int32.ofInt 1) S139)
theorem T_m_write_377 {l : Launch} {w0 : List mM} {F : Nat} : ∀ (n : Nat) {x1 : Int32} {x2 : Int32} {x6 : Int32} {x7 : Int32} {S : mS} {w : List mM} {r : mS}, m_RM S w → m_Fq w0 w → D_m_write_377 F n x1 x2 x6 x7 S = some r → m_Rs l M_339 (377, [(0, .ref 583), (1, .int x1), (2, .int x2), (6, .int x6), (7, .int x7)], [], w) (fun v w' => v = none ∧ m_RM r w' ∧ m_Fq w0 w') 0 0 6 600 := by
  intro n
  induction n with
  | zero => intro x1 x2 x6 x7 S w r h hF h0; cases h0
  | succ n ih =>
    intro x1 x2 x6 x7 S w r h hF h0
    rw [D_m_write_377] at h0
    refine m_Rs.n0 b_339 (x_iload d_339_377 rfl) ?_
    refine m_Rs.n0 b_339 (x_iload d_339_379 rfl) ?_
    refine m_Rs.n0 b_339 (x_aload_n d_339_381 rfl) ?_
    refine m_Rs.n0 b_339 (x_iload_n d_339_382 rfl) ?_
    obtain ⟨v126, e127, h0⟩ := bS h0
    refine m_Rs.callS b_339 (y_cv d_339_383 rfl q_337 (m_isRecv_of rfl h.1) (show m_takeI _ _ = some (_, [_, _], [_, _]) from rfl) (by simp only [m_okf, List.all_cons, List.all_nil, Bool.and_true, Bool.and_self, m_okv_i, m_okv_l, m_okv_0, m_okv_t, m_okv_at h.1]) rfl) (T_m_bytesOf h e127) hF rfl (fun w1 h hF => ?_) (by decide) (by decide)
    refine m_Rs.n0 b_339 (x_iadd d_339_386 rfl) ?_
    cases hc128 : m_c2 .ge x7 (x6 + v126) with
    | true =>
      have h0 := cT hc128 h0
      refine m_Rs.n0 b_339 (x_ict d_339_387 rfl hc128) ?_
      exact m_Rs.ret b_339 (m_rt_vr d_339_473 rfl) (rV h0 h hF)
    | false =>
      have h0 := cF hc128 h0
      refine m_Rs.n0 b_339 (x_icf d_339_387 rfl hc128) ?_
      refine m_Rs.n0 b_339 (x_aload_n d_339_390 rfl) ?_
      refine m_Rs.n0 b_339 (x_getf d_339_391 rfl h.1 rfl) ?_
      refine m_Rs.n0 b_339 (x_aload_n d_339_394 rfl) ?_
      refine m_Rs.n0 b_339 (x_getf d_339_395 rfl h.1 rfl) ?_
      refine m_Rs.n0 b_339 (x_bipush (z := 31) d_339_398 (by decide)) ?_
      refine m_Rs.n0 b_339 (x_aload_n d_339_400 rfl) ?_
      refine m_Rs.n0 b_339 (x_iload_n d_339_401 rfl) ?_
      refine m_Rs.n0 b_339 (x_iconst (z := 0) d_339_402 (by decide)) ?_
      obtain ⟨v129, e130, h0⟩ := bS h0
      refine m_Rs.callS b_339 (y_cv d_339_403 rfl q_282 (m_isRecv_of rfl h.1) (show m_takeI _ _ = some (_, [_, _, _], [_, _, _]) from rfl) (by simp only [m_okf, List.all_cons, List.all_nil, Bool.and_true, Bool.and_self, m_okv_i, m_okv_l, m_okv_0, m_okv_t, m_okv_at h.1, m_okv_at (h.a 45 rfl)]) rfl) (T_m_asks h e130) hF rfl (fun w1 h hF => ?_) (by decide) (by decide)
      refine m_Rs.n0 b_339 (x_imul d_339_406 rfl) ?_
      refine m_Rs.n0 b_339 (x_bipush (z := 17) d_339_407 (by decide)) ?_
      refine m_Rs.n0 b_339 (x_aload_n d_339_409 rfl) ?_
      refine m_Rs.n0 b_339 (x_iload_n d_339_410 rfl) ?_
      refine m_Rs.n0 b_339 (x_iconst (z := 1) d_339_411 (by decide)) ?_
      obtain ⟨v131, e132, h0⟩ := bS h0
      refine m_Rs.callS b_339 (y_cv d_339_412 rfl q_282 (m_isRecv_of rfl h.1) (show m_takeI _ _ = some (_, [_, _, _], [_, _, _, _]) from rfl) (by simp only [m_okf, List.all_cons, List.all_nil, Bool.and_true, Bool.and_self, m_okv_i, m_okv_l, m_okv_0, m_okv_t, m_okv_at h.1, m_okv_at (h.a 45 rfl)]) rfl) (T_m_asks h e132) hF rfl (fun w1 h hF => ?_) (by decide) (by decide)
      refine m_Rs.n0 b_339 (x_imul d_339_415 rfl) ?_
      refine m_Rs.n0 b_339 (x_iadd d_339_416 rfl) ?_
      refine m_Rs.n0 b_339 (x_iconst (z := 5) d_339_417 (by decide)) ?_
      refine m_Rs.n0 b_339 (x_aload_n d_339_418 rfl) ?_
      refine m_Rs.n0 b_339 (x_getf d_339_419 rfl h.1 rfl) ?_
      refine m_Rs.n0 b_339 (x_iload_n d_339_422 rfl) ?_
      refine m_Rs.n0 b_339 (x_bipush (z := 7) d_339_423 (by decide)) ?_
      refine m_Rs.n0 b_339 (x_iadd d_339_425 rfl) ?_
      obtain ⟨v133, e134, h0⟩ := bS h0
      refine m_Rs.dget b_339 d_339_426 h 43 rfl e134 ?_
      refine m_Rs.n0 b_339 (x_imul d_339_427 rfl) ?_
      refine m_Rs.n0 b_339 (x_iadd d_339_428 rfl) ?_
      refine m_Rs.n0 b_339 (x_bipush (z := 13) d_339_429 (by decide)) ?_
      refine m_Rs.n0 b_339 (x_aload_n d_339_431 rfl) ?_
      refine m_Rs.n0 b_339 (x_getf d_339_432 rfl h.1 rfl) ?_
      refine m_Rs.n0 b_339 (x_iload_n d_339_435 rfl) ?_
      refine m_Rs.n0 b_339 (x_iconst (z := 1) d_339_436 (by decide)) ?_
      refine m_Rs.n0 b_339 (x_iadd d_339_437 rfl) ?_
      obtain ⟨v135, e136, h0⟩ := bS h0
      refine m_Rs.dget b_339 d_339_438 h 43 rfl e136 ?_
      refine m_Rs.n0 b_339 (x_imul d_339_439 rfl) ?_
      refine m_Rs.n0 b_339 (x_iadd d_339_440 rfl) ?_
      refine m_Rs.n0 b_339 (x_bipush (z := 7) d_339_441 (by decide)) ?_
      refine m_Rs.n0 b_339 (x_iload d_339_443 rfl) ?_
      refine m_Rs.n0 b_339 (x_imul d_339_445 rfl) ?_
      refine m_Rs.n0 b_339 (x_iadd d_339_446 rfl) ?_
      refine m_Rs.n0 b_339 (x_iload d_339_447 rfl) ?_
      refine m_Rs.n0 b_339 (x_iconst (z := 4) d_339_449 (by decide)) ?_
      refine m_Rs.n0 b_339 (x_ishr d_339_450 rfl) ?_
      refine m_Rs.n0 b_339 (x_iadd d_339_451 rfl) ?_
      refine m_Rs.n0 b_339 (x_sipush (z := 255) d_339_452 (by decide)) ?_
      refine m_Rs.n0 b_339 (x_iand d_339_455 rfl) ?_
      obtain ⟨S137, e138, h0⟩ := bS h0
      refine m_Rs.dput b_339 d_339_456 h hF 45 rfl e138 (fun w1 h hF => ?_)
      refine m_Rs.n0 b_339 (x_aload_n d_339_457 rfl) ?_
      refine m_Rs.n0 b_339 (x_dup d_339_458 rfl) ?_
      refine m_Rs.n0 b_339 (x_getf d_339_459 rfl h.1 rfl) ?_
      refine m_Rs.n0 b_339 (x_iconst (z := 1) d_339_462 (by decide)) ?_
      refine m_Rs.n0 b_339 (x_iadd d_339_463 rfl) ?_
      obtain ⟨S139, e140, h0⟩ := bS h0
      refine m_Rs.dfput b_339 d_339_464 h hF e140 rfl rfl rfl rfl rfl rfl (fun w1 h hF => ?_)
      refine m_Rs.n0 b_339 (x_iinc d_339_467 rfl rfl rfl (show m_put1 _ _ _ = [(7, _), (0, _), (1, _), (2, _), (6, _)] from rfl)) ?_
      refine m_Rs.n0 b_339 (x_goto d_339_470 rfl) ?_
      exact m_Rs.pick [1, 2, 3, 4, 0] rfl (ih h hF h0)
def D_m_write_373 (F : Nat) (x1 : Int32) (x2 : Int32) (x6 : Int32) (S : mS) : Option (mS) := D_m_write_377 F F x1 x2 x6 x6 S
theorem T_m_write_373 {l : Launch} {w0 : List mM} {F : Nat} {x1 : Int32} {x2 : Int32} {x6 : Int32} {S : mS} {w : List mM} {r : mS} (h : m_RM S w) (hF : m_Fq w0 w) (h0 : D_m_write_373 F x1 x2 x6 S = some r) : m_Rs l M_339 (373, [(0, .ref 583), (1, .int x1), (2, .int x2), (6, .int x6)], [], w) (fun v w' => v = none ∧ m_RM r w' ∧ m_Fq w0 w') 0 0 6 600 := by
  rw [D_m_write_373] at h0
  refine m_Rs.n0 b_339 (x_iload d_339_373 rfl) ?_
  refine m_Rs.n0 b_339 (x_istore d_339_375 rfl (show m_put1 _ _ _ = [(7, _), (0, _), (1, _), (2, _), (6, _)] from rfl)) ?_
  exact m_Rs.pick [1, 2, 3, 4, 0] rfl (T_m_write_377 F h hF h0)
def D_m_write_341 (F : Nat) (x1 : Int32) (x2 : Int32) (x3 : Int32) (x6 : Int32) (S : mS) : Option (mS) := (D_m_say F 81 S).bind fun S119 => (D_m_asks F x1 (2 : Int32) S119).bind fun v121 => cond (m_c2 .eq v121 (1 : Int32)) (some S119) (cond (m_c2 .eq x3 (200 : Int32)) (D_m_write_373 F x1 x2 x6 S119) (cond (m_c2 .eq x3 (206 : Int32)) (D_m_write_373 F x1 x2 x6 S119) (some S119)))
theorem T_m_write_341 {l : Launch} {w0 : List mM} {F : Nat} {x1 : Int32} {x2 : Int32} {x3 : Int32} {x6 : Int32} {S : mS} {w : List mM} {r : mS} (h : m_RM S w) (hF : m_Fq w0 w) (h0 : D_m_write_341 F x1 x2 x3 x6 S = some r) : m_Rs l M_339 (341, [(0, .ref 583), (1, .int x1), (2, .int x2), (3, .int x3), (6, .int x6)], [], w) (fun v w' => v = none ∧ m_RM r w' ∧ m_Fq w0 w') 0 0 6 600 := by
  rw [D_m_write_341] at h0
  refine m_Rs.n0 b_339 (x_aload_n d_339_341 rfl) ?_
  refine m_Rs.n0 b_339 (x_textw d_339_342 rfl rfl) ?_
  obtain ⟨S119, e120, h0⟩ := bS h0
  refine m_Rs.callSv b_339 (y_cv d_339_345 rfl q_342 (m_isRecv_of rfl h.1) (show m_takeI _ _ = some (_, [_, _], []) from rfl) (by simp only [m_okf, List.all_cons, List.all_nil, Bool.and_true, Bool.and_self, m_okv_i, m_okv_l, m_okv_0, m_okv_t, m_okv_at h.1, m_okv_out (a := 81) (by decide)]) rfl) (T_m_say (by decide) h e120) hF rfl (fun w1 h hF => ?_) (by decide) (by decide)
  refine m_Rs.n0 b_339 (x_aload_n d_339_348 rfl) ?_
  refine m_Rs.n0 b_339 (x_iload_n d_339_349 rfl) ?_
  refine m_Rs.n0 b_339 (x_iconst (z := 2) d_339_350 (by decide)) ?_
  obtain ⟨v121, e122, h0⟩ := bS h0
  refine m_Rs.callS b_339 (y_cv d_339_351 rfl q_282 (m_isRecv_of rfl h.1) (show m_takeI _ _ = some (_, [_, _, _], []) from rfl) (by simp only [m_okf, List.all_cons, List.all_nil, Bool.and_true, Bool.and_self, m_okv_i, m_okv_l, m_okv_0, m_okv_t, m_okv_at h.1]) rfl) (T_m_asks h e122) hF rfl (fun w1 h hF => ?_) (by decide) (by decide)
  refine m_Rs.n0 b_339 (x_iconst (z := 1) d_339_354 (by decide)) ?_
  cases hc123 : m_c2 .eq v121 (1 : Int32) with
  | true =>
    have h0 := cT hc123 h0
    refine m_Rs.n0 b_339 (x_ict d_339_355 rfl hc123) ?_
    exact m_Rs.ret b_339 (m_rt_vr d_339_372 rfl) (rV h0 h hF)
  | false =>
    have h0 := cF hc123 h0
    refine m_Rs.n0 b_339 (x_icf d_339_355 rfl hc123) ?_
    refine m_Rs.n0 b_339 (x_iload_n d_339_358 rfl) ?_
    refine m_Rs.n0 b_339 (x_sipush (z := 200) d_339_359 (by decide)) ?_
    cases hc124 : m_c2 .eq x3 (200 : Int32) with
    | true =>
      have h0 := cT hc124 h0
      refine m_Rs.n0 b_339 (x_ict d_339_362 rfl hc124) ?_
      exact m_Rs.pick [0, 1, 2, 4] rfl (T_m_write_373 h hF h0)
    | false =>
      have h0 := cF hc124 h0
      refine m_Rs.n0 b_339 (x_icf d_339_362 rfl hc124) ?_
      refine m_Rs.n0 b_339 (x_iload_n d_339_365 rfl) ?_
      refine m_Rs.n0 b_339 (x_sipush (z := 206) d_339_366 (by decide)) ?_
      cases hc125 : m_c2 .eq x3 (206 : Int32) with
      | true =>
        have h0 := cT hc125 h0
        refine m_Rs.n0 b_339 (x_ict d_339_369 rfl hc125) ?_
        exact m_Rs.pick [0, 1, 2, 4] rfl (T_m_write_373 h hF h0)
      | false =>
        have h0 := cF hc125 h0
        refine m_Rs.n0 b_339 (x_icf d_339_369 rfl hc125) ?_
        exact m_Rs.ret b_339 (m_rt_vr d_339_372 rfl) (rV h0 h hF)
def D_m_write_329 (F : Nat) (x1 : Int32) (x2 : Int32) (x3 : Int32) (x6 : Int32) (S : mS) : Option (mS) := (D_m_bytesOf F x1 S).bind fun v141 => (D_m_sayLine F 104 v141 S).bind fun S143 => D_m_write_341 F x1 x2 x3 x6 S143
theorem T_m_write_329 {l : Launch} {w0 : List mM} {F : Nat} {x1 : Int32} {x2 : Int32} {x3 : Int32} {x6 : Int32} {S : mS} {w : List mM} {r : mS} (h : m_RM S w) (hF : m_Fq w0 w) (h0 : D_m_write_329 F x1 x2 x3 x6 S = some r) : m_Rs l M_339 (329, [(0, .ref 583), (1, .int x1), (2, .int x2), (3, .int x3), (6, .int x6)], [], w) (fun v w' => v = none ∧ m_RM r w' ∧ m_Fq w0 w') 0 0 6 600 := by
  rw [D_m_write_329] at h0
  refine m_Rs.n0 b_339 (x_aload_n d_339_329 rfl) ?_
  refine m_Rs.n0 b_339 (x_textw d_339_330 rfl rfl) ?_
  refine m_Rs.n0 b_339 (x_aload_n d_339_333 rfl) ?_
  refine m_Rs.n0 b_339 (x_iload_n d_339_334 rfl) ?_
  obtain ⟨v141, e142, h0⟩ := bS h0
  refine m_Rs.callS b_339 (y_cv d_339_335 rfl q_337 (m_isRecv_of rfl h.1) (show m_takeI _ _ = some (_, [_, _], [_, _]) from rfl) (by simp only [m_okf, List.all_cons, List.all_nil, Bool.and_true, Bool.and_self, m_okv_i, m_okv_l, m_okv_0, m_okv_t, m_okv_at h.1, m_okv_out (a := 104) (by decide)]) rfl) (T_m_bytesOf h e142) hF rfl (fun w1 h hF => ?_) (by decide) (by decide)
  obtain ⟨S143, e144, h0⟩ := bS h0
  refine m_Rs.callSv b_339 (y_cv d_339_338 rfl q_343 (m_isRecv_of rfl h.1) (show m_takeI _ _ = some (_, [_, _, _], []) from rfl) (by simp only [m_okf, List.all_cons, List.all_nil, Bool.and_true, Bool.and_self, m_okv_i, m_okv_l, m_okv_0, m_okv_t, m_okv_at h.1, m_okv_out (a := 104) (by decide)]) rfl) (T_m_sayLine (by decide) h e144) hF rfl (fun w1 h hF => ?_) (by decide) (by decide)
  exact m_Rs.pick [0, 1, 2, 3, 4] rfl (T_m_write_341 h hF h0)
def D_m_write_315 (F : Nat) (x1 : Int32) (x2 : Int32) (x3 : Int32) (x6 : Int32) (S : mS) : Option (mS) := cond (m_c2 .eq x3 (200 : Int32)) (D_m_write_329 F x1 x2 x3 x6 S) (cond (m_c2 .ne x3 (206 : Int32)) (D_m_write_341 F x1 x2 x3 x6 S) (D_m_write_329 F x1 x2 x3 x6 S))
theorem T_m_write_315 {l : Launch} {w0 : List mM} {F : Nat} {x1 : Int32} {x2 : Int32} {x3 : Int32} {x6 : Int32} {S : mS} {w : List mM} {r : mS} (h : m_RM S w) (hF : m_Fq w0 w) (h0 : D_m_write_315 F x1 x2 x3 x6 S = some r) : m_Rs l M_339 (315, [(0, .ref 583), (1, .int x1), (2, .int x2), (3, .int x3), (6, .int x6)], [], w) (fun v w' => v = none ∧ m_RM r w' ∧ m_Fq w0 w') 0 0 6 600 := by
  rw [D_m_write_315] at h0
  refine m_Rs.n0 b_339 (x_iload_n d_339_315 rfl) ?_
  refine m_Rs.n0 b_339 (x_sipush (z := 200) d_339_316 (by decide)) ?_
  cases hc114 : m_c2 .eq x3 (200 : Int32) with
  | true =>
    have h0 := cT hc114 h0
    refine m_Rs.n0 b_339 (x_ict d_339_319 rfl hc114) ?_
    exact m_Rs.pick [0, 1, 2, 3, 4] rfl (T_m_write_329 h hF h0)
  | false =>
    have h0 := cF hc114 h0
    refine m_Rs.n0 b_339 (x_icf d_339_319 rfl hc114) ?_
    refine m_Rs.n0 b_339 (x_iload_n d_339_322 rfl) ?_
    refine m_Rs.n0 b_339 (x_sipush (z := 206) d_339_323 (by decide)) ?_
    cases hc118 : m_c2 .ne x3 (206 : Int32) with
    | true =>
      have h0 := cT hc118 h0
      refine m_Rs.n0 b_339 (x_ict d_339_326 rfl hc118) ?_
      exact m_Rs.pick [0, 1, 2, 3, 4] rfl (T_m_write_341 h hF h0)
    | false =>
      have h0 := cF hc118 h0
      refine m_Rs.n0 b_339 (x_icf d_339_326 rfl hc118) ?_
      exact m_Rs.pick [0, 1, 2, 3, 4] rfl (T_m_write_329 h hF h0)
def D_m_write_299 (F : Nat) (x1 : Int32) (x2 : Int32) (x3 : Int32) (x4 : Int32) (x6 : Int32) (S : mS) : Option (mS) := cond (m_c2 .ne x3 (416 : Int32)) (D_m_write_315 F x1 x2 x3 x6 S) ((D_m_sayLine F 103 x4 S).bind fun S105 => D_m_write_315 F x1 x2 x3 x6 S105)
theorem T_m_write_299 {l : Launch} {w0 : List mM} {F : Nat} {x1 : Int32} {x2 : Int32} {x3 : Int32} {x4 : Int32} {x6 : Int32} {S : mS} {w : List mM} {r : mS} (h : m_RM S w) (hF : m_Fq w0 w) (h0 : D_m_write_299 F x1 x2 x3 x4 x6 S = some r) : m_Rs l M_339 (299, [(0, .ref 583), (1, .int x1), (2, .int x2), (3, .int x3), (4, .int x4), (6, .int x6)], [], w) (fun v w' => v = none ∧ m_RM r w' ∧ m_Fq w0 w') 0 0 6 600 := by
  rw [D_m_write_299] at h0
  refine m_Rs.n0 b_339 (x_iload_n d_339_299 rfl) ?_
  refine m_Rs.n0 b_339 (x_sipush (z := 416) d_339_300 (by decide)) ?_
  cases hc104 : m_c2 .ne x3 (416 : Int32) with
  | true =>
    have h0 := cT hc104 h0
    refine m_Rs.n0 b_339 (x_ict d_339_303 rfl hc104) ?_
    exact m_Rs.pick [0, 1, 2, 3, 5] rfl (T_m_write_315 h hF h0)
  | false =>
    have h0 := cF hc104 h0
    refine m_Rs.n0 b_339 (x_icf d_339_303 rfl hc104) ?_
    refine m_Rs.n0 b_339 (x_aload_n d_339_306 rfl) ?_
    refine m_Rs.n0 b_339 (x_textw d_339_307 rfl rfl) ?_
    refine m_Rs.n0 b_339 (x_iload d_339_310 rfl) ?_
    obtain ⟨S105, e106, h0⟩ := bS h0
    refine m_Rs.callSv b_339 (y_cv d_339_312 rfl q_343 (m_isRecv_of rfl h.1) (show m_takeI _ _ = some (_, [_, _, _], []) from rfl) (by simp only [m_okf, List.all_cons, List.all_nil, Bool.and_true, Bool.and_self, m_okv_i, m_okv_l, m_okv_0, m_okv_t, m_okv_at h.1, m_okv_out (a := 103) (by decide)]) rfl) (T_m_sayLine (by decide) h e106) hF rfl (fun w1 h hF => ?_) (by decide) (by decide)
    exact m_Rs.pick [0, 1, 2, 3, 5] rfl (T_m_write_315 h hF h0)
def D_m_write_220 (F : Nat) (x1 : Int32) (x2 : Int32) (x3 : Int32) (x4 : Int32) (S : mS) : Option (mS) := (cond (m_c2 .ne x3 (206 : Int32)) (some (0 : Int32)) ((D_m_tagSaid F x1 S).bind fun v78 => (D_m_firstByte F x1 x4 v78 S).bind fun v80 => some v80)).bind fun v82 => cond (m_c2 .ne x3 (206 : Int32)) (D_m_write_299 F x1 x2 x3 x4 v82 S) ((D_m_say F 100 S).bind fun S87 => (D_m_sayNumber F v82 S87).bind fun S89 => (D_m_say F 101 S89).bind fun S91 => (D_m_tagSaid F x1 S91).bind fun v93 => (D_m_endByte F x1 x4 v93 S91).bind fun v95 => (D_m_sayNumber F (v95 - (1 : Int32)) S91).bind fun S97 => (D_m_sayLine F 102 x4 S97).bind fun S99 => D_m_write_299 F x1 x2 x3 x4 v82 S99)
theorem T_m_write_220 {l : Launch} {w0 : List mM} {F : Nat} {x1 : Int32} {x2 : Int32} {x3 : Int32} {x4 : Int32} {S : mS} {w : List mM} {r : mS} (h : m_RM S w) (hF : m_Fq w0 w) (h0 : D_m_write_220 F x1 x2 x3 x4 S = some r) : m_Rs l M_339 (220, [(0, .ref 583), (1, .int x1), (2, .int x2), (3, .int x3), (4, .int x4)], [], w) (fun v w' => v = none ∧ m_RM r w' ∧ m_Fq w0 w') 0 0 6 600 := by
  rw [D_m_write_220] at h0
  refine m_Rs.n0 b_339 (x_iload_n d_339_220 rfl) ?_
  refine m_Rs.n0 b_339 (x_sipush (z := 206) d_339_221 (by decide)) ?_
  obtain ⟨v82, e76, h0⟩ := bS h0
  have kk75 : ∀ (xz : Int32) (w1 : List mM), xz = v82 → m_RM S w1 → m_Fq w0 w1 → m_Rs l M_339 (243, [(0, .ref 583), (1, .int x1), (2, .int x2), (3, .int x3), (4, .int x4)], [.int xz], w1) (fun v w' => v = none ∧ m_RM r w' ∧ m_Fq w0 w') 0 0 6 600 := by
    intro xz w ez h hF
    rw [ez]
    refine m_Rs.n0 b_339 (x_istore d_339_243 rfl (show m_put1 _ _ _ = [(6, _), (0, _), (1, _), (2, _), (3, _), (4, _)] from rfl)) ?_
    refine m_Rs.n0 b_339 (x_iload_n d_339_245 rfl) ?_
    refine m_Rs.n0 b_339 (x_sipush (z := 206) d_339_246 (by decide)) ?_
    cases hc86 : m_c2 .ne x3 (206 : Int32) with
    | true =>
      have h0 := cT hc86 h0
      refine m_Rs.n0 b_339 (x_ict d_339_249 rfl hc86) ?_
      exact m_Rs.pick [1, 2, 3, 4, 5, 0] rfl (T_m_write_299 h hF h0)
    | false =>
      have h0 := cF hc86 h0
      refine m_Rs.n0 b_339 (x_icf d_339_249 rfl hc86) ?_
      refine m_Rs.n0 b_339 (x_aload_n d_339_252 rfl) ?_
      refine m_Rs.n0 b_339 (x_textw d_339_253 rfl rfl) ?_
      obtain ⟨S87, e88, h0⟩ := bS h0
      refine m_Rs.callSv b_339 (y_cv d_339_256 rfl q_342 (m_isRecv_of rfl h.1) (show m_takeI _ _ = some (_, [_, _], []) from rfl) (by simp only [m_okf, List.all_cons, List.all_nil, Bool.and_true, Bool.and_self, m_okv_i, m_okv_l, m_okv_0, m_okv_t, m_okv_at h.1, m_okv_out (a := 100) (by decide)]) rfl) (T_m_say (by decide) h e88) hF rfl (fun w1 h hF => ?_) (by decide) (by decide)
      refine m_Rs.n0 b_339 (x_aload_n d_339_259 rfl) ?_
      refine m_Rs.n0 b_339 (x_iload d_339_260 rfl) ?_
      obtain ⟨S89, e90, h0⟩ := bS h0
      refine m_Rs.callSv b_339 (y_cv d_339_262 rfl q_341 (m_isRecv_of rfl h.1) (show m_takeI _ _ = some (_, [_, _], []) from rfl) (by simp only [m_okf, List.all_cons, List.all_nil, Bool.and_true, Bool.and_self, m_okv_i, m_okv_l, m_okv_0, m_okv_t, m_okv_at h.1]) rfl) (T_m_sayNumber h e90) hF rfl (fun w1 h hF => ?_) (by decide) (by decide)
      refine m_Rs.n0 b_339 (x_aload_n d_339_265 rfl) ?_
      refine m_Rs.n0 b_339 (x_textw d_339_266 rfl rfl) ?_
      obtain ⟨S91, e92, h0⟩ := bS h0
      refine m_Rs.callSv b_339 (y_cv d_339_269 rfl q_342 (m_isRecv_of rfl h.1) (show m_takeI _ _ = some (_, [_, _], []) from rfl) (by simp only [m_okf, List.all_cons, List.all_nil, Bool.and_true, Bool.and_self, m_okv_i, m_okv_l, m_okv_0, m_okv_t, m_okv_at h.1, m_okv_out (a := 101) (by decide)]) rfl) (T_m_say (by decide) h e92) hF rfl (fun w1 h hF => ?_) (by decide) (by decide)
      refine m_Rs.n0 b_339 (x_aload_n d_339_272 rfl) ?_
      refine m_Rs.n0 b_339 (x_aload_n d_339_273 rfl) ?_
      refine m_Rs.n0 b_339 (x_iload_n d_339_274 rfl) ?_
      refine m_Rs.n0 b_339 (x_iload d_339_275 rfl) ?_
      refine m_Rs.n0 b_339 (x_aload_n d_339_277 rfl) ?_
      refine m_Rs.n0 b_339 (x_iload_n d_339_278 rfl) ?_
      obtain ⟨v93, e94, h0⟩ := bS h0
      refine m_Rs.callS b_339 (y_cv d_339_279 rfl q_338 (m_isRecv_of rfl h.1) (show m_takeI _ _ = some (_, [_, _], [_, _, _, _]) from rfl) (by simp only [m_okf, List.all_cons, List.all_nil, Bool.and_true, Bool.and_self, m_okv_i, m_okv_l, m_okv_0, m_okv_t, m_okv_at h.1]) rfl) (T_m_tagSaid h e94) hF rfl (fun w1 h hF => ?_) (by decide) (by decide)
      obtain ⟨v95, e96, h0⟩ := bS h0
      refine m_Rs.callS b_339 (y_cv d_339_282 rfl q_290 (m_isRecv_of rfl h.1) (show m_takeI _ _ = some (_, [_, _, _, _], [_]) from rfl) (by simp only [m_okf, List.all_cons, List.all_nil, Bool.and_true, Bool.and_self, m_okv_i, m_okv_l, m_okv_0, m_okv_t, m_okv_at h.1]) rfl) (T_m_endByte h e96) hF rfl (fun w1 h hF => ?_) (by decide) (by decide)
      refine m_Rs.n0 b_339 (x_iconst (z := 1) d_339_285 (by decide)) ?_
      refine m_Rs.n0 b_339 (x_isub d_339_286 rfl) ?_
      obtain ⟨S97, e98, h0⟩ := bS h0
      refine m_Rs.callSv b_339 (y_cv d_339_287 rfl q_341 (m_isRecv_of rfl h.1) (show m_takeI _ _ = some (_, [_, _], []) from rfl) (by simp only [m_okf, List.all_cons, List.all_nil, Bool.and_true, Bool.and_self, m_okv_i, m_okv_l, m_okv_0, m_okv_t, m_okv_at h.1]) rfl) (T_m_sayNumber h e98) hF rfl (fun w1 h hF => ?_) (by decide) (by decide)
      refine m_Rs.n0 b_339 (x_aload_n d_339_290 rfl) ?_
      refine m_Rs.n0 b_339 (x_textw d_339_291 rfl rfl) ?_
      refine m_Rs.n0 b_339 (x_iload d_339_294 rfl) ?_
      obtain ⟨S99, e100, h0⟩ := bS h0
      refine m_Rs.callSv b_339 (y_cv d_339_296 rfl q_343 (m_isRecv_of rfl h.1) (show m_takeI _ _ = some (_, [_, _, _], []) from rfl) (by simp only [m_okf, List.all_cons, List.all_nil, Bool.and_true, Bool.and_self, m_okv_i, m_okv_l, m_okv_0, m_okv_t, m_okv_at h.1, m_okv_out (a := 102) (by decide)]) rfl) (T_m_sayLine (by decide) h e100) hF rfl (fun w1 h hF => ?_) (by decide) (by decide)
      exact m_Rs.pick [1, 2, 3, 4, 5, 0] rfl (T_m_write_299 h hF h0)
  cases hc77 : m_c2 .ne x3 (206 : Int32) with
  | true =>
    have e76 := cT hc77 e76
    refine m_Rs.n0 b_339 (x_ict d_339_224 rfl hc77) ?_
    refine m_Rs.n0 b_339 (x_iconst (z := 0) d_339_242 (by decide)) ?_
    exact kk75 _ _ (Option.some.inj e76) h hF
  | false =>
    have e76 := cF hc77 e76
    refine m_Rs.n0 b_339 (x_icf d_339_224 rfl hc77) ?_
    refine m_Rs.n0 b_339 (x_aload_n d_339_227 rfl) ?_
    refine m_Rs.n0 b_339 (x_iload_n d_339_228 rfl) ?_
    refine m_Rs.n0 b_339 (x_iload d_339_229 rfl) ?_
    refine m_Rs.n0 b_339 (x_aload_n d_339_231 rfl) ?_
    refine m_Rs.n0 b_339 (x_iload_n d_339_232 rfl) ?_
    obtain ⟨v78, e79, e76⟩ := bS e76
    refine m_Rs.callS b_339 (y_cv d_339_233 rfl q_338 (m_isRecv_of rfl h.1) (show m_takeI _ _ = some (_, [_, _], [_, _, _]) from rfl) (by simp only [m_okf, List.all_cons, List.all_nil, Bool.and_true, Bool.and_self, m_okv_i, m_okv_l, m_okv_0, m_okv_t, m_okv_at h.1]) rfl) (T_m_tagSaid h e79) hF rfl (fun w1 h hF => ?_) (by decide) (by decide)
    obtain ⟨v80, e81, e76⟩ := bS e76
    refine m_Rs.callS b_339 (y_cv d_339_236 rfl q_288 (m_isRecv_of rfl h.1) (show m_takeI _ _ = some (_, [_, _, _, _], []) from rfl) (by simp only [m_okf, List.all_cons, List.all_nil, Bool.and_true, Bool.and_self, m_okv_i, m_okv_l, m_okv_0, m_okv_t, m_okv_at h.1]) rfl) (T_m_firstByte h e81) hF rfl (fun w1 h hF => ?_) (by decide) (by decide)
    refine m_Rs.n0 b_339 (x_goto d_339_239 rfl) ?_
    exact kk75 _ _ (Option.some.inj e76) h hF
def D_m_write_217 (F : Nat) (x1 : Int32) (x2 : Int32) (x3 : Int32) (x4 : Int32) (y0 : Nat) (S : mS) : Option (mS) := (D_m_say F y0 S).bind fun S73 => D_m_write_220 F x1 x2 x3 x4 S73
theorem T_m_write_217 {l : Launch} {w0 : List mM} {F : Nat} {x1 : Int32} {x2 : Int32} {x3 : Int32} {x4 : Int32} {y0 : Nat} {S : mS} {w : List mM} {r : mS} (hy0 : y0 < 512) (h : m_RM S w) (hF : m_Fq w0 w) (h0 : D_m_write_217 F x1 x2 x3 x4 y0 S = some r) : m_Rs l M_339 (217, [(0, .ref 583), (1, .int x1), (2, .int x2), (3, .int x3), (4, .int x4)], [.ref y0, .ref 583], w) (fun v w' => v = none ∧ m_RM r w' ∧ m_Fq w0 w') 0 0 6 600 := by
  rw [D_m_write_217] at h0
  obtain ⟨S73, e74, h0⟩ := bS h0
  refine m_Rs.callSv b_339 (y_cv d_339_217 rfl q_342 (m_isRecv_of rfl h.1) (show m_takeI _ _ = some (_, [_, _], []) from rfl) (by simp only [m_okf, List.all_cons, List.all_nil, Bool.and_true, Bool.and_self, m_okv_i, m_okv_l, m_okv_0, m_okv_t, m_okv_at h.1, m_okv_out (a := y0) hy0]) rfl) (T_m_say hy0 h e74) hF rfl (fun w1 h hF => ?_) (by decide) (by decide)
  exact m_Rs.pick [0, 1, 2, 3, 4] rfl (T_m_write_220 h hF h0)
def D_m_write_160 (F : Nat) (x1 : Int32) (x2 : Int32) (x3 : Int32) (x4 : Int32) (y0 : Nat) (S : mS) : Option (mS) := (D_m_say F y0 S).bind fun S50 => (aget 0 2700 S50 627 (x2 + (8 : Int32))).bind fun v52 => cond (m_c1 .le v52) (D_m_write_220 F x1 x2 x3 x4 S50) ((aget 0 2700 S50 627 (x2 + (8 : Int32))).bind fun v58 => cond (m_c2 .ne v58 (1 : Int32)) ((aget 0 2700 S50 627 (x2 + (8 : Int32))).bind fun v67 => cond (m_c2 .ne v67 (2 : Int32)) (D_m_write_217 F x1 x2 x3 x4 99 S50) (D_m_write_217 F x1 x2 x3 x4 98 S50)) (D_m_write_217 F x1 x2 x3 x4 97 S50))
theorem T_m_write_160 {l : Launch} {w0 : List mM} {F : Nat} {x1 : Int32} {x2 : Int32} {x3 : Int32} {x4 : Int32} {y0 : Nat} {S : mS} {w : List mM} {r : mS} (hy0 : y0 < 512) (h : m_RM S w) (hF : m_Fq w0 w) (h0 : D_m_write_160 F x1 x2 x3 x4 y0 S = some r) : m_Rs l M_339 (160, [(0, .ref 583), (1, .int x1), (2, .int x2), (3, .int x3), (4, .int x4)], [.ref y0, .ref 583], w) (fun v w' => v = none ∧ m_RM r w' ∧ m_Fq w0 w') 0 0 6 600 := by
  rw [D_m_write_160] at h0
  obtain ⟨S50, e51, h0⟩ := bS h0
  refine m_Rs.callSv b_339 (y_cv d_339_160 rfl q_342 (m_isRecv_of rfl h.1) (show m_takeI _ _ = some (_, [_, _], []) from rfl) (by simp only [m_okf, List.all_cons, List.all_nil, Bool.and_true, Bool.and_self, m_okv_i, m_okv_l, m_okv_0, m_okv_t, m_okv_at h.1, m_okv_out (a := y0) hy0]) rfl) (T_m_say hy0 h e51) hF rfl (fun w1 h hF => ?_) (by decide) (by decide)
  refine m_Rs.n0 b_339 (x_aload_n d_339_163 rfl) ?_
  refine m_Rs.n0 b_339 (x_getf d_339_164 rfl h.1 rfl) ?_
  refine m_Rs.n0 b_339 (x_iload_n d_339_167 rfl) ?_
  refine m_Rs.n0 b_339 (x_bipush (z := 8) d_339_168 (by decide)) ?_
  refine m_Rs.n0 b_339 (x_iadd d_339_170 rfl) ?_
  obtain ⟨v52, e53, h0⟩ := bS h0
  refine m_Rs.dget b_339 d_339_171 h 43 rfl e53 ?_
  cases hc57 : m_c1 .le v52 with
  | true =>
    have h0 := cT hc57 h0
    refine m_Rs.n0 b_339 (x_ift d_339_172 rfl hc57) ?_
    exact m_Rs.pick [0, 1, 2, 3, 4] rfl (T_m_write_220 h hF h0)
  | false =>
    have h0 := cF hc57 h0
    refine m_Rs.n0 b_339 (x_iff d_339_172 rfl hc57) ?_
    refine m_Rs.n0 b_339 (x_aload_n d_339_175 rfl) ?_
    refine m_Rs.n0 b_339 (x_aload_n d_339_176 rfl) ?_
    refine m_Rs.n0 b_339 (x_getf d_339_177 rfl h.1 rfl) ?_
    refine m_Rs.n0 b_339 (x_iload_n d_339_180 rfl) ?_
    refine m_Rs.n0 b_339 (x_bipush (z := 8) d_339_181 (by decide)) ?_
    refine m_Rs.n0 b_339 (x_iadd d_339_183 rfl) ?_
    obtain ⟨v58, e59, h0⟩ := bS h0
    refine m_Rs.dget b_339 d_339_184 h 43 rfl e59 ?_
    refine m_Rs.n0 b_339 (x_iconst (z := 1) d_339_185 (by decide)) ?_
    cases hc66 : m_c2 .ne v58 (1 : Int32) with
    | true =>
      have h0 := cT hc66 h0
      refine m_Rs.n0 b_339 (x_ict d_339_186 rfl hc66) ?_
      refine m_Rs.n0 b_339 (x_aload_n d_339_195 rfl) ?_
      refine m_Rs.n0 b_339 (x_getf d_339_196 rfl h.1 rfl) ?_
      refine m_Rs.n0 b_339 (x_iload_n d_339_199 rfl) ?_
      refine m_Rs.n0 b_339 (x_bipush (z := 8) d_339_200 (by decide)) ?_
      refine m_Rs.n0 b_339 (x_iadd d_339_202 rfl) ?_
      obtain ⟨v67, e68, h0⟩ := bS h0
      refine m_Rs.dget b_339 d_339_203 h 43 rfl e68 ?_
      refine m_Rs.n0 b_339 (x_iconst (z := 2) d_339_204 (by decide)) ?_
      cases hc72 : m_c2 .ne v67 (2 : Int32) with
      | true =>
        have h0 := cT hc72 h0
        refine m_Rs.n0 b_339 (x_ict d_339_205 rfl hc72) ?_
        refine m_Rs.n0 b_339 (x_textw d_339_214 rfl rfl) ?_
        exact m_Rs.pick [0, 1, 2, 3, 4] rfl (T_m_write_217 (by decide) h hF h0)
      | false =>
        have h0 := cF hc72 h0
        refine m_Rs.n0 b_339 (x_icf d_339_205 rfl hc72) ?_
        refine m_Rs.n0 b_339 (x_textw d_339_208 rfl rfl) ?_
        refine m_Rs.n0 b_339 (x_goto d_339_211 rfl) ?_
        exact m_Rs.pick [0, 1, 2, 3, 4] rfl (T_m_write_217 (by decide) h hF h0)
    | false =>
      have h0 := cF hc66 h0
      refine m_Rs.n0 b_339 (x_icf d_339_186 rfl hc66) ?_
      refine m_Rs.n0 b_339 (x_textw d_339_189 rfl rfl) ?_
      refine m_Rs.n0 b_339 (x_goto d_339_192 rfl) ?_
      exact m_Rs.pick [0, 1, 2, 3, 4] rfl (T_m_write_217 (by decide) h hF h0)
def D_m_write (F : Nat) (a0 : Int32) (S : mS) : Option (mS) := (fput S 91 (0 : Int32)).bind fun S1 => (aget 4 300 S1 621 a0).bind fun v3 => cond (m_c1 .eq v3) ((aget 0 2700 S1 627 ((9 : Int32) * a0)).bind fun v6 => (aget 0 2700 S1 627 (((9 : Int32) * a0) + (3 : Int32))).bind fun v8 => (D_m_saySort F v6 S1).bind fun S10 => (cond (m_c2 .eq v6 (200 : Int32)) (some (1 : Int32)) (cond (m_c2 .eq v6 (206 : Int32)) (some (1 : Int32)) (cond (m_c2 .eq v6 (304 : Int32)) (some (1 : Int32)) (cond (m_c2 .ne v6 (416 : Int32)) (some (0 : Int32)) (some (1 : Int32)))))).bind fun v18 => cond (m_c1 .eq v18) (D_m_write_220 F a0 ((9 : Int32) * a0) v6 v8 S10) ((D_m_say F 91 S10).bind fun S23 => (D_m_tagSaid F a0 S23).bind fun v25 => (D_m_sayNumber F v25 S23).bind fun S27 => (D_m_say F 92 S27).bind fun S29 => (aget 0 2700 S29 627 (((9 : Int32) * a0) + (2 : Int32))).bind fun v31 => (D_m_sayLine F 93 v31 S29).bind fun S33 => (aget 0 2700 S33 627 (((9 : Int32) * a0) + (4 : Int32))).bind fun v35 => cond (m_c2 .ne v35 (1 : Int32)) ((aget 0 2700 S33 627 (((9 : Int32) * a0) + (4 : Int32))).bind fun v44 => cond (m_c2 .ne v44 (2 : Int32)) (D_m_write_160 F a0 ((9 : Int32) * a0) v6 v8 96 S33) (D_m_write_160 F a0 ((9 : Int32) * a0) v6 v8 95 S33)) (D_m_write_160 F a0 ((9 : Int32) * a0) v6 v8 94 S33))) (some S1)
theorem T_m_write {l : Launch} {w : List mM} {F : Nat} {a0 : Int32} {S : mS} {r : mS} (h : m_RM S w) (h0 : D_m_write F a0 S = some r) : m_Rs l M_339 (m_ent M_339 [.ref 583, .int a0] w) (fun v w' => v = none ∧ m_RM r w' ∧ m_Fq w w') 0 0 6 600 := by
  show m_Rs l M_339 (0, [(0, .ref 583), (1, .int a0)], [], w) _ 0 0 6 600
  generalize hw0 : w = w0 at h ⊢
  have hF : m_Fq w0 w0 := m_Fq.refl
  rw [D_m_write] at h0
  refine m_Rs.n0 b_339 (x_aload_n d_339_0 rfl) ?_
  refine m_Rs.n0 b_339 (x_iconst (z := 0) d_339_1 (by decide)) ?_
  obtain ⟨S1, e2, h0⟩ := bS h0
  refine m_Rs.dfput b_339 d_339_2 h hF e2 rfl rfl rfl rfl rfl rfl (fun w1 h hF => ?_)
  refine m_Rs.n0 b_339 (x_aload_n d_339_5 rfl) ?_
  refine m_Rs.n0 b_339 (x_getf d_339_6 rfl h.1 rfl) ?_
  refine m_Rs.n0 b_339 (x_iload_n d_339_9 rfl) ?_
  obtain ⟨v3, e4, h0⟩ := bS h0
  refine m_Rs.dgetb b_339 d_339_10 h 37 rfl e4 ?_
  cases hc5 : m_c1 .eq v3 with
  | true =>
    have h0 := cT hc5 h0
    refine m_Rs.n0 b_339 (x_ift d_339_11 rfl hc5) ?_
    refine m_Rs.n0 b_339 (x_bipush (z := 9) d_339_15 (by decide)) ?_
    refine m_Rs.n0 b_339 (x_iload_n d_339_17 rfl) ?_
    refine m_Rs.n0 b_339 (x_imul d_339_18 rfl) ?_
    refine m_Rs.n0 b_339 (x_istore_n d_339_19 rfl (show m_put1 _ _ _ = [(2, _), (0, _), (1, _)] from rfl)) ?_
    refine m_Rs.n0 b_339 (x_aload_n d_339_20 rfl) ?_
    refine m_Rs.n0 b_339 (x_getf d_339_21 rfl h.1 rfl) ?_
    refine m_Rs.n0 b_339 (x_iload_n d_339_24 rfl) ?_
    obtain ⟨v6, e7, h0⟩ := bS h0
    refine m_Rs.dget b_339 d_339_25 h 43 rfl e7 ?_
    refine m_Rs.n0 b_339 (x_istore_n d_339_26 rfl (show m_put1 _ _ _ = [(3, _), (2, _), (0, _), (1, _)] from rfl)) ?_
    refine m_Rs.n0 b_339 (x_aload_n d_339_27 rfl) ?_
    refine m_Rs.n0 b_339 (x_getf d_339_28 rfl h.1 rfl) ?_
    refine m_Rs.n0 b_339 (x_iload_n d_339_31 rfl) ?_
    refine m_Rs.n0 b_339 (x_iconst (z := 3) d_339_32 (by decide)) ?_
    refine m_Rs.n0 b_339 (x_iadd d_339_33 rfl) ?_
    obtain ⟨v8, e9, h0⟩ := bS h0
    refine m_Rs.dget b_339 d_339_34 h 43 rfl e9 ?_
    refine m_Rs.n0 b_339 (x_istore d_339_35 rfl (show m_put1 _ _ _ = [(4, _), (3, _), (2, _), (0, _), (1, _)] from rfl)) ?_
    refine m_Rs.n0 b_339 (x_aload_n d_339_37 rfl) ?_
    refine m_Rs.n0 b_339 (x_iload_n d_339_38 rfl) ?_
    obtain ⟨S10, e11, h0⟩ := bS h0
    refine m_Rs.callSv b_339 (y_cv d_339_39 rfl q_340 (m_isRecv_of rfl h.1) (show m_takeI _ _ = some (_, [_, _], []) from rfl) (by simp only [m_okf, List.all_cons, List.all_nil, Bool.and_true, Bool.and_self, m_okv_i, m_okv_l, m_okv_0, m_okv_t, m_okv_at h.1]) rfl) (T_m_saySort h e11) hF rfl (fun w1 h hF => ?_) (by decide) (by decide)
    refine m_Rs.n0 b_339 (x_iload_n d_339_42 rfl) ?_
    refine m_Rs.n0 b_339 (x_sipush (z := 200) d_339_43 (by decide)) ?_
    obtain ⟨v18, e13, h0⟩ := bS h0
    have kk12 : ∀ (xz : Int32) (w1 : List mM), xz = v18 → m_RM S10 w1 → m_Fq w0 w1 → m_Rs l M_339 (75, [(4, .int v8), (3, .int v6), (2, .int ((9 : Int32) * a0)), (0, .ref 583), (1, .int a0)], [.int xz], w1) (fun v w' => v = none ∧ m_RM r w' ∧ m_Fq w0 w') 0 0 6 600 := by
      intro xz w ez h hF
      rw [ez]
      refine m_Rs.n0 b_339 (x_istore d_339_75 rfl (show m_put1 _ _ _ = [(5, _), (4, _), (3, _), (2, _), (0, _), (1, _)] from rfl)) ?_
      refine m_Rs.n0 b_339 (x_iload d_339_77 rfl) ?_
      cases hc22 : m_c1 .eq v18 with
      | true =>
        have h0 := cT hc22 h0
        refine m_Rs.n0 b_339 (x_ift d_339_79 rfl hc22) ?_
        exact m_Rs.pick [4, 5, 3, 2, 1] rfl (T_m_write_220 h hF h0)
      | false =>
        have h0 := cF hc22 h0
        refine m_Rs.n0 b_339 (x_iff d_339_79 rfl hc22) ?_
        refine m_Rs.n0 b_339 (x_aload_n d_339_82 rfl) ?_
        refine m_Rs.n0 b_339 (x_textw d_339_83 rfl rfl) ?_
        obtain ⟨S23, e24, h0⟩ := bS h0
        refine m_Rs.callSv b_339 (y_cv d_339_86 rfl q_342 (m_isRecv_of rfl h.1) (show m_takeI _ _ = some (_, [_, _], []) from rfl) (by simp only [m_okf, List.all_cons, List.all_nil, Bool.and_true, Bool.and_self, m_okv_i, m_okv_l, m_okv_0, m_okv_t, m_okv_at h.1, m_okv_out (a := 91) (by decide)]) rfl) (T_m_say (by decide) h e24) hF rfl (fun w1 h hF => ?_) (by decide) (by decide)
        refine m_Rs.n0 b_339 (x_aload_n d_339_89 rfl) ?_
        refine m_Rs.n0 b_339 (x_aload_n d_339_90 rfl) ?_
        refine m_Rs.n0 b_339 (x_iload_n d_339_91 rfl) ?_
        obtain ⟨v25, e26, h0⟩ := bS h0
        refine m_Rs.callS b_339 (y_cv d_339_92 rfl q_338 (m_isRecv_of rfl h.1) (show m_takeI _ _ = some (_, [_, _], [_]) from rfl) (by simp only [m_okf, List.all_cons, List.all_nil, Bool.and_true, Bool.and_self, m_okv_i, m_okv_l, m_okv_0, m_okv_t, m_okv_at h.1]) rfl) (T_m_tagSaid h e26) hF rfl (fun w1 h hF => ?_) (by decide) (by decide)
        obtain ⟨S27, e28, h0⟩ := bS h0
        refine m_Rs.callSv b_339 (y_cv d_339_95 rfl q_341 (m_isRecv_of rfl h.1) (show m_takeI _ _ = some (_, [_, _], []) from rfl) (by simp only [m_okf, List.all_cons, List.all_nil, Bool.and_true, Bool.and_self, m_okv_i, m_okv_l, m_okv_0, m_okv_t, m_okv_at h.1]) rfl) (T_m_sayNumber h e28) hF rfl (fun w1 h hF => ?_) (by decide) (by decide)
        refine m_Rs.n0 b_339 (x_aload_n d_339_98 rfl) ?_
        refine m_Rs.n0 b_339 (x_textw d_339_99 rfl rfl) ?_
        obtain ⟨S29, e30, h0⟩ := bS h0
        refine m_Rs.callSv b_339 (y_cv d_339_102 rfl q_342 (m_isRecv_of rfl h.1) (show m_takeI _ _ = some (_, [_, _], []) from rfl) (by simp only [m_okf, List.all_cons, List.all_nil, Bool.and_true, Bool.and_self, m_okv_i, m_okv_l, m_okv_0, m_okv_t, m_okv_at h.1, m_okv_out (a := 92) (by decide)]) rfl) (T_m_say (by decide) h e30) hF rfl (fun w1 h hF => ?_) (by decide) (by decide)
        refine m_Rs.n0 b_339 (x_aload_n d_339_105 rfl) ?_
        refine m_Rs.n0 b_339 (x_textw d_339_106 rfl rfl) ?_
        refine m_Rs.n0 b_339 (x_aload_n d_339_109 rfl) ?_
        refine m_Rs.n0 b_339 (x_getf d_339_110 rfl h.1 rfl) ?_
        refine m_Rs.n0 b_339 (x_iload_n d_339_113 rfl) ?_
        refine m_Rs.n0 b_339 (x_iconst (z := 2) d_339_114 (by decide)) ?_
        refine m_Rs.n0 b_339 (x_iadd d_339_115 rfl) ?_
        obtain ⟨v31, e32, h0⟩ := bS h0
        refine m_Rs.dget b_339 d_339_116 h 43 rfl e32 ?_
        obtain ⟨S33, e34, h0⟩ := bS h0
        refine m_Rs.callSv b_339 (y_cv d_339_117 rfl q_343 (m_isRecv_of rfl h.1) (show m_takeI _ _ = some (_, [_, _, _], []) from rfl) (by simp only [m_okf, List.all_cons, List.all_nil, Bool.and_true, Bool.and_self, m_okv_i, m_okv_l, m_okv_0, m_okv_t, m_okv_at h.1, m_okv_out (a := 93) (by decide)]) rfl) (T_m_sayLine (by decide) h e34) hF rfl (fun w1 h hF => ?_) (by decide) (by decide)
        refine m_Rs.n0 b_339 (x_aload_n d_339_120 rfl) ?_
        refine m_Rs.n0 b_339 (x_aload_n d_339_121 rfl) ?_
        refine m_Rs.n0 b_339 (x_getf d_339_122 rfl h.1 rfl) ?_
        refine m_Rs.n0 b_339 (x_iload_n d_339_125 rfl) ?_
        refine m_Rs.n0 b_339 (x_iconst (z := 4) d_339_126 (by decide)) ?_
        refine m_Rs.n0 b_339 (x_iadd d_339_127 rfl) ?_
        obtain ⟨v35, e36, h0⟩ := bS h0
        refine m_Rs.dget b_339 d_339_128 h 43 rfl e36 ?_
        refine m_Rs.n0 b_339 (x_iconst (z := 1) d_339_129 (by decide)) ?_
        cases hc43 : m_c2 .ne v35 (1 : Int32) with
        | true =>
          have h0 := cT hc43 h0
          refine m_Rs.n0 b_339 (x_ict d_339_130 rfl hc43) ?_
          refine m_Rs.n0 b_339 (x_aload_n d_339_139 rfl) ?_
          refine m_Rs.n0 b_339 (x_getf d_339_140 rfl h.1 rfl) ?_
          refine m_Rs.n0 b_339 (x_iload_n d_339_143 rfl) ?_
          refine m_Rs.n0 b_339 (x_iconst (z := 4) d_339_144 (by decide)) ?_
          refine m_Rs.n0 b_339 (x_iadd d_339_145 rfl) ?_
          obtain ⟨v44, e45, h0⟩ := bS h0
          refine m_Rs.dget b_339 d_339_146 h 43 rfl e45 ?_
          refine m_Rs.n0 b_339 (x_iconst (z := 2) d_339_147 (by decide)) ?_
          cases hc49 : m_c2 .ne v44 (2 : Int32) with
          | true =>
            have h0 := cT hc49 h0
            refine m_Rs.n0 b_339 (x_ict d_339_148 rfl hc49) ?_
            refine m_Rs.n0 b_339 (x_textw d_339_157 rfl rfl) ?_
            exact m_Rs.pick [4, 5, 3, 2, 1] rfl (T_m_write_160 (by decide) h hF h0)
          | false =>
            have h0 := cF hc49 h0
            refine m_Rs.n0 b_339 (x_icf d_339_148 rfl hc49) ?_
            refine m_Rs.n0 b_339 (x_textw d_339_151 rfl rfl) ?_
            refine m_Rs.n0 b_339 (x_goto d_339_154 rfl) ?_
            exact m_Rs.pick [4, 5, 3, 2, 1] rfl (T_m_write_160 (by decide) h hF h0)
        | false =>
          have h0 := cF hc43 h0
          refine m_Rs.n0 b_339 (x_icf d_339_130 rfl hc43) ?_
          refine m_Rs.n0 b_339 (x_textw d_339_133 rfl rfl) ?_
          refine m_Rs.n0 b_339 (x_goto d_339_136 rfl) ?_
          exact m_Rs.pick [4, 5, 3, 2, 1] rfl (T_m_write_160 (by decide) h hF h0)
    cases hc14 : m_c2 .eq v6 (200 : Int32) with
    | true =>
      have e13 := cT hc14 e13
      refine m_Rs.n0 b_339 (x_ict d_339_46 rfl hc14) ?_
      refine m_Rs.n0 b_339 (x_iconst (z := 1) d_339_70 (by decide)) ?_
      refine m_Rs.n0 b_339 (x_goto d_339_71 rfl) ?_
      exact kk12 _ _ (Option.some.inj e13) h hF
    | false =>
      have e13 := cF hc14 e13
      refine m_Rs.n0 b_339 (x_icf d_339_46 rfl hc14) ?_
      refine m_Rs.n0 b_339 (x_iload_n d_339_49 rfl) ?_
      refine m_Rs.n0 b_339 (x_sipush (z := 206) d_339_50 (by decide)) ?_
      cases hc15 : m_c2 .eq v6 (206 : Int32) with
      | true =>
        have e13 := cT hc15 e13
        refine m_Rs.n0 b_339 (x_ict d_339_53 rfl hc15) ?_
        refine m_Rs.n0 b_339 (x_iconst (z := 1) d_339_70 (by decide)) ?_
        refine m_Rs.n0 b_339 (x_goto d_339_71 rfl) ?_
        exact kk12 _ _ (Option.some.inj e13) h hF
      | false =>
        have e13 := cF hc15 e13
        refine m_Rs.n0 b_339 (x_icf d_339_53 rfl hc15) ?_
        refine m_Rs.n0 b_339 (x_iload_n d_339_56 rfl) ?_
        refine m_Rs.n0 b_339 (x_sipush (z := 304) d_339_57 (by decide)) ?_
        cases hc16 : m_c2 .eq v6 (304 : Int32) with
        | true =>
          have e13 := cT hc16 e13
          refine m_Rs.n0 b_339 (x_ict d_339_60 rfl hc16) ?_
          refine m_Rs.n0 b_339 (x_iconst (z := 1) d_339_70 (by decide)) ?_
          refine m_Rs.n0 b_339 (x_goto d_339_71 rfl) ?_
          exact kk12 _ _ (Option.some.inj e13) h hF
        | false =>
          have e13 := cF hc16 e13
          refine m_Rs.n0 b_339 (x_icf d_339_60 rfl hc16) ?_
          refine m_Rs.n0 b_339 (x_iload_n d_339_63 rfl) ?_
          refine m_Rs.n0 b_339 (x_sipush (z := 416) d_339_64 (by decide)) ?_
          cases hc17 : m_c2 .ne v6 (416 : Int32) with
          | true =>
            have e13 := cT hc17 e13
            refine m_Rs.n0 b_339 (x_ict d_339_67 rfl hc17) ?_
            refine m_Rs.n0 b_339 (x_iconst (z := 0) d_339_74 (by decide)) ?_
            exact kk12 _ _ (Option.some.inj e13) h hF
          | false =>
            have e13 := cF hc17 e13
            refine m_Rs.n0 b_339 (x_icf d_339_67 rfl hc17) ?_
            refine m_Rs.n0 b_339 (x_iconst (z := 1) d_339_70 (by decide)) ?_
            refine m_Rs.n0 b_339 (x_goto d_339_71 rfl) ?_
            exact kk12 _ _ (Option.some.inj e13) h hF
  | false =>
    have h0 := cF hc5 h0
    refine m_Rs.n0 b_339 (x_iff d_339_11 rfl hc5) ?_
    exact m_Rs.ret b_339 (m_rt_vr d_339_14 rfl) (rV h0 h hF)
def D_m_answer (F : Nat) (a0 : Int32) (a1 : Int32) (S : mS) : Option (Int32 × mS) := (cond (m_c1 .lt a0) (some (1 : Int32)) (cond (m_c2 .lt a0 (S.1 70)) (cond (m_c1 .lt a1) (some (2 : Int32)) (cond (m_c2 .le a1 (8 : Int32)) (some (0 : Int32)) (some (2 : Int32)))) (some (1 : Int32)))).bind fun v7 => (fput S 0 v7).bind fun S8 => cond (m_c1 .eq (S8.1 0)) (cond (m_c2 .ne a1 (7 : Int32)) ((aget 4 300 S8 621 a0).bind fun v12 => cond (m_c1 .eq v12) (cond (decide (a1 = (0 : Int32))) ((aget 0 2700 S8 627 ((9 : Int32) * a0)).bind fun v16 => some (v16, S8)) (cond (decide (a1 = (1 : Int32))) ((aget 0 2700 S8 627 (((9 : Int32) * a0) + (1 : Int32))).bind fun v19 => some (v19, S8)) (cond (decide (a1 = (2 : Int32))) ((aget 0 2700 S8 627 (((9 : Int32) * a0) + (2 : Int32))).bind fun v22 => some (v22, S8)) (cond (decide (a1 = (3 : Int32))) ((D_m_bytesOf F a0 S8).bind fun v25 => some (v25, S8)) (cond (decide (a1 = (4 : Int32))) ((aget 0 2700 S8 627 (((9 : Int32) * a0) + (4 : Int32))).bind fun v28 => some (v28, S8)) (cond (decide (a1 = (5 : Int32))) ((D_m_write F a0 S8).bind fun S31 => some ((S31.1 91), S31)) (cond (decide (a1 = (6 : Int32))) ((aget 0 2700 S8 627 (((9 : Int32) * a0) + (5 : Int32))).bind fun v34 => some (v34, S8)) (cond (decide (a1 = (7 : Int32))) ((aget 0 2700 S8 627 (((9 : Int32) * a0) + (5 : Int32))).bind fun v37 => some (v37, S8)) (cond (decide (a1 = (8 : Int32))) ((aget 0 2700 S8 627 (((9 : Int32) * a0) + (7 : Int32))).bind fun v40 => some (v40, S8)) ((aget 0 2700 S8 627 (((9 : Int32) * a0) + (5 : Int32))).bind fun v42 => some (v42, S8))))))))))) (some ((0 : Int32), S8))) ((aget 0 2700 S8 627 (((9 : Int32) * a0) + (6 : Int32))).bind fun v44 => some (v44, S8))) (some ((0 : Int32), S8))
theorem T_m_answer {l : Launch} {w : List mM} {F : Nat} {a0 : Int32} {a1 : Int32} {S : mS} {r : Int32 × mS} (h : m_RM S w) (h0 : D_m_answer F a0 a1 S = some r) : m_Rs l M_336 (m_ent M_336 [.ref 583, .int a0, .int a1] w) (fun v w' => v = some (.int r.1) ∧ m_RM r.2 w' ∧ m_Fq w w') 0 0 7 700 := by
  show m_Rs l M_336 (0, [(0, .ref 583), (1, .int a0), (2, .int a1)], [], w) _ 0 0 7 700
  generalize hw0 : w = w0 at h ⊢
  have hF : m_Fq w0 w0 := m_Fq.refl
  rw [D_m_answer] at h0
  refine m_Rs.n0 b_336 (x_aload_n d_336_0 rfl) ?_
  refine m_Rs.n0 b_336 (x_iload_n d_336_1 rfl) ?_
  obtain ⟨v7, e2, h0⟩ := bS h0
  have kk1 : ∀ (xz : Int32) (w1 : List mM), xz = v7 → m_RM S w1 → m_Fq w0 w1 → m_Rs l M_336 (32, [(0, .ref 583), (1, .int a0), (2, .int a1)], [.int xz, .ref 583], w1) (fun v w' => v = some (.int r.1) ∧ m_RM r.2 w' ∧ m_Fq w0 w') 0 0 7 700 := by
    intro xz w ez h hF
    rw [ez]
    obtain ⟨S8, e9, h0⟩ := bS h0
    refine m_Rs.dfput b_336 d_336_32 h hF e9 rfl rfl rfl rfl rfl rfl (fun w1 h hF => ?_)
    refine m_Rs.n0 b_336 (x_aload_n d_336_35 rfl) ?_
    refine m_Rs.n0 b_336 (x_getf d_336_36 rfl h.1 rfl) ?_
    cases hc10 : m_c1 .eq (S8.1 0) with
    | true =>
      have h0 := cT hc10 h0
      refine m_Rs.n0 b_336 (x_ift d_336_39 rfl hc10) ?_
      refine m_Rs.n0 b_336 (x_iload_n d_336_44 rfl) ?_
      refine m_Rs.n0 b_336 (x_bipush (z := 7) d_336_45 (by decide)) ?_
      cases hc11 : m_c2 .ne a1 (7 : Int32) with
      | true =>
        have h0 := cT hc11 h0
        refine m_Rs.n0 b_336 (x_ict d_336_47 rfl hc11) ?_
        refine m_Rs.n0 b_336 (x_aload_n d_336_63 rfl) ?_
        refine m_Rs.n0 b_336 (x_getf d_336_64 rfl h.1 rfl) ?_
        refine m_Rs.n0 b_336 (x_iload_n d_336_67 rfl) ?_
        obtain ⟨v12, e13, h0⟩ := bS h0
        refine m_Rs.dgetb b_336 d_336_68 h 37 rfl e13 ?_
        cases hc14 : m_c1 .eq v12 with
        | true =>
          have h0 := cT hc14 h0
          refine m_Rs.n0 b_336 (x_ift d_336_69 rfl hc14) ?_
          refine m_Rs.n0 b_336 (x_iload_n d_336_74 rfl) ?_
          cases hc15 : decide (a1 = (0 : Int32)) with
          | true =>
            have h0 := cT hc15 h0
            refine m_Rs.n0 b_336 (x_tsw (t := 124) d_336_75 (by rw [of_decide_eq_true hc15]; rfl)) ?_
            refine m_Rs.n0 b_336 (x_aload_n d_336_124 rfl) ?_
            refine m_Rs.n0 b_336 (x_getf d_336_125 rfl h.1 rfl) ?_
            refine m_Rs.n0 b_336 (x_bipush (z := 9) d_336_128 (by decide)) ?_
            refine m_Rs.n0 b_336 (x_iload_n d_336_130 rfl) ?_
            refine m_Rs.n0 b_336 (x_imul d_336_131 rfl) ?_
            obtain ⟨v16, e17, h0⟩ := bS h0
            refine m_Rs.dget b_336 d_336_132 h 43 rfl e17 ?_
            exact m_Rs.ret b_336 (m_rt_ir d_336_133 rfl rfl) (rP h0 h hF)
          | false =>
            have h0 := cF hc15 h0
            cases hc18 : decide (a1 = (1 : Int32)) with
            | true =>
              have h0 := cT hc18 h0
              refine m_Rs.n0 b_336 (x_tsw (t := 134) d_336_75 (by rw [of_decide_eq_true hc18]; rfl)) ?_
              refine m_Rs.n0 b_336 (x_aload_n d_336_134 rfl) ?_
              refine m_Rs.n0 b_336 (x_getf d_336_135 rfl h.1 rfl) ?_
              refine m_Rs.n0 b_336 (x_bipush (z := 9) d_336_138 (by decide)) ?_
              refine m_Rs.n0 b_336 (x_iload_n d_336_140 rfl) ?_
              refine m_Rs.n0 b_336 (x_imul d_336_141 rfl) ?_
              refine m_Rs.n0 b_336 (x_iconst (z := 1) d_336_142 (by decide)) ?_
              refine m_Rs.n0 b_336 (x_iadd d_336_143 rfl) ?_
              obtain ⟨v19, e20, h0⟩ := bS h0
              refine m_Rs.dget b_336 d_336_144 h 43 rfl e20 ?_
              exact m_Rs.ret b_336 (m_rt_ir d_336_145 rfl rfl) (rP h0 h hF)
            | false =>
              have h0 := cF hc18 h0
              cases hc21 : decide (a1 = (2 : Int32)) with
              | true =>
                have h0 := cT hc21 h0
                refine m_Rs.n0 b_336 (x_tsw (t := 146) d_336_75 (by rw [of_decide_eq_true hc21]; rfl)) ?_
                refine m_Rs.n0 b_336 (x_aload_n d_336_146 rfl) ?_
                refine m_Rs.n0 b_336 (x_getf d_336_147 rfl h.1 rfl) ?_
                refine m_Rs.n0 b_336 (x_bipush (z := 9) d_336_150 (by decide)) ?_
                refine m_Rs.n0 b_336 (x_iload_n d_336_152 rfl) ?_
                refine m_Rs.n0 b_336 (x_imul d_336_153 rfl) ?_
                refine m_Rs.n0 b_336 (x_iconst (z := 2) d_336_154 (by decide)) ?_
                refine m_Rs.n0 b_336 (x_iadd d_336_155 rfl) ?_
                obtain ⟨v22, e23, h0⟩ := bS h0
                refine m_Rs.dget b_336 d_336_156 h 43 rfl e23 ?_
                exact m_Rs.ret b_336 (m_rt_ir d_336_157 rfl rfl) (rP h0 h hF)
              | false =>
                have h0 := cF hc21 h0
                cases hc24 : decide (a1 = (3 : Int32)) with
                | true =>
                  have h0 := cT hc24 h0
                  refine m_Rs.n0 b_336 (x_tsw (t := 158) d_336_75 (by rw [of_decide_eq_true hc24]; rfl)) ?_
                  refine m_Rs.n0 b_336 (x_aload_n d_336_158 rfl) ?_
                  refine m_Rs.n0 b_336 (x_iload_n d_336_159 rfl) ?_
                  obtain ⟨v25, e26, h0⟩ := bS h0
                  refine m_Rs.callS b_336 (y_cv d_336_160 rfl q_337 (m_isRecv_of rfl h.1) (show m_takeI _ _ = some (_, [_, _], []) from rfl) (by simp only [m_okf, List.all_cons, List.all_nil, Bool.and_true, Bool.and_self, m_okv_i, m_okv_l, m_okv_0, m_okv_t, m_okv_at h.1]) rfl) (T_m_bytesOf h e26) hF rfl (fun w1 h hF => ?_) (by decide) (by decide)
                  exact m_Rs.ret b_336 (m_rt_ir d_336_163 rfl rfl) (rP h0 h hF)
                | false =>
                  have h0 := cF hc24 h0
                  cases hc27 : decide (a1 = (4 : Int32)) with
                  | true =>
                    have h0 := cT hc27 h0
                    refine m_Rs.n0 b_336 (x_tsw (t := 164) d_336_75 (by rw [of_decide_eq_true hc27]; rfl)) ?_
                    refine m_Rs.n0 b_336 (x_aload_n d_336_164 rfl) ?_
                    refine m_Rs.n0 b_336 (x_getf d_336_165 rfl h.1 rfl) ?_
                    refine m_Rs.n0 b_336 (x_bipush (z := 9) d_336_168 (by decide)) ?_
                    refine m_Rs.n0 b_336 (x_iload_n d_336_170 rfl) ?_
                    refine m_Rs.n0 b_336 (x_imul d_336_171 rfl) ?_
                    refine m_Rs.n0 b_336 (x_iconst (z := 4) d_336_172 (by decide)) ?_
                    refine m_Rs.n0 b_336 (x_iadd d_336_173 rfl) ?_
                    obtain ⟨v28, e29, h0⟩ := bS h0
                    refine m_Rs.dget b_336 d_336_174 h 43 rfl e29 ?_
                    exact m_Rs.ret b_336 (m_rt_ir d_336_175 rfl rfl) (rP h0 h hF)
                  | false =>
                    have h0 := cF hc27 h0
                    cases hc30 : decide (a1 = (5 : Int32)) with
                    | true =>
                      have h0 := cT hc30 h0
                      refine m_Rs.n0 b_336 (x_tsw (t := 176) d_336_75 (by rw [of_decide_eq_true hc30]; rfl)) ?_
                      refine m_Rs.n0 b_336 (x_aload_n d_336_176 rfl) ?_
                      refine m_Rs.n0 b_336 (x_iload_n d_336_177 rfl) ?_
                      obtain ⟨S31, e32, h0⟩ := bS h0
                      refine m_Rs.callSv b_336 (y_cv d_336_178 rfl q_339 (m_isRecv_of rfl h.1) (show m_takeI _ _ = some (_, [_, _], []) from rfl) (by simp only [m_okf, List.all_cons, List.all_nil, Bool.and_true, Bool.and_self, m_okv_i, m_okv_l, m_okv_0, m_okv_t, m_okv_at h.1]) rfl) (T_m_write h e32) hF rfl (fun w1 h hF => ?_) (by decide) (by decide)
                      refine m_Rs.n0 b_336 (x_aload_n d_336_181 rfl) ?_
                      refine m_Rs.n0 b_336 (x_getf d_336_182 rfl h.1 rfl) ?_
                      exact m_Rs.ret b_336 (m_rt_ir d_336_185 rfl rfl) (rP h0 h hF)
                    | false =>
                      have h0 := cF hc30 h0
                      cases hc33 : decide (a1 = (6 : Int32)) with
                      | true =>
                        have h0 := cT hc33 h0
                        refine m_Rs.n0 b_336 (x_tsw (t := 199) d_336_75 (by rw [of_decide_eq_true hc33]; rfl)) ?_
                        refine m_Rs.n0 b_336 (x_aload_n d_336_199 rfl) ?_
                        refine m_Rs.n0 b_336 (x_getf d_336_200 rfl h.1 rfl) ?_
                        refine m_Rs.n0 b_336 (x_bipush (z := 9) d_336_203 (by decide)) ?_
                        refine m_Rs.n0 b_336 (x_iload_n d_336_205 rfl) ?_
                        refine m_Rs.n0 b_336 (x_imul d_336_206 rfl) ?_
                        refine m_Rs.n0 b_336 (x_iconst (z := 5) d_336_207 (by decide)) ?_
                        refine m_Rs.n0 b_336 (x_iadd d_336_208 rfl) ?_
                        obtain ⟨v34, e35, h0⟩ := bS h0
                        refine m_Rs.dget b_336 d_336_209 h 43 rfl e35 ?_
                        exact m_Rs.ret b_336 (m_rt_ir d_336_210 rfl rfl) (rP h0 h hF)
                      | false =>
                        have h0 := cF hc33 h0
                        cases hc36 : decide (a1 = (7 : Int32)) with
                        | true =>
                          have h0 := cT hc36 h0
                          refine m_Rs.n0 b_336 (x_tsw (t := 199) d_336_75 (by rw [of_decide_eq_true hc36]; rfl)) ?_
                          refine m_Rs.n0 b_336 (x_aload_n d_336_199 rfl) ?_
                          refine m_Rs.n0 b_336 (x_getf d_336_200 rfl h.1 rfl) ?_
                          refine m_Rs.n0 b_336 (x_bipush (z := 9) d_336_203 (by decide)) ?_
                          refine m_Rs.n0 b_336 (x_iload_n d_336_205 rfl) ?_
                          refine m_Rs.n0 b_336 (x_imul d_336_206 rfl) ?_
                          refine m_Rs.n0 b_336 (x_iconst (z := 5) d_336_207 (by decide)) ?_
                          refine m_Rs.n0 b_336 (x_iadd d_336_208 rfl) ?_
                          obtain ⟨v37, e38, h0⟩ := bS h0
                          refine m_Rs.dget b_336 d_336_209 h 43 rfl e38 ?_
                          exact m_Rs.ret b_336 (m_rt_ir d_336_210 rfl rfl) (rP h0 h hF)
                        | false =>
                          have h0 := cF hc36 h0
                          cases hc39 : decide (a1 = (8 : Int32)) with
                          | true =>
                            have h0 := cT hc39 h0
                            refine m_Rs.n0 b_336 (x_tsw (t := 186) d_336_75 (by rw [of_decide_eq_true hc39]; rfl)) ?_
                            refine m_Rs.n0 b_336 (x_aload_n d_336_186 rfl) ?_
                            refine m_Rs.n0 b_336 (x_getf d_336_187 rfl h.1 rfl) ?_
                            refine m_Rs.n0 b_336 (x_bipush (z := 9) d_336_190 (by decide)) ?_
                            refine m_Rs.n0 b_336 (x_iload_n d_336_192 rfl) ?_
                            refine m_Rs.n0 b_336 (x_imul d_336_193 rfl) ?_
                            refine m_Rs.n0 b_336 (x_bipush (z := 7) d_336_194 (by decide)) ?_
                            refine m_Rs.n0 b_336 (x_iadd d_336_196 rfl) ?_
                            obtain ⟨v40, e41, h0⟩ := bS h0
                            refine m_Rs.dget b_336 d_336_197 h 43 rfl e41 ?_
                            exact m_Rs.ret b_336 (m_rt_ir d_336_198 rfl rfl) (rP h0 h hF)
                          | false =>
                            have h0 := cF hc39 h0
                            refine m_Rs.n0 b_336 (x_tsw (t := 199) d_336_75 (m_tsw_0 (n := 9) rfl (fun k hk => by match k, hk with | 0, _ => exact of_decide_eq_false hc15 | 1, _ => exact of_decide_eq_false hc18 | 2, _ => exact of_decide_eq_false hc21 | 3, _ => exact of_decide_eq_false hc24 | 4, _ => exact of_decide_eq_false hc27 | 5, _ => exact of_decide_eq_false hc30 | 6, _ => exact of_decide_eq_false hc33 | 7, _ => exact of_decide_eq_false hc36 | 8, _ => exact of_decide_eq_false hc39 | k + 9, hk => omega) rfl)) ?_
                            refine m_Rs.n0 b_336 (x_aload_n d_336_199 rfl) ?_
                            refine m_Rs.n0 b_336 (x_getf d_336_200 rfl h.1 rfl) ?_
                            refine m_Rs.n0 b_336 (x_bipush (z := 9) d_336_203 (by decide)) ?_
                            refine m_Rs.n0 b_336 (x_iload_n d_336_205 rfl) ?_
                            refine m_Rs.n0 b_336 (x_imul d_336_206 rfl) ?_
                            refine m_Rs.n0 b_336 (x_iconst (z := 5) d_336_207 (by decide)) ?_
                            refine m_Rs.n0 b_336 (x_iadd d_336_208 rfl) ?_
                            obtain ⟨v42, e43, h0⟩ := bS h0
                            refine m_Rs.dget b_336 d_336_209 h 43 rfl e43 ?_
                            exact m_Rs.ret b_336 (m_rt_ir d_336_210 rfl rfl) (rP h0 h hF)
        | false =>
          have h0 := cF hc14 h0
          refine m_Rs.n0 b_336 (x_iff d_336_69 rfl hc14) ?_
          refine m_Rs.n0 b_336 (x_iconst (z := 0) d_336_72 (by decide)) ?_
          exact m_Rs.ret b_336 (m_rt_ir d_336_73 rfl rfl) (rP h0 h hF)
      | false =>
        have h0 := cF hc11 h0
        refine m_Rs.n0 b_336 (x_icf d_336_47 rfl hc11) ?_
        refine m_Rs.n0 b_336 (x_aload_n d_336_50 rfl) ?_
        refine m_Rs.n0 b_336 (x_getf d_336_51 rfl h.1 rfl) ?_
        refine m_Rs.n0 b_336 (x_bipush (z := 9) d_336_54 (by decide)) ?_
        refine m_Rs.n0 b_336 (x_iload_n d_336_56 rfl) ?_
        refine m_Rs.n0 b_336 (x_imul d_336_57 rfl) ?_
        refine m_Rs.n0 b_336 (x_bipush (z := 6) d_336_58 (by decide)) ?_
        refine m_Rs.n0 b_336 (x_iadd d_336_60 rfl) ?_
        obtain ⟨v44, e45, h0⟩ := bS h0
        refine m_Rs.dget b_336 d_336_61 h 43 rfl e45 ?_
        exact m_Rs.ret b_336 (m_rt_ir d_336_62 rfl rfl) (rP h0 h hF)
    | false =>
      have h0 := cF hc10 h0
      refine m_Rs.n0 b_336 (x_iff d_336_39 rfl hc10) ?_
      refine m_Rs.n0 b_336 (x_iconst (z := 0) d_336_42 (by decide)) ?_
      exact m_Rs.ret b_336 (m_rt_ir d_336_43 rfl rfl) (rP h0 h hF)
  cases hc3 : m_c1 .lt a0 with
  | true =>
    have e2 := cT hc3 e2
    refine m_Rs.n0 b_336 (x_ift d_336_2 rfl hc3) ?_
    refine m_Rs.n0 b_336 (x_iconst (z := 1) d_336_13 (by decide)) ?_
    refine m_Rs.n0 b_336 (x_goto d_336_14 rfl) ?_
    exact kk1 _ _ (Option.some.inj e2) h hF
  | false =>
    have e2 := cF hc3 e2
    refine m_Rs.n0 b_336 (x_iff d_336_2 rfl hc3) ?_
    refine m_Rs.n0 b_336 (x_iload_n d_336_5 rfl) ?_
    refine m_Rs.n0 b_336 (x_aload_n d_336_6 rfl) ?_
    refine m_Rs.n0 b_336 (x_getf d_336_7 rfl h.1 rfl) ?_
    cases hc4 : m_c2 .lt a0 (S.1 70) with
    | true =>
      have e2 := cT hc4 e2
      refine m_Rs.n0 b_336 (x_ict d_336_10 rfl hc4) ?_
      refine m_Rs.n0 b_336 (x_iload_n d_336_17 rfl) ?_
      cases hc5 : m_c1 .lt a1 with
      | true =>
        have e2 := cT hc5 e2
        refine m_Rs.n0 b_336 (x_ift d_336_18 rfl hc5) ?_
        refine m_Rs.n0 b_336 (x_iconst (z := 2) d_336_27 (by decide)) ?_
        refine m_Rs.n0 b_336 (x_goto d_336_28 rfl) ?_
        exact kk1 _ _ (Option.some.inj e2) h hF
      | false =>
        have e2 := cF hc5 e2
        refine m_Rs.n0 b_336 (x_iff d_336_18 rfl hc5) ?_
        refine m_Rs.n0 b_336 (x_iload_n d_336_21 rfl) ?_
        refine m_Rs.n0 b_336 (x_bipush (z := 8) d_336_22 (by decide)) ?_
        cases hc6 : m_c2 .le a1 (8 : Int32) with
        | true =>
          have e2 := cT hc6 e2
          refine m_Rs.n0 b_336 (x_ict d_336_24 rfl hc6) ?_
          refine m_Rs.n0 b_336 (x_iconst (z := 0) d_336_31 (by decide)) ?_
          exact kk1 _ _ (Option.some.inj e2) h hF
        | false =>
          have e2 := cF hc6 e2
          refine m_Rs.n0 b_336 (x_icf d_336_24 rfl hc6) ?_
          refine m_Rs.n0 b_336 (x_iconst (z := 2) d_336_27 (by decide)) ?_
          refine m_Rs.n0 b_336 (x_goto d_336_28 rfl) ?_
          exact kk1 _ _ (Option.some.inj e2) h hF
    | false =>
      have e2 := cF hc4 e2
      refine m_Rs.n0 b_336 (x_icf d_336_10 rfl hc4) ?_
      refine m_Rs.n0 b_336 (x_iconst (z := 1) d_336_13 (by decide)) ?_
      refine m_Rs.n0 b_336 (x_goto d_336_14 rfl) ?_
      exact kk1 _ _ (Option.some.inj e2) h hF
def D_m_letter (F : Nat) (a0 : Int32) (a1 : Int32) (S : mS) : Option (Int32 × mS) := (fput S 0 (0 : Int32)).bind fun S1 => cond (m_c1 .lt a0) (some (((-1) : Int32), S1)) (cond (m_c2 .lt a0 (S1.1 70)) ((D_m_write F a0 S1).bind fun S5 => (cond (m_c1 .lt a1) (some ((-1) : Int32)) (cond (m_c2 .lt a1 (S5.1 91)) ((aget 0 700 S5 629 a1).bind fun v11 => some v11) (some ((-1) : Int32)))).bind fun v13 => some (v13, S5)) (some (((-1) : Int32), S1)))
theorem T_m_letter {l : Launch} {w : List mM} {F : Nat} {a0 : Int32} {a1 : Int32} {S : mS} {r : Int32 × mS} (h : m_RM S w) (h0 : D_m_letter F a0 a1 S = some r) : m_Rs l M_344 (m_ent M_344 [.ref 583, .int a0, .int a1] w) (fun v w' => v = some (.int r.1) ∧ m_RM r.2 w' ∧ m_Fq w w') 0 0 7 700 := by
  show m_Rs l M_344 (0, [(0, .ref 583), (1, .int a0), (2, .int a1)], [], w) _ 0 0 7 700
  generalize hw0 : w = w0 at h ⊢
  have hF : m_Fq w0 w0 := m_Fq.refl
  rw [D_m_letter] at h0
  refine m_Rs.n0 b_344 (x_aload_n d_344_0 rfl) ?_
  refine m_Rs.n0 b_344 (x_iconst (z := 0) d_344_1 (by decide)) ?_
  obtain ⟨S1, e2, h0⟩ := bS h0
  refine m_Rs.dfput b_344 d_344_2 h hF e2 rfl rfl rfl rfl rfl rfl (fun w1 h hF => ?_)
  refine m_Rs.n0 b_344 (x_iload_n d_344_5 rfl) ?_
  cases hc3 : m_c1 .lt a0 with
  | true =>
    have h0 := cT hc3 h0
    refine m_Rs.n0 b_344 (x_ift d_344_6 rfl hc3) ?_
    refine m_Rs.n0 b_344 (x_iconst (z := (-1)) d_344_17 (by decide)) ?_
    exact m_Rs.ret b_344 (m_rt_ir d_344_18 rfl rfl) (rP h0 h hF)
  | false =>
    have h0 := cF hc3 h0
    refine m_Rs.n0 b_344 (x_iff d_344_6 rfl hc3) ?_
    refine m_Rs.n0 b_344 (x_iload_n d_344_9 rfl) ?_
    refine m_Rs.n0 b_344 (x_aload_n d_344_10 rfl) ?_
    refine m_Rs.n0 b_344 (x_getf d_344_11 rfl h.1 rfl) ?_
    cases hc4 : m_c2 .lt a0 (S1.1 70) with
    | true =>
      have h0 := cT hc4 h0
      refine m_Rs.n0 b_344 (x_ict d_344_14 rfl hc4) ?_
      refine m_Rs.n0 b_344 (x_aload_n d_344_19 rfl) ?_
      refine m_Rs.n0 b_344 (x_iload_n d_344_20 rfl) ?_
      obtain ⟨S5, e6, h0⟩ := bS h0
      refine m_Rs.callSv b_344 (y_cv d_344_21 rfl q_339 (m_isRecv_of rfl h.1) (show m_takeI _ _ = some (_, [_, _], []) from rfl) (by simp only [m_okf, List.all_cons, List.all_nil, Bool.and_true, Bool.and_self, m_okv_i, m_okv_l, m_okv_0, m_okv_t, m_okv_at h.1]) rfl) (T_m_write h e6) hF rfl (fun w1 h hF => ?_) (by decide) (by decide)
      refine m_Rs.n0 b_344 (x_iload_n d_344_24 rfl) ?_
      obtain ⟨v13, e8, h0⟩ := bS h0
      have kk7 : ∀ (xz : Int32) (w1 : List mM), xz = v13 → m_RM S5 w1 → m_Fq w0 w1 → m_Rs l M_344 (46, [(0, .ref 583), (1, .int a0), (2, .int a1)], [.int xz], w1) (fun v w' => v = some (.int r.1) ∧ m_RM r.2 w' ∧ m_Fq w0 w') 0 0 7 700 := by
        intro xz w ez h hF
        rw [ez]
        exact m_Rs.ret b_344 (m_rt_ir d_344_46 rfl rfl) (rP h0 h hF)
      cases hc9 : m_c1 .lt a1 with
      | true =>
        have e8 := cT hc9 e8
        refine m_Rs.n0 b_344 (x_ift d_344_25 rfl hc9) ?_
        refine m_Rs.n0 b_344 (x_iconst (z := (-1)) d_344_36 (by decide)) ?_
        refine m_Rs.n0 b_344 (x_goto d_344_37 rfl) ?_
        exact kk7 _ _ (Option.some.inj e8) h hF
      | false =>
        have e8 := cF hc9 e8
        refine m_Rs.n0 b_344 (x_iff d_344_25 rfl hc9) ?_
        refine m_Rs.n0 b_344 (x_iload_n d_344_28 rfl) ?_
        refine m_Rs.n0 b_344 (x_aload_n d_344_29 rfl) ?_
        refine m_Rs.n0 b_344 (x_getf d_344_30 rfl h.1 rfl) ?_
        cases hc10 : m_c2 .lt a1 (S5.1 91) with
        | true =>
          have e8 := cT hc10 e8
          refine m_Rs.n0 b_344 (x_ict d_344_33 rfl hc10) ?_
          refine m_Rs.n0 b_344 (x_aload_n d_344_40 rfl) ?_
          refine m_Rs.n0 b_344 (x_getf d_344_41 rfl h.1 rfl) ?_
          refine m_Rs.n0 b_344 (x_iload_n d_344_44 rfl) ?_
          obtain ⟨v11, e12, e8⟩ := bS e8
          refine m_Rs.dget b_344 d_344_45 h 45 rfl e12 ?_
          exact kk7 _ _ (Option.some.inj e8) h hF
        | false =>
          have e8 := cF hc10 e8
          refine m_Rs.n0 b_344 (x_icf d_344_33 rfl hc10) ?_
          refine m_Rs.n0 b_344 (x_iconst (z := (-1)) d_344_36 (by decide)) ?_
          refine m_Rs.n0 b_344 (x_goto d_344_37 rfl) ?_
          exact kk7 _ _ (Option.some.inj e8) h hF
    | false =>
      have h0 := cF hc4 h0
      refine m_Rs.n0 b_344 (x_icf d_344_14 rfl hc4) ?_
      refine m_Rs.n0 b_344 (x_iconst (z := (-1)) d_344_17 (by decide)) ?_
      exact m_Rs.ret b_344 (m_rt_ir d_344_18 rfl rfl) (rP h0 h hF)
def D_m_node_150 (F : Nat) : Nat → Int32 → Int32 → Int32 → Int32 → Int32 → Int32 → Int32 → mS → Option (Int32 × mS)
  | 0, _, _, _, _, _, _, _, _ => none
  | n + 1, x1, x2, x3, x4, x5, x6, x7, S => cond (m_c2 .ge x7 (S.1 74)) (cond (decide (x2 = (0 : Int32))) ((aget 4 7 S 591 x1).bind fun v31 => (cond (m_c1 .eq v31) (some (0 : Int32)) (some (1 : Int32))).bind fun v36 => some (v36, S)) (cond (decide (x2 = (1 : Int32))) (some (x3, S)) (cond (decide (x2 = (2 : Int32))) ((D_m_sizes F x1 (0 : Int32) S).bind fun v39 => some (v39, S)) (cond (decide (x2 = (3 : Int32))) (some (x4, S)) (cond (decide (x2 = (4 : Int32))) ((aget 0 7 S 594 x1).bind fun v43 => some (v43, S)) (cond (decide (x2 = (5 : Int32))) ((aget 0 7 S 595 x1).bind fun v46 => some (v46, S)) (cond (decide (x2 = (6 : Int32))) (some (x5, S)) (cond (decide (x2 = (7 : Int32))) (some (x6, S)) (cond (decide (x2 = (8 : Int32))) ((aget 0 7 S 593 x1).bind fun v51 => some (v51, S)) (cond (decide (x2 = (9 : Int32))) ((aget 0 14 S 618 ((((2 : Int32) * x1) + x2) - (9 : Int32))).bind fun v54 => some (v54, S)) (cond (decide (x2 = (10 : Int32))) ((aget 0 14 S 618 ((((2 : Int32) * x1) + x2) - (9 : Int32))).bind fun v57 => some (v57, S)) (cond (decide (x2 = (11 : Int32))) ((D_m_isShunned F x1 (x2 - (10 : Int32)) S).bind fun v60 => (cond (m_c1 .eq v60) (some (0 : Int32)) ((aget 0 14 S 619 ((((2 : Int32) * x1) + x2) - (11 : Int32))).bind fun v65 => some v65)).bind fun v67 => some (v67, S)) (cond (decide (x2 = (12 : Int32))) ((D_m_isShunned F x1 (x2 - (10 : Int32)) S).bind fun v69 => (cond (m_c1 .eq v69) (some (0 : Int32)) ((aget 0 14 S 619 ((((2 : Int32) * x1) + x2) - (11 : Int32))).bind fun v74 => some v74)).bind fun v76 => some (v76, S)) (some (((-1) : Int32), S))))))))))))))) ((aget 0 48000 S 622 ((12 : Int32) * x7)).bind fun v77 => (cond (m_c2 .ne v77 x1) (some (0 : Int32)) (some (1 : Int32))).bind fun v82 => D_m_node_150 F n x1 x2 x3 x4 x5 (x6 + v82) (x7 + Int32.ofInt 1) S)
theorem T_m_node_150 {l : Launch} {w0 : List mM} {F : Nat} : ∀ (n : Nat) {x1 : Int32} {x2 : Int32} {x3 : Int32} {x4 : Int32} {x5 : Int32} {x6 : Int32} {x7 : Int32} {S : mS} {w : List mM} {r : Int32 × mS}, m_RM S w → m_Fq w0 w → D_m_node_150 F n x1 x2 x3 x4 x5 x6 x7 S = some r → m_Rs l M_345 (150, [(0, .ref 583), (1, .int x1), (2, .int x2), (3, .int x3), (4, .int x4), (5, .int x5), (6, .int x6), (7, .int x7)], [], w) (fun v w' => v = some (.int r.1) ∧ m_RM r.2 w' ∧ m_Fq w0 w') 0 0 3 300 := by
  intro n
  induction n with
  | zero => intro x1 x2 x3 x4 x5 x6 x7 S w r h hF h0; cases h0
  | succ n ih =>
    intro x1 x2 x3 x4 x5 x6 x7 S w r h hF h0
    rw [D_m_node_150] at h0
    refine m_Rs.n0 b_345 (x_iload d_345_150 rfl) ?_
    refine m_Rs.n0 b_345 (x_aload_n d_345_152 rfl) ?_
    refine m_Rs.n0 b_345 (x_getf d_345_153 rfl h.1 rfl) ?_
    cases hc29 : m_c2 .ge x7 (S.1 74) with
    | true =>
      have h0 := cT hc29 h0
      refine m_Rs.n0 b_345 (x_ict d_345_156 rfl hc29) ?_
      refine m_Rs.n0 b_345 (x_iload_n d_345_189 rfl) ?_
      cases hc30 : decide (x2 = (0 : Int32)) with
      | true =>
        have h0 := cT hc30 h0
        refine m_Rs.n0 b_345 (x_tsw (t := 256) d_345_190 (by rw [of_decide_eq_true hc30]; rfl)) ?_
        refine m_Rs.n0 b_345 (x_aload_n d_345_256 rfl) ?_
        refine m_Rs.n0 b_345 (x_getf d_345_257 rfl h.1 rfl) ?_
        refine m_Rs.n0 b_345 (x_iload_n d_345_260 rfl) ?_
        obtain ⟨v31, e32, h0⟩ := bS h0
        refine m_Rs.dgetb b_345 d_345_261 h 7 rfl e32 ?_
        obtain ⟨v36, e34, h0⟩ := bS h0
        have kk33 : ∀ (xz : Int32) (w1 : List mM), xz = v36 → m_RM S w1 → m_Fq w0 w1 → m_Rs l M_345 (270, [(0, .ref 583), (1, .int x1), (2, .int x2), (3, .int x3), (4, .int x4), (5, .int x5), (6, .int x6), (7, .int x7)], [.int xz], w1) (fun v w' => v = some (.int r.1) ∧ m_RM r.2 w' ∧ m_Fq w0 w') 0 0 3 300 := by
          intro xz w ez h hF
          rw [ez]
          exact m_Rs.ret b_345 (m_rt_ir d_345_270 rfl rfl) (rP h0 h hF)
        cases hc35 : m_c1 .eq v31 with
        | true =>
          have e34 := cT hc35 e34
          refine m_Rs.n0 b_345 (x_ift d_345_262 rfl hc35) ?_
          refine m_Rs.n0 b_345 (x_iconst (z := 0) d_345_269 (by decide)) ?_
          exact kk33 _ _ (Option.some.inj e34) h hF
        | false =>
          have e34 := cF hc35 e34
          refine m_Rs.n0 b_345 (x_iff d_345_262 rfl hc35) ?_
          refine m_Rs.n0 b_345 (x_iconst (z := 1) d_345_265 (by decide)) ?_
          refine m_Rs.n0 b_345 (x_goto d_345_266 rfl) ?_
          exact kk33 _ _ (Option.some.inj e34) h hF
      | false =>
        have h0 := cF hc30 h0
        cases hc37 : decide (x2 = (1 : Int32)) with
        | true =>
          have h0 := cT hc37 h0
          refine m_Rs.n0 b_345 (x_tsw (t := 271) d_345_190 (by rw [of_decide_eq_true hc37]; rfl)) ?_
          refine m_Rs.n0 b_345 (x_iload_n d_345_271 rfl) ?_
          exact m_Rs.ret b_345 (m_rt_ir d_345_272 rfl rfl) (rP h0 h hF)
        | false =>
          have h0 := cF hc37 h0
          cases hc38 : decide (x2 = (2 : Int32)) with
          | true =>
            have h0 := cT hc38 h0
            refine m_Rs.n0 b_345 (x_tsw (t := 273) d_345_190 (by rw [of_decide_eq_true hc38]; rfl)) ?_
            refine m_Rs.n0 b_345 (x_aload_n d_345_273 rfl) ?_
            refine m_Rs.n0 b_345 (x_iload_n d_345_274 rfl) ?_
            refine m_Rs.n0 b_345 (x_iconst (z := 0) d_345_275 (by decide)) ?_
            obtain ⟨v39, e40, h0⟩ := bS h0
            refine m_Rs.callS b_345 (y_cv d_345_276 rfl q_297 (m_isRecv_of rfl h.1) (show m_takeI _ _ = some (_, [_, _, _], []) from rfl) (by simp only [m_okf, List.all_cons, List.all_nil, Bool.and_true, Bool.and_self, m_okv_i, m_okv_l, m_okv_0, m_okv_t, m_okv_at h.1]) rfl) (T_m_sizes h e40) hF rfl (fun w1 h hF => ?_) (by decide) (by decide)
            exact m_Rs.ret b_345 (m_rt_ir d_345_279 rfl rfl) (rP h0 h hF)
          | false =>
            have h0 := cF hc38 h0
            cases hc41 : decide (x2 = (3 : Int32)) with
            | true =>
              have h0 := cT hc41 h0
              refine m_Rs.n0 b_345 (x_tsw (t := 280) d_345_190 (by rw [of_decide_eq_true hc41]; rfl)) ?_
              refine m_Rs.n0 b_345 (x_iload d_345_280 rfl) ?_
              exact m_Rs.ret b_345 (m_rt_ir d_345_282 rfl rfl) (rP h0 h hF)
            | false =>
              have h0 := cF hc41 h0
              cases hc42 : decide (x2 = (4 : Int32)) with
              | true =>
                have h0 := cT hc42 h0
                refine m_Rs.n0 b_345 (x_tsw (t := 283) d_345_190 (by rw [of_decide_eq_true hc42]; rfl)) ?_
                refine m_Rs.n0 b_345 (x_aload_n d_345_283 rfl) ?_
                refine m_Rs.n0 b_345 (x_getf d_345_284 rfl h.1 rfl) ?_
                refine m_Rs.n0 b_345 (x_iload_n d_345_287 rfl) ?_
                obtain ⟨v43, e44, h0⟩ := bS h0
                refine m_Rs.dget b_345 d_345_288 h 10 rfl e44 ?_
                exact m_Rs.ret b_345 (m_rt_ir d_345_289 rfl rfl) (rP h0 h hF)
              | false =>
                have h0 := cF hc42 h0
                cases hc45 : decide (x2 = (5 : Int32)) with
                | true =>
                  have h0 := cT hc45 h0
                  refine m_Rs.n0 b_345 (x_tsw (t := 290) d_345_190 (by rw [of_decide_eq_true hc45]; rfl)) ?_
                  refine m_Rs.n0 b_345 (x_aload_n d_345_290 rfl) ?_
                  refine m_Rs.n0 b_345 (x_getf d_345_291 rfl h.1 rfl) ?_
                  refine m_Rs.n0 b_345 (x_iload_n d_345_294 rfl) ?_
                  obtain ⟨v46, e47, h0⟩ := bS h0
                  refine m_Rs.dget b_345 d_345_295 h 11 rfl e47 ?_
                  exact m_Rs.ret b_345 (m_rt_ir d_345_296 rfl rfl) (rP h0 h hF)
                | false =>
                  have h0 := cF hc45 h0
                  cases hc48 : decide (x2 = (6 : Int32)) with
                  | true =>
                    have h0 := cT hc48 h0
                    refine m_Rs.n0 b_345 (x_tsw (t := 297) d_345_190 (by rw [of_decide_eq_true hc48]; rfl)) ?_
                    refine m_Rs.n0 b_345 (x_iload d_345_297 rfl) ?_
                    exact m_Rs.ret b_345 (m_rt_ir d_345_299 rfl rfl) (rP h0 h hF)
                  | false =>
                    have h0 := cF hc48 h0
                    cases hc49 : decide (x2 = (7 : Int32)) with
                    | true =>
                      have h0 := cT hc49 h0
                      refine m_Rs.n0 b_345 (x_tsw (t := 300) d_345_190 (by rw [of_decide_eq_true hc49]; rfl)) ?_
                      refine m_Rs.n0 b_345 (x_iload d_345_300 rfl) ?_
                      exact m_Rs.ret b_345 (m_rt_ir d_345_302 rfl rfl) (rP h0 h hF)
                    | false =>
                      have h0 := cF hc49 h0
                      cases hc50 : decide (x2 = (8 : Int32)) with
                      | true =>
                        have h0 := cT hc50 h0
                        refine m_Rs.n0 b_345 (x_tsw (t := 303) d_345_190 (by rw [of_decide_eq_true hc50]; rfl)) ?_
                        refine m_Rs.n0 b_345 (x_aload_n d_345_303 rfl) ?_
                        refine m_Rs.n0 b_345 (x_getf d_345_304 rfl h.1 rfl) ?_
                        refine m_Rs.n0 b_345 (x_iload_n d_345_307 rfl) ?_
                        obtain ⟨v51, e52, h0⟩ := bS h0
                        refine m_Rs.dget b_345 d_345_308 h 9 rfl e52 ?_
                        exact m_Rs.ret b_345 (m_rt_ir d_345_309 rfl rfl) (rP h0 h hF)
                      | false =>
                        have h0 := cF hc50 h0
                        cases hc53 : decide (x2 = (9 : Int32)) with
                        | true =>
                          have h0 := cT hc53 h0
                          refine m_Rs.n0 b_345 (x_tsw (t := 310) d_345_190 (by rw [of_decide_eq_true hc53]; rfl)) ?_
                          refine m_Rs.n0 b_345 (x_aload_n d_345_310 rfl) ?_
                          refine m_Rs.n0 b_345 (x_getf d_345_311 rfl h.1 rfl) ?_
                          refine m_Rs.n0 b_345 (x_iconst (z := 2) d_345_314 (by decide)) ?_
                          refine m_Rs.n0 b_345 (x_iload_n d_345_315 rfl) ?_
                          refine m_Rs.n0 b_345 (x_imul d_345_316 rfl) ?_
                          refine m_Rs.n0 b_345 (x_iload_n d_345_317 rfl) ?_
                          refine m_Rs.n0 b_345 (x_iadd d_345_318 rfl) ?_
                          refine m_Rs.n0 b_345 (x_bipush (z := 9) d_345_319 (by decide)) ?_
                          refine m_Rs.n0 b_345 (x_isub d_345_321 rfl) ?_
                          obtain ⟨v54, e55, h0⟩ := bS h0
                          refine m_Rs.dget b_345 d_345_322 h 34 rfl e55 ?_
                          exact m_Rs.ret b_345 (m_rt_ir d_345_323 rfl rfl) (rP h0 h hF)
                        | false =>
                          have h0 := cF hc53 h0
                          cases hc56 : decide (x2 = (10 : Int32)) with
                          | true =>
                            have h0 := cT hc56 h0
                            refine m_Rs.n0 b_345 (x_tsw (t := 310) d_345_190 (by rw [of_decide_eq_true hc56]; rfl)) ?_
                            refine m_Rs.n0 b_345 (x_aload_n d_345_310 rfl) ?_
                            refine m_Rs.n0 b_345 (x_getf d_345_311 rfl h.1 rfl) ?_
                            refine m_Rs.n0 b_345 (x_iconst (z := 2) d_345_314 (by decide)) ?_
                            refine m_Rs.n0 b_345 (x_iload_n d_345_315 rfl) ?_
                            refine m_Rs.n0 b_345 (x_imul d_345_316 rfl) ?_
                            refine m_Rs.n0 b_345 (x_iload_n d_345_317 rfl) ?_
                            refine m_Rs.n0 b_345 (x_iadd d_345_318 rfl) ?_
                            refine m_Rs.n0 b_345 (x_bipush (z := 9) d_345_319 (by decide)) ?_
                            refine m_Rs.n0 b_345 (x_isub d_345_321 rfl) ?_
                            obtain ⟨v57, e58, h0⟩ := bS h0
                            refine m_Rs.dget b_345 d_345_322 h 34 rfl e58 ?_
                            exact m_Rs.ret b_345 (m_rt_ir d_345_323 rfl rfl) (rP h0 h hF)
                          | false =>
                            have h0 := cF hc56 h0
                            cases hc59 : decide (x2 = (11 : Int32)) with
                            | true =>
                              have h0 := cT hc59 h0
                              refine m_Rs.n0 b_345 (x_tsw (t := 324) d_345_190 (by rw [of_decide_eq_true hc59]; rfl)) ?_
                              refine m_Rs.n0 b_345 (x_aload_n d_345_324 rfl) ?_
                              refine m_Rs.n0 b_345 (x_iload_n d_345_325 rfl) ?_
                              refine m_Rs.n0 b_345 (x_iload_n d_345_326 rfl) ?_
                              refine m_Rs.n0 b_345 (x_bipush (z := 10) d_345_327 (by decide)) ?_
                              refine m_Rs.n0 b_345 (x_isub d_345_329 rfl) ?_
                              obtain ⟨v60, e61, h0⟩ := bS h0
                              refine m_Rs.callS b_345 (y_cv d_345_330 rfl q_274 (m_isRecv_of rfl h.1) (show m_takeI _ _ = some (_, [_, _, _], []) from rfl) (by simp only [m_okf, List.all_cons, List.all_nil, Bool.and_true, Bool.and_self, m_okv_i, m_okv_l, m_okv_0, m_okv_t, m_okv_at h.1]) rfl) (T_m_isShunned h e61) hF rfl (fun w1 h hF => ?_) (by decide) (by decide)
                              obtain ⟨v67, e63, h0⟩ := bS h0
                              have kk62 : ∀ (xz : Int32) (w1 : List mM), xz = v67 → m_RM S w1 → m_Fq w0 w1 → m_Rs l M_345 (353, [(0, .ref 583), (1, .int x1), (2, .int x2), (3, .int x3), (4, .int x4), (5, .int x5), (6, .int x6), (7, .int x7)], [.int xz], w1) (fun v w' => v = some (.int r.1) ∧ m_RM r.2 w' ∧ m_Fq w0 w') 0 0 3 300 := by
                                intro xz w ez h hF
                                rw [ez]
                                exact m_Rs.ret b_345 (m_rt_ir d_345_353 rfl rfl) (rP h0 h hF)
                              cases hc64 : m_c1 .eq v60 with
                              | true =>
                                have e63 := cT hc64 e63
                                refine m_Rs.n0 b_345 (x_ift d_345_333 rfl hc64) ?_
                                refine m_Rs.n0 b_345 (x_iconst (z := 0) d_345_352 (by decide)) ?_
                                exact kk62 _ _ (Option.some.inj e63) h hF
                              | false =>
                                have e63 := cF hc64 e63
                                refine m_Rs.n0 b_345 (x_iff d_345_333 rfl hc64) ?_
                                refine m_Rs.n0 b_345 (x_aload_n d_345_336 rfl) ?_
                                refine m_Rs.n0 b_345 (x_getf d_345_337 rfl h.1 rfl) ?_
                                refine m_Rs.n0 b_345 (x_iconst (z := 2) d_345_340 (by decide)) ?_
                                refine m_Rs.n0 b_345 (x_iload_n d_345_341 rfl) ?_
                                refine m_Rs.n0 b_345 (x_imul d_345_342 rfl) ?_
                                refine m_Rs.n0 b_345 (x_iload_n d_345_343 rfl) ?_
                                refine m_Rs.n0 b_345 (x_iadd d_345_344 rfl) ?_
                                refine m_Rs.n0 b_345 (x_bipush (z := 11) d_345_345 (by decide)) ?_
                                refine m_Rs.n0 b_345 (x_isub d_345_347 rfl) ?_
                                obtain ⟨v65, e66, e63⟩ := bS e63
                                refine m_Rs.dget b_345 d_345_348 h 35 rfl e66 ?_
                                refine m_Rs.n0 b_345 (x_goto d_345_349 rfl) ?_
                                exact kk62 _ _ (Option.some.inj e63) h hF
                            | false =>
                              have h0 := cF hc59 h0
                              cases hc68 : decide (x2 = (12 : Int32)) with
                              | true =>
                                have h0 := cT hc68 h0
                                refine m_Rs.n0 b_345 (x_tsw (t := 324) d_345_190 (by rw [of_decide_eq_true hc68]; rfl)) ?_
                                refine m_Rs.n0 b_345 (x_aload_n d_345_324 rfl) ?_
                                refine m_Rs.n0 b_345 (x_iload_n d_345_325 rfl) ?_
                                refine m_Rs.n0 b_345 (x_iload_n d_345_326 rfl) ?_
                                refine m_Rs.n0 b_345 (x_bipush (z := 10) d_345_327 (by decide)) ?_
                                refine m_Rs.n0 b_345 (x_isub d_345_329 rfl) ?_
                                obtain ⟨v69, e70, h0⟩ := bS h0
                                refine m_Rs.callS b_345 (y_cv d_345_330 rfl q_274 (m_isRecv_of rfl h.1) (show m_takeI _ _ = some (_, [_, _, _], []) from rfl) (by simp only [m_okf, List.all_cons, List.all_nil, Bool.and_true, Bool.and_self, m_okv_i, m_okv_l, m_okv_0, m_okv_t, m_okv_at h.1]) rfl) (T_m_isShunned h e70) hF rfl (fun w1 h hF => ?_) (by decide) (by decide)
                                obtain ⟨v76, e72, h0⟩ := bS h0
                                have kk71 : ∀ (xz : Int32) (w1 : List mM), xz = v76 → m_RM S w1 → m_Fq w0 w1 → m_Rs l M_345 (353, [(0, .ref 583), (1, .int x1), (2, .int x2), (3, .int x3), (4, .int x4), (5, .int x5), (6, .int x6), (7, .int x7)], [.int xz], w1) (fun v w' => v = some (.int r.1) ∧ m_RM r.2 w' ∧ m_Fq w0 w') 0 0 3 300 := by
                                  intro xz w ez h hF
                                  rw [ez]
                                  exact m_Rs.ret b_345 (m_rt_ir d_345_353 rfl rfl) (rP h0 h hF)
                                cases hc73 : m_c1 .eq v69 with
                                | true =>
                                  have e72 := cT hc73 e72
                                  refine m_Rs.n0 b_345 (x_ift d_345_333 rfl hc73) ?_
                                  refine m_Rs.n0 b_345 (x_iconst (z := 0) d_345_352 (by decide)) ?_
                                  exact kk71 _ _ (Option.some.inj e72) h hF
                                | false =>
                                  have e72 := cF hc73 e72
                                  refine m_Rs.n0 b_345 (x_iff d_345_333 rfl hc73) ?_
                                  refine m_Rs.n0 b_345 (x_aload_n d_345_336 rfl) ?_
                                  refine m_Rs.n0 b_345 (x_getf d_345_337 rfl h.1 rfl) ?_
                                  refine m_Rs.n0 b_345 (x_iconst (z := 2) d_345_340 (by decide)) ?_
                                  refine m_Rs.n0 b_345 (x_iload_n d_345_341 rfl) ?_
                                  refine m_Rs.n0 b_345 (x_imul d_345_342 rfl) ?_
                                  refine m_Rs.n0 b_345 (x_iload_n d_345_343 rfl) ?_
                                  refine m_Rs.n0 b_345 (x_iadd d_345_344 rfl) ?_
                                  refine m_Rs.n0 b_345 (x_bipush (z := 11) d_345_345 (by decide)) ?_
                                  refine m_Rs.n0 b_345 (x_isub d_345_347 rfl) ?_
                                  obtain ⟨v74, e75, e72⟩ := bS e72
                                  refine m_Rs.dget b_345 d_345_348 h 35 rfl e75 ?_
                                  refine m_Rs.n0 b_345 (x_goto d_345_349 rfl) ?_
                                  exact kk71 _ _ (Option.some.inj e72) h hF
                              | false =>
                                have h0 := cF hc68 h0
                                refine m_Rs.n0 b_345 (x_tsw (t := 354) d_345_190 (m_tsw_0 (n := 13) rfl (fun k hk => by match k, hk with | 0, _ => exact of_decide_eq_false hc30 | 1, _ => exact of_decide_eq_false hc37 | 2, _ => exact of_decide_eq_false hc38 | 3, _ => exact of_decide_eq_false hc41 | 4, _ => exact of_decide_eq_false hc42 | 5, _ => exact of_decide_eq_false hc45 | 6, _ => exact of_decide_eq_false hc48 | 7, _ => exact of_decide_eq_false hc49 | 8, _ => exact of_decide_eq_false hc50 | 9, _ => exact of_decide_eq_false hc53 | 10, _ => exact of_decide_eq_false hc56 | 11, _ => exact of_decide_eq_false hc59 | 12, _ => exact of_decide_eq_false hc68 | k + 13, hk => omega) rfl)) ?_
                                refine m_Rs.n0 b_345 (x_iconst (z := (-1)) d_345_354 (by decide)) ?_
                                exact m_Rs.ret b_345 (m_rt_ir d_345_355 rfl rfl) (rP h0 h hF)
    | false =>
      have h0 := cF hc29 h0
      refine m_Rs.n0 b_345 (x_icf d_345_156 rfl hc29) ?_
      refine m_Rs.n0 b_345 (x_iload d_345_159 rfl) ?_
      refine m_Rs.n0 b_345 (x_aload_n d_345_161 rfl) ?_
      refine m_Rs.n0 b_345 (x_getf d_345_162 rfl h.1 rfl) ?_
      refine m_Rs.n0 b_345 (x_bipush (z := 12) d_345_165 (by decide)) ?_
      refine m_Rs.n0 b_345 (x_iload d_345_167 rfl) ?_
      refine m_Rs.n0 b_345 (x_imul d_345_169 rfl) ?_
      obtain ⟨v77, e78, h0⟩ := bS h0
      refine m_Rs.dget b_345 d_345_170 h 38 rfl e78 ?_
      refine m_Rs.n0 b_345 (x_iload_n d_345_171 rfl) ?_
      obtain ⟨v82, e80, h0⟩ := bS h0
      have kk79 : ∀ (xz : Int32) (w1 : List mM), xz = v82 → m_RM S w1 → m_Fq w0 w1 → m_Rs l M_345 (180, [(0, .ref 583), (1, .int x1), (2, .int x2), (3, .int x3), (4, .int x4), (5, .int x5), (6, .int x6), (7, .int x7)], [.int xz, .int x6], w1) (fun v w' => v = some (.int r.1) ∧ m_RM r.2 w' ∧ m_Fq w0 w') 0 0 3 300 := by
        intro xz w ez h hF
        rw [ez]
        refine m_Rs.n0 b_345 (x_iadd d_345_180 rfl) ?_
        refine m_Rs.n0 b_345 (x_istore d_345_181 rfl (show m_put1 _ _ _ = [(6, _), (0, _), (1, _), (2, _), (3, _), (4, _), (5, _), (7, _)] from rfl)) ?_
        refine m_Rs.n0 b_345 (x_iinc d_345_183 rfl rfl rfl (show m_put1 _ _ _ = [(7, _), (6, _), (0, _), (1, _), (2, _), (3, _), (4, _), (5, _)] from rfl)) ?_
        refine m_Rs.n0 b_345 (x_goto d_345_186 rfl) ?_
        exact m_Rs.pick [2, 3, 4, 5, 6, 7, 1, 0] rfl (ih h hF h0)
      cases hc81 : m_c2 .ne v77 x1 with
      | true =>
        have e80 := cT hc81 e80
        refine m_Rs.n0 b_345 (x_ict d_345_172 rfl hc81) ?_
        refine m_Rs.n0 b_345 (x_iconst (z := 0) d_345_179 (by decide)) ?_
        exact kk79 _ _ (Option.some.inj e80) h hF
      | false =>
        have e80 := cF hc81 e80
        refine m_Rs.n0 b_345 (x_icf d_345_172 rfl hc81) ?_
        refine m_Rs.n0 b_345 (x_iconst (z := 1) d_345_175 (by decide)) ?_
        refine m_Rs.n0 b_345 (x_goto d_345_176 rfl) ?_
        exact kk79 _ _ (Option.some.inj e80) h hF
def D_m_node_104 (F : Nat) : Nat → Int32 → Int32 → Int32 → Int32 → Int32 → Int32 → mS → Option (Int32 × mS)
  | 0, _, _, _, _, _, _, _ => none
  | n + 1, x1, x2, x3, x4, x5, x6, S => cond (m_c2 .ge x6 (((128 : Int32) * x1) + (128 : Int32))) (D_m_node_150 F F x1 x2 x3 x4 x5 (0 : Int32) (0 : Int32) S) ((aget 4 896 S 609 x6).bind fun v23 => (cond (m_c1 .eq v23) (some (0 : Int32)) (some (1 : Int32))).bind fun v28 => D_m_node_104 F n x1 x2 x3 x4 (x5 + v28) (x6 + Int32.ofInt 1) S)
theorem T_m_node_104 {l : Launch} {w0 : List mM} {F : Nat} : ∀ (n : Nat) {x1 : Int32} {x2 : Int32} {x3 : Int32} {x4 : Int32} {x5 : Int32} {x6 : Int32} {S : mS} {w : List mM} {r : Int32 × mS}, m_RM S w → m_Fq w0 w → D_m_node_104 F n x1 x2 x3 x4 x5 x6 S = some r → m_Rs l M_345 (104, [(0, .ref 583), (1, .int x1), (2, .int x2), (3, .int x3), (4, .int x4), (5, .int x5), (6, .int x6)], [], w) (fun v w' => v = some (.int r.1) ∧ m_RM r.2 w' ∧ m_Fq w0 w') 0 0 3 300 := by
  intro n
  induction n with
  | zero => intro x1 x2 x3 x4 x5 x6 S w r h hF h0; cases h0
  | succ n ih =>
    intro x1 x2 x3 x4 x5 x6 S w r h hF h0
    rw [D_m_node_104] at h0
    refine m_Rs.n0 b_345 (x_iload d_345_104 rfl) ?_
    refine m_Rs.n0 b_345 (x_sipush (z := 128) d_345_106 (by decide)) ?_
    refine m_Rs.n0 b_345 (x_iload_n d_345_109 rfl) ?_
    refine m_Rs.n0 b_345 (x_imul d_345_110 rfl) ?_
    refine m_Rs.n0 b_345 (x_sipush (z := 128) d_345_111 (by decide)) ?_
    refine m_Rs.n0 b_345 (x_iadd d_345_114 rfl) ?_
    cases hc22 : m_c2 .ge x6 (((128 : Int32) * x1) + (128 : Int32)) with
    | true =>
      have h0 := cT hc22 h0
      refine m_Rs.n0 b_345 (x_ict d_345_115 rfl hc22) ?_
      refine m_Rs.n0 b_345 (x_iconst (z := 0) d_345_144 (by decide)) ?_
      refine m_Rs.n0 b_345 (x_istore d_345_145 rfl (show m_put1 _ _ _ = [(6, _), (0, _), (1, _), (2, _), (3, _), (4, _), (5, _)] from rfl)) ?_
      refine m_Rs.n0 b_345 (x_iconst (z := 0) d_345_147 (by decide)) ?_
      refine m_Rs.n0 b_345 (x_istore d_345_148 rfl (show m_put1 _ _ _ = [(7, _), (6, _), (0, _), (1, _), (2, _), (3, _), (4, _), (5, _)] from rfl)) ?_
      exact m_Rs.pick [2, 3, 4, 5, 6, 7, 1, 0] rfl (T_m_node_150 F h hF h0)
    | false =>
      have h0 := cF hc22 h0
      refine m_Rs.n0 b_345 (x_icf d_345_115 rfl hc22) ?_
      refine m_Rs.n0 b_345 (x_iload d_345_118 rfl) ?_
      refine m_Rs.n0 b_345 (x_aload_n d_345_120 rfl) ?_
      refine m_Rs.n0 b_345 (x_getf d_345_121 rfl h.1 rfl) ?_
      refine m_Rs.n0 b_345 (x_iload d_345_124 rfl) ?_
      obtain ⟨v23, e24, h0⟩ := bS h0
      refine m_Rs.dgetb b_345 d_345_126 h 25 rfl e24 ?_
      obtain ⟨v28, e26, h0⟩ := bS h0
      have kk25 : ∀ (xz : Int32) (w1 : List mM), xz = v28 → m_RM S w1 → m_Fq w0 w1 → m_Rs l M_345 (135, [(0, .ref 583), (1, .int x1), (2, .int x2), (3, .int x3), (4, .int x4), (5, .int x5), (6, .int x6)], [.int xz, .int x5], w1) (fun v w' => v = some (.int r.1) ∧ m_RM r.2 w' ∧ m_Fq w0 w') 0 0 3 300 := by
        intro xz w ez h hF
        rw [ez]
        refine m_Rs.n0 b_345 (x_iadd d_345_135 rfl) ?_
        refine m_Rs.n0 b_345 (x_istore d_345_136 rfl (show m_put1 _ _ _ = [(5, _), (0, _), (1, _), (2, _), (3, _), (4, _), (6, _)] from rfl)) ?_
        refine m_Rs.n0 b_345 (x_iinc d_345_138 rfl rfl rfl (show m_put1 _ _ _ = [(6, _), (5, _), (0, _), (1, _), (2, _), (3, _), (4, _)] from rfl)) ?_
        refine m_Rs.n0 b_345 (x_goto d_345_141 rfl) ?_
        exact m_Rs.pick [2, 3, 4, 5, 6, 1, 0] rfl (ih h hF h0)
      cases hc27 : m_c1 .eq v23 with
      | true =>
        have e26 := cT hc27 e26
        refine m_Rs.n0 b_345 (x_ift d_345_127 rfl hc27) ?_
        refine m_Rs.n0 b_345 (x_iconst (z := 0) d_345_134 (by decide)) ?_
        exact kk25 _ _ (Option.some.inj e26) h hF
      | false =>
        have e26 := cF hc27 e26
        refine m_Rs.n0 b_345 (x_iff d_345_127 rfl hc27) ?_
        refine m_Rs.n0 b_345 (x_iconst (z := 1) d_345_130 (by decide)) ?_
        refine m_Rs.n0 b_345 (x_goto d_345_131 rfl) ?_
        exact kk25 _ _ (Option.some.inj e26) h hF
def D_m_node_29 (F : Nat) : Nat → Int32 → Int32 → Int32 → Int32 → Int32 → Int32 → mS → Option (Int32 × mS)
  | 0, _, _, _, _, _, _, _ => none
  | n + 1, x1, x2, x3, x4, x5, x6, S => cond (m_c2 .ge x6 (((1024 : Int32) * x1) + (1024 : Int32))) (D_m_node_104 F F x1 x2 x3 x4 x5 ((128 : Int32) * x1) S) ((aget 4 7168 S 601 x6).bind fun v7 => (cond (m_c1 .eq v7) (some (0 : Int32)) (some (1 : Int32))).bind fun v12 => (aget 4 7168 S 601 x6).bind fun v13 => (cond (m_c1 .eq v13) (some (0 : Int32)) ((aget 4 7168 S 602 x6).bind fun v18 => cond (m_c1 .eq v18) (some (0 : Int32)) (some (1 : Int32)))).bind fun v21 => D_m_node_29 F n x1 x2 (x3 + v12) (x4 + v21) x5 (x6 + Int32.ofInt 1) S)
theorem T_m_node_29 {l : Launch} {w0 : List mM} {F : Nat} : ∀ (n : Nat) {x1 : Int32} {x2 : Int32} {x3 : Int32} {x4 : Int32} {x5 : Int32} {x6 : Int32} {S : mS} {w : List mM} {r : Int32 × mS}, m_RM S w → m_Fq w0 w → D_m_node_29 F n x1 x2 x3 x4 x5 x6 S = some r → m_Rs l M_345 (29, [(0, .ref 583), (1, .int x1), (2, .int x2), (3, .int x3), (4, .int x4), (5, .int x5), (6, .int x6)], [], w) (fun v w' => v = some (.int r.1) ∧ m_RM r.2 w' ∧ m_Fq w0 w') 0 0 3 300 := by
  intro n
  induction n with
  | zero => intro x1 x2 x3 x4 x5 x6 S w r h hF h0; cases h0
  | succ n ih =>
    intro x1 x2 x3 x4 x5 x6 S w r h hF h0
    rw [D_m_node_29] at h0
    refine m_Rs.n0 b_345 (x_iload d_345_29 rfl) ?_
    refine m_Rs.n0 b_345 (x_sipush (z := 1024) d_345_31 (by decide)) ?_
    refine m_Rs.n0 b_345 (x_iload_n d_345_34 rfl) ?_
    refine m_Rs.n0 b_345 (x_imul d_345_35 rfl) ?_
    refine m_Rs.n0 b_345 (x_sipush (z := 1024) d_345_36 (by decide)) ?_
    refine m_Rs.n0 b_345 (x_iadd d_345_39 rfl) ?_
    cases hc6 : m_c2 .ge x6 (((1024 : Int32) * x1) + (1024 : Int32)) with
    | true =>
      have h0 := cT hc6 h0
      refine m_Rs.n0 b_345 (x_ict d_345_40 rfl hc6) ?_
      refine m_Rs.n0 b_345 (x_sipush (z := 128) d_345_97 (by decide)) ?_
      refine m_Rs.n0 b_345 (x_iload_n d_345_100 rfl) ?_
      refine m_Rs.n0 b_345 (x_imul d_345_101 rfl) ?_
      refine m_Rs.n0 b_345 (x_istore d_345_102 rfl (show m_put1 _ _ _ = [(6, _), (0, _), (1, _), (2, _), (3, _), (4, _), (5, _)] from rfl)) ?_
      exact m_Rs.pick [1, 2, 3, 4, 5, 6, 0] rfl (T_m_node_104 F h hF h0)
    | false =>
      have h0 := cF hc6 h0
      refine m_Rs.n0 b_345 (x_icf d_345_40 rfl hc6) ?_
      refine m_Rs.n0 b_345 (x_iload_n d_345_43 rfl) ?_
      refine m_Rs.n0 b_345 (x_aload_n d_345_44 rfl) ?_
      refine m_Rs.n0 b_345 (x_getf d_345_45 rfl h.1 rfl) ?_
      refine m_Rs.n0 b_345 (x_iload d_345_48 rfl) ?_
      obtain ⟨v7, e8, h0⟩ := bS h0
      refine m_Rs.dgetb b_345 d_345_50 h 17 rfl e8 ?_
      obtain ⟨v12, e10, h0⟩ := bS h0
      have kk9 : ∀ (xz : Int32) (w1 : List mM), xz = v12 → m_RM S w1 → m_Fq w0 w1 → m_Rs l M_345 (59, [(0, .ref 583), (1, .int x1), (2, .int x2), (3, .int x3), (4, .int x4), (5, .int x5), (6, .int x6)], [.int xz, .int x3], w1) (fun v w' => v = some (.int r.1) ∧ m_RM r.2 w' ∧ m_Fq w0 w') 0 0 3 300 := by
        intro xz w ez h hF
        rw [ez]
        refine m_Rs.n0 b_345 (x_iadd d_345_59 rfl) ?_
        refine m_Rs.n0 b_345 (x_istore_n d_345_60 rfl (show m_put1 _ _ _ = [(3, _), (0, _), (1, _), (2, _), (4, _), (5, _), (6, _)] from rfl)) ?_
        refine m_Rs.n0 b_345 (x_iload d_345_61 rfl) ?_
        refine m_Rs.n0 b_345 (x_aload_n d_345_63 rfl) ?_
        refine m_Rs.n0 b_345 (x_getf d_345_64 rfl h.1 rfl) ?_
        refine m_Rs.n0 b_345 (x_iload d_345_67 rfl) ?_
        obtain ⟨v13, e14, h0⟩ := bS h0
        refine m_Rs.dgetb b_345 d_345_69 h 17 rfl e14 ?_
        obtain ⟨v21, e16, h0⟩ := bS h0
        have kk15 : ∀ (xz : Int32) (w1 : List mM), xz = v21 → m_RM S w1 → m_Fq w0 w1 → m_Rs l M_345 (88, [(3, .int (x3 + v12)), (0, .ref 583), (1, .int x1), (2, .int x2), (4, .int x4), (5, .int x5), (6, .int x6)], [.int xz, .int x4], w1) (fun v w' => v = some (.int r.1) ∧ m_RM r.2 w' ∧ m_Fq w0 w') 0 0 3 300 := by
          intro xz w ez h hF
          rw [ez]
          refine m_Rs.n0 b_345 (x_iadd d_345_88 rfl) ?_
          refine m_Rs.n0 b_345 (x_istore d_345_89 rfl (show m_put1 _ _ _ = [(4, _), (3, _), (0, _), (1, _), (2, _), (5, _), (6, _)] from rfl)) ?_
          refine m_Rs.n0 b_345 (x_iinc d_345_91 rfl rfl rfl (show m_put1 _ _ _ = [(6, _), (4, _), (3, _), (0, _), (1, _), (2, _), (5, _)] from rfl)) ?_
          refine m_Rs.n0 b_345 (x_goto d_345_94 rfl) ?_
          exact m_Rs.pick [3, 4, 5, 2, 1, 6, 0] rfl (ih h hF h0)
        cases hc17 : m_c1 .eq v13 with
        | true =>
          have e16 := cT hc17 e16
          refine m_Rs.n0 b_345 (x_ift d_345_70 rfl hc17) ?_
          refine m_Rs.n0 b_345 (x_iconst (z := 0) d_345_87 (by decide)) ?_
          exact kk15 _ _ (Option.some.inj e16) h hF
        | false =>
          have e16 := cF hc17 e16
          refine m_Rs.n0 b_345 (x_iff d_345_70 rfl hc17) ?_
          refine m_Rs.n0 b_345 (x_aload_n d_345_73 rfl) ?_
          refine m_Rs.n0 b_345 (x_getf d_345_74 rfl h.1 rfl) ?_
          refine m_Rs.n0 b_345 (x_iload d_345_77 rfl) ?_
          obtain ⟨v18, e19, e16⟩ := bS e16
          refine m_Rs.dgetb b_345 d_345_79 h 18 rfl e19 ?_
          cases hc20 : m_c1 .eq v18 with
          | true =>
            have e16 := cT hc20 e16
            refine m_Rs.n0 b_345 (x_ift d_345_80 rfl hc20) ?_
            refine m_Rs.n0 b_345 (x_iconst (z := 0) d_345_87 (by decide)) ?_
            exact kk15 _ _ (Option.some.inj e16) h hF
          | false =>
            have e16 := cF hc20 e16
            refine m_Rs.n0 b_345 (x_iff d_345_80 rfl hc20) ?_
            refine m_Rs.n0 b_345 (x_iconst (z := 1) d_345_83 (by decide)) ?_
            refine m_Rs.n0 b_345 (x_goto d_345_84 rfl) ?_
            exact kk15 _ _ (Option.some.inj e16) h hF
      cases hc11 : m_c1 .eq v7 with
      | true =>
        have e10 := cT hc11 e10
        refine m_Rs.n0 b_345 (x_ift d_345_51 rfl hc11) ?_
        refine m_Rs.n0 b_345 (x_iconst (z := 0) d_345_58 (by decide)) ?_
        exact kk9 _ _ (Option.some.inj e10) h hF
      | false =>
        have e10 := cF hc11 e10
        refine m_Rs.n0 b_345 (x_iff d_345_51 rfl hc11) ?_
        refine m_Rs.n0 b_345 (x_iconst (z := 1) d_345_54 (by decide)) ?_
        refine m_Rs.n0 b_345 (x_goto d_345_55 rfl) ?_
        exact kk9 _ _ (Option.some.inj e10) h hF
def D_m_node (F : Nat) (a0 : Int32) (a1 : Int32) (S : mS) : Option (Int32 × mS) := (fput S 0 (0 : Int32)).bind fun S1 => (D_m_isNode F a0 S1).bind fun v3 => cond (m_c1 .ne v3) (D_m_node_29 F F a0 a1 (0 : Int32) (0 : Int32) (0 : Int32) ((1024 : Int32) * a0) S1) (some (((-1) : Int32), S1))
theorem T_m_node {l : Launch} {w : List mM} {F : Nat} {a0 : Int32} {a1 : Int32} {S : mS} {r : Int32 × mS} (h : m_RM S w) (h0 : D_m_node F a0 a1 S = some r) : m_Rs l M_345 (m_ent M_345 [.ref 583, .int a0, .int a1] w) (fun v w' => v = some (.int r.1) ∧ m_RM r.2 w' ∧ m_Fq w w') 0 0 3 300 := by
  show m_Rs l M_345 (0, [(0, .ref 583), (1, .int a0), (2, .int a1)], [], w) _ 0 0 3 300
  generalize hw0 : w = w0 at h ⊢
  have hF : m_Fq w0 w0 := m_Fq.refl
  rw [D_m_node] at h0
  refine m_Rs.n0 b_345 (x_aload_n d_345_0 rfl) ?_
  refine m_Rs.n0 b_345 (x_iconst (z := 0) d_345_1 (by decide)) ?_
  obtain ⟨S1, e2, h0⟩ := bS h0
  refine m_Rs.dfput b_345 d_345_2 h hF e2 rfl rfl rfl rfl rfl rfl (fun w1 h hF => ?_)
  refine m_Rs.n0 b_345 (x_iload_n d_345_5 rfl) ?_
  obtain ⟨v3, e4, h0⟩ := bS h0
  refine m_Rs.callS b_345 (y_cs d_345_6 rfl q_333 (show m_takeS _ _ = some (_, [_], []) from rfl) (by simp only [m_okf, List.all_cons, List.all_nil, Bool.and_true, Bool.and_self, m_okv_i, m_okv_l, m_okv_0, m_okv_t, m_okv_at h.1]) rfl) (T_m_isNode h e4) hF rfl (fun w1 h hF => ?_) (by decide) (by decide)
  cases hc5 : m_c1 .ne v3 with
  | true =>
    have h0 := cT hc5 h0
    refine m_Rs.n0 b_345 (x_ift d_345_9 rfl hc5) ?_
    refine m_Rs.n0 b_345 (x_iconst (z := 0) d_345_14 (by decide)) ?_
    refine m_Rs.n0 b_345 (x_istore_n d_345_15 rfl (show m_put1 _ _ _ = [(3, _), (0, _), (1, _), (2, _)] from rfl)) ?_
    refine m_Rs.n0 b_345 (x_iconst (z := 0) d_345_16 (by decide)) ?_
    refine m_Rs.n0 b_345 (x_istore d_345_17 rfl (show m_put1 _ _ _ = [(4, _), (3, _), (0, _), (1, _), (2, _)] from rfl)) ?_
    refine m_Rs.n0 b_345 (x_iconst (z := 0) d_345_19 (by decide)) ?_
    refine m_Rs.n0 b_345 (x_istore d_345_20 rfl (show m_put1 _ _ _ = [(5, _), (4, _), (3, _), (0, _), (1, _), (2, _)] from rfl)) ?_
    refine m_Rs.n0 b_345 (x_sipush (z := 1024) d_345_22 (by decide)) ?_
    refine m_Rs.n0 b_345 (x_iload_n d_345_25 rfl) ?_
    refine m_Rs.n0 b_345 (x_imul d_345_26 rfl) ?_
    refine m_Rs.n0 b_345 (x_istore d_345_27 rfl (show m_put1 _ _ _ = [(6, _), (5, _), (4, _), (3, _), (0, _), (1, _), (2, _)] from rfl)) ?_
    exact m_Rs.pick [4, 5, 6, 3, 2, 1, 0] rfl (T_m_node_29 F h hF h0)
  | false =>
    have h0 := cF hc5 h0
    refine m_Rs.n0 b_345 (x_iff d_345_9 rfl hc5) ?_
    refine m_Rs.n0 b_345 (x_iconst (z := (-1)) d_345_12 (by decide)) ?_
    exact m_Rs.ret b_345 (m_rt_ir d_345_13 rfl rfl) (rP h0 h hF)
def D_m_entry_116 (F : Nat) : Nat → Int32 → Int32 → Int32 → Int32 → Int32 → mS → Option (Int32 × mS)
  | 0, _, _, _, _, _, _ => none
  | n + 1, x1, x5, x6, x7, x8, S => cond (m_c2 .ge x8 (((1024 : Int32) * x1) + (1024 : Int32))) (cond (decide (x5 = (0 : Int32))) ((D_m_told F x6 (0 : Int32) S).bind fun v21 => some (v21, S)) (cond (decide (x5 = (1 : Int32))) ((D_m_ageOf F x6 S).bind fun v24 => some (v24, S)) (cond (decide (x5 = (2 : Int32))) ((aget 0 7168 S 607 x6).bind fun v27 => some ((F_bc v27), S)) (cond (decide (x5 = (3 : Int32))) ((aget 0 7168 S 604 x6).bind fun v30 => some (v30, S)) (cond (decide (x5 = (4 : Int32))) ((aget 4 7168 S 602 x6).bind fun v33 => (cond (m_c1 .eq v33) (some (0 : Int32)) (some (1 : Int32))).bind fun v38 => some (v38, S)) (cond (decide (x5 = (5 : Int32))) (some (x7, S)) (cond (decide (x5 = (6 : Int32))) ((D_m_told F x6 (8 : Int32) S).bind fun v41 => some (v41, S)) (some (((-1) : Int32), S))))))))) ((aget 4 7168 S 601 x8).bind fun v43 => (cond (m_c1 .eq v43) (some (0 : Int32)) ((aget 4 7168 S 602 x8).bind fun v48 => (aget 4 7168 S 602 x6).bind fun v50 => cond (m_c2 .ne v48 v50) (some (0 : Int32)) ((aget 0 7168 S 608 x8).bind fun v53 => (aget 0 7168 S 608 x6).bind fun v55 => cond (m_c2 .ge v53 v55) (some (0 : Int32)) (some (1 : Int32))))).bind fun v58 => D_m_entry_116 F n x1 x5 x6 (x7 + v58) (x8 + Int32.ofInt 1) S)
theorem T_m_entry_116 {l : Launch} {w0 : List mM} {F : Nat} : ∀ (n : Nat) {x1 : Int32} {x5 : Int32} {x6 : Int32} {x7 : Int32} {x8 : Int32} {S : mS} {w : List mM} {r : Int32 × mS}, m_RM S w → m_Fq w0 w → D_m_entry_116 F n x1 x5 x6 x7 x8 S = some r → m_Rs l M_346 (116, [(0, .ref 583), (1, .int x1), (5, .int x5), (6, .int x6), (7, .int x7), (8, .int x8)], [], w) (fun v w' => v = some (.int r.1) ∧ m_RM r.2 w' ∧ m_Fq w0 w') 0 0 1 100 := by
  intro n
  induction n with
  | zero => intro x1 x5 x6 x7 x8 S w r h hF h0; cases h0
  | succ n ih =>
    intro x1 x5 x6 x7 x8 S w r h hF h0
    rw [D_m_entry_116] at h0
    refine m_Rs.n0 b_346 (x_iload d_346_116 rfl) ?_
    refine m_Rs.n0 b_346 (x_sipush (z := 1024) d_346_118 (by decide)) ?_
    refine m_Rs.n0 b_346 (x_iload_n d_346_121 rfl) ?_
    refine m_Rs.n0 b_346 (x_imul d_346_122 rfl) ?_
    refine m_Rs.n0 b_346 (x_sipush (z := 1024) d_346_123 (by decide)) ?_
    refine m_Rs.n0 b_346 (x_iadd d_346_126 rfl) ?_
    cases hc19 : m_c2 .ge x8 (((1024 : Int32) * x1) + (1024 : Int32)) with
    | true =>
      have h0 := cT hc19 h0
      refine m_Rs.n0 b_346 (x_ict d_346_127 rfl hc19) ?_
      refine m_Rs.n0 b_346 (x_iload d_346_190 rfl) ?_
      cases hc20 : decide (x5 = (0 : Int32)) with
      | true =>
        have h0 := cT hc20 h0
        refine m_Rs.n0 b_346 (x_tsw (t := 236) d_346_192 (by rw [of_decide_eq_true hc20]; rfl)) ?_
        refine m_Rs.n0 b_346 (x_aload_n d_346_236 rfl) ?_
        refine m_Rs.n0 b_346 (x_iload d_346_237 rfl) ?_
        refine m_Rs.n0 b_346 (x_iconst (z := 0) d_346_239 (by decide)) ?_
        obtain ⟨v21, e22, h0⟩ := bS h0
        refine m_Rs.callS b_346 (y_cv d_346_240 rfl q_278 (m_isRecv_of rfl h.1) (show m_takeI _ _ = some (_, [_, _, _], []) from rfl) (by simp only [m_okf, List.all_cons, List.all_nil, Bool.and_true, Bool.and_self, m_okv_i, m_okv_l, m_okv_0, m_okv_t, m_okv_at h.1]) rfl) (T_m_told h e22) hF rfl (fun w1 h hF => ?_) (by decide) (by decide)
        exact m_Rs.ret b_346 (m_rt_ir d_346_243 rfl rfl) (rP h0 h hF)
      | false =>
        have h0 := cF hc20 h0
        cases hc23 : decide (x5 = (1 : Int32)) with
        | true =>
          have h0 := cT hc23 h0
          refine m_Rs.n0 b_346 (x_tsw (t := 244) d_346_192 (by rw [of_decide_eq_true hc23]; rfl)) ?_
          refine m_Rs.n0 b_346 (x_aload_n d_346_244 rfl) ?_
          refine m_Rs.n0 b_346 (x_iload d_346_245 rfl) ?_
          obtain ⟨v24, e25, h0⟩ := bS h0
          refine m_Rs.callS b_346 (y_cv d_346_247 rfl q_292 (m_isRecv_of rfl h.1) (show m_takeI _ _ = some (_, [_, _], []) from rfl) (by simp only [m_okf, List.all_cons, List.all_nil, Bool.and_true, Bool.and_self, m_okv_i, m_okv_l, m_okv_0, m_okv_t, m_okv_at h.1]) rfl) (T_m_ageOf h e25) hF rfl (fun w1 h hF => ?_) (by decide) (by decide)
          exact m_Rs.ret b_346 (m_rt_ir d_346_250 rfl rfl) (rP h0 h hF)
        | false =>
          have h0 := cF hc23 h0
          cases hc26 : decide (x5 = (2 : Int32)) with
          | true =>
            have h0 := cT hc26 h0
            refine m_Rs.n0 b_346 (x_tsw (t := 251) d_346_192 (by rw [of_decide_eq_true hc26]; rfl)) ?_
            refine m_Rs.n0 b_346 (x_aload_n d_346_251 rfl) ?_
            refine m_Rs.n0 b_346 (x_getf d_346_252 rfl h.1 rfl) ?_
            refine m_Rs.n0 b_346 (x_iload d_346_255 rfl) ?_
            obtain ⟨v27, e28, h0⟩ := bS h0
            refine m_Rs.dget b_346 d_346_257 h 23 rfl e28 ?_
            refine m_Rs.callE b_346 (y_cs d_346_258 rfl q_100 (show m_takeS _ _ = some (_, [_], []) from rfl) (by simp only [m_okf, List.all_cons, List.all_nil, Bool.and_true, Bool.and_self, m_okv_i, m_okv_l, m_okv_0, m_okv_t, m_okv_at h.1]) rfl) P_bc rfl ?_ (by decide) (by decide)
            exact m_Rs.ret b_346 (m_rt_ir d_346_261 rfl rfl) (rP h0 h hF)
          | false =>
            have h0 := cF hc26 h0
            cases hc29 : decide (x5 = (3 : Int32)) with
            | true =>
              have h0 := cT hc29 h0
              refine m_Rs.n0 b_346 (x_tsw (t := 262) d_346_192 (by rw [of_decide_eq_true hc29]; rfl)) ?_
              refine m_Rs.n0 b_346 (x_aload_n d_346_262 rfl) ?_
              refine m_Rs.n0 b_346 (x_getf d_346_263 rfl h.1 rfl) ?_
              refine m_Rs.n0 b_346 (x_iload d_346_266 rfl) ?_
              obtain ⟨v30, e31, h0⟩ := bS h0
              refine m_Rs.dget b_346 d_346_268 h 20 rfl e31 ?_
              exact m_Rs.ret b_346 (m_rt_ir d_346_269 rfl rfl) (rP h0 h hF)
            | false =>
              have h0 := cF hc29 h0
              cases hc32 : decide (x5 = (4 : Int32)) with
              | true =>
                have h0 := cT hc32 h0
                refine m_Rs.n0 b_346 (x_tsw (t := 270) d_346_192 (by rw [of_decide_eq_true hc32]; rfl)) ?_
                refine m_Rs.n0 b_346 (x_aload_n d_346_270 rfl) ?_
                refine m_Rs.n0 b_346 (x_getf d_346_271 rfl h.1 rfl) ?_
                refine m_Rs.n0 b_346 (x_iload d_346_274 rfl) ?_
                obtain ⟨v33, e34, h0⟩ := bS h0
                refine m_Rs.dgetb b_346 d_346_276 h 18 rfl e34 ?_
                obtain ⟨v38, e36, h0⟩ := bS h0
                have kk35 : ∀ (xz : Int32) (w1 : List mM), xz = v38 → m_RM S w1 → m_Fq w0 w1 → m_Rs l M_346 (285, [(0, .ref 583), (1, .int x1), (5, .int x5), (6, .int x6), (7, .int x7), (8, .int x8)], [.int xz], w1) (fun v w' => v = some (.int r.1) ∧ m_RM r.2 w' ∧ m_Fq w0 w') 0 0 1 100 := by
                  intro xz w ez h hF
                  rw [ez]
                  exact m_Rs.ret b_346 (m_rt_ir d_346_285 rfl rfl) (rP h0 h hF)
                cases hc37 : m_c1 .eq v33 with
                | true =>
                  have e36 := cT hc37 e36
                  refine m_Rs.n0 b_346 (x_ift d_346_277 rfl hc37) ?_
                  refine m_Rs.n0 b_346 (x_iconst (z := 0) d_346_284 (by decide)) ?_
                  exact kk35 _ _ (Option.some.inj e36) h hF
                | false =>
                  have e36 := cF hc37 e36
                  refine m_Rs.n0 b_346 (x_iff d_346_277 rfl hc37) ?_
                  refine m_Rs.n0 b_346 (x_iconst (z := 1) d_346_280 (by decide)) ?_
                  refine m_Rs.n0 b_346 (x_goto d_346_281 rfl) ?_
                  exact kk35 _ _ (Option.some.inj e36) h hF
              | false =>
                have h0 := cF hc32 h0
                cases hc39 : decide (x5 = (5 : Int32)) with
                | true =>
                  have h0 := cT hc39 h0
                  refine m_Rs.n0 b_346 (x_tsw (t := 286) d_346_192 (by rw [of_decide_eq_true hc39]; rfl)) ?_
                  refine m_Rs.n0 b_346 (x_iload d_346_286 rfl) ?_
                  exact m_Rs.ret b_346 (m_rt_ir d_346_288 rfl rfl) (rP h0 h hF)
                | false =>
                  have h0 := cF hc39 h0
                  cases hc40 : decide (x5 = (6 : Int32)) with
                  | true =>
                    have h0 := cT hc40 h0
                    refine m_Rs.n0 b_346 (x_tsw (t := 289) d_346_192 (by rw [of_decide_eq_true hc40]; rfl)) ?_
                    refine m_Rs.n0 b_346 (x_aload_n d_346_289 rfl) ?_
                    refine m_Rs.n0 b_346 (x_iload d_346_290 rfl) ?_
                    refine m_Rs.n0 b_346 (x_bipush (z := 8) d_346_292 (by decide)) ?_
                    obtain ⟨v41, e42, h0⟩ := bS h0
                    refine m_Rs.callS b_346 (y_cv d_346_294 rfl q_278 (m_isRecv_of rfl h.1) (show m_takeI _ _ = some (_, [_, _, _], []) from rfl) (by simp only [m_okf, List.all_cons, List.all_nil, Bool.and_true, Bool.and_self, m_okv_i, m_okv_l, m_okv_0, m_okv_t, m_okv_at h.1]) rfl) (T_m_told h e42) hF rfl (fun w1 h hF => ?_) (by decide) (by decide)
                    exact m_Rs.ret b_346 (m_rt_ir d_346_297 rfl rfl) (rP h0 h hF)
                  | false =>
                    have h0 := cF hc40 h0
                    refine m_Rs.n0 b_346 (x_tsw (t := 298) d_346_192 (m_tsw_0 (n := 7) rfl (fun k hk => by match k, hk with | 0, _ => exact of_decide_eq_false hc20 | 1, _ => exact of_decide_eq_false hc23 | 2, _ => exact of_decide_eq_false hc26 | 3, _ => exact of_decide_eq_false hc29 | 4, _ => exact of_decide_eq_false hc32 | 5, _ => exact of_decide_eq_false hc39 | 6, _ => exact of_decide_eq_false hc40 | k + 7, hk => omega) rfl)) ?_
                    refine m_Rs.n0 b_346 (x_iconst (z := (-1)) d_346_298 (by decide)) ?_
                    exact m_Rs.ret b_346 (m_rt_ir d_346_299 rfl rfl) (rP h0 h hF)
    | false =>
      have h0 := cF hc19 h0
      refine m_Rs.n0 b_346 (x_icf d_346_127 rfl hc19) ?_
      refine m_Rs.n0 b_346 (x_iload d_346_130 rfl) ?_
      refine m_Rs.n0 b_346 (x_aload_n d_346_132 rfl) ?_
      refine m_Rs.n0 b_346 (x_getf d_346_133 rfl h.1 rfl) ?_
      refine m_Rs.n0 b_346 (x_iload d_346_136 rfl) ?_
      obtain ⟨v43, e44, h0⟩ := bS h0
      refine m_Rs.dgetb b_346 d_346_138 h 17 rfl e44 ?_
      obtain ⟨v58, e46, h0⟩ := bS h0
      have kk45 : ∀ (xz : Int32) (w1 : List mM), xz = v58 → m_RM S w1 → m_Fq w0 w1 → m_Rs l M_346 (181, [(0, .ref 583), (1, .int x1), (5, .int x5), (6, .int x6), (7, .int x7), (8, .int x8)], [.int xz, .int x7], w1) (fun v w' => v = some (.int r.1) ∧ m_RM r.2 w' ∧ m_Fq w0 w') 0 0 1 100 := by
        intro xz w ez h hF
        rw [ez]
        refine m_Rs.n0 b_346 (x_iadd d_346_181 rfl) ?_
        refine m_Rs.n0 b_346 (x_istore d_346_182 rfl (show m_put1 _ _ _ = [(7, _), (0, _), (1, _), (5, _), (6, _), (8, _)] from rfl)) ?_
        refine m_Rs.n0 b_346 (x_iinc d_346_184 rfl rfl rfl (show m_put1 _ _ _ = [(8, _), (7, _), (0, _), (1, _), (5, _), (6, _)] from rfl)) ?_
        refine m_Rs.n0 b_346 (x_goto d_346_187 rfl) ?_
        exact m_Rs.pick [2, 3, 4, 5, 1, 0] rfl (ih h hF h0)
      cases hc47 : m_c1 .eq v43 with
      | true =>
        have e46 := cT hc47 e46
        refine m_Rs.n0 b_346 (x_ift d_346_139 rfl hc47) ?_
        refine m_Rs.n0 b_346 (x_iconst (z := 0) d_346_180 (by decide)) ?_
        exact kk45 _ _ (Option.some.inj e46) h hF
      | false =>
        have e46 := cF hc47 e46
        refine m_Rs.n0 b_346 (x_iff d_346_139 rfl hc47) ?_
        refine m_Rs.n0 b_346 (x_aload_n d_346_142 rfl) ?_
        refine m_Rs.n0 b_346 (x_getf d_346_143 rfl h.1 rfl) ?_
        refine m_Rs.n0 b_346 (x_iload d_346_146 rfl) ?_
        obtain ⟨v48, e49, e46⟩ := bS e46
        refine m_Rs.dgetb b_346 d_346_148 h 18 rfl e49 ?_
        refine m_Rs.n0 b_346 (x_aload_n d_346_149 rfl) ?_
        refine m_Rs.n0 b_346 (x_getf d_346_150 rfl h.1 rfl) ?_
        refine m_Rs.n0 b_346 (x_iload d_346_153 rfl) ?_
        obtain ⟨v50, e51, e46⟩ := bS e46
        refine m_Rs.dgetb b_346 d_346_155 h 18 rfl e51 ?_
        cases hc52 : m_c2 .ne v48 v50 with
        | true =>
          have e46 := cT hc52 e46
          refine m_Rs.n0 b_346 (x_ict d_346_156 rfl hc52) ?_
          refine m_Rs.n0 b_346 (x_iconst (z := 0) d_346_180 (by decide)) ?_
          exact kk45 _ _ (Option.some.inj e46) h hF
        | false =>
          have e46 := cF hc52 e46
          refine m_Rs.n0 b_346 (x_icf d_346_156 rfl hc52) ?_
          refine m_Rs.n0 b_346 (x_aload_n d_346_159 rfl) ?_
          refine m_Rs.n0 b_346 (x_getf d_346_160 rfl h.1 rfl) ?_
          refine m_Rs.n0 b_346 (x_iload d_346_163 rfl) ?_
          obtain ⟨v53, e54, e46⟩ := bS e46
          refine m_Rs.dget b_346 d_346_165 h 24 rfl e54 ?_
          refine m_Rs.n0 b_346 (x_aload_n d_346_166 rfl) ?_
          refine m_Rs.n0 b_346 (x_getf d_346_167 rfl h.1 rfl) ?_
          refine m_Rs.n0 b_346 (x_iload d_346_170 rfl) ?_
          obtain ⟨v55, e56, e46⟩ := bS e46
          refine m_Rs.dget b_346 d_346_172 h 24 rfl e56 ?_
          cases hc57 : m_c2 .ge v53 v55 with
          | true =>
            have e46 := cT hc57 e46
            refine m_Rs.n0 b_346 (x_ict d_346_173 rfl hc57) ?_
            refine m_Rs.n0 b_346 (x_iconst (z := 0) d_346_180 (by decide)) ?_
            exact kk45 _ _ (Option.some.inj e46) h hF
          | false =>
            have e46 := cF hc57 e46
            refine m_Rs.n0 b_346 (x_icf d_346_173 rfl hc57) ?_
            refine m_Rs.n0 b_346 (x_iconst (z := 1) d_346_176 (by decide)) ?_
            refine m_Rs.n0 b_346 (x_goto d_346_177 rfl) ?_
            exact kk45 _ _ (Option.some.inj e46) h hF
def D_m_entry_106 (F : Nat) (x1 : Int32) (x5 : Int32) (x6 : Int32) (S : mS) : Option (Int32 × mS) := D_m_entry_116 F F x1 x5 x6 (0 : Int32) ((1024 : Int32) * x1) S
theorem T_m_entry_106 {l : Launch} {w0 : List mM} {F : Nat} {x1 : Int32} {x5 : Int32} {x6 : Int32} {S : mS} {w : List mM} {r : Int32 × mS} (h : m_RM S w) (hF : m_Fq w0 w) (h0 : D_m_entry_106 F x1 x5 x6 S = some r) : m_Rs l M_346 (106, [(0, .ref 583), (1, .int x1), (5, .int x5), (6, .int x6)], [], w) (fun v w' => v = some (.int r.1) ∧ m_RM r.2 w' ∧ m_Fq w0 w') 0 0 1 100 := by
  rw [D_m_entry_106] at h0
  refine m_Rs.n0 b_346 (x_iconst (z := 0) d_346_106 (by decide)) ?_
  refine m_Rs.n0 b_346 (x_istore d_346_107 rfl (show m_put1 _ _ _ = [(7, _), (0, _), (1, _), (5, _), (6, _)] from rfl)) ?_
  refine m_Rs.n0 b_346 (x_sipush (z := 1024) d_346_109 (by decide)) ?_
  refine m_Rs.n0 b_346 (x_iload_n d_346_112 rfl) ?_
  refine m_Rs.n0 b_346 (x_imul d_346_113 rfl) ?_
  refine m_Rs.n0 b_346 (x_istore d_346_114 rfl (show m_put1 _ _ _ = [(8, _), (7, _), (0, _), (1, _), (5, _), (6, _)] from rfl)) ?_
  exact m_Rs.pick [2, 3, 4, 5, 1, 0] rfl (T_m_entry_116 F h hF h0)
def D_m_entry (F : Nat) (a0 : Int32) (a1 : Int32) (a2 : Int32) (a3 : Int32) (a4 : Int32) (S : mS) : Option (Int32 × mS) := (fput S 0 (0 : Int32)).bind fun S1 => (D_m_isNode F a0 S1).bind fun v3 => cond (m_c1 .eq v3) (some (((-1) : Int32), S1)) (cond (m_c1 .lt a1) (some (((-1) : Int32), S1)) (cond (m_c2 .gt a1 (31 : Int32)) (some (((-1) : Int32), S1)) (cond (m_c1 .lt a2) (some (((-1) : Int32), S1)) (cond (m_c2 .gt a2 (3 : Int32)) (some (((-1) : Int32), S1)) (cond (m_c1 .lt a3) (some (((-1) : Int32), S1)) (cond (m_c2 .lt a3 (8 : Int32)) ((aget 4 7168 S1 601 (((8 : Int32) * ((((128 : Int32) * a0) + ((4 : Int32) * a1)) + a2)) + a3)).bind fun v12 => cond (m_c1 .ne v12) (cond (m_c2 .le a4 (15 : Int32)) (D_m_entry_106 F a0 a4 (((8 : Int32) * ((((128 : Int32) * a0) + ((4 : Int32) * a1)) + a2)) + a3) S1) (cond (m_c2 .ge a4 (32 : Int32)) (D_m_entry_106 F a0 a4 (((8 : Int32) * ((((128 : Int32) * a0) + ((4 : Int32) * a1)) + a2)) + a3) S1) ((aget 0 7168 S1 607 (((8 : Int32) * ((((128 : Int32) * a0) + ((4 : Int32) * a1)) + a2)) + a3)).bind fun v17 => some (((v17 >>> ((a4 - (16 : Int32)) &&& 31)) &&& (1 : Int32)), S1)))) (some (((-1) : Int32), S1))) (some (((-1) : Int32), S1))))))))
theorem T_m_entry {l : Launch} {w : List mM} {F : Nat} {a0 : Int32} {a1 : Int32} {a2 : Int32} {a3 : Int32} {a4 : Int32} {S : mS} {r : Int32 × mS} (h : m_RM S w) (h0 : D_m_entry F a0 a1 a2 a3 a4 S = some r) : m_Rs l M_346 (m_ent M_346 [.ref 583, .int a0, .int a1, .int a2, .int a3, .int a4] w) (fun v w' => v = some (.int r.1) ∧ m_RM r.2 w' ∧ m_Fq w w') 0 0 1 100 := by
  show m_Rs l M_346 (0, [(0, .ref 583), (1, .int a0), (2, .int a1), (3, .int a2), (4, .int a3), (5, .int a4)], [], w) _ 0 0 1 100
  generalize hw0 : w = w0 at h ⊢
  have hF : m_Fq w0 w0 := m_Fq.refl
  rw [D_m_entry] at h0
  refine m_Rs.n0 b_346 (x_aload_n d_346_0 rfl) ?_
  refine m_Rs.n0 b_346 (x_iconst (z := 0) d_346_1 (by decide)) ?_
  obtain ⟨S1, e2, h0⟩ := bS h0
  refine m_Rs.dfput b_346 d_346_2 h hF e2 rfl rfl rfl rfl rfl rfl (fun w1 h hF => ?_)
  refine m_Rs.n0 b_346 (x_iload_n d_346_5 rfl) ?_
  obtain ⟨v3, e4, h0⟩ := bS h0
  refine m_Rs.callS b_346 (y_cs d_346_6 rfl q_333 (show m_takeS _ _ = some (_, [_], []) from rfl) (by simp only [m_okf, List.all_cons, List.all_nil, Bool.and_true, Bool.and_self, m_okv_i, m_okv_l, m_okv_0, m_okv_t, m_okv_at h.1]) rfl) (T_m_isNode h e4) hF rfl (fun w1 h hF => ?_) (by decide) (by decide)
  cases hc5 : m_c1 .eq v3 with
  | true =>
    have h0 := cT hc5 h0
    refine m_Rs.n0 b_346 (x_ift d_346_9 rfl hc5) ?_
    refine m_Rs.n0 b_346 (x_iconst (z := (-1)) d_346_43 (by decide)) ?_
    exact m_Rs.ret b_346 (m_rt_ir d_346_44 rfl rfl) (rP h0 h hF)
  | false =>
    have h0 := cF hc5 h0
    refine m_Rs.n0 b_346 (x_iff d_346_9 rfl hc5) ?_
    refine m_Rs.n0 b_346 (x_iload_n d_346_12 rfl) ?_
    cases hc6 : m_c1 .lt a1 with
    | true =>
      have h0 := cT hc6 h0
      refine m_Rs.n0 b_346 (x_ift d_346_13 rfl hc6) ?_
      refine m_Rs.n0 b_346 (x_iconst (z := (-1)) d_346_43 (by decide)) ?_
      exact m_Rs.ret b_346 (m_rt_ir d_346_44 rfl rfl) (rP h0 h hF)
    | false =>
      have h0 := cF hc6 h0
      refine m_Rs.n0 b_346 (x_iff d_346_13 rfl hc6) ?_
      refine m_Rs.n0 b_346 (x_iload_n d_346_16 rfl) ?_
      refine m_Rs.n0 b_346 (x_bipush (z := 31) d_346_17 (by decide)) ?_
      cases hc7 : m_c2 .gt a1 (31 : Int32) with
      | true =>
        have h0 := cT hc7 h0
        refine m_Rs.n0 b_346 (x_ict d_346_19 rfl hc7) ?_
        refine m_Rs.n0 b_346 (x_iconst (z := (-1)) d_346_43 (by decide)) ?_
        exact m_Rs.ret b_346 (m_rt_ir d_346_44 rfl rfl) (rP h0 h hF)
      | false =>
        have h0 := cF hc7 h0
        refine m_Rs.n0 b_346 (x_icf d_346_19 rfl hc7) ?_
        refine m_Rs.n0 b_346 (x_iload_n d_346_22 rfl) ?_
        cases hc8 : m_c1 .lt a2 with
        | true =>
          have h0 := cT hc8 h0
          refine m_Rs.n0 b_346 (x_ift d_346_23 rfl hc8) ?_
          refine m_Rs.n0 b_346 (x_iconst (z := (-1)) d_346_43 (by decide)) ?_
          exact m_Rs.ret b_346 (m_rt_ir d_346_44 rfl rfl) (rP h0 h hF)
        | false =>
          have h0 := cF hc8 h0
          refine m_Rs.n0 b_346 (x_iff d_346_23 rfl hc8) ?_
          refine m_Rs.n0 b_346 (x_iload_n d_346_26 rfl) ?_
          refine m_Rs.n0 b_346 (x_iconst (z := 3) d_346_27 (by decide)) ?_
          cases hc9 : m_c2 .gt a2 (3 : Int32) with
          | true =>
            have h0 := cT hc9 h0
            refine m_Rs.n0 b_346 (x_ict d_346_28 rfl hc9) ?_
            refine m_Rs.n0 b_346 (x_iconst (z := (-1)) d_346_43 (by decide)) ?_
            exact m_Rs.ret b_346 (m_rt_ir d_346_44 rfl rfl) (rP h0 h hF)
          | false =>
            have h0 := cF hc9 h0
            refine m_Rs.n0 b_346 (x_icf d_346_28 rfl hc9) ?_
            refine m_Rs.n0 b_346 (x_iload d_346_31 rfl) ?_
            cases hc10 : m_c1 .lt a3 with
            | true =>
              have h0 := cT hc10 h0
              refine m_Rs.n0 b_346 (x_ift d_346_33 rfl hc10) ?_
              refine m_Rs.n0 b_346 (x_iconst (z := (-1)) d_346_43 (by decide)) ?_
              exact m_Rs.ret b_346 (m_rt_ir d_346_44 rfl rfl) (rP h0 h hF)
            | false =>
              have h0 := cF hc10 h0
              refine m_Rs.n0 b_346 (x_iff d_346_33 rfl hc10) ?_
              refine m_Rs.n0 b_346 (x_iload d_346_36 rfl) ?_
              refine m_Rs.n0 b_346 (x_bipush (z := 8) d_346_38 (by decide)) ?_
              cases hc11 : m_c2 .lt a3 (8 : Int32) with
              | true =>
                have h0 := cT hc11 h0
                refine m_Rs.n0 b_346 (x_ict d_346_40 rfl hc11) ?_
                refine m_Rs.n0 b_346 (x_bipush (z := 8) d_346_45 (by decide)) ?_
                refine m_Rs.n0 b_346 (x_sipush (z := 128) d_346_47 (by decide)) ?_
                refine m_Rs.n0 b_346 (x_iload_n d_346_50 rfl) ?_
                refine m_Rs.n0 b_346 (x_imul d_346_51 rfl) ?_
                refine m_Rs.n0 b_346 (x_iconst (z := 4) d_346_52 (by decide)) ?_
                refine m_Rs.n0 b_346 (x_iload_n d_346_53 rfl) ?_
                refine m_Rs.n0 b_346 (x_imul d_346_54 rfl) ?_
                refine m_Rs.n0 b_346 (x_iadd d_346_55 rfl) ?_
                refine m_Rs.n0 b_346 (x_iload_n d_346_56 rfl) ?_
                refine m_Rs.n0 b_346 (x_iadd d_346_57 rfl) ?_
                refine m_Rs.n0 b_346 (x_imul d_346_58 rfl) ?_
                refine m_Rs.n0 b_346 (x_iload d_346_59 rfl) ?_
                refine m_Rs.n0 b_346 (x_iadd d_346_61 rfl) ?_
                refine m_Rs.n0 b_346 (x_istore d_346_62 rfl (show m_put1 _ _ _ = [(6, _), (0, _), (1, _), (2, _), (3, _), (4, _), (5, _)] from rfl)) ?_
                refine m_Rs.n0 b_346 (x_aload_n d_346_64 rfl) ?_
                refine m_Rs.n0 b_346 (x_getf d_346_65 rfl h.1 rfl) ?_
                refine m_Rs.n0 b_346 (x_iload d_346_68 rfl) ?_
                obtain ⟨v12, e13, h0⟩ := bS h0
                refine m_Rs.dgetb b_346 d_346_70 h 17 rfl e13 ?_
                cases hc14 : m_c1 .ne v12 with
                | true =>
                  have h0 := cT hc14 h0
                  refine m_Rs.n0 b_346 (x_ift d_346_71 rfl hc14) ?_
                  refine m_Rs.n0 b_346 (x_iload d_346_76 rfl) ?_
                  refine m_Rs.n0 b_346 (x_bipush (z := 15) d_346_78 (by decide)) ?_
                  cases hc15 : m_c2 .le a4 (15 : Int32) with
                  | true =>
                    have h0 := cT hc15 h0
                    refine m_Rs.n0 b_346 (x_ict d_346_80 rfl hc15) ?_
                    exact m_Rs.pick [1, 2, 6, 0] rfl (T_m_entry_106 h hF h0)
                  | false =>
                    have h0 := cF hc15 h0
                    refine m_Rs.n0 b_346 (x_icf d_346_80 rfl hc15) ?_
                    refine m_Rs.n0 b_346 (x_iload d_346_83 rfl) ?_
                    refine m_Rs.n0 b_346 (x_bipush (z := 32) d_346_85 (by decide)) ?_
                    cases hc16 : m_c2 .ge a4 (32 : Int32) with
                    | true =>
                      have h0 := cT hc16 h0
                      refine m_Rs.n0 b_346 (x_ict d_346_87 rfl hc16) ?_
                      exact m_Rs.pick [1, 2, 6, 0] rfl (T_m_entry_106 h hF h0)
                    | false =>
                      have h0 := cF hc16 h0
                      refine m_Rs.n0 b_346 (x_icf d_346_87 rfl hc16) ?_
                      refine m_Rs.n0 b_346 (x_aload_n d_346_90 rfl) ?_
                      refine m_Rs.n0 b_346 (x_getf d_346_91 rfl h.1 rfl) ?_
                      refine m_Rs.n0 b_346 (x_iload d_346_94 rfl) ?_
                      obtain ⟨v17, e18, h0⟩ := bS h0
                      refine m_Rs.dget b_346 d_346_96 h 23 rfl e18 ?_
                      refine m_Rs.n0 b_346 (x_iload d_346_97 rfl) ?_
                      refine m_Rs.n0 b_346 (x_bipush (z := 16) d_346_99 (by decide)) ?_
                      refine m_Rs.n0 b_346 (x_isub d_346_101 rfl) ?_
                      refine m_Rs.n0 b_346 (x_ishr d_346_102 rfl) ?_
                      refine m_Rs.n0 b_346 (x_iconst (z := 1) d_346_103 (by decide)) ?_
                      refine m_Rs.n0 b_346 (x_iand d_346_104 rfl) ?_
                      exact m_Rs.ret b_346 (m_rt_ir d_346_105 rfl rfl) (rP h0 h hF)
                | false =>
                  have h0 := cF hc14 h0
                  refine m_Rs.n0 b_346 (x_iff d_346_71 rfl hc14) ?_
                  refine m_Rs.n0 b_346 (x_iconst (z := (-1)) d_346_74 (by decide)) ?_
                  exact m_Rs.ret b_346 (m_rt_ir d_346_75 rfl rfl) (rP h0 h hF)
              | false =>
                have h0 := cF hc11 h0
                refine m_Rs.n0 b_346 (x_icf d_346_40 rfl hc11) ?_
                refine m_Rs.n0 b_346 (x_iconst (z := (-1)) d_346_43 (by decide)) ?_
                exact m_Rs.ret b_346 (m_rt_ir d_346_44 rfl rfl) (rP h0 h hF)
def D_m_message (F : Nat) (a0 : Int32) (a1 : Int32) (S : mS) : Option (Int32 × mS) := (fput S 0 (0 : Int32)).bind fun S1 => cond (m_c1 .lt a0) (some (((-1) : Int32), S1)) (cond (m_c2 .ge a0 (S1.1 77)) (some (((-1) : Int32), S1)) (cond (m_c1 .lt a1) (some (((-1) : Int32), S1)) (cond (m_c2 .le a1 (11 : Int32)) (cond (m_c2 .ne a1 (11 : Int32)) ((cond (m_c2 .lt a1 (10 : Int32)) ((aget 0 2200 S1 624 (((22 : Int32) * a0) + a1)).bind fun v11 => some v11) ((aget 0 2200 S1 624 ((22 : Int32) * a0)).bind fun v13 => cond (m_c1 .ne v13) (some (0 : Int32)) ((aget 0 2200 S1 624 (((22 : Int32) * a0) + a1)).bind fun v16 => some v16))).bind fun v18 => some (v18, S1)) ((aget 0 2200 S1 624 (((22 : Int32) * a0) + (21 : Int32))).bind fun v19 => some (v19, S1))) (some (((-1) : Int32), S1)))))
theorem T_m_message {l : Launch} {w : List mM} {F : Nat} {a0 : Int32} {a1 : Int32} {S : mS} {r : Int32 × mS} (h : m_RM S w) (h0 : D_m_message F a0 a1 S = some r) : m_Rs l M_347 (m_ent M_347 [.ref 583, .int a0, .int a1] w) (fun v w' => v = some (.int r.1) ∧ m_RM r.2 w' ∧ m_Fq w w') 0 0 0 0 := by
  show m_Rs l M_347 (0, [(0, .ref 583), (1, .int a0), (2, .int a1)], [], w) _ 0 0 0 0
  generalize hw0 : w = w0 at h ⊢
  have hF : m_Fq w0 w0 := m_Fq.refl
  rw [D_m_message] at h0
  refine m_Rs.n0 b_347 (x_aload_n d_347_0 rfl) ?_
  refine m_Rs.n0 b_347 (x_iconst (z := 0) d_347_1 (by decide)) ?_
  obtain ⟨S1, e2, h0⟩ := bS h0
  refine m_Rs.dfput b_347 d_347_2 h hF e2 rfl rfl rfl rfl rfl rfl (fun w1 h hF => ?_)
  refine m_Rs.n0 b_347 (x_iload_n d_347_5 rfl) ?_
  cases hc3 : m_c1 .lt a0 with
  | true =>
    have h0 := cT hc3 h0
    refine m_Rs.n0 b_347 (x_ift d_347_6 rfl hc3) ?_
    refine m_Rs.n0 b_347 (x_iconst (z := (-1)) d_347_27 (by decide)) ?_
    exact m_Rs.ret b_347 (m_rt_ir d_347_28 rfl rfl) (rP h0 h hF)
  | false =>
    have h0 := cF hc3 h0
    refine m_Rs.n0 b_347 (x_iff d_347_6 rfl hc3) ?_
    refine m_Rs.n0 b_347 (x_iload_n d_347_9 rfl) ?_
    refine m_Rs.n0 b_347 (x_aload_n d_347_10 rfl) ?_
    refine m_Rs.n0 b_347 (x_getf d_347_11 rfl h.1 rfl) ?_
    cases hc4 : m_c2 .ge a0 (S1.1 77) with
    | true =>
      have h0 := cT hc4 h0
      refine m_Rs.n0 b_347 (x_ict d_347_14 rfl hc4) ?_
      refine m_Rs.n0 b_347 (x_iconst (z := (-1)) d_347_27 (by decide)) ?_
      exact m_Rs.ret b_347 (m_rt_ir d_347_28 rfl rfl) (rP h0 h hF)
    | false =>
      have h0 := cF hc4 h0
      refine m_Rs.n0 b_347 (x_icf d_347_14 rfl hc4) ?_
      refine m_Rs.n0 b_347 (x_iload_n d_347_17 rfl) ?_
      cases hc5 : m_c1 .lt a1 with
      | true =>
        have h0 := cT hc5 h0
        refine m_Rs.n0 b_347 (x_ift d_347_18 rfl hc5) ?_
        refine m_Rs.n0 b_347 (x_iconst (z := (-1)) d_347_27 (by decide)) ?_
        exact m_Rs.ret b_347 (m_rt_ir d_347_28 rfl rfl) (rP h0 h hF)
      | false =>
        have h0 := cF hc5 h0
        refine m_Rs.n0 b_347 (x_iff d_347_18 rfl hc5) ?_
        refine m_Rs.n0 b_347 (x_iload_n d_347_21 rfl) ?_
        refine m_Rs.n0 b_347 (x_bipush (z := 11) d_347_22 (by decide)) ?_
        cases hc6 : m_c2 .le a1 (11 : Int32) with
        | true =>
          have h0 := cT hc6 h0
          refine m_Rs.n0 b_347 (x_ict d_347_24 rfl hc6) ?_
          refine m_Rs.n0 b_347 (x_iload_n d_347_29 rfl) ?_
          refine m_Rs.n0 b_347 (x_bipush (z := 11) d_347_30 (by decide)) ?_
          cases hc7 : m_c2 .ne a1 (11 : Int32) with
          | true =>
            have h0 := cT hc7 h0
            refine m_Rs.n0 b_347 (x_ict d_347_32 rfl hc7) ?_
            refine m_Rs.n0 b_347 (x_iload_n d_347_48 rfl) ?_
            refine m_Rs.n0 b_347 (x_bipush (z := 10) d_347_49 (by decide)) ?_
            obtain ⟨v18, e9, h0⟩ := bS h0
            have kk8 : ∀ (xz : Int32) (w1 : List mM), xz = v18 → m_RM S1 w1 → m_Fq w0 w1 → m_Rs l M_347 (81, [(0, .ref 583), (1, .int a0), (2, .int a1)], [.int xz], w1) (fun v w' => v = some (.int r.1) ∧ m_RM r.2 w' ∧ m_Fq w0 w') 0 0 0 0 := by
              intro xz w ez h hF
              rw [ez]
              exact m_Rs.ret b_347 (m_rt_ir d_347_81 rfl rfl) (rP h0 h hF)
            cases hc10 : m_c2 .lt a1 (10 : Int32) with
            | true =>
              have e9 := cT hc10 e9
              refine m_Rs.n0 b_347 (x_ict d_347_51 rfl hc10) ?_
              refine m_Rs.n0 b_347 (x_aload_n d_347_66 rfl) ?_
              refine m_Rs.n0 b_347 (x_getf d_347_67 rfl h.1 rfl) ?_
              refine m_Rs.n0 b_347 (x_bipush (z := 22) d_347_70 (by decide)) ?_
              refine m_Rs.n0 b_347 (x_iload_n d_347_72 rfl) ?_
              refine m_Rs.n0 b_347 (x_imul d_347_73 rfl) ?_
              refine m_Rs.n0 b_347 (x_iload_n d_347_74 rfl) ?_
              refine m_Rs.n0 b_347 (x_iadd d_347_75 rfl) ?_
              obtain ⟨v11, e12, e9⟩ := bS e9
              refine m_Rs.dget b_347 d_347_76 h 40 rfl e12 ?_
              refine m_Rs.n0 b_347 (x_goto d_347_77 rfl) ?_
              exact kk8 _ _ (Option.some.inj e9) h hF
            | false =>
              have e9 := cF hc10 e9
              refine m_Rs.n0 b_347 (x_icf d_347_51 rfl hc10) ?_
              refine m_Rs.n0 b_347 (x_aload_n d_347_54 rfl) ?_
              refine m_Rs.n0 b_347 (x_getf d_347_55 rfl h.1 rfl) ?_
              refine m_Rs.n0 b_347 (x_bipush (z := 22) d_347_58 (by decide)) ?_
              refine m_Rs.n0 b_347 (x_iload_n d_347_60 rfl) ?_
              refine m_Rs.n0 b_347 (x_imul d_347_61 rfl) ?_
              obtain ⟨v13, e14, e9⟩ := bS e9
              refine m_Rs.dget b_347 d_347_62 h 40 rfl e14 ?_
              cases hc15 : m_c1 .ne v13 with
              | true =>
                have e9 := cT hc15 e9
                refine m_Rs.n0 b_347 (x_ift d_347_63 rfl hc15) ?_
                refine m_Rs.n0 b_347 (x_iconst (z := 0) d_347_80 (by decide)) ?_
                exact kk8 _ _ (Option.some.inj e9) h hF
              | false =>
                have e9 := cF hc15 e9
                refine m_Rs.n0 b_347 (x_iff d_347_63 rfl hc15) ?_
                refine m_Rs.n0 b_347 (x_aload_n d_347_66 rfl) ?_
                refine m_Rs.n0 b_347 (x_getf d_347_67 rfl h.1 rfl) ?_
                refine m_Rs.n0 b_347 (x_bipush (z := 22) d_347_70 (by decide)) ?_
                refine m_Rs.n0 b_347 (x_iload_n d_347_72 rfl) ?_
                refine m_Rs.n0 b_347 (x_imul d_347_73 rfl) ?_
                refine m_Rs.n0 b_347 (x_iload_n d_347_74 rfl) ?_
                refine m_Rs.n0 b_347 (x_iadd d_347_75 rfl) ?_
                obtain ⟨v16, e17, e9⟩ := bS e9
                refine m_Rs.dget b_347 d_347_76 h 40 rfl e17 ?_
                refine m_Rs.n0 b_347 (x_goto d_347_77 rfl) ?_
                exact kk8 _ _ (Option.some.inj e9) h hF
          | false =>
            have h0 := cF hc7 h0
            refine m_Rs.n0 b_347 (x_icf d_347_32 rfl hc7) ?_
            refine m_Rs.n0 b_347 (x_aload_n d_347_35 rfl) ?_
            refine m_Rs.n0 b_347 (x_getf d_347_36 rfl h.1 rfl) ?_
            refine m_Rs.n0 b_347 (x_bipush (z := 22) d_347_39 (by decide)) ?_
            refine m_Rs.n0 b_347 (x_iload_n d_347_41 rfl) ?_
            refine m_Rs.n0 b_347 (x_imul d_347_42 rfl) ?_
            refine m_Rs.n0 b_347 (x_bipush (z := 21) d_347_43 (by decide)) ?_
            refine m_Rs.n0 b_347 (x_iadd d_347_45 rfl) ?_
            obtain ⟨v19, e20, h0⟩ := bS h0
            refine m_Rs.dget b_347 d_347_46 h 40 rfl e20 ?_
            exact m_Rs.ret b_347 (m_rt_ir d_347_47 rfl rfl) (rP h0 h hF)
        | false =>
          have h0 := cF hc6 h0
          refine m_Rs.n0 b_347 (x_icf d_347_24 rfl hc6) ?_
          refine m_Rs.n0 b_347 (x_iconst (z := (-1)) d_347_27 (by decide)) ?_
          exact m_Rs.ret b_347 (m_rt_ir d_347_28 rfl rfl) (rP h0 h hF)
def D_m_total (F : Nat) (a0 : Int32) (S : mS) : Option (Int32 × mS) := (fput S 0 (0 : Int32)).bind fun S1 => cond (decide (a0 = (0 : Int32))) (some ((S1.1 77), S1)) (cond (decide (a0 = (1 : Int32))) (some ((S1.1 37), S1)) (cond (decide (a0 = (2 : Int32))) (some ((S1.1 70), S1)) (cond (decide (a0 = (3 : Int32))) (some ((S1.1 71), S1)) (cond (decide (a0 = (4 : Int32))) (some ((S1.1 39), S1)) (cond (decide (a0 = (5 : Int32))) (some ((S1.1 38), S1)) (cond (decide (a0 = (6 : Int32))) (some ((S1.1 36), S1)) (some (((-1) : Int32), S1))))))))
theorem T_m_total {l : Launch} {w : List mM} {F : Nat} {a0 : Int32} {S : mS} {r : Int32 × mS} (h : m_RM S w) (h0 : D_m_total F a0 S = some r) : m_Rs l M_348 (m_ent M_348 [.ref 583, .int a0] w) (fun v w' => v = some (.int r.1) ∧ m_RM r.2 w' ∧ m_Fq w w') 0 0 0 0 := by
  show m_Rs l M_348 (0, [(0, .ref 583), (1, .int a0)], [], w) _ 0 0 0 0
  generalize hw0 : w = w0 at h ⊢
  have hF : m_Fq w0 w0 := m_Fq.refl
  rw [D_m_total] at h0
  refine m_Rs.n0 b_348 (x_aload_n d_348_0 rfl) ?_
  refine m_Rs.n0 b_348 (x_iconst (z := 0) d_348_1 (by decide)) ?_
  obtain ⟨S1, e2, h0⟩ := bS h0
  refine m_Rs.dfput b_348 d_348_2 h hF e2 rfl rfl rfl rfl rfl rfl (fun w1 h hF => ?_)
  refine m_Rs.n0 b_348 (x_iload_n d_348_5 rfl) ?_
  cases hc3 : decide (a0 = (0 : Int32)) with
  | true =>
    have h0 := cT hc3 h0
    refine m_Rs.n0 b_348 (x_tsw (t := 48) d_348_6 (by rw [of_decide_eq_true hc3]; rfl)) ?_
    refine m_Rs.n0 b_348 (x_aload_n d_348_48 rfl) ?_
    refine m_Rs.n0 b_348 (x_getf d_348_49 rfl h.1 rfl) ?_
    exact m_Rs.ret b_348 (m_rt_ir d_348_52 rfl rfl) (rP h0 h hF)
  | false =>
    have h0 := cF hc3 h0
    cases hc4 : decide (a0 = (1 : Int32)) with
    | true =>
      have h0 := cT hc4 h0
      refine m_Rs.n0 b_348 (x_tsw (t := 53) d_348_6 (by rw [of_decide_eq_true hc4]; rfl)) ?_
      refine m_Rs.n0 b_348 (x_aload_n d_348_53 rfl) ?_
      refine m_Rs.n0 b_348 (x_getf d_348_54 rfl h.1 rfl) ?_
      exact m_Rs.ret b_348 (m_rt_ir d_348_57 rfl rfl) (rP h0 h hF)
    | false =>
      have h0 := cF hc4 h0
      cases hc5 : decide (a0 = (2 : Int32)) with
      | true =>
        have h0 := cT hc5 h0
        refine m_Rs.n0 b_348 (x_tsw (t := 58) d_348_6 (by rw [of_decide_eq_true hc5]; rfl)) ?_
        refine m_Rs.n0 b_348 (x_aload_n d_348_58 rfl) ?_
        refine m_Rs.n0 b_348 (x_getf d_348_59 rfl h.1 rfl) ?_
        exact m_Rs.ret b_348 (m_rt_ir d_348_62 rfl rfl) (rP h0 h hF)
      | false =>
        have h0 := cF hc5 h0
        cases hc6 : decide (a0 = (3 : Int32)) with
        | true =>
          have h0 := cT hc6 h0
          refine m_Rs.n0 b_348 (x_tsw (t := 63) d_348_6 (by rw [of_decide_eq_true hc6]; rfl)) ?_
          refine m_Rs.n0 b_348 (x_aload_n d_348_63 rfl) ?_
          refine m_Rs.n0 b_348 (x_getf d_348_64 rfl h.1 rfl) ?_
          exact m_Rs.ret b_348 (m_rt_ir d_348_67 rfl rfl) (rP h0 h hF)
        | false =>
          have h0 := cF hc6 h0
          cases hc7 : decide (a0 = (4 : Int32)) with
          | true =>
            have h0 := cT hc7 h0
            refine m_Rs.n0 b_348 (x_tsw (t := 68) d_348_6 (by rw [of_decide_eq_true hc7]; rfl)) ?_
            refine m_Rs.n0 b_348 (x_aload_n d_348_68 rfl) ?_
            refine m_Rs.n0 b_348 (x_getf d_348_69 rfl h.1 rfl) ?_
            exact m_Rs.ret b_348 (m_rt_ir d_348_72 rfl rfl) (rP h0 h hF)
          | false =>
            have h0 := cF hc7 h0
            cases hc8 : decide (a0 = (5 : Int32)) with
            | true =>
              have h0 := cT hc8 h0
              refine m_Rs.n0 b_348 (x_tsw (t := 73) d_348_6 (by rw [of_decide_eq_true hc8]; rfl)) ?_
              refine m_Rs.n0 b_348 (x_aload_n d_348_73 rfl) ?_
              refine m_Rs.n0 b_348 (x_getf d_348_74 rfl h.1 rfl) ?_
              exact m_Rs.ret b_348 (m_rt_ir d_348_77 rfl rfl) (rP h0 h hF)
            | false =>
              have h0 := cF hc8 h0
              cases hc9 : decide (a0 = (6 : Int32)) with
              | true =>
                have h0 := cT hc9 h0
                refine m_Rs.n0 b_348 (x_tsw (t := 78) d_348_6 (by rw [of_decide_eq_true hc9]; rfl)) ?_
                refine m_Rs.n0 b_348 (x_aload_n d_348_78 rfl) ?_
                refine m_Rs.n0 b_348 (x_getf d_348_79 rfl h.1 rfl) ?_
                exact m_Rs.ret b_348 (m_rt_ir d_348_82 rfl rfl) (rP h0 h hF)
              | false =>
                have h0 := cF hc9 h0
                refine m_Rs.n0 b_348 (x_tsw (t := 83) d_348_6 (m_tsw_0 (n := 7) rfl (fun k hk => by match k, hk with | 0, _ => exact of_decide_eq_false hc3 | 1, _ => exact of_decide_eq_false hc4 | 2, _ => exact of_decide_eq_false hc5 | 3, _ => exact of_decide_eq_false hc6 | 4, _ => exact of_decide_eq_false hc7 | 5, _ => exact of_decide_eq_false hc8 | 6, _ => exact of_decide_eq_false hc9 | k + 7, hk => omega) rfl)) ?_
                refine m_Rs.n0 b_348 (x_iconst (z := (-1)) d_348_83 (by decide)) ?_
                exact m_Rs.ret b_348 (m_rt_ir d_348_84 rfl rfl) (rP h0 h hF)
