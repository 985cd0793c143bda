/-! The reference's methods as guarded functions. Written by wip/tool/dec2.py. -/
theorem q_286 : m_mt[286]? = some M_286 := by rfl
theorem q_289 : m_mt[289]? = some M_289 := by rfl
theorem q_288 : m_mt[288]? = some M_288 := by rfl
theorem q_290 : m_mt[290]? = some M_290 := by rfl
theorem q_287 : m_mt[287]? = some M_287 := by rfl
theorem q_285 : m_mt[285]? = some M_285 := by rfl
theorem q_283 : m_mt[283]? = some M_283 := by rfl
theorem q_292 : m_mt[292]? = some M_292 := by rfl
theorem q_293 : m_mt[293]? = some M_293 := by rfl
theorem q_291 : m_mt[291]? = some M_291 := by rfl
theorem q_295 : m_mt[295]? = some M_295 := by rfl
theorem q_298 : m_mt[298]? = some M_298 := by rfl
theorem q_297 : m_mt[297]? = some M_297 := by rfl
theorem q_299 : m_mt[299]? = some M_299 := by rfl
theorem q_296 : m_mt[296]? = some M_296 := by rfl
theorem q_294 : m_mt[294]? = some M_294 := by rfl
theorem q_303 : m_mt[303]? = some M_303 := by rfl
theorem q_302 : m_mt[302]? = some M_302 := by rfl
theorem q_304 : m_mt[304]? = some M_304 := by rfl
theorem q_305 : m_mt[305]? = some M_305 := by rfl
theorem q_301 : m_mt[301]? = some M_301 := by rfl
theorem q_300 : m_mt[300]? = some M_300 := by rfl
theorem q_306 : m_mt[306]? = some M_306 := by rfl
theorem q_120 : m_mt[120]? = some M_120 := by rfl
theorem q_121 : m_mt[121]? = some M_121 := by rfl
theorem q_309 : m_mt[309]? = some M_309 := by rfl
theorem q_308 : m_mt[308]? = some M_308 := by rfl
theorem q_307 : m_mt[307]? = some M_307 := by rfl
theorem q_310 : m_mt[310]? = some M_310 := by rfl
theorem q_312 : m_mt[312]? = some M_312 := by rfl
theorem q_311 : m_mt[311]? = some M_311 := by rfl
theorem q_276 : m_mt[276]? = some M_276 := by rfl
theorem q_269 : m_mt[269]? = some M_269 := by rfl
theorem b_286 : m_bOk M_286 := (m_mt_ok M_286 (List.mem_of_getElem? q_286)).body
theorem b_289 : m_bOk M_289 := (m_mt_ok M_289 (List.mem_of_getElem? q_289)).body
theorem b_288 : m_bOk M_288 := (m_mt_ok M_288 (List.mem_of_getElem? q_288)).body
theorem b_290 : m_bOk M_290 := (m_mt_ok M_290 (List.mem_of_getElem? q_290)).body
theorem b_287 : m_bOk M_287 := (m_mt_ok M_287 (List.mem_of_getElem? q_287)).body
theorem b_285 : m_bOk M_285 := (m_mt_ok M_285 (List.mem_of_getElem? q_285)).body
theorem b_283 : m_bOk M_283 := (m_mt_ok M_283 (List.mem_of_getElem? q_283)).body
theorem b_292 : m_bOk M_292 := (m_mt_ok M_292 (List.mem_of_getElem? q_292)).body
theorem b_293 : m_bOk M_293 := (m_mt_ok M_293 (List.mem_of_getElem? q_293)).body
theorem b_291 : m_bOk M_291 := (m_mt_ok M_291 (List.mem_of_getElem? q_291)).body
theorem b_295 : m_bOk M_295 := (m_mt_ok M_295 (List.mem_of_getElem? q_295)).body
theorem b_298 : m_bOk M_298 := (m_mt_ok M_298 (List.mem_of_getElem? q_298)).body
theorem b_297 : m_bOk M_297 := (m_mt_ok M_297 (List.mem_of_getElem? q_297)).body
theorem b_299 : m_bOk M_299 := (m_mt_ok M_299 (List.mem_of_getElem? q_299)).body
theorem b_296 : m_bOk M_296 := (m_mt_ok M_296 (List.mem_of_getElem? q_296)).body
theorem b_294 : m_bOk M_294 := (m_mt_ok M_294 (List.mem_of_getElem? q_294)).body
theorem b_303 : m_bOk M_303 := (m_mt_ok M_303 (List.mem_of_getElem? q_303)).body
theorem b_302 : m_bOk M_302 := (m_mt_ok M_302 (List.mem_of_getElem? q_302)).body
theorem b_304 : m_bOk M_304 := (m_mt_ok M_304 (List.mem_of_getElem? q_304)).body
theorem b_305 : m_bOk M_305 := (m_mt_ok M_305 (List.mem_of_getElem? q_305)).body
theorem b_301 : m_bOk M_301 := (m_mt_ok M_301 (List.mem_of_getElem? q_301)).body
theorem b_300 : m_bOk M_300 := (m_mt_ok M_300 (List.mem_of_getElem? q_300)).body
theorem b_306 : m_bOk M_306 := (m_mt_ok M_306 (List.mem_of_getElem? q_306)).body
theorem b_120 : m_bOk M_120 := (m_mt_ok M_120 (List.mem_of_getElem? q_120)).body
theorem b_121 : m_bOk M_121 := (m_mt_ok M_121 (List.mem_of_getElem? q_121)).body
theorem b_309 : m_bOk M_309 := (m_mt_ok M_309 (List.mem_of_getElem? q_309)).body
theorem b_308 : m_bOk M_308 := (m_mt_ok M_308 (List.mem_of_getElem? q_308)).body
theorem b_307 : m_bOk M_307 := (m_mt_ok M_307 (List.mem_of_getElem? q_307)).body
theorem b_310 : m_bOk M_310 := (m_mt_ok M_310 (List.mem_of_getElem? q_310)).body
theorem b_312 : m_bOk M_312 := (m_mt_ok M_312 (List.mem_of_getElem? q_312)).body
theorem b_311 : m_bOk M_311 := (m_mt_ok M_311 (List.mem_of_getElem? q_311)).body
theorem b_276 : m_bOk M_276 := (m_mt_ok M_276 (List.mem_of_getElem? q_276)).body
theorem b_269 : m_bOk M_269 := (m_mt_ok M_269 (List.mem_of_getElem? q_269)).body
theorem d_120_0 : m_dn M_120 0 (.iload_n 0) 1 1 := by decide +kernel
theorem d_120_1 : m_dn M_120 1 (.iconst (-1)) 1 2 := by decide +kernel
theorem d_120_12 : m_dn M_120 12 (.iload_n 0) 1 13 := by decide +kernel
theorem d_120_13 : m_dn M_120 13 (.bipush 32) 2 15 := by decide +kernel
theorem d_120_15 : m_dn M_120 15 (.iand) 1 16 := by decide +kernel
theorem d_120_16 : m_dn M_120 16 (.ireturn) 1 17 := by decide +kernel
theorem d_120_17 : m_dn M_120 17 (.iconst 1) 1 18 := by decide +kernel
theorem d_120_18 : m_dn M_120 18 (.istore_n 1) 1 19 := by decide +kernel
theorem d_120_19 : m_dn M_120 19 (.iload_n 0) 1 20 := by decide +kernel
theorem d_120_2 : m_dn M_120 2 (.ixor) 1 3 := by decide +kernel
theorem d_120_20 : m_dn M_120 20 (.ldc_w 264) 3 23 := by decide +kernel
theorem d_120_23 : m_dn M_120 23 (.if_icmp .le 11) 3 26 := by decide +kernel
theorem d_120_26 : m_dn M_120 26 (.iinc 1 16) 3 29 := by decide +kernel
theorem d_120_29 : m_dn M_120 29 (.iload_n 0) 1 30 := by decide +kernel
theorem d_120_3 : m_dn M_120 3 (.iload_n 0) 1 4 := by decide +kernel
theorem d_120_30 : m_dn M_120 30 (.bipush 16) 2 32 := by decide +kernel
theorem d_120_32 : m_dn M_120 32 (.iushr) 1 33 := by decide +kernel
theorem d_120_33 : m_dn M_120 33 (.istore_n 0) 1 34 := by decide +kernel
theorem d_120_34 : m_dn M_120 34 (.iload_n 0) 1 35 := by decide +kernel
theorem d_120_35 : m_dn M_120 35 (.sipush 256) 3 38 := by decide +kernel
theorem d_120_38 : m_dn M_120 38 (.if_icmp .le 11) 3 41 := by decide +kernel
theorem d_120_4 : m_dn M_120 4 (.iconst 1) 1 5 := by decide +kernel
theorem d_120_41 : m_dn M_120 41 (.iinc 1 8) 3 44 := by decide +kernel
theorem d_120_44 : m_dn M_120 44 (.iload_n 0) 1 45 := by decide +kernel
theorem d_120_45 : m_dn M_120 45 (.bipush 8) 2 47 := by decide +kernel
theorem d_120_47 : m_dn M_120 47 (.iushr) 1 48 := by decide +kernel
theorem d_120_48 : m_dn M_120 48 (.istore_n 0) 1 49 := by decide +kernel
theorem d_120_49 : m_dn M_120 49 (.iload_n 0) 1 50 := by decide +kernel
theorem d_120_5 : m_dn M_120 5 (.isub) 1 6 := by decide +kernel
theorem d_120_50 : m_dn M_120 50 (.bipush 16) 2 52 := by decide +kernel
theorem d_120_52 : m_dn M_120 52 (.if_icmp .le 10) 3 55 := by decide +kernel
theorem d_120_55 : m_dn M_120 55 (.iinc 1 4) 3 58 := by decide +kernel
theorem d_120_58 : m_dn M_120 58 (.iload_n 0) 1 59 := by decide +kernel
theorem d_120_59 : m_dn M_120 59 (.iconst 4) 1 60 := by decide +kernel
theorem d_120_6 : m_dn M_120 6 (.iand) 1 7 := by decide +kernel
theorem d_120_60 : m_dn M_120 60 (.iushr) 1 61 := by decide +kernel
theorem d_120_61 : m_dn M_120 61 (.istore_n 0) 1 62 := by decide +kernel
theorem d_120_62 : m_dn M_120 62 (.iload_n 0) 1 63 := by decide +kernel
theorem d_120_63 : m_dn M_120 63 (.iconst 4) 1 64 := by decide +kernel
theorem d_120_64 : m_dn M_120 64 (.if_icmp .le 10) 3 67 := by decide +kernel
theorem d_120_67 : m_dn M_120 67 (.iinc 1 2) 3 70 := by decide +kernel
theorem d_120_7 : m_dn M_120 7 (.istore_n 0) 1 8 := by decide +kernel
theorem d_120_70 : m_dn M_120 70 (.iload_n 0) 1 71 := by decide +kernel
theorem d_120_71 : m_dn M_120 71 (.iconst 2) 1 72 := by decide +kernel
theorem d_120_72 : m_dn M_120 72 (.iushr) 1 73 := by decide +kernel
theorem d_120_73 : m_dn M_120 73 (.istore_n 0) 1 74 := by decide +kernel
theorem d_120_74 : m_dn M_120 74 (.iload_n 1) 1 75 := by decide +kernel
theorem d_120_75 : m_dn M_120 75 (.iload_n 0) 1 76 := by decide +kernel
theorem d_120_76 : m_dn M_120 76 (.iconst 1) 1 77 := by decide +kernel
theorem d_120_77 : m_dn M_120 77 (.iushr) 1 78 := by decide +kernel
theorem d_120_78 : m_dn M_120 78 (.iadd) 1 79 := by decide +kernel
theorem d_120_79 : m_dn M_120 79 (.ireturn) 1 80 := by decide +kernel
theorem d_120_8 : m_dn M_120 8 (.iload_n 0) 1 9 := by decide +kernel
theorem d_120_9 : m_dn M_120 9 (.ifCond .gt 8) 3 12 := by decide +kernel
theorem d_121_0 : m_dn M_121 0 (.iload_n 0) 1 1 := by decide +kernel
theorem d_121_1 : m_dn M_121 1 (.ifCond .gt 14) 3 4 := by decide +kernel
theorem d_121_10 : m_dn M_121 10 (.goto 4) 3 13 := by decide +kernel
theorem d_121_13 : m_dn M_121 13 (.iconst 0) 1 14 := by decide +kernel
theorem d_121_14 : m_dn M_121 14 (.ireturn) 1 15 := by decide +kernel
theorem d_121_15 : m_dn M_121 15 (.bipush 31) 2 17 := by decide +kernel
theorem d_121_17 : m_dn M_121 17 (.istore_n 1) 1 18 := by decide +kernel
theorem d_121_18 : m_dn M_121 18 (.iload_n 0) 1 19 := by decide +kernel
theorem d_121_19 : m_dn M_121 19 (.ldc_w 264) 3 22 := by decide +kernel
theorem d_121_22 : m_dn M_121 22 (.if_icmp .lt 11) 3 25 := by decide +kernel
theorem d_121_25 : m_dn M_121 25 (.iinc 1 (-16)) 3 28 := by decide +kernel
theorem d_121_28 : m_dn M_121 28 (.iload_n 0) 1 29 := by decide +kernel
theorem d_121_29 : m_dn M_121 29 (.bipush 16) 2 31 := by decide +kernel
theorem d_121_31 : m_dn M_121 31 (.iushr) 1 32 := by decide +kernel
theorem d_121_32 : m_dn M_121 32 (.istore_n 0) 1 33 := by decide +kernel
theorem d_121_33 : m_dn M_121 33 (.iload_n 0) 1 34 := by decide +kernel
theorem d_121_34 : m_dn M_121 34 (.sipush 256) 3 37 := by decide +kernel
theorem d_121_37 : m_dn M_121 37 (.if_icmp .lt 11) 3 40 := by decide +kernel
theorem d_121_4 : m_dn M_121 4 (.iload_n 0) 1 5 := by decide +kernel
theorem d_121_40 : m_dn M_121 40 (.iinc 1 (-8)) 3 43 := by decide +kernel
theorem d_121_43 : m_dn M_121 43 (.iload_n 0) 1 44 := by decide +kernel
theorem d_121_44 : m_dn M_121 44 (.bipush 8) 2 46 := by decide +kernel
theorem d_121_46 : m_dn M_121 46 (.iushr) 1 47 := by decide +kernel
theorem d_121_47 : m_dn M_121 47 (.istore_n 0) 1 48 := by decide +kernel
theorem d_121_48 : m_dn M_121 48 (.iload_n 0) 1 49 := by decide +kernel
theorem d_121_49 : m_dn M_121 49 (.bipush 16) 2 51 := by decide +kernel
theorem d_121_5 : m_dn M_121 5 (.ifCond .ne 8) 3 8 := by decide +kernel
theorem d_121_51 : m_dn M_121 51 (.if_icmp .lt 10) 3 54 := by decide +kernel
theorem d_121_54 : m_dn M_121 54 (.iinc 1 (-4)) 3 57 := by decide +kernel
theorem d_121_57 : m_dn M_121 57 (.iload_n 0) 1 58 := by decide +kernel
theorem d_121_58 : m_dn M_121 58 (.iconst 4) 1 59 := by decide +kernel
theorem d_121_59 : m_dn M_121 59 (.iushr) 1 60 := by decide +kernel
theorem d_121_60 : m_dn M_121 60 (.istore_n 0) 1 61 := by decide +kernel
theorem d_121_61 : m_dn M_121 61 (.iload_n 0) 1 62 := by decide +kernel
theorem d_121_62 : m_dn M_121 62 (.iconst 4) 1 63 := by decide +kernel
theorem d_121_63 : m_dn M_121 63 (.if_icmp .lt 10) 3 66 := by decide +kernel
theorem d_121_66 : m_dn M_121 66 (.iinc 1 (-2)) 3 69 := by decide +kernel
theorem d_121_69 : m_dn M_121 69 (.iload_n 0) 1 70 := by decide +kernel
theorem d_121_70 : m_dn M_121 70 (.iconst 2) 1 71 := by decide +kernel
theorem d_121_71 : m_dn M_121 71 (.iushr) 1 72 := by decide +kernel
theorem d_121_72 : m_dn M_121 72 (.istore_n 0) 1 73 := by decide +kernel
theorem d_121_73 : m_dn M_121 73 (.iload_n 1) 1 74 := by decide +kernel
theorem d_121_74 : m_dn M_121 74 (.iload_n 0) 1 75 := by decide +kernel
theorem d_121_75 : m_dn M_121 75 (.iconst 1) 1 76 := by decide +kernel
theorem d_121_76 : m_dn M_121 76 (.iushr) 1 77 := by decide +kernel
theorem d_121_77 : m_dn M_121 77 (.isub) 1 78 := by decide +kernel
theorem d_121_78 : m_dn M_121 78 (.ireturn) 1 79 := by decide +kernel
theorem d_121_8 : m_dn M_121 8 (.bipush 32) 2 10 := by decide +kernel
theorem d_269_0 : m_dn M_269 0 (.aload_n 0) 1 1 := by decide +kernel
theorem d_269_1 : m_dn M_269 1 (.iconst 0) 1 2 := by decide +kernel
theorem d_269_100 : m_dn M_269 100 (.iconst 1) 1 101 := by decide +kernel
theorem d_269_101 : m_dn M_269 101 (.goto 4) 3 104 := by decide +kernel
theorem d_269_104 : m_dn M_269 104 (.iconst 0) 1 105 := by decide +kernel
theorem d_269_105 : m_dn M_269 105 (.iastore) 1 106 := by decide +kernel
theorem d_269_106 : m_dn M_269 106 (.aload_n 0) 1 107 := by decide +kernel
theorem d_269_107 : m_dn M_269 107 (.getfield 124) 3 110 := by decide +kernel
theorem d_269_110 : m_dn M_269 110 (.iload_n 2) 1 111 := by decide +kernel
theorem d_269_111 : m_dn M_269 111 (.iconst 3) 1 112 := by decide +kernel
theorem d_269_112 : m_dn M_269 112 (.iadd) 1 113 := by decide +kernel
theorem d_269_113 : m_dn M_269 113 (.aload_n 0) 1 114 := by decide +kernel
theorem d_269_114 : m_dn M_269 114 (.getfield 222) 3 117 := by decide +kernel
theorem d_269_117 : m_dn M_269 117 (.iastore) 1 118 := by decide +kernel
theorem d_269_118 : m_dn M_269 118 (.aload_n 0) 1 119 := by decide +kernel
theorem d_269_119 : m_dn M_269 119 (.getfield 124) 3 122 := by decide +kernel
theorem d_269_12 : m_dn M_269 12 (.if_icmp .ne 5) 3 15 := by decide +kernel
theorem d_269_122 : m_dn M_269 122 (.iload_n 2) 1 123 := by decide +kernel
theorem d_269_123 : m_dn M_269 123 (.iconst 4) 1 124 := by decide +kernel
theorem d_269_124 : m_dn M_269 124 (.iadd) 1 125 := by decide +kernel
theorem d_269_125 : m_dn M_269 125 (.aload_n 0) 1 126 := by decide +kernel
theorem d_269_126 : m_dn M_269 126 (.getfield 226) 3 129 := by decide +kernel
theorem d_269_129 : m_dn M_269 129 (.iastore) 1 130 := by decide +kernel
theorem d_269_130 : m_dn M_269 130 (.aload_n 0) 1 131 := by decide +kernel
theorem d_269_131 : m_dn M_269 131 (.getfield 124) 3 134 := by decide +kernel
theorem d_269_134 : m_dn M_269 134 (.iload_n 2) 1 135 := by decide +kernel
theorem d_269_135 : m_dn M_269 135 (.iconst 5) 1 136 := by decide +kernel
theorem d_269_136 : m_dn M_269 136 (.iadd) 1 137 := by decide +kernel
theorem d_269_137 : m_dn M_269 137 (.aload_n 0) 1 138 := by decide +kernel
theorem d_269_138 : m_dn M_269 138 (.getfield 229) 3 141 := by decide +kernel
theorem d_269_141 : m_dn M_269 141 (.iastore) 1 142 := by decide +kernel
theorem d_269_142 : m_dn M_269 142 (.aload_n 0) 1 143 := by decide +kernel
theorem d_269_143 : m_dn M_269 143 (.getfield 124) 3 146 := by decide +kernel
theorem d_269_146 : m_dn M_269 146 (.iload_n 2) 1 147 := by decide +kernel
theorem d_269_147 : m_dn M_269 147 (.bipush 6) 2 149 := by decide +kernel
theorem d_269_149 : m_dn M_269 149 (.iadd) 1 150 := by decide +kernel
theorem d_269_15 : m_dn M_269 15 (.iconst (-1)) 1 16 := by decide +kernel
theorem d_269_150 : m_dn M_269 150 (.aload_n 0) 1 151 := by decide +kernel
theorem d_269_151 : m_dn M_269 151 (.getfield 232) 3 154 := by decide +kernel
theorem d_269_154 : m_dn M_269 154 (.ifCond .eq 7) 3 157 := by decide +kernel
theorem d_269_157 : m_dn M_269 157 (.iconst 1) 1 158 := by decide +kernel
theorem d_269_158 : m_dn M_269 158 (.goto 4) 3 161 := by decide +kernel
theorem d_269_16 : m_dn M_269 16 (.ireturn) 1 17 := by decide +kernel
theorem d_269_161 : m_dn M_269 161 (.iconst 0) 1 162 := by decide +kernel
theorem d_269_162 : m_dn M_269 162 (.iastore) 1 163 := by decide +kernel
theorem d_269_163 : m_dn M_269 163 (.aload_n 0) 1 164 := by decide +kernel
theorem d_269_164 : m_dn M_269 164 (.getfield 124) 3 167 := by decide +kernel
theorem d_269_167 : m_dn M_269 167 (.iload_n 2) 1 168 := by decide +kernel
theorem d_269_168 : m_dn M_269 168 (.bipush 7) 2 170 := by decide +kernel
theorem d_269_17 : m_dn M_269 17 (.aload_n 0) 1 18 := by decide +kernel
theorem d_269_170 : m_dn M_269 170 (.iadd) 1 171 := by decide +kernel
theorem d_269_171 : m_dn M_269 171 (.aload_n 0) 1 172 := by decide +kernel
theorem d_269_172 : m_dn M_269 172 (.getfield 235) 3 175 := by decide +kernel
theorem d_269_175 : m_dn M_269 175 (.iastore) 1 176 := by decide +kernel
theorem d_269_176 : m_dn M_269 176 (.iconst 0) 1 177 := by decide +kernel
theorem d_269_177 : m_dn M_269 177 (.istore_n 3) 1 178 := by decide +kernel
theorem d_269_178 : m_dn M_269 178 (.iload_n 3) 1 179 := by decide +kernel
theorem d_269_179 : m_dn M_269 179 (.bipush 8) 2 181 := by decide +kernel
theorem d_269_18 : m_dn M_269 18 (.getfield 612) 3 21 := by decide +kernel
theorem d_269_181 : m_dn M_269 181 (.if_icmp .ge 26) 3 184 := by decide +kernel
theorem d_269_184 : m_dn M_269 184 (.aload_n 0) 1 185 := by decide +kernel
theorem d_269_185 : m_dn M_269 185 (.getfield 124) 3 188 := by decide +kernel
theorem d_269_188 : m_dn M_269 188 (.iload_n 2) 1 189 := by decide +kernel
theorem d_269_189 : m_dn M_269 189 (.bipush 8) 2 191 := by decide +kernel
theorem d_269_191 : m_dn M_269 191 (.iadd) 1 192 := by decide +kernel
theorem d_269_192 : m_dn M_269 192 (.iload_n 3) 1 193 := by decide +kernel
theorem d_269_193 : m_dn M_269 193 (.iadd) 1 194 := by decide +kernel
theorem d_269_194 : m_dn M_269 194 (.aload_n 0) 1 195 := by decide +kernel
theorem d_269_195 : m_dn M_269 195 (.getfield 20) 3 198 := by decide +kernel
theorem d_269_198 : m_dn M_269 198 (.iload_n 3) 1 199 := by decide +kernel
theorem d_269_199 : m_dn M_269 199 (.iaload) 1 200 := by decide +kernel
theorem d_269_2 : m_dn M_269 2 (.putfield 155) 3 5 := by decide +kernel
theorem d_269_200 : m_dn M_269 200 (.iastore) 1 201 := by decide +kernel
theorem d_269_201 : m_dn M_269 201 (.iinc 3 1) 3 204 := by decide +kernel
theorem d_269_204 : m_dn M_269 204 (.goto (-26)) 3 207 := by decide +kernel
theorem d_269_207 : m_dn M_269 207 (.aload_n 0) 1 208 := by decide +kernel
theorem d_269_208 : m_dn M_269 208 (.getfield 124) 3 211 := by decide +kernel
theorem d_269_21 : m_dn M_269 21 (.istore_n 1) 1 22 := by decide +kernel
theorem d_269_211 : m_dn M_269 211 (.iload_n 2) 1 212 := by decide +kernel
theorem d_269_212 : m_dn M_269 212 (.bipush 16) 2 214 := by decide +kernel
theorem d_269_214 : m_dn M_269 214 (.iadd) 1 215 := by decide +kernel
theorem d_269_215 : m_dn M_269 215 (.aload_n 0) 1 216 := by decide +kernel
theorem d_269_216 : m_dn M_269 216 (.getfield 266) 3 219 := by decide +kernel
theorem d_269_219 : m_dn M_269 219 (.ifCond .eq 7) 3 222 := by decide +kernel
theorem d_269_22 : m_dn M_269 22 (.aload_n 0) 1 23 := by decide +kernel
theorem d_269_222 : m_dn M_269 222 (.iconst 1) 1 223 := by decide +kernel
theorem d_269_223 : m_dn M_269 223 (.goto 4) 3 226 := by decide +kernel
theorem d_269_226 : m_dn M_269 226 (.iconst 0) 1 227 := by decide +kernel
theorem d_269_227 : m_dn M_269 227 (.iastore) 1 228 := by decide +kernel
theorem d_269_228 : m_dn M_269 228 (.aload_n 0) 1 229 := by decide +kernel
theorem d_269_229 : m_dn M_269 229 (.getfield 124) 3 232 := by decide +kernel
theorem d_269_23 : m_dn M_269 23 (.dup) 1 24 := by decide +kernel
theorem d_269_232 : m_dn M_269 232 (.iload_n 2) 1 233 := by decide +kernel
theorem d_269_233 : m_dn M_269 233 (.bipush 17) 2 235 := by decide +kernel
theorem d_269_235 : m_dn M_269 235 (.iadd) 1 236 := by decide +kernel
theorem d_269_236 : m_dn M_269 236 (.aload_n 0) 1 237 := by decide +kernel
theorem d_269_237 : m_dn M_269 237 (.getfield 271) 3 240 := by decide +kernel
theorem d_269_24 : m_dn M_269 24 (.getfield 612) 3 27 := by decide +kernel
theorem d_269_240 : m_dn M_269 240 (.ifCond .eq 7) 3 243 := by decide +kernel
theorem d_269_243 : m_dn M_269 243 (.iconst 1) 1 244 := by decide +kernel
theorem d_269_244 : m_dn M_269 244 (.goto 4) 3 247 := by decide +kernel
theorem d_269_247 : m_dn M_269 247 (.iconst 0) 1 248 := by decide +kernel
theorem d_269_248 : m_dn M_269 248 (.iastore) 1 249 := by decide +kernel
theorem d_269_249 : m_dn M_269 249 (.aload_n 0) 1 250 := by decide +kernel
theorem d_269_250 : m_dn M_269 250 (.getfield 124) 3 253 := by decide +kernel
theorem d_269_253 : m_dn M_269 253 (.iload_n 2) 1 254 := by decide +kernel
theorem d_269_254 : m_dn M_269 254 (.bipush 18) 2 256 := by decide +kernel
theorem d_269_256 : m_dn M_269 256 (.iadd) 1 257 := by decide +kernel
theorem d_269_257 : m_dn M_269 257 (.aload_n 0) 1 258 := by decide +kernel
theorem d_269_258 : m_dn M_269 258 (.getfield 276) 3 261 := by decide +kernel
theorem d_269_261 : m_dn M_269 261 (.iastore) 1 262 := by decide +kernel
theorem d_269_262 : m_dn M_269 262 (.aload_n 0) 1 263 := by decide +kernel
theorem d_269_263 : m_dn M_269 263 (.getfield 124) 3 266 := by decide +kernel
theorem d_269_266 : m_dn M_269 266 (.iload_n 2) 1 267 := by decide +kernel
theorem d_269_267 : m_dn M_269 267 (.bipush 19) 2 269 := by decide +kernel
theorem d_269_269 : m_dn M_269 269 (.iadd) 1 270 := by decide +kernel
theorem d_269_27 : m_dn M_269 27 (.iconst 1) 1 28 := by decide +kernel
theorem d_269_270 : m_dn M_269 270 (.aload_n 0) 1 271 := by decide +kernel
theorem d_269_271 : m_dn M_269 271 (.getfield 282) 3 274 := by decide +kernel
theorem d_269_274 : m_dn M_269 274 (.iastore) 1 275 := by decide +kernel
theorem d_269_275 : m_dn M_269 275 (.aload_n 0) 1 276 := by decide +kernel
theorem d_269_276 : m_dn M_269 276 (.getfield 124) 3 279 := by decide +kernel
theorem d_269_279 : m_dn M_269 279 (.iload_n 2) 1 280 := by decide +kernel
theorem d_269_28 : m_dn M_269 28 (.iadd) 1 29 := by decide +kernel
theorem d_269_280 : m_dn M_269 280 (.bipush 20) 2 282 := by decide +kernel
theorem d_269_282 : m_dn M_269 282 (.iadd) 1 283 := by decide +kernel
theorem d_269_283 : m_dn M_269 283 (.aload_n 0) 1 284 := by decide +kernel
theorem d_269_284 : m_dn M_269 284 (.getfield 287) 3 287 := by decide +kernel
theorem d_269_287 : m_dn M_269 287 (.iastore) 1 288 := by decide +kernel
theorem d_269_288 : m_dn M_269 288 (.aload_n 0) 1 289 := by decide +kernel
theorem d_269_289 : m_dn M_269 289 (.getfield 124) 3 292 := by decide +kernel
theorem d_269_29 : m_dn M_269 29 (.putfield 612) 3 32 := by decide +kernel
theorem d_269_292 : m_dn M_269 292 (.iload_n 2) 1 293 := by decide +kernel
theorem d_269_293 : m_dn M_269 293 (.bipush 21) 2 295 := by decide +kernel
theorem d_269_295 : m_dn M_269 295 (.iadd) 1 296 := by decide +kernel
theorem d_269_296 : m_dn M_269 296 (.aload_n 0) 1 297 := by decide +kernel
theorem d_269_297 : m_dn M_269 297 (.getfield 334) 3 300 := by decide +kernel
theorem d_269_300 : m_dn M_269 300 (.iastore) 1 301 := by decide +kernel
theorem d_269_301 : m_dn M_269 301 (.aload_n 0) 1 302 := by decide +kernel
theorem d_269_302 : m_dn M_269 302 (.getfield 124) 3 305 := by decide +kernel
theorem d_269_305 : m_dn M_269 305 (.iload_n 2) 1 306 := by decide +kernel
theorem d_269_306 : m_dn M_269 306 (.bipush 22) 2 308 := by decide +kernel
theorem d_269_308 : m_dn M_269 308 (.iadd) 1 309 := by decide +kernel
theorem d_269_309 : m_dn M_269 309 (.aload_n 0) 1 310 := by decide +kernel
theorem d_269_310 : m_dn M_269 310 (.invokevirtual 615) 3 313 := by decide +kernel
theorem d_269_313 : m_dn M_269 313 (.iastore) 1 314 := by decide +kernel
theorem d_269_314 : m_dn M_269 314 (.iconst 4) 1 315 := by decide +kernel
theorem d_269_315 : m_dn M_269 315 (.aload_n 0) 1 316 := by decide +kernel
theorem d_269_316 : m_dn M_269 316 (.getfield 200) 3 319 := by decide +kernel
theorem d_269_319 : m_dn M_269 319 (.imul) 1 320 := by decide +kernel
theorem d_269_32 : m_dn M_269 32 (.aload_n 0) 1 33 := by decide +kernel
theorem d_269_320 : m_dn M_269 320 (.aload_n 0) 1 321 := by decide +kernel
theorem d_269_321 : m_dn M_269 321 (.getfield 203) 3 324 := by decide +kernel
theorem d_269_324 : m_dn M_269 324 (.iadd) 1 325 := by decide +kernel
theorem d_269_325 : m_dn M_269 325 (.istore_n 3) 1 326 := by decide +kernel
theorem d_269_326 : m_dn M_269 326 (.aload_n 0) 1 327 := by decide +kernel
theorem d_269_327 : m_dn M_269 327 (.iconst 3) 1 328 := by decide +kernel
theorem d_269_328 : m_dn M_269 328 (.bipush 6) 2 330 := by decide +kernel
theorem d_269_33 : m_dn M_269 33 (.getfield 127) 3 36 := by decide +kernel
theorem d_269_330 : m_dn M_269 330 (.iload_n 3) 1 331 := by decide +kernel
theorem d_269_331 : m_dn M_269 331 (.iconst 0) 1 332 := by decide +kernel
theorem d_269_332 : m_dn M_269 332 (.invokevirtual 510) 3 335 := by decide +kernel
theorem d_269_335 : m_dn M_269 335 (.istore 4) 2 337 := by decide +kernel
theorem d_269_337 : m_dn M_269 337 (.iload 4) 2 339 := by decide +kernel
theorem d_269_339 : m_dn M_269 339 (.iconst (-1)) 1 340 := by decide +kernel
theorem d_269_340 : m_dn M_269 340 (.if_icmp .ne 15) 3 343 := by decide +kernel
theorem d_269_343 : m_dn M_269 343 (.aload_n 0) 1 344 := by decide +kernel
theorem d_269_344 : m_dn M_269 344 (.iload_n 1) 1 345 := by decide +kernel
theorem d_269_345 : m_dn M_269 345 (.sipush 503) 3 348 := by decide +kernel
theorem d_269_348 : m_dn M_269 348 (.iconst 0) 1 349 := by decide +kernel
theorem d_269_349 : m_dn M_269 349 (.iconst 0) 1 350 := by decide +kernel
theorem d_269_350 : m_dn M_269 350 (.invokevirtual 497) 3 353 := by decide +kernel
theorem d_269_353 : m_dn M_269 353 (.iload_n 1) 1 354 := by decide +kernel
theorem d_269_354 : m_dn M_269 354 (.ireturn) 1 355 := by decide +kernel
theorem d_269_355 : m_dn M_269 355 (.aload_n 0) 1 356 := by decide +kernel
theorem d_269_356 : m_dn M_269 356 (.getfield 146) 3 359 := by decide +kernel
theorem d_269_359 : m_dn M_269 359 (.bipush 9) 2 361 := by decide +kernel
theorem d_269_36 : m_dn M_269 36 (.iload_n 1) 1 37 := by decide +kernel
theorem d_269_361 : m_dn M_269 361 (.iload_n 1) 1 362 := by decide +kernel
theorem d_269_362 : m_dn M_269 362 (.imul) 1 363 := by decide +kernel
theorem d_269_363 : m_dn M_269 363 (.bipush 6) 2 365 := by decide +kernel
theorem d_269_365 : m_dn M_269 365 (.iadd) 1 366 := by decide +kernel
theorem d_269_366 : m_dn M_269 366 (.iload 4) 2 368 := by decide +kernel
theorem d_269_368 : m_dn M_269 368 (.iastore) 1 369 := by decide +kernel
theorem d_269_369 : m_dn M_269 369 (.aload_n 0) 1 370 := by decide +kernel
theorem d_269_37 : m_dn M_269 37 (.iconst 1) 1 38 := by decide +kernel
theorem d_269_370 : m_dn M_269 370 (.invokevirtual 584) 3 373 := by decide +kernel
theorem d_269_373 : m_dn M_269 373 (.istore 5) 2 375 := by decide +kernel
theorem d_269_375 : m_dn M_269 375 (.iconst 0) 1 376 := by decide +kernel
theorem d_269_376 : m_dn M_269 376 (.istore 6) 2 378 := by decide +kernel
theorem d_269_378 : m_dn M_269 378 (.iload 6) 2 380 := by decide +kernel
theorem d_269_38 : m_dn M_269 38 (.bastore) 1 39 := by decide +kernel
theorem d_269_380 : m_dn M_269 380 (.bipush 12) 2 382 := by decide +kernel
theorem d_269_382 : m_dn M_269 382 (.if_icmp .ge 20) 3 385 := by decide +kernel
theorem d_269_385 : m_dn M_269 385 (.aload_n 0) 1 386 := by decide +kernel
theorem d_269_386 : m_dn M_269 386 (.getfield 131) 3 389 := by decide +kernel
theorem d_269_389 : m_dn M_269 389 (.iload 5) 2 391 := by decide +kernel
theorem d_269_39 : m_dn M_269 39 (.aload_n 0) 1 40 := by decide +kernel
theorem d_269_391 : m_dn M_269 391 (.iload 6) 2 393 := by decide +kernel
theorem d_269_393 : m_dn M_269 393 (.iadd) 1 394 := by decide +kernel
theorem d_269_394 : m_dn M_269 394 (.iconst 0) 1 395 := by decide +kernel
theorem d_269_395 : m_dn M_269 395 (.iastore) 1 396 := by decide +kernel
theorem d_269_396 : m_dn M_269 396 (.iinc 6 1) 3 399 := by decide +kernel
theorem d_269_399 : m_dn M_269 399 (.goto (-21)) 3 402 := by decide +kernel
theorem d_269_40 : m_dn M_269 40 (.iconst 1) 1 41 := by decide +kernel
theorem d_269_402 : m_dn M_269 402 (.aload_n 0) 1 403 := by decide +kernel
theorem d_269_403 : m_dn M_269 403 (.getfield 131) 3 406 := by decide +kernel
theorem d_269_406 : m_dn M_269 406 (.iload 5) 2 408 := by decide +kernel
theorem d_269_408 : m_dn M_269 408 (.iload 4) 2 410 := by decide +kernel
theorem d_269_41 : m_dn M_269 41 (.invokevirtual 608) 3 44 := by decide +kernel
theorem d_269_410 : m_dn M_269 410 (.iastore) 1 411 := by decide +kernel
theorem d_269_411 : m_dn M_269 411 (.aload_n 0) 1 412 := by decide +kernel
theorem d_269_412 : m_dn M_269 412 (.getfield 131) 3 415 := by decide +kernel
theorem d_269_415 : m_dn M_269 415 (.iload 5) 2 417 := by decide +kernel
theorem d_269_417 : m_dn M_269 417 (.iconst 1) 1 418 := by decide +kernel
theorem d_269_418 : m_dn M_269 418 (.iadd) 1 419 := by decide +kernel
theorem d_269_419 : m_dn M_269 419 (.iload_n 3) 1 420 := by decide +kernel
theorem d_269_420 : m_dn M_269 420 (.iastore) 1 421 := by decide +kernel
theorem d_269_421 : m_dn M_269 421 (.aload_n 0) 1 422 := by decide +kernel
theorem d_269_422 : m_dn M_269 422 (.getfield 131) 3 425 := by decide +kernel
theorem d_269_425 : m_dn M_269 425 (.iload 5) 2 427 := by decide +kernel
theorem d_269_427 : m_dn M_269 427 (.iconst 2) 1 428 := by decide +kernel
theorem d_269_428 : m_dn M_269 428 (.iadd) 1 429 := by decide +kernel
theorem d_269_429 : m_dn M_269 429 (.iload_n 1) 1 430 := by decide +kernel
theorem d_269_430 : m_dn M_269 430 (.iastore) 1 431 := by decide +kernel
theorem d_269_431 : m_dn M_269 431 (.aload_n 0) 1 432 := by decide +kernel
theorem d_269_432 : m_dn M_269 432 (.getfield 131) 3 435 := by decide +kernel
theorem d_269_435 : m_dn M_269 435 (.iload 5) 2 437 := by decide +kernel
theorem d_269_437 : m_dn M_269 437 (.bipush 11) 2 439 := by decide +kernel
theorem d_269_439 : m_dn M_269 439 (.iadd) 1 440 := by decide +kernel
theorem d_269_44 : m_dn M_269 44 (.ifCond .ne 15) 3 47 := by decide +kernel
theorem d_269_440 : m_dn M_269 440 (.aload_n 0) 1 441 := by decide +kernel
theorem d_269_441 : m_dn M_269 441 (.getfield 124) 3 444 := by decide +kernel
theorem d_269_444 : m_dn M_269 444 (.iload_n 2) 1 445 := by decide +kernel
theorem d_269_445 : m_dn M_269 445 (.bipush 22) 2 447 := by decide +kernel
theorem d_269_447 : m_dn M_269 447 (.iadd) 1 448 := by decide +kernel
theorem d_269_448 : m_dn M_269 448 (.iaload) 1 449 := by decide +kernel
theorem d_269_449 : m_dn M_269 449 (.iastore) 1 450 := by decide +kernel
theorem d_269_450 : m_dn M_269 450 (.aload_n 0) 1 451 := by decide +kernel
theorem d_269_451 : m_dn M_269 451 (.iload 5) 2 453 := by decide +kernel
theorem d_269_453 : m_dn M_269 453 (.invokevirtual 587) 3 456 := by decide +kernel
theorem d_269_456 : m_dn M_269 456 (.iload_n 1) 1 457 := by decide +kernel
theorem d_269_457 : m_dn M_269 457 (.ireturn) 1 458 := by decide +kernel
theorem d_269_47 : m_dn M_269 47 (.aload_n 0) 1 48 := by decide +kernel
theorem d_269_48 : m_dn M_269 48 (.iload_n 1) 1 49 := by decide +kernel
theorem d_269_49 : m_dn M_269 49 (.sipush 400) 3 52 := by decide +kernel
theorem d_269_5 : m_dn M_269 5 (.aload_n 0) 1 6 := by decide +kernel
theorem d_269_52 : m_dn M_269 52 (.iconst 0) 1 53 := by decide +kernel
theorem d_269_53 : m_dn M_269 53 (.iconst 0) 1 54 := by decide +kernel
theorem d_269_54 : m_dn M_269 54 (.invokevirtual 497) 3 57 := by decide +kernel
theorem d_269_57 : m_dn M_269 57 (.iload_n 1) 1 58 := by decide +kernel
theorem d_269_58 : m_dn M_269 58 (.ireturn) 1 59 := by decide +kernel
theorem d_269_59 : m_dn M_269 59 (.bipush 23) 2 61 := by decide +kernel
theorem d_269_6 : m_dn M_269 6 (.getfield 612) 3 9 := by decide +kernel
theorem d_269_61 : m_dn M_269 61 (.iload_n 1) 1 62 := by decide +kernel
theorem d_269_62 : m_dn M_269 62 (.imul) 1 63 := by decide +kernel
theorem d_269_63 : m_dn M_269 63 (.istore_n 2) 1 64 := by decide +kernel
theorem d_269_64 : m_dn M_269 64 (.aload_n 0) 1 65 := by decide +kernel
theorem d_269_65 : m_dn M_269 65 (.getfield 124) 3 68 := by decide +kernel
theorem d_269_68 : m_dn M_269 68 (.iload_n 2) 1 69 := by decide +kernel
theorem d_269_69 : m_dn M_269 69 (.aload_n 0) 1 70 := by decide +kernel
theorem d_269_70 : m_dn M_269 70 (.getfield 200) 3 73 := by decide +kernel
theorem d_269_73 : m_dn M_269 73 (.iastore) 1 74 := by decide +kernel
theorem d_269_74 : m_dn M_269 74 (.aload_n 0) 1 75 := by decide +kernel
theorem d_269_75 : m_dn M_269 75 (.getfield 124) 3 78 := by decide +kernel
theorem d_269_78 : m_dn M_269 78 (.iload_n 2) 1 79 := by decide +kernel
theorem d_269_79 : m_dn M_269 79 (.iconst 1) 1 80 := by decide +kernel
theorem d_269_80 : m_dn M_269 80 (.iadd) 1 81 := by decide +kernel
theorem d_269_81 : m_dn M_269 81 (.aload_n 0) 1 82 := by decide +kernel
theorem d_269_82 : m_dn M_269 82 (.getfield 203) 3 85 := by decide +kernel
theorem d_269_85 : m_dn M_269 85 (.iastore) 1 86 := by decide +kernel
theorem d_269_86 : m_dn M_269 86 (.aload_n 0) 1 87 := by decide +kernel
theorem d_269_87 : m_dn M_269 87 (.getfield 124) 3 90 := by decide +kernel
theorem d_269_9 : m_dn M_269 9 (.sipush 300) 3 12 := by decide +kernel
theorem d_269_90 : m_dn M_269 90 (.iload_n 2) 1 91 := by decide +kernel
theorem d_269_91 : m_dn M_269 91 (.iconst 2) 1 92 := by decide +kernel
theorem d_269_92 : m_dn M_269 92 (.iadd) 1 93 := by decide +kernel
theorem d_269_93 : m_dn M_269 93 (.aload_n 0) 1 94 := by decide +kernel
theorem d_269_94 : m_dn M_269 94 (.getfield 329) 3 97 := by decide +kernel
theorem d_269_97 : m_dn M_269 97 (.ifCond .eq 7) 3 100 := by decide +kernel
theorem d_276_0 : m_dn M_276 0 (.aload_n 0) 1 1 := by decide +kernel
theorem d_276_1 : m_dn M_276 1 (.getfield 131) 3 4 := by decide +kernel
theorem d_276_10 : m_dn M_276 10 (.iload_n 2) 1 11 := by decide +kernel
theorem d_276_102 : m_dn M_276 102 (.iload_n 2) 1 103 := by decide +kernel
theorem d_276_103 : m_dn M_276 103 (.dup2) 1 104 := by decide +kernel
theorem d_276_104 : m_dn M_276 104 (.iaload) 1 105 := by decide +kernel
theorem d_276_105 : m_dn M_276 105 (.iconst 1) 1 106 := by decide +kernel
theorem d_276_106 : m_dn M_276 106 (.iadd) 1 107 := by decide +kernel
theorem d_276_107 : m_dn M_276 107 (.iastore) 1 108 := by decide +kernel
theorem d_276_108 : m_dn M_276 108 (.aload_n 0) 1 109 := by decide +kernel
theorem d_276_109 : m_dn M_276 109 (.iload_n 2) 1 110 := by decide +kernel
theorem d_276_11 : m_dn M_276 11 (.imul) 1 12 := by decide +kernel
theorem d_276_110 : m_dn M_276 110 (.iload 4) 2 112 := by decide +kernel
theorem d_276_112 : m_dn M_276 112 (.invokevirtual 483) 3 115 := by decide +kernel
theorem d_276_115 : m_dn M_276 115 (.aload_n 0) 1 116 := by decide +kernel
theorem d_276_116 : m_dn M_276 116 (.iload_n 1) 1 117 := by decide +kernel
theorem d_276_117 : m_dn M_276 117 (.iload 4) 2 119 := by decide +kernel
theorem d_276_119 : m_dn M_276 119 (.iconst 1) 1 120 := by decide +kernel
theorem d_276_12 : m_dn M_276 12 (.aload_n 0) 1 13 := by decide +kernel
theorem d_276_120 : m_dn M_276 120 (.invokevirtual 487) 3 123 := by decide +kernel
theorem d_276_123 : m_dn M_276 123 (.goto 126) 3 126 := by decide +kernel
theorem d_276_126 : m_dn M_276 126 (.iload 6) 2 128 := by decide +kernel
theorem d_276_128 : m_dn M_276 128 (.ifCond .eq 40) 3 131 := by decide +kernel
theorem d_276_13 : m_dn M_276 13 (.getfield 131) 3 16 := by decide +kernel
theorem d_276_131 : m_dn M_276 131 (.aload_n 0) 1 132 := by decide +kernel
theorem d_276_132 : m_dn M_276 132 (.iload_n 1) 1 133 := by decide +kernel
theorem d_276_133 : m_dn M_276 133 (.iload 4) 2 135 := by decide +kernel
theorem d_276_135 : m_dn M_276 135 (.invokevirtual 491) 3 138 := by decide +kernel
theorem d_276_138 : m_dn M_276 138 (.ifCond .eq 30) 3 141 := by decide +kernel
theorem d_276_141 : m_dn M_276 141 (.aload_n 0) 1 142 := by decide +kernel
theorem d_276_142 : m_dn M_276 142 (.iload_n 1) 1 143 := by decide +kernel
theorem d_276_143 : m_dn M_276 143 (.iload 4) 2 145 := by decide +kernel
theorem d_276_145 : m_dn M_276 145 (.iconst 2) 1 146 := by decide +kernel
theorem d_276_146 : m_dn M_276 146 (.invokevirtual 487) 3 149 := by decide +kernel
theorem d_276_149 : m_dn M_276 149 (.aload_n 0) 1 150 := by decide +kernel
theorem d_276_150 : m_dn M_276 150 (.getfield 91) 3 153 := by decide +kernel
theorem d_276_153 : m_dn M_276 153 (.iload_n 3) 1 154 := by decide +kernel
theorem d_276_154 : m_dn M_276 154 (.baload) 1 155 := by decide +kernel
theorem d_276_155 : m_dn M_276 155 (.ifCond .ne 94) 3 158 := by decide +kernel
theorem d_276_158 : m_dn M_276 158 (.aload_n 0) 1 159 := by decide +kernel
theorem d_276_159 : m_dn M_276 159 (.iload_n 1) 1 160 := by decide +kernel
theorem d_276_16 : m_dn M_276 16 (.iload_n 1) 1 17 := by decide +kernel
theorem d_276_160 : m_dn M_276 160 (.iload_n 3) 1 161 := by decide +kernel
theorem d_276_161 : m_dn M_276 161 (.invokevirtual 494) 3 164 := by decide +kernel
theorem d_276_164 : m_dn M_276 164 (.pop) 1 165 := by decide +kernel
theorem d_276_165 : m_dn M_276 165 (.goto 84) 3 168 := by decide +kernel
theorem d_276_168 : m_dn M_276 168 (.iload 5) 2 170 := by decide +kernel
theorem d_276_17 : m_dn M_276 17 (.iconst 1) 1 18 := by decide +kernel
theorem d_276_170 : m_dn M_276 170 (.iconst (-1)) 1 171 := by decide +kernel
theorem d_276_171 : m_dn M_276 171 (.if_icmp .eq 29) 3 174 := by decide +kernel
theorem d_276_174 : m_dn M_276 174 (.aload_n 0) 1 175 := by decide +kernel
theorem d_276_175 : m_dn M_276 175 (.iload 5) 2 177 := by decide +kernel
theorem d_276_177 : m_dn M_276 177 (.bipush 17) 2 179 := by decide +kernel
theorem d_276_179 : m_dn M_276 179 (.invokevirtual 436) 3 182 := by decide +kernel
theorem d_276_18 : m_dn M_276 18 (.iadd) 1 19 := by decide +kernel
theorem d_276_182 : m_dn M_276 182 (.iconst 1) 1 183 := by decide +kernel
theorem d_276_183 : m_dn M_276 183 (.if_icmp .ne 17) 3 186 := by decide +kernel
theorem d_276_186 : m_dn M_276 186 (.aload_n 0) 1 187 := by decide +kernel
theorem d_276_187 : m_dn M_276 187 (.iload 5) 2 189 := by decide +kernel
theorem d_276_189 : m_dn M_276 189 (.sipush 504) 3 192 := by decide +kernel
theorem d_276_19 : m_dn M_276 19 (.iaload) 1 20 := by decide +kernel
theorem d_276_192 : m_dn M_276 192 (.iconst (-1)) 1 193 := by decide +kernel
theorem d_276_193 : m_dn M_276 193 (.iconst 0) 1 194 := by decide +kernel
theorem d_276_194 : m_dn M_276 194 (.invokevirtual 497) 3 197 := by decide +kernel
theorem d_276_197 : m_dn M_276 197 (.goto 52) 3 200 := by decide +kernel
theorem d_276_20 : m_dn M_276 20 (.iadd) 1 21 := by decide +kernel
theorem d_276_200 : m_dn M_276 200 (.aload_n 0) 1 201 := by decide +kernel
theorem d_276_201 : m_dn M_276 201 (.getfield 91) 3 204 := by decide +kernel
theorem d_276_204 : m_dn M_276 204 (.iload_n 3) 1 205 := by decide +kernel
theorem d_276_205 : m_dn M_276 205 (.baload) 1 206 := by decide +kernel
theorem d_276_206 : m_dn M_276 206 (.ifCond .eq 11) 3 209 := by decide +kernel
theorem d_276_209 : m_dn M_276 209 (.aload_n 0) 1 210 := by decide +kernel
theorem d_276_21 : m_dn M_276 21 (.istore_n 3) 1 22 := by decide +kernel
theorem d_276_210 : m_dn M_276 210 (.iload_n 1) 1 211 := by decide +kernel
theorem d_276_211 : m_dn M_276 211 (.invokevirtual 501) 3 214 := by decide +kernel
theorem d_276_214 : m_dn M_276 214 (.goto 35) 3 217 := by decide +kernel
theorem d_276_217 : m_dn M_276 217 (.aload_n 0) 1 218 := by decide +kernel
theorem d_276_218 : m_dn M_276 218 (.getfield 48) 3 221 := by decide +kernel
theorem d_276_22 : m_dn M_276 22 (.aload_n 0) 1 23 := by decide +kernel
theorem d_276_221 : m_dn M_276 221 (.iload_n 2) 1 222 := by decide +kernel
theorem d_276_222 : m_dn M_276 222 (.dup2) 1 223 := by decide +kernel
theorem d_276_223 : m_dn M_276 223 (.iaload) 1 224 := by decide +kernel
theorem d_276_224 : m_dn M_276 224 (.iconst 1) 1 225 := by decide +kernel
theorem d_276_225 : m_dn M_276 225 (.iadd) 1 226 := by decide +kernel
theorem d_276_226 : m_dn M_276 226 (.iastore) 1 227 := by decide +kernel
theorem d_276_227 : m_dn M_276 227 (.aload_n 0) 1 228 := by decide +kernel
theorem d_276_228 : m_dn M_276 228 (.iload_n 1) 1 229 := by decide +kernel
theorem d_276_229 : m_dn M_276 229 (.iload_n 3) 1 230 := by decide +kernel
theorem d_276_23 : m_dn M_276 23 (.iload_n 3) 1 24 := by decide +kernel
theorem d_276_230 : m_dn M_276 230 (.invokevirtual 494) 3 233 := by decide +kernel
theorem d_276_233 : m_dn M_276 233 (.ifCond .eq 11) 3 236 := by decide +kernel
theorem d_276_236 : m_dn M_276 236 (.aload_n 0) 1 237 := by decide +kernel
theorem d_276_237 : m_dn M_276 237 (.iload_n 1) 1 238 := by decide +kernel
theorem d_276_238 : m_dn M_276 238 (.invokevirtual 501) 3 241 := by decide +kernel
theorem d_276_24 : m_dn M_276 24 (.aload_n 0) 1 25 := by decide +kernel
theorem d_276_241 : m_dn M_276 241 (.goto 8) 3 244 := by decide +kernel
theorem d_276_244 : m_dn M_276 244 (.aload_n 0) 1 245 := by decide +kernel
theorem d_276_245 : m_dn M_276 245 (.iload_n 1) 1 246 := by decide +kernel
theorem d_276_246 : m_dn M_276 246 (.invokevirtual 504) 3 249 := by decide +kernel
theorem d_276_249 : m_dn M_276 249 (.return_) 1 250 := by decide +kernel
theorem d_276_25 : m_dn M_276 25 (.getfield 131) 3 28 := by decide +kernel
theorem d_276_28 : m_dn M_276 28 (.iload_n 1) 1 29 := by decide +kernel
theorem d_276_29 : m_dn M_276 29 (.bipush 11) 2 31 := by decide +kernel
theorem d_276_31 : m_dn M_276 31 (.iadd) 1 32 := by decide +kernel
theorem d_276_32 : m_dn M_276 32 (.iaload) 1 33 := by decide +kernel
theorem d_276_33 : m_dn M_276 33 (.invokevirtual 468) 3 36 := by decide +kernel
theorem d_276_36 : m_dn M_276 36 (.istore 4) 2 38 := by decide +kernel
theorem d_276_38 : m_dn M_276 38 (.aload_n 0) 1 39 := by decide +kernel
theorem d_276_39 : m_dn M_276 39 (.getfield 131) 3 42 := by decide +kernel
theorem d_276_4 : m_dn M_276 4 (.iload_n 1) 1 5 := by decide +kernel
theorem d_276_42 : m_dn M_276 42 (.iload_n 1) 1 43 := by decide +kernel
theorem d_276_43 : m_dn M_276 43 (.iconst 2) 1 44 := by decide +kernel
theorem d_276_44 : m_dn M_276 44 (.iadd) 1 45 := by decide +kernel
theorem d_276_45 : m_dn M_276 45 (.iaload) 1 46 := by decide +kernel
theorem d_276_46 : m_dn M_276 46 (.istore 5) 2 48 := by decide +kernel
theorem d_276_48 : m_dn M_276 48 (.aload_n 0) 1 49 := by decide +kernel
theorem d_276_49 : m_dn M_276 49 (.iload_n 1) 1 50 := by decide +kernel
theorem d_276_5 : m_dn M_276 5 (.iaload) 1 6 := by decide +kernel
theorem d_276_50 : m_dn M_276 50 (.iload 4) 2 52 := by decide +kernel
theorem d_276_52 : m_dn M_276 52 (.invokevirtual 471) 3 55 := by decide +kernel
theorem d_276_55 : m_dn M_276 55 (.ifCond .eq 25) 3 58 := by decide +kernel
theorem d_276_58 : m_dn M_276 58 (.aload_n 0) 1 59 := by decide +kernel
theorem d_276_59 : m_dn M_276 59 (.iload_n 1) 1 60 := by decide +kernel
theorem d_276_6 : m_dn M_276 6 (.istore_n 2) 1 7 := by decide +kernel
theorem d_276_60 : m_dn M_276 60 (.invokevirtual 474) 3 63 := by decide +kernel
theorem d_276_63 : m_dn M_276 63 (.ifCond .ne 17) 3 66 := by decide +kernel
theorem d_276_66 : m_dn M_276 66 (.aload_n 0) 1 67 := by decide +kernel
theorem d_276_67 : m_dn M_276 67 (.iload_n 1) 1 68 := by decide +kernel
theorem d_276_68 : m_dn M_276 68 (.iload 4) 2 70 := by decide +kernel
theorem d_276_7 : m_dn M_276 7 (.sipush 128) 3 10 := by decide +kernel
theorem d_276_70 : m_dn M_276 70 (.invokevirtual 477) 3 73 := by decide +kernel
theorem d_276_73 : m_dn M_276 73 (.ifCond .eq 7) 3 76 := by decide +kernel
theorem d_276_76 : m_dn M_276 76 (.iconst 1) 1 77 := by decide +kernel
theorem d_276_77 : m_dn M_276 77 (.goto 4) 3 80 := by decide +kernel
theorem d_276_80 : m_dn M_276 80 (.iconst 0) 1 81 := by decide +kernel
theorem d_276_81 : m_dn M_276 81 (.istore 6) 2 83 := by decide +kernel
theorem d_276_83 : m_dn M_276 83 (.iload 6) 2 85 := by decide +kernel
theorem d_276_85 : m_dn M_276 85 (.ifCond .eq 41) 3 88 := by decide +kernel
theorem d_276_88 : m_dn M_276 88 (.aload_n 0) 1 89 := by decide +kernel
theorem d_276_89 : m_dn M_276 89 (.iload_n 1) 1 90 := by decide +kernel
theorem d_276_90 : m_dn M_276 90 (.iload 4) 2 92 := by decide +kernel
theorem d_276_92 : m_dn M_276 92 (.invokevirtual 480) 3 95 := by decide +kernel
theorem d_276_95 : m_dn M_276 95 (.ifCond .eq 31) 3 98 := by decide +kernel
theorem d_276_98 : m_dn M_276 98 (.aload_n 0) 1 99 := by decide +kernel
theorem d_276_99 : m_dn M_276 99 (.getfield 45) 3 102 := by decide +kernel
theorem d_283_0 : m_dn M_283 0 (.aload_n 0) 1 1 := by decide +kernel
theorem d_283_1 : m_dn M_283 1 (.iload_n 1) 1 2 := by decide +kernel
theorem d_283_10 : m_dn M_283 10 (.invokevirtual 456) 3 13 := by decide +kernel
theorem d_283_13 : m_dn M_283 13 (.invokevirtual 459) 3 16 := by decide +kernel
theorem d_283_16 : m_dn M_283 16 (.istore_n 3) 1 17 := by decide +kernel
theorem d_283_17 : m_dn M_283 17 (.aload_n 0) 1 18 := by decide +kernel
theorem d_283_18 : m_dn M_283 18 (.getfield 85) 3 21 := by decide +kernel
theorem d_283_2 : m_dn M_283 2 (.aload_n 0) 1 3 := by decide +kernel
theorem d_283_21 : m_dn M_283 21 (.iload_n 2) 1 22 := by decide +kernel
theorem d_283_22 : m_dn M_283 22 (.iaload) 1 23 := by decide +kernel
theorem d_283_23 : m_dn M_283 23 (.iload_n 3) 1 24 := by decide +kernel
theorem d_283_24 : m_dn M_283 24 (.iand) 1 25 := by decide +kernel
theorem d_283_25 : m_dn M_283 25 (.iload_n 3) 1 26 := by decide +kernel
theorem d_283_26 : m_dn M_283 26 (.if_icmp .ne 7) 3 29 := by decide +kernel
theorem d_283_29 : m_dn M_283 29 (.iconst 1) 1 30 := by decide +kernel
theorem d_283_3 : m_dn M_283 3 (.iload_n 2) 1 4 := by decide +kernel
theorem d_283_30 : m_dn M_283 30 (.goto 4) 3 33 := by decide +kernel
theorem d_283_33 : m_dn M_283 33 (.iconst 0) 1 34 := by decide +kernel
theorem d_283_34 : m_dn M_283 34 (.ireturn) 1 35 := by decide +kernel
theorem d_283_4 : m_dn M_283 4 (.iconst 1) 1 5 := by decide +kernel
theorem d_283_5 : m_dn M_283 5 (.invokevirtual 431) 3 8 := by decide +kernel
theorem d_283_8 : m_dn M_283 8 (.aload_n 0) 1 9 := by decide +kernel
theorem d_283_9 : m_dn M_283 9 (.iload_n 2) 1 10 := by decide +kernel
theorem d_285_0 : m_dn M_285 0 (.aload_n 0) 1 1 := by decide +kernel
theorem d_285_1 : m_dn M_285 1 (.getfield 131) 3 4 := by decide +kernel
theorem d_285_10 : m_dn M_285 10 (.iload 4) 2 12 := by decide +kernel
theorem d_285_12 : m_dn M_285 12 (.iconst (-1)) 1 13 := by decide +kernel
theorem d_285_13 : m_dn M_285 13 (.if_icmp .ne 25) 3 16 := by decide +kernel
theorem d_285_16 : m_dn M_285 16 (.aload_n 0) 1 17 := by decide +kernel
theorem d_285_17 : m_dn M_285 17 (.getfield 131) 3 20 := by decide +kernel
theorem d_285_20 : m_dn M_285 20 (.iload_n 1) 1 21 := by decide +kernel
theorem d_285_21 : m_dn M_285 21 (.iconst 5) 1 22 := by decide +kernel
theorem d_285_22 : m_dn M_285 22 (.iadd) 1 23 := by decide +kernel
theorem d_285_23 : m_dn M_285 23 (.iaload) 1 24 := by decide +kernel
theorem d_285_24 : m_dn M_285 24 (.aload_n 0) 1 25 := by decide +kernel
theorem d_285_25 : m_dn M_285 25 (.getfield 131) 3 28 := by decide +kernel
theorem d_285_28 : m_dn M_285 28 (.iload_n 1) 1 29 := by decide +kernel
theorem d_285_29 : m_dn M_285 29 (.bipush 6) 2 31 := by decide +kernel
theorem d_285_31 : m_dn M_285 31 (.iadd) 1 32 := by decide +kernel
theorem d_285_32 : m_dn M_285 32 (.iaload) 1 33 := by decide +kernel
theorem d_285_33 : m_dn M_285 33 (.iload_n 2) 1 34 := by decide +kernel
theorem d_285_34 : m_dn M_285 34 (.invokestatic 449) 3 37 := by decide +kernel
theorem d_285_37 : m_dn M_285 37 (.ireturn) 1 38 := by decide +kernel
theorem d_285_38 : m_dn M_285 38 (.aload_n 0) 1 39 := by decide +kernel
theorem d_285_39 : m_dn M_285 39 (.iload 4) 2 41 := by decide +kernel
theorem d_285_4 : m_dn M_285 4 (.iload_n 1) 1 5 := by decide +kernel
theorem d_285_41 : m_dn M_285 41 (.iload_n 2) 1 42 := by decide +kernel
theorem d_285_42 : m_dn M_285 42 (.iload_n 3) 1 43 := by decide +kernel
theorem d_285_43 : m_dn M_285 43 (.invokevirtual 452) 3 46 := by decide +kernel
theorem d_285_46 : m_dn M_285 46 (.ifCond .eq 34) 3 49 := by decide +kernel
theorem d_285_49 : m_dn M_285 49 (.aload_n 0) 1 50 := by decide +kernel
theorem d_285_5 : m_dn M_285 5 (.iconst 2) 1 6 := by decide +kernel
theorem d_285_50 : m_dn M_285 50 (.iload 4) 2 52 := by decide +kernel
theorem d_285_52 : m_dn M_285 52 (.iload_n 2) 1 53 := by decide +kernel
theorem d_285_53 : m_dn M_285 53 (.iload_n 3) 1 54 := by decide +kernel
theorem d_285_54 : m_dn M_285 54 (.invokevirtual 442) 3 57 := by decide +kernel
theorem d_285_57 : m_dn M_285 57 (.bipush 16) 2 59 := by decide +kernel
theorem d_285_59 : m_dn M_285 59 (.idiv) 1 60 := by decide +kernel
theorem d_285_6 : m_dn M_285 6 (.iadd) 1 7 := by decide +kernel
theorem d_285_60 : m_dn M_285 60 (.aload_n 0) 1 61 := by decide +kernel
theorem d_285_61 : m_dn M_285 61 (.iload 4) 2 63 := by decide +kernel
theorem d_285_63 : m_dn M_285 63 (.iload_n 2) 1 64 := by decide +kernel
theorem d_285_64 : m_dn M_285 64 (.iload_n 3) 1 65 := by decide +kernel
theorem d_285_65 : m_dn M_285 65 (.invokevirtual 446) 3 68 := by decide +kernel
theorem d_285_68 : m_dn M_285 68 (.iconst 1) 1 69 := by decide +kernel
theorem d_285_69 : m_dn M_285 69 (.isub) 1 70 := by decide +kernel
theorem d_285_7 : m_dn M_285 7 (.iaload) 1 8 := by decide +kernel
theorem d_285_70 : m_dn M_285 70 (.bipush 16) 2 72 := by decide +kernel
theorem d_285_72 : m_dn M_285 72 (.idiv) 1 73 := by decide +kernel
theorem d_285_73 : m_dn M_285 73 (.iload_n 2) 1 74 := by decide +kernel
theorem d_285_74 : m_dn M_285 74 (.invokestatic 449) 3 77 := by decide +kernel
theorem d_285_77 : m_dn M_285 77 (.goto 4) 3 80 := by decide +kernel
theorem d_285_8 : m_dn M_285 8 (.istore 4) 2 10 := by decide +kernel
theorem d_285_80 : m_dn M_285 80 (.iconst 0) 1 81 := by decide +kernel
theorem d_285_81 : m_dn M_285 81 (.ireturn) 1 82 := by decide +kernel
theorem d_286_0 : m_dn M_286 0 (.iconst 0) 1 1 := by decide +kernel
theorem d_286_1 : m_dn M_286 1 (.istore_n 3) 1 2 := by decide +kernel
theorem d_286_11 : m_dn M_286 11 (.bipush 16) 2 13 := by decide +kernel
theorem d_286_13 : m_dn M_286 13 (.iload 4) 2 15 := by decide +kernel
theorem d_286_15 : m_dn M_286 15 (.imul) 1 16 := by decide +kernel
theorem d_286_16 : m_dn M_286 16 (.iload_n 2) 1 17 := by decide +kernel
theorem d_286_17 : m_dn M_286 17 (.if_icmp .ge 16) 3 20 := by decide +kernel
theorem d_286_2 : m_dn M_286 2 (.iload_n 0) 1 3 := by decide +kernel
theorem d_286_20 : m_dn M_286 20 (.iload_n 3) 1 21 := by decide +kernel
theorem d_286_21 : m_dn M_286 21 (.iconst 1) 1 22 := by decide +kernel
theorem d_286_22 : m_dn M_286 22 (.iload 4) 2 24 := by decide +kernel
theorem d_286_24 : m_dn M_286 24 (.ishl) 1 25 := by decide +kernel
theorem d_286_25 : m_dn M_286 25 (.ior) 1 26 := by decide +kernel
theorem d_286_26 : m_dn M_286 26 (.istore_n 3) 1 27 := by decide +kernel
theorem d_286_27 : m_dn M_286 27 (.iinc 4 1) 3 30 := by decide +kernel
theorem d_286_3 : m_dn M_286 3 (.istore 4) 2 5 := by decide +kernel
theorem d_286_30 : m_dn M_286 30 (.goto (-25)) 3 33 := by decide +kernel
theorem d_286_33 : m_dn M_286 33 (.iload_n 3) 1 34 := by decide +kernel
theorem d_286_34 : m_dn M_286 34 (.ireturn) 1 35 := by decide +kernel
theorem d_286_5 : m_dn M_286 5 (.iload 4) 2 7 := by decide +kernel
theorem d_286_7 : m_dn M_286 7 (.iload_n 1) 1 8 := by decide +kernel
theorem d_286_8 : m_dn M_286 8 (.if_icmp .gt 25) 3 11 := by decide +kernel
theorem d_287_0 : m_dn M_287 0 (.aload_n 0) 1 1 := by decide +kernel
theorem d_287_1 : m_dn M_287 1 (.iload_n 1) 1 2 := by decide +kernel
theorem d_287_10 : m_dn M_287 10 (.iload_n 3) 1 11 := by decide +kernel
theorem d_287_11 : m_dn M_287 11 (.invokevirtual 446) 3 14 := by decide +kernel
theorem d_287_14 : m_dn M_287 14 (.if_icmp .ge 7) 3 17 := by decide +kernel
theorem d_287_17 : m_dn M_287 17 (.iconst 1) 1 18 := by decide +kernel
theorem d_287_18 : m_dn M_287 18 (.goto 4) 3 21 := by decide +kernel
theorem d_287_2 : m_dn M_287 2 (.iload_n 2) 1 3 := by decide +kernel
theorem d_287_21 : m_dn M_287 21 (.iconst 0) 1 22 := by decide +kernel
theorem d_287_22 : m_dn M_287 22 (.ireturn) 1 23 := by decide +kernel
theorem d_287_3 : m_dn M_287 3 (.iload_n 3) 1 4 := by decide +kernel
theorem d_287_4 : m_dn M_287 4 (.invokevirtual 442) 3 7 := by decide +kernel
theorem d_287_7 : m_dn M_287 7 (.aload_n 0) 1 8 := by decide +kernel
theorem d_287_8 : m_dn M_287 8 (.iload_n 1) 1 9 := by decide +kernel
theorem d_287_9 : m_dn M_287 9 (.iload_n 2) 1 10 := by decide +kernel
theorem d_288_0 : m_dn M_288 0 (.aload_n 0) 1 1 := by decide +kernel
theorem d_288_1 : m_dn M_288 1 (.iload_n 1) 1 2 := by decide +kernel
theorem d_288_10 : m_dn M_288 10 (.ifCond .ne 7) 3 13 := by decide +kernel
theorem d_288_13 : m_dn M_288 13 (.iconst 0) 1 14 := by decide +kernel
theorem d_288_14 : m_dn M_288 14 (.goto 41) 3 17 := by decide +kernel
theorem d_288_17 : m_dn M_288 17 (.iload 4) 2 19 := by decide +kernel
theorem d_288_19 : m_dn M_288 19 (.iconst 3) 1 20 := by decide +kernel
theorem d_288_2 : m_dn M_288 2 (.iload_n 3) 1 3 := by decide +kernel
theorem d_288_20 : m_dn M_288 20 (.if_icmp .ne 29) 3 23 := by decide +kernel
theorem d_288_23 : m_dn M_288 23 (.iload_n 2) 1 24 := by decide +kernel
theorem d_288_24 : m_dn M_288 24 (.aload_n 0) 1 25 := by decide +kernel
theorem d_288_25 : m_dn M_288 25 (.iload_n 1) 1 26 := by decide +kernel
theorem d_288_26 : m_dn M_288 26 (.iconst 4) 1 27 := by decide +kernel
theorem d_288_27 : m_dn M_288 27 (.invokevirtual 436) 3 30 := by decide +kernel
theorem d_288_3 : m_dn M_288 3 (.invokevirtual 439) 3 6 := by decide +kernel
theorem d_288_30 : m_dn M_288 30 (.isub) 1 31 := by decide +kernel
theorem d_288_31 : m_dn M_288 31 (.ifCond .ge 7) 3 34 := by decide +kernel
theorem d_288_34 : m_dn M_288 34 (.iconst 0) 1 35 := by decide +kernel
theorem d_288_35 : m_dn M_288 35 (.goto 20) 3 38 := by decide +kernel
theorem d_288_38 : m_dn M_288 38 (.iload_n 2) 1 39 := by decide +kernel
theorem d_288_39 : m_dn M_288 39 (.aload_n 0) 1 40 := by decide +kernel
theorem d_288_40 : m_dn M_288 40 (.iload_n 1) 1 41 := by decide +kernel
theorem d_288_41 : m_dn M_288 41 (.iconst 4) 1 42 := by decide +kernel
theorem d_288_42 : m_dn M_288 42 (.invokevirtual 436) 3 45 := by decide +kernel
theorem d_288_45 : m_dn M_288 45 (.isub) 1 46 := by decide +kernel
theorem d_288_46 : m_dn M_288 46 (.goto 9) 3 49 := by decide +kernel
theorem d_288_49 : m_dn M_288 49 (.aload_n 0) 1 50 := by decide +kernel
theorem d_288_50 : m_dn M_288 50 (.iload_n 1) 1 51 := by decide +kernel
theorem d_288_51 : m_dn M_288 51 (.iconst 4) 1 52 := by decide +kernel
theorem d_288_52 : m_dn M_288 52 (.invokevirtual 436) 3 55 := by decide +kernel
theorem d_288_55 : m_dn M_288 55 (.ireturn) 1 56 := by decide +kernel
theorem d_288_6 : m_dn M_288 6 (.istore 4) 2 8 := by decide +kernel
theorem d_288_8 : m_dn M_288 8 (.iload 4) 2 10 := by decide +kernel
theorem d_289_0 : m_dn M_289 0 (.aload_n 0) 1 1 := by decide +kernel
theorem d_289_1 : m_dn M_289 1 (.iload_n 1) 1 2 := by decide +kernel
theorem d_289_11 : m_dn M_289 11 (.aload_n 0) 1 12 := by decide +kernel
theorem d_289_12 : m_dn M_289 12 (.iload_n 1) 1 13 := by decide +kernel
theorem d_289_13 : m_dn M_289 13 (.bipush 21) 2 15 := by decide +kernel
theorem d_289_15 : m_dn M_289 15 (.invokevirtual 436) 3 18 := by decide +kernel
theorem d_289_18 : m_dn M_289 18 (.iload_n 2) 1 19 := by decide +kernel
theorem d_289_19 : m_dn M_289 19 (.if_icmp .ne 12) 3 22 := by decide +kernel
theorem d_289_2 : m_dn M_289 2 (.bipush 21) 2 4 := by decide +kernel
theorem d_289_22 : m_dn M_289 22 (.aload_n 0) 1 23 := by decide +kernel
theorem d_289_23 : m_dn M_289 23 (.iload_n 1) 1 24 := by decide +kernel
theorem d_289_24 : m_dn M_289 24 (.iconst 3) 1 25 := by decide +kernel
theorem d_289_25 : m_dn M_289 25 (.invokevirtual 436) 3 28 := by decide +kernel
theorem d_289_28 : m_dn M_289 28 (.goto 4) 3 31 := by decide +kernel
theorem d_289_31 : m_dn M_289 31 (.iconst 0) 1 32 := by decide +kernel
theorem d_289_32 : m_dn M_289 32 (.ireturn) 1 33 := by decide +kernel
theorem d_289_4 : m_dn M_289 4 (.invokevirtual 436) 3 7 := by decide +kernel
theorem d_289_7 : m_dn M_289 7 (.iconst (-1)) 1 8 := by decide +kernel
theorem d_289_8 : m_dn M_289 8 (.if_icmp .eq 14) 3 11 := by decide +kernel
theorem d_290_0 : m_dn M_290 0 (.aload_n 0) 1 1 := by decide +kernel
theorem d_290_1 : m_dn M_290 1 (.iload_n 1) 1 2 := by decide +kernel
theorem d_290_10 : m_dn M_290 10 (.aload_n 0) 1 11 := by decide +kernel
theorem d_290_11 : m_dn M_290 11 (.iload_n 1) 1 12 := by decide +kernel
theorem d_290_12 : m_dn M_290 12 (.iconst 5) 1 13 := by decide +kernel
theorem d_290_13 : m_dn M_290 13 (.invokevirtual 436) 3 16 := by decide +kernel
theorem d_290_16 : m_dn M_290 16 (.iload_n 2) 1 17 := by decide +kernel
theorem d_290_17 : m_dn M_290 17 (.if_icmp .ge 14) 3 20 := by decide +kernel
theorem d_290_2 : m_dn M_290 2 (.iload_n 3) 1 3 := by decide +kernel
theorem d_290_20 : m_dn M_290 20 (.aload_n 0) 1 21 := by decide +kernel
theorem d_290_21 : m_dn M_290 21 (.iload_n 1) 1 22 := by decide +kernel
theorem d_290_22 : m_dn M_290 22 (.iconst 5) 1 23 := by decide +kernel
theorem d_290_23 : m_dn M_290 23 (.invokevirtual 436) 3 26 := by decide +kernel
theorem d_290_26 : m_dn M_290 26 (.iconst 1) 1 27 := by decide +kernel
theorem d_290_27 : m_dn M_290 27 (.iadd) 1 28 := by decide +kernel
theorem d_290_28 : m_dn M_290 28 (.goto 4) 3 31 := by decide +kernel
theorem d_290_3 : m_dn M_290 3 (.invokevirtual 439) 3 6 := by decide +kernel
theorem d_290_31 : m_dn M_290 31 (.iload_n 2) 1 32 := by decide +kernel
theorem d_290_32 : m_dn M_290 32 (.ireturn) 1 33 := by decide +kernel
theorem d_290_6 : m_dn M_290 6 (.iconst 1) 1 7 := by decide +kernel
theorem d_290_7 : m_dn M_290 7 (.if_icmp .ne 24) 3 10 := by decide +kernel
theorem d_291_0 : m_dn M_291 0 (.aload_n 0) 1 1 := by decide +kernel
theorem d_291_1 : m_dn M_291 1 (.getfield 131) 3 4 := by decide +kernel
theorem d_291_10 : m_dn M_291 10 (.iload_n 2) 1 11 := by decide +kernel
theorem d_291_100 : m_dn M_291 100 (.invokevirtual 436) 3 103 := by decide +kernel
theorem d_291_103 : m_dn M_291 103 (.iadd) 1 104 := by decide +kernel
theorem d_291_104 : m_dn M_291 104 (.aload_n 0) 1 105 := by decide +kernel
theorem d_291_105 : m_dn M_291 105 (.iload_n 2) 1 106 := by decide +kernel
theorem d_291_106 : m_dn M_291 106 (.invokevirtual 465) 3 109 := by decide +kernel
theorem d_291_109 : m_dn M_291 109 (.if_icmp .ge 7) 3 112 := by decide +kernel
theorem d_291_11 : m_dn M_291 11 (.invokevirtual 462) 3 14 := by decide +kernel
theorem d_291_112 : m_dn M_291 112 (.iconst 1) 1 113 := by decide +kernel
theorem d_291_113 : m_dn M_291 113 (.goto 4) 3 116 := by decide +kernel
theorem d_291_116 : m_dn M_291 116 (.iconst 0) 1 117 := by decide +kernel
theorem d_291_117 : m_dn M_291 117 (.istore 5) 2 119 := by decide +kernel
theorem d_291_119 : m_dn M_291 119 (.iload 5) 2 121 := by decide +kernel
theorem d_291_121 : m_dn M_291 121 (.ireturn) 1 122 := by decide +kernel
theorem d_291_14 : m_dn M_291 14 (.istore 4) 2 16 := by decide +kernel
theorem d_291_16 : m_dn M_291 16 (.iload 4) 2 18 := by decide +kernel
theorem d_291_18 : m_dn M_291 18 (.aload_n 0) 1 19 := by decide +kernel
theorem d_291_19 : m_dn M_291 19 (.iload_n 2) 1 20 := by decide +kernel
theorem d_291_20 : m_dn M_291 20 (.invokevirtual 465) 3 23 := by decide +kernel
theorem d_291_23 : m_dn M_291 23 (.if_icmp .ge 7) 3 26 := by decide +kernel
theorem d_291_26 : m_dn M_291 26 (.iconst 1) 1 27 := by decide +kernel
theorem d_291_27 : m_dn M_291 27 (.goto 4) 3 30 := by decide +kernel
theorem d_291_30 : m_dn M_291 30 (.iconst 0) 1 31 := by decide +kernel
theorem d_291_31 : m_dn M_291 31 (.istore 5) 2 33 := by decide +kernel
theorem d_291_33 : m_dn M_291 33 (.iload_n 3) 1 34 := by decide +kernel
theorem d_291_34 : m_dn M_291 34 (.iconst (-1)) 1 35 := by decide +kernel
theorem d_291_35 : m_dn M_291 35 (.if_icmp .eq 38) 3 38 := by decide +kernel
theorem d_291_38 : m_dn M_291 38 (.aload_n 0) 1 39 := by decide +kernel
theorem d_291_39 : m_dn M_291 39 (.iload_n 3) 1 40 := by decide +kernel
theorem d_291_4 : m_dn M_291 4 (.iload_n 1) 1 5 := by decide +kernel
theorem d_291_40 : m_dn M_291 40 (.bipush 18) 2 42 := by decide +kernel
theorem d_291_42 : m_dn M_291 42 (.invokevirtual 436) 3 45 := by decide +kernel
theorem d_291_45 : m_dn M_291 45 (.iconst (-1)) 1 46 := by decide +kernel
theorem d_291_46 : m_dn M_291 46 (.if_icmp .eq 27) 3 49 := by decide +kernel
theorem d_291_49 : m_dn M_291 49 (.iload 5) 2 51 := by decide +kernel
theorem d_291_5 : m_dn M_291 5 (.iconst 2) 1 6 := by decide +kernel
theorem d_291_51 : m_dn M_291 51 (.ifCond .eq 19) 3 54 := by decide +kernel
theorem d_291_54 : m_dn M_291 54 (.iload 4) 2 56 := by decide +kernel
theorem d_291_56 : m_dn M_291 56 (.aload_n 0) 1 57 := by decide +kernel
theorem d_291_57 : m_dn M_291 57 (.iload_n 3) 1 58 := by decide +kernel
theorem d_291_58 : m_dn M_291 58 (.bipush 18) 2 60 := by decide +kernel
theorem d_291_6 : m_dn M_291 6 (.iadd) 1 7 := by decide +kernel
theorem d_291_60 : m_dn M_291 60 (.invokevirtual 436) 3 63 := by decide +kernel
theorem d_291_63 : m_dn M_291 63 (.if_icmp .gt 7) 3 66 := by decide +kernel
theorem d_291_66 : m_dn M_291 66 (.iconst 1) 1 67 := by decide +kernel
theorem d_291_67 : m_dn M_291 67 (.goto 4) 3 70 := by decide +kernel
theorem d_291_7 : m_dn M_291 7 (.iaload) 1 8 := by decide +kernel
theorem d_291_70 : m_dn M_291 70 (.iconst 0) 1 71 := by decide +kernel
theorem d_291_71 : m_dn M_291 71 (.istore 5) 2 73 := by decide +kernel
theorem d_291_73 : m_dn M_291 73 (.iload_n 3) 1 74 := by decide +kernel
theorem d_291_74 : m_dn M_291 74 (.iconst (-1)) 1 75 := by decide +kernel
theorem d_291_75 : m_dn M_291 75 (.if_icmp .eq 44) 3 78 := by decide +kernel
theorem d_291_78 : m_dn M_291 78 (.aload_n 0) 1 79 := by decide +kernel
theorem d_291_79 : m_dn M_291 79 (.iload_n 3) 1 80 := by decide +kernel
theorem d_291_8 : m_dn M_291 8 (.istore_n 3) 1 9 := by decide +kernel
theorem d_291_80 : m_dn M_291 80 (.bipush 20) 2 82 := by decide +kernel
theorem d_291_82 : m_dn M_291 82 (.invokevirtual 436) 3 85 := by decide +kernel
theorem d_291_85 : m_dn M_291 85 (.iconst (-1)) 1 86 := by decide +kernel
theorem d_291_86 : m_dn M_291 86 (.if_icmp .eq 33) 3 89 := by decide +kernel
theorem d_291_89 : m_dn M_291 89 (.iload 5) 2 91 := by decide +kernel
theorem d_291_9 : m_dn M_291 9 (.aload_n 0) 1 10 := by decide +kernel
theorem d_291_91 : m_dn M_291 91 (.ifCond .eq 25) 3 94 := by decide +kernel
theorem d_291_94 : m_dn M_291 94 (.iload 4) 2 96 := by decide +kernel
theorem d_291_96 : m_dn M_291 96 (.aload_n 0) 1 97 := by decide +kernel
theorem d_291_97 : m_dn M_291 97 (.iload_n 3) 1 98 := by decide +kernel
theorem d_291_98 : m_dn M_291 98 (.bipush 20) 2 100 := by decide +kernel
theorem d_292_0 : m_dn M_292 0 (.aload_n 0) 1 1 := by decide +kernel
theorem d_292_1 : m_dn M_292 1 (.getfield 79) 3 4 := by decide +kernel
theorem d_292_10 : m_dn M_292 10 (.iadd) 1 11 := by decide +kernel
theorem d_292_11 : m_dn M_292 11 (.aload_n 0) 1 12 := by decide +kernel
theorem d_292_12 : m_dn M_292 12 (.getfield 82) 3 15 := by decide +kernel
theorem d_292_15 : m_dn M_292 15 (.iload_n 1) 1 16 := by decide +kernel
theorem d_292_16 : m_dn M_292 16 (.iaload) 1 17 := by decide +kernel
theorem d_292_17 : m_dn M_292 17 (.isub) 1 18 := by decide +kernel
theorem d_292_18 : m_dn M_292 18 (.ireturn) 1 19 := by decide +kernel
theorem d_292_4 : m_dn M_292 4 (.iload_n 1) 1 5 := by decide +kernel
theorem d_292_5 : m_dn M_292 5 (.iaload) 1 6 := by decide +kernel
theorem d_292_6 : m_dn M_292 6 (.aload_n 0) 1 7 := by decide +kernel
theorem d_292_7 : m_dn M_292 7 (.getfield 390) 3 10 := by decide +kernel
theorem d_293_0 : m_dn M_293 0 (.aload_n 0) 1 1 := by decide +kernel
theorem d_293_1 : m_dn M_293 1 (.iload_n 1) 1 2 := by decide +kernel
theorem d_293_11 : m_dn M_293 11 (.iconst 0) 1 12 := by decide +kernel
theorem d_293_12 : m_dn M_293 12 (.goto 9) 3 15 := by decide +kernel
theorem d_293_15 : m_dn M_293 15 (.aload_n 0) 1 16 := by decide +kernel
theorem d_293_16 : m_dn M_293 16 (.iload_n 1) 1 17 := by decide +kernel
theorem d_293_17 : m_dn M_293 17 (.iconst 2) 1 18 := by decide +kernel
theorem d_293_18 : m_dn M_293 18 (.invokevirtual 431) 3 21 := by decide +kernel
theorem d_293_2 : m_dn M_293 2 (.bipush 6) 2 4 := by decide +kernel
theorem d_293_21 : m_dn M_293 21 (.ireturn) 1 22 := by decide +kernel
theorem d_293_4 : m_dn M_293 4 (.invokevirtual 431) 3 7 := by decide +kernel
theorem d_293_7 : m_dn M_293 7 (.iconst 1) 1 8 := by decide +kernel
theorem d_293_8 : m_dn M_293 8 (.if_icmp .ne 7) 3 11 := by decide +kernel
theorem d_294_0 : m_dn M_294 0 (.aload_n 0) 1 1 := by decide +kernel
theorem d_294_1 : m_dn M_294 1 (.getfield 69) 3 4 := by decide +kernel
theorem d_294_12 : m_dn M_294 12 (.aload_n 0) 1 13 := by decide +kernel
theorem d_294_13 : m_dn M_294 13 (.iload_n 1) 1 14 := by decide +kernel
theorem d_294_14 : m_dn M_294 14 (.invokevirtual 428) 3 17 := by decide +kernel
theorem d_294_17 : m_dn M_294 17 (.return_) 1 18 := by decide +kernel
theorem d_294_4 : m_dn M_294 4 (.iload_n 2) 1 5 := by decide +kernel
theorem d_294_5 : m_dn M_294 5 (.iconst 1) 1 6 := by decide +kernel
theorem d_294_6 : m_dn M_294 6 (.bastore) 1 7 := by decide +kernel
theorem d_294_7 : m_dn M_294 7 (.aload_n 0) 1 8 := by decide +kernel
theorem d_294_8 : m_dn M_294 8 (.iload_n 2) 1 9 := by decide +kernel
theorem d_294_9 : m_dn M_294 9 (.invokevirtual 425) 3 12 := by decide +kernel
theorem d_295_0 : m_dn M_295 0 (.aload_n 0) 1 1 := by decide +kernel
theorem d_295_1 : m_dn M_295 1 (.dup) 1 2 := by decide +kernel
theorem d_295_10 : m_dn M_295 10 (.aload_n 0) 1 11 := by decide +kernel
theorem d_295_11 : m_dn M_295 11 (.getfield 88) 3 14 := by decide +kernel
theorem d_295_14 : m_dn M_295 14 (.iload_n 1) 1 15 := by decide +kernel
theorem d_295_15 : m_dn M_295 15 (.aload_n 0) 1 16 := by decide +kernel
theorem d_295_16 : m_dn M_295 16 (.getfield 415) 3 19 := by decide +kernel
theorem d_295_19 : m_dn M_295 19 (.iastore) 1 20 := by decide +kernel
theorem d_295_2 : m_dn M_295 2 (.getfield 415) 3 5 := by decide +kernel
theorem d_295_20 : m_dn M_295 20 (.return_) 1 21 := by decide +kernel
theorem d_295_5 : m_dn M_295 5 (.iconst 1) 1 6 := by decide +kernel
theorem d_295_6 : m_dn M_295 6 (.iadd) 1 7 := by decide +kernel
theorem d_295_7 : m_dn M_295 7 (.putfield 415) 3 10 := by decide +kernel
theorem d_296_0 : m_dn M_296 0 (.aload_n 0) 1 1 := by decide +kernel
theorem d_296_1 : m_dn M_296 1 (.iload_n 1) 1 2 := by decide +kernel
theorem d_296_10 : m_dn M_296 10 (.iload_n 1) 1 11 := by decide +kernel
theorem d_296_11 : m_dn M_296 11 (.iaload) 1 12 := by decide +kernel
theorem d_296_12 : m_dn M_296 12 (.iconst 2) 1 13 := by decide +kernel
theorem d_296_13 : m_dn M_296 13 (.idiv) 1 14 := by decide +kernel
theorem d_296_14 : m_dn M_296 14 (.if_icmp .le 25) 3 17 := by decide +kernel
theorem d_296_17 : m_dn M_296 17 (.aload_n 0) 1 18 := by decide +kernel
theorem d_296_18 : m_dn M_296 18 (.iload_n 1) 1 19 := by decide +kernel
theorem d_296_19 : m_dn M_296 19 (.iconst 1) 1 20 := by decide +kernel
theorem d_296_2 : m_dn M_296 2 (.iconst 1) 1 3 := by decide +kernel
theorem d_296_20 : m_dn M_296 20 (.invokevirtual 422) 3 23 := by decide +kernel
theorem d_296_23 : m_dn M_296 23 (.istore_n 2) 1 24 := by decide +kernel
theorem d_296_24 : m_dn M_296 24 (.aload_n 0) 1 25 := by decide +kernel
theorem d_296_25 : m_dn M_296 25 (.getfield 69) 3 28 := by decide +kernel
theorem d_296_28 : m_dn M_296 28 (.iload_n 2) 1 29 := by decide +kernel
theorem d_296_29 : m_dn M_296 29 (.iconst 0) 1 30 := by decide +kernel
theorem d_296_3 : m_dn M_296 3 (.invokevirtual 418) 3 6 := by decide +kernel
theorem d_296_30 : m_dn M_296 30 (.bastore) 1 31 := by decide +kernel
theorem d_296_31 : m_dn M_296 31 (.aload_n 0) 1 32 := by decide +kernel
theorem d_296_32 : m_dn M_296 32 (.iload_n 2) 1 33 := by decide +kernel
theorem d_296_33 : m_dn M_296 33 (.invokevirtual 425) 3 36 := by decide +kernel
theorem d_296_36 : m_dn M_296 36 (.goto (-36)) 3 39 := by decide +kernel
theorem d_296_39 : m_dn M_296 39 (.aload_n 0) 1 40 := by decide +kernel
theorem d_296_40 : m_dn M_296 40 (.iload_n 1) 1 41 := by decide +kernel
theorem d_296_41 : m_dn M_296 41 (.iconst 0) 1 42 := by decide +kernel
theorem d_296_42 : m_dn M_296 42 (.invokevirtual 418) 3 45 := by decide +kernel
theorem d_296_45 : m_dn M_296 45 (.aload_n 0) 1 46 := by decide +kernel
theorem d_296_46 : m_dn M_296 46 (.getfield 39) 3 49 := by decide +kernel
theorem d_296_49 : m_dn M_296 49 (.iload_n 1) 1 50 := by decide +kernel
theorem d_296_50 : m_dn M_296 50 (.iaload) 1 51 := by decide +kernel
theorem d_296_51 : m_dn M_296 51 (.if_icmp .le 34) 3 54 := by decide +kernel
theorem d_296_54 : m_dn M_296 54 (.aload_n 0) 1 55 := by decide +kernel
theorem d_296_55 : m_dn M_296 55 (.iload_n 1) 1 56 := by decide +kernel
theorem d_296_56 : m_dn M_296 56 (.iconst 0) 1 57 := by decide +kernel
theorem d_296_57 : m_dn M_296 57 (.invokevirtual 422) 3 60 := by decide +kernel
theorem d_296_6 : m_dn M_296 6 (.aload_n 0) 1 7 := by decide +kernel
theorem d_296_60 : m_dn M_296 60 (.istore_n 2) 1 61 := by decide +kernel
theorem d_296_61 : m_dn M_296 61 (.aload_n 0) 1 62 := by decide +kernel
theorem d_296_62 : m_dn M_296 62 (.getfield 66) 3 65 := by decide +kernel
theorem d_296_65 : m_dn M_296 65 (.iload_n 2) 1 66 := by decide +kernel
theorem d_296_66 : m_dn M_296 66 (.iconst (-1)) 1 67 := by decide +kernel
theorem d_296_67 : m_dn M_296 67 (.if_icmp .ne 12) 3 70 := by decide +kernel
theorem d_296_7 : m_dn M_296 7 (.getfield 39) 3 10 := by decide +kernel
theorem d_296_70 : m_dn M_296 70 (.aload_n 0) 1 71 := by decide +kernel
theorem d_296_71 : m_dn M_296 71 (.iload_n 1) 1 72 := by decide +kernel
theorem d_296_72 : m_dn M_296 72 (.iconst 1) 1 73 := by decide +kernel
theorem d_296_73 : m_dn M_296 73 (.invokevirtual 422) 3 76 := by decide +kernel
theorem d_296_76 : m_dn M_296 76 (.goto 4) 3 79 := by decide +kernel
theorem d_296_79 : m_dn M_296 79 (.iload_n 2) 1 80 := by decide +kernel
theorem d_296_80 : m_dn M_296 80 (.iconst 0) 1 81 := by decide +kernel
theorem d_296_81 : m_dn M_296 81 (.bastore) 1 82 := by decide +kernel
theorem d_296_82 : m_dn M_296 82 (.goto (-43)) 3 85 := by decide +kernel
theorem d_296_85 : m_dn M_296 85 (.return_) 1 86 := by decide +kernel
theorem d_297_0 : m_dn M_297 0 (.iconst 0) 1 1 := by decide +kernel
theorem d_297_1 : m_dn M_297 1 (.istore_n 3) 1 2 := by decide +kernel
theorem d_297_11 : m_dn M_297 11 (.sipush 1024) 3 14 := by decide +kernel
theorem d_297_14 : m_dn M_297 14 (.iload_n 1) 1 15 := by decide +kernel
theorem d_297_15 : m_dn M_297 15 (.imul) 1 16 := by decide +kernel
theorem d_297_16 : m_dn M_297 16 (.sipush 1024) 3 19 := by decide +kernel
theorem d_297_19 : m_dn M_297 19 (.iadd) 1 20 := by decide +kernel
theorem d_297_2 : m_dn M_297 2 (.sipush 1024) 3 5 := by decide +kernel
theorem d_297_20 : m_dn M_297 20 (.if_icmp .ge 46) 3 23 := by decide +kernel
theorem d_297_23 : m_dn M_297 23 (.iload_n 3) 1 24 := by decide +kernel
theorem d_297_24 : m_dn M_297 24 (.aload_n 0) 1 25 := by decide +kernel
theorem d_297_25 : m_dn M_297 25 (.getfield 66) 3 28 := by decide +kernel
theorem d_297_28 : m_dn M_297 28 (.iload 4) 2 30 := by decide +kernel
theorem d_297_30 : m_dn M_297 30 (.baload) 1 31 := by decide +kernel
theorem d_297_31 : m_dn M_297 31 (.ifCond .eq 26) 3 34 := by decide +kernel
theorem d_297_34 : m_dn M_297 34 (.iload_n 2) 1 35 := by decide +kernel
theorem d_297_35 : m_dn M_297 35 (.ifCond .eq 13) 3 38 := by decide +kernel
theorem d_297_38 : m_dn M_297 38 (.aload_n 0) 1 39 := by decide +kernel
theorem d_297_39 : m_dn M_297 39 (.getfield 69) 3 42 := by decide +kernel
theorem d_297_42 : m_dn M_297 42 (.iload 4) 2 44 := by decide +kernel
theorem d_297_44 : m_dn M_297 44 (.baload) 1 45 := by decide +kernel
theorem d_297_45 : m_dn M_297 45 (.ifCond .eq 12) 3 48 := by decide +kernel
theorem d_297_48 : m_dn M_297 48 (.aload_n 0) 1 49 := by decide +kernel
theorem d_297_49 : m_dn M_297 49 (.iload 4) 2 51 := by decide +kernel
theorem d_297_5 : m_dn M_297 5 (.iload_n 1) 1 6 := by decide +kernel
theorem d_297_51 : m_dn M_297 51 (.invokevirtual 412) 3 54 := by decide +kernel
theorem d_297_54 : m_dn M_297 54 (.goto 4) 3 57 := by decide +kernel
theorem d_297_57 : m_dn M_297 57 (.iconst 0) 1 58 := by decide +kernel
theorem d_297_58 : m_dn M_297 58 (.iadd) 1 59 := by decide +kernel
theorem d_297_59 : m_dn M_297 59 (.istore_n 3) 1 60 := by decide +kernel
theorem d_297_6 : m_dn M_297 6 (.imul) 1 7 := by decide +kernel
theorem d_297_60 : m_dn M_297 60 (.iinc 4 1) 3 63 := by decide +kernel
theorem d_297_63 : m_dn M_297 63 (.goto (-54)) 3 66 := by decide +kernel
theorem d_297_66 : m_dn M_297 66 (.iload_n 3) 1 67 := by decide +kernel
theorem d_297_67 : m_dn M_297 67 (.ireturn) 1 68 := by decide +kernel
theorem d_297_7 : m_dn M_297 7 (.istore 4) 2 9 := by decide +kernel
theorem d_297_9 : m_dn M_297 9 (.iload 4) 2 11 := by decide +kernel
theorem d_298_0 : m_dn M_298 0 (.bipush 16) 2 2 := by decide +kernel
theorem d_298_10 : m_dn M_298 10 (.invokestatic 407) 3 13 := by decide +kernel
theorem d_298_13 : m_dn M_298 13 (.imul) 1 14 := by decide +kernel
theorem d_298_14 : m_dn M_298 14 (.iadd) 1 15 := by decide +kernel
theorem d_298_15 : m_dn M_298 15 (.ireturn) 1 16 := by decide +kernel
theorem d_298_2 : m_dn M_298 2 (.bipush 16) 2 4 := by decide +kernel
theorem d_298_4 : m_dn M_298 4 (.aload_n 0) 1 5 := by decide +kernel
theorem d_298_5 : m_dn M_298 5 (.getfield 85) 3 8 := by decide +kernel
theorem d_298_8 : m_dn M_298 8 (.iload_n 1) 1 9 := by decide +kernel
theorem d_298_9 : m_dn M_298 9 (.iaload) 1 10 := by decide +kernel
theorem d_299_0 : m_dn M_299 0 (.iconst (-1)) 1 1 := by decide +kernel
theorem d_299_1 : m_dn M_299 1 (.istore_n 3) 1 2 := by decide +kernel
theorem d_299_11 : m_dn M_299 11 (.sipush 1024) 3 14 := by decide +kernel
theorem d_299_14 : m_dn M_299 14 (.iload_n 1) 1 15 := by decide +kernel
theorem d_299_15 : m_dn M_299 15 (.imul) 1 16 := by decide +kernel
theorem d_299_16 : m_dn M_299 16 (.sipush 1024) 3 19 := by decide +kernel
theorem d_299_19 : m_dn M_299 19 (.iadd) 1 20 := by decide +kernel
theorem d_299_2 : m_dn M_299 2 (.sipush 1024) 3 5 := by decide +kernel
theorem d_299_20 : m_dn M_299 20 (.if_icmp .ge 54) 3 23 := by decide +kernel
theorem d_299_23 : m_dn M_299 23 (.aload_n 0) 1 24 := by decide +kernel
theorem d_299_24 : m_dn M_299 24 (.getfield 66) 3 27 := by decide +kernel
theorem d_299_27 : m_dn M_299 27 (.iload 4) 2 29 := by decide +kernel
theorem d_299_29 : m_dn M_299 29 (.baload) 1 30 := by decide +kernel
theorem d_299_30 : m_dn M_299 30 (.ifCond .eq 38) 3 33 := by decide +kernel
theorem d_299_33 : m_dn M_299 33 (.aload_n 0) 1 34 := by decide +kernel
theorem d_299_34 : m_dn M_299 34 (.getfield 69) 3 37 := by decide +kernel
theorem d_299_37 : m_dn M_299 37 (.iload 4) 2 39 := by decide +kernel
theorem d_299_39 : m_dn M_299 39 (.baload) 1 40 := by decide +kernel
theorem d_299_40 : m_dn M_299 40 (.iload_n 2) 1 41 := by decide +kernel
theorem d_299_41 : m_dn M_299 41 (.if_icmp .ne 27) 3 44 := by decide +kernel
theorem d_299_44 : m_dn M_299 44 (.iload_n 3) 1 45 := by decide +kernel
theorem d_299_45 : m_dn M_299 45 (.iconst (-1)) 1 46 := by decide +kernel
theorem d_299_46 : m_dn M_299 46 (.if_icmp .eq 19) 3 49 := by decide +kernel
theorem d_299_49 : m_dn M_299 49 (.aload_n 0) 1 50 := by decide +kernel
theorem d_299_5 : m_dn M_299 5 (.iload_n 1) 1 6 := by decide +kernel
theorem d_299_50 : m_dn M_299 50 (.getfield 88) 3 53 := by decide +kernel
theorem d_299_53 : m_dn M_299 53 (.iload 4) 2 55 := by decide +kernel
theorem d_299_55 : m_dn M_299 55 (.iaload) 1 56 := by decide +kernel
theorem d_299_56 : m_dn M_299 56 (.aload_n 0) 1 57 := by decide +kernel
theorem d_299_57 : m_dn M_299 57 (.getfield 88) 3 60 := by decide +kernel
theorem d_299_6 : m_dn M_299 6 (.imul) 1 7 := by decide +kernel
theorem d_299_60 : m_dn M_299 60 (.iload_n 3) 1 61 := by decide +kernel
theorem d_299_61 : m_dn M_299 61 (.iaload) 1 62 := by decide +kernel
theorem d_299_62 : m_dn M_299 62 (.if_icmp .ge 6) 3 65 := by decide +kernel
theorem d_299_65 : m_dn M_299 65 (.iload 4) 2 67 := by decide +kernel
theorem d_299_67 : m_dn M_299 67 (.istore_n 3) 1 68 := by decide +kernel
theorem d_299_68 : m_dn M_299 68 (.iinc 4 1) 3 71 := by decide +kernel
theorem d_299_7 : m_dn M_299 7 (.istore 4) 2 9 := by decide +kernel
theorem d_299_71 : m_dn M_299 71 (.goto (-62)) 3 74 := by decide +kernel
theorem d_299_74 : m_dn M_299 74 (.iload_n 3) 1 75 := by decide +kernel
theorem d_299_75 : m_dn M_299 75 (.ireturn) 1 76 := by decide +kernel
theorem d_299_9 : m_dn M_299 9 (.iload 4) 2 11 := by decide +kernel
theorem d_300_0 : m_dn M_300 0 (.iconst 0) 1 1 := by decide +kernel
theorem d_300_1 : m_dn M_300 1 (.istore 4) 2 3 := by decide +kernel
theorem d_300_10 : m_dn M_300 10 (.aload_n 0) 1 11 := by decide +kernel
theorem d_300_11 : m_dn M_300 11 (.getfield 143) 3 14 := by decide +kernel
theorem d_300_14 : m_dn M_300 14 (.iload 4) 2 16 := by decide +kernel
theorem d_300_16 : m_dn M_300 16 (.aload_n 0) 1 17 := by decide +kernel
theorem d_300_17 : m_dn M_300 17 (.iload_n 2) 1 18 := by decide +kernel
theorem d_300_18 : m_dn M_300 18 (.iload 4) 2 20 := by decide +kernel
theorem d_300_20 : m_dn M_300 20 (.invokevirtual 431) 3 23 := by decide +kernel
theorem d_300_23 : m_dn M_300 23 (.iastore) 1 24 := by decide +kernel
theorem d_300_24 : m_dn M_300 24 (.iinc 4 1) 3 27 := by decide +kernel
theorem d_300_27 : m_dn M_300 27 (.goto (-24)) 3 30 := by decide +kernel
theorem d_300_3 : m_dn M_300 3 (.iload 4) 2 5 := by decide +kernel
theorem d_300_30 : m_dn M_300 30 (.aload_n 0) 1 31 := by decide +kernel
theorem d_300_31 : m_dn M_300 31 (.iload_n 2) 1 32 := by decide +kernel
theorem d_300_32 : m_dn M_300 32 (.bipush 8) 2 34 := by decide +kernel
theorem d_300_34 : m_dn M_300 34 (.irem) 1 35 := by decide +kernel
theorem d_300_35 : m_dn M_300 35 (.putfield 542) 3 38 := by decide +kernel
theorem d_300_38 : m_dn M_300 38 (.aload_n 0) 1 39 := by decide +kernel
theorem d_300_39 : m_dn M_300 39 (.aload_n 0) 1 40 := by decide +kernel
theorem d_300_40 : m_dn M_300 40 (.getfield 76) 3 43 := by decide +kernel
theorem d_300_43 : m_dn M_300 43 (.iload_n 2) 1 44 := by decide +kernel
theorem d_300_44 : m_dn M_300 44 (.iaload) 1 45 := by decide +kernel
theorem d_300_45 : m_dn M_300 45 (.putfield 545) 3 48 := by decide +kernel
theorem d_300_48 : m_dn M_300 48 (.aload_n 0) 1 49 := by decide +kernel
theorem d_300_49 : m_dn M_300 49 (.aload_n 0) 1 50 := by decide +kernel
theorem d_300_5 : m_dn M_300 5 (.bipush 9) 2 7 := by decide +kernel
theorem d_300_50 : m_dn M_300 50 (.iload_n 2) 1 51 := by decide +kernel
theorem d_300_51 : m_dn M_300 51 (.invokevirtual 462) 3 54 := by decide +kernel
theorem d_300_54 : m_dn M_300 54 (.putfield 548) 3 57 := by decide +kernel
theorem d_300_57 : m_dn M_300 57 (.aload_n 0) 1 58 := by decide +kernel
theorem d_300_58 : m_dn M_300 58 (.aload_n 0) 1 59 := by decide +kernel
theorem d_300_59 : m_dn M_300 59 (.getfield 85) 3 62 := by decide +kernel
theorem d_300_62 : m_dn M_300 62 (.iload_n 2) 1 63 := by decide +kernel
theorem d_300_63 : m_dn M_300 63 (.iaload) 1 64 := by decide +kernel
theorem d_300_64 : m_dn M_300 64 (.putfield 551) 3 67 := by decide +kernel
theorem d_300_67 : m_dn M_300 67 (.aload_n 0) 1 68 := by decide +kernel
theorem d_300_68 : m_dn M_300 68 (.iload_n 1) 1 69 := by decide +kernel
theorem d_300_69 : m_dn M_300 69 (.iload_n 3) 1 70 := by decide +kernel
theorem d_300_7 : m_dn M_300 7 (.if_icmp .ge 23) 3 10 := by decide +kernel
theorem d_300_70 : m_dn M_300 70 (.invokevirtual 554) 3 73 := by decide +kernel
theorem d_300_73 : m_dn M_300 73 (.return_) 1 74 := by decide +kernel
theorem d_301_0 : m_dn M_301 0 (.aload_n 0) 1 1 := by decide +kernel
theorem d_301_1 : m_dn M_301 1 (.getfield 131) 3 4 := by decide +kernel
theorem d_301_10 : m_dn M_301 10 (.iconst (-1)) 1 11 := by decide +kernel
theorem d_301_101 : m_dn M_301 101 (.goto 6) 3 104 := by decide +kernel
theorem d_301_104 : m_dn M_301 104 (.sipush 200) 3 107 := by decide +kernel
theorem d_301_107 : m_dn M_301 107 (.iastore) 1 108 := by decide +kernel
theorem d_301_108 : m_dn M_301 108 (.aload_n 0) 1 109 := by decide +kernel
theorem d_301_109 : m_dn M_301 109 (.getfield 140) 3 112 := by decide +kernel
theorem d_301_11 : m_dn M_301 11 (.if_icmp .eq 16) 3 14 := by decide +kernel
theorem d_301_112 : m_dn M_301 112 (.bipush 7) 2 114 := by decide +kernel
theorem d_301_114 : m_dn M_301 114 (.aload_n 0) 1 115 := by decide +kernel
theorem d_301_115 : m_dn M_301 115 (.getfield 143) 3 118 := by decide +kernel
theorem d_301_118 : m_dn M_301 118 (.iconst 0) 1 119 := by decide +kernel
theorem d_301_119 : m_dn M_301 119 (.iaload) 1 120 := by decide +kernel
theorem d_301_120 : m_dn M_301 120 (.iastore) 1 121 := by decide +kernel
theorem d_301_121 : m_dn M_301 121 (.aload_n 0) 1 122 := by decide +kernel
theorem d_301_122 : m_dn M_301 122 (.getfield 140) 3 125 := by decide +kernel
theorem d_301_125 : m_dn M_301 125 (.bipush 8) 2 127 := by decide +kernel
theorem d_301_127 : m_dn M_301 127 (.aload_n 0) 1 128 := by decide +kernel
theorem d_301_128 : m_dn M_301 128 (.getfield 545) 3 131 := by decide +kernel
theorem d_301_131 : m_dn M_301 131 (.iastore) 1 132 := by decide +kernel
theorem d_301_132 : m_dn M_301 132 (.aload_n 0) 1 133 := by decide +kernel
theorem d_301_133 : m_dn M_301 133 (.getfield 140) 3 136 := by decide +kernel
theorem d_301_136 : m_dn M_301 136 (.bipush 10) 2 138 := by decide +kernel
theorem d_301_138 : m_dn M_301 138 (.aload_n 0) 1 139 := by decide +kernel
theorem d_301_139 : m_dn M_301 139 (.getfield 548) 3 142 := by decide +kernel
theorem d_301_14 : m_dn M_301 14 (.aload_n 0) 1 15 := by decide +kernel
theorem d_301_142 : m_dn M_301 142 (.aload_n 0) 1 143 := by decide +kernel
theorem d_301_143 : m_dn M_301 143 (.getfield 390) 3 146 := by decide +kernel
theorem d_301_146 : m_dn M_301 146 (.isub) 1 147 := by decide +kernel
theorem d_301_147 : m_dn M_301 147 (.iastore) 1 148 := by decide +kernel
theorem d_301_148 : m_dn M_301 148 (.aload_n 0) 1 149 := by decide +kernel
theorem d_301_149 : m_dn M_301 149 (.getfield 140) 3 152 := by decide +kernel
theorem d_301_15 : m_dn M_301 15 (.iload_n 3) 1 16 := by decide +kernel
theorem d_301_152 : m_dn M_301 152 (.bipush 11) 2 154 := by decide +kernel
theorem d_301_154 : m_dn M_301 154 (.iload 4) 2 156 := by decide +kernel
theorem d_301_156 : m_dn M_301 156 (.ifCond .eq 7) 3 159 := by decide +kernel
theorem d_301_159 : m_dn M_301 159 (.iconst 0) 1 160 := by decide +kernel
theorem d_301_16 : m_dn M_301 16 (.aload_n 0) 1 17 := by decide +kernel
theorem d_301_160 : m_dn M_301 160 (.goto 34) 3 163 := by decide +kernel
theorem d_301_163 : m_dn M_301 163 (.aload_n 0) 1 164 := by decide +kernel
theorem d_301_164 : m_dn M_301 164 (.getfield 551) 3 167 := by decide +kernel
theorem d_301_167 : m_dn M_301 167 (.aload_n 0) 1 168 := by decide +kernel
theorem d_301_168 : m_dn M_301 168 (.getfield 131) 3 171 := by decide +kernel
theorem d_301_17 : m_dn M_301 17 (.iload_n 3) 1 18 := by decide +kernel
theorem d_301_171 : m_dn M_301 171 (.iload_n 1) 1 172 := by decide +kernel
theorem d_301_172 : m_dn M_301 172 (.iconst 5) 1 173 := by decide +kernel
theorem d_301_173 : m_dn M_301 173 (.iadd) 1 174 := by decide +kernel
theorem d_301_174 : m_dn M_301 174 (.iaload) 1 175 := by decide +kernel
theorem d_301_175 : m_dn M_301 175 (.aload_n 0) 1 176 := by decide +kernel
theorem d_301_176 : m_dn M_301 176 (.getfield 131) 3 179 := by decide +kernel
theorem d_301_179 : m_dn M_301 179 (.iload_n 1) 1 180 := by decide +kernel
theorem d_301_18 : m_dn M_301 18 (.invokevirtual 557) 3 21 := by decide +kernel
theorem d_301_180 : m_dn M_301 180 (.bipush 6) 2 182 := by decide +kernel
theorem d_301_182 : m_dn M_301 182 (.iadd) 1 183 := by decide +kernel
theorem d_301_183 : m_dn M_301 183 (.iaload) 1 184 := by decide +kernel
theorem d_301_184 : m_dn M_301 184 (.aload_n 0) 1 185 := by decide +kernel
theorem d_301_185 : m_dn M_301 185 (.getfield 143) 3 188 := by decide +kernel
theorem d_301_188 : m_dn M_301 188 (.iconst 1) 1 189 := by decide +kernel
theorem d_301_189 : m_dn M_301 189 (.iaload) 1 190 := by decide +kernel
theorem d_301_190 : m_dn M_301 190 (.invokestatic 449) 3 193 := by decide +kernel
theorem d_301_193 : m_dn M_301 193 (.iand) 1 194 := by decide +kernel
theorem d_301_194 : m_dn M_301 194 (.iastore) 1 195 := by decide +kernel
theorem d_301_195 : m_dn M_301 195 (.aload_n 0) 1 196 := by decide +kernel
theorem d_301_196 : m_dn M_301 196 (.getfield 140) 3 199 := by decide +kernel
theorem d_301_199 : m_dn M_301 199 (.bipush 21) 2 201 := by decide +kernel
theorem d_301_201 : m_dn M_301 201 (.aload_n 0) 1 202 := by decide +kernel
theorem d_301_202 : m_dn M_301 202 (.getfield 542) 3 205 := by decide +kernel
theorem d_301_205 : m_dn M_301 205 (.iastore) 1 206 := by decide +kernel
theorem d_301_206 : m_dn M_301 206 (.iconst 0) 1 207 := by decide +kernel
theorem d_301_207 : m_dn M_301 207 (.istore 5) 2 209 := by decide +kernel
theorem d_301_209 : m_dn M_301 209 (.iload 5) 2 211 := by decide +kernel
theorem d_301_21 : m_dn M_301 21 (.iload_n 2) 1 22 := by decide +kernel
theorem d_301_211 : m_dn M_301 211 (.bipush 9) 2 213 := by decide +kernel
theorem d_301_213 : m_dn M_301 213 (.if_icmp .ge 26) 3 216 := by decide +kernel
theorem d_301_216 : m_dn M_301 216 (.aload_n 0) 1 217 := by decide +kernel
theorem d_301_217 : m_dn M_301 217 (.getfield 140) 3 220 := by decide +kernel
theorem d_301_22 : m_dn M_301 22 (.iconst 1) 1 23 := by decide +kernel
theorem d_301_220 : m_dn M_301 220 (.bipush 12) 2 222 := by decide +kernel
theorem d_301_222 : m_dn M_301 222 (.iload 5) 2 224 := by decide +kernel
theorem d_301_224 : m_dn M_301 224 (.iadd) 1 225 := by decide +kernel
theorem d_301_225 : m_dn M_301 225 (.aload_n 0) 1 226 := by decide +kernel
theorem d_301_226 : m_dn M_301 226 (.getfield 143) 3 229 := by decide +kernel
theorem d_301_229 : m_dn M_301 229 (.iload 5) 2 231 := by decide +kernel
theorem d_301_23 : m_dn M_301 23 (.invokevirtual 497) 3 26 := by decide +kernel
theorem d_301_231 : m_dn M_301 231 (.iaload) 1 232 := by decide +kernel
theorem d_301_232 : m_dn M_301 232 (.iastore) 1 233 := by decide +kernel
theorem d_301_233 : m_dn M_301 233 (.iinc 5 1) 3 236 := by decide +kernel
theorem d_301_236 : m_dn M_301 236 (.goto (-27)) 3 239 := by decide +kernel
theorem d_301_239 : m_dn M_301 239 (.aload_n 0) 1 240 := by decide +kernel
theorem d_301_240 : m_dn M_301 240 (.invokevirtual 530) 3 243 := by decide +kernel
theorem d_301_243 : m_dn M_301 243 (.return_) 1 244 := by decide +kernel
theorem d_301_26 : m_dn M_301 26 (.return_) 1 27 := by decide +kernel
theorem d_301_27 : m_dn M_301 27 (.aload_n 0) 1 28 := by decide +kernel
theorem d_301_28 : m_dn M_301 28 (.iconst 1) 1 29 := by decide +kernel
theorem d_301_29 : m_dn M_301 29 (.aload_n 0) 1 30 := by decide +kernel
theorem d_301_30 : m_dn M_301 30 (.getfield 131) 3 33 := by decide +kernel
theorem d_301_33 : m_dn M_301 33 (.iload_n 1) 1 34 := by decide +kernel
theorem d_301_34 : m_dn M_301 34 (.iaload) 1 35 := by decide +kernel
theorem d_301_35 : m_dn M_301 35 (.aload_n 0) 1 36 := by decide +kernel
theorem d_301_36 : m_dn M_301 36 (.getfield 131) 3 39 := by decide +kernel
theorem d_301_39 : m_dn M_301 39 (.iload_n 1) 1 40 := by decide +kernel
theorem d_301_4 : m_dn M_301 4 (.iload_n 1) 1 5 := by decide +kernel
theorem d_301_40 : m_dn M_301 40 (.iconst 3) 1 41 := by decide +kernel
theorem d_301_41 : m_dn M_301 41 (.iadd) 1 42 := by decide +kernel
theorem d_301_42 : m_dn M_301 42 (.iaload) 1 43 := by decide +kernel
theorem d_301_43 : m_dn M_301 43 (.aload_n 0) 1 44 := by decide +kernel
theorem d_301_44 : m_dn M_301 44 (.getfield 131) 3 47 := by decide +kernel
theorem d_301_47 : m_dn M_301 47 (.iload_n 1) 1 48 := by decide +kernel
theorem d_301_48 : m_dn M_301 48 (.iconst 4) 1 49 := by decide +kernel
theorem d_301_49 : m_dn M_301 49 (.iadd) 1 50 := by decide +kernel
theorem d_301_5 : m_dn M_301 5 (.iconst 2) 1 6 := by decide +kernel
theorem d_301_50 : m_dn M_301 50 (.iaload) 1 51 := by decide +kernel
theorem d_301_51 : m_dn M_301 51 (.aload_n 0) 1 52 := by decide +kernel
theorem d_301_52 : m_dn M_301 52 (.getfield 131) 3 55 := by decide +kernel
theorem d_301_55 : m_dn M_301 55 (.iload_n 1) 1 56 := by decide +kernel
theorem d_301_56 : m_dn M_301 56 (.iconst 1) 1 57 := by decide +kernel
theorem d_301_57 : m_dn M_301 57 (.iadd) 1 58 := by decide +kernel
theorem d_301_58 : m_dn M_301 58 (.iaload) 1 59 := by decide +kernel
theorem d_301_59 : m_dn M_301 59 (.invokevirtual 526) 3 62 := by decide +kernel
theorem d_301_6 : m_dn M_301 6 (.iadd) 1 7 := by decide +kernel
theorem d_301_62 : m_dn M_301 62 (.aload_n 0) 1 63 := by decide +kernel
theorem d_301_63 : m_dn M_301 63 (.getfield 131) 3 66 := by decide +kernel
theorem d_301_66 : m_dn M_301 66 (.iload_n 1) 1 67 := by decide +kernel
theorem d_301_67 : m_dn M_301 67 (.bipush 9) 2 69 := by decide +kernel
theorem d_301_69 : m_dn M_301 69 (.iadd) 1 70 := by decide +kernel
theorem d_301_7 : m_dn M_301 7 (.iaload) 1 8 := by decide +kernel
theorem d_301_70 : m_dn M_301 70 (.iaload) 1 71 := by decide +kernel
theorem d_301_71 : m_dn M_301 71 (.aload_n 0) 1 72 := by decide +kernel
theorem d_301_72 : m_dn M_301 72 (.getfield 143) 3 75 := by decide +kernel
theorem d_301_75 : m_dn M_301 75 (.iconst 0) 1 76 := by decide +kernel
theorem d_301_76 : m_dn M_301 76 (.iaload) 1 77 := by decide +kernel
theorem d_301_77 : m_dn M_301 77 (.if_icmp .ne 7) 3 80 := by decide +kernel
theorem d_301_8 : m_dn M_301 8 (.istore_n 3) 1 9 := by decide +kernel
theorem d_301_80 : m_dn M_301 80 (.iconst 1) 1 81 := by decide +kernel
theorem d_301_81 : m_dn M_301 81 (.goto 4) 3 84 := by decide +kernel
theorem d_301_84 : m_dn M_301 84 (.iconst 0) 1 85 := by decide +kernel
theorem d_301_85 : m_dn M_301 85 (.istore 4) 2 87 := by decide +kernel
theorem d_301_87 : m_dn M_301 87 (.aload_n 0) 1 88 := by decide +kernel
theorem d_301_88 : m_dn M_301 88 (.getfield 140) 3 91 := by decide +kernel
theorem d_301_9 : m_dn M_301 9 (.iload_n 3) 1 10 := by decide +kernel
theorem d_301_91 : m_dn M_301 91 (.bipush 6) 2 93 := by decide +kernel
theorem d_301_93 : m_dn M_301 93 (.iload 4) 2 95 := by decide +kernel
theorem d_301_95 : m_dn M_301 95 (.ifCond .eq 9) 3 98 := by decide +kernel
theorem d_301_98 : m_dn M_301 98 (.sipush 304) 3 101 := by decide +kernel
theorem d_302_0 : m_dn M_302 0 (.aload_n 0) 1 1 := by decide +kernel
theorem d_302_1 : m_dn M_302 1 (.iload_n 1) 1 2 := by decide +kernel
theorem d_302_101 : m_dn M_302 101 (.ifCond .eq 9) 3 104 := by decide +kernel
theorem d_302_104 : m_dn M_302 104 (.sipush 206) 3 107 := by decide +kernel
theorem d_302_107 : m_dn M_302 107 (.goto 6) 3 110 := by decide +kernel
theorem d_302_11 : m_dn M_302 11 (.iconst 1) 1 12 := by decide +kernel
theorem d_302_110 : m_dn M_302 110 (.sipush 416) 3 113 := by decide +kernel
theorem d_302_113 : m_dn M_302 113 (.ireturn) 1 114 := by decide +kernel
theorem d_302_12 : m_dn M_302 12 (.goto 4) 3 15 := by decide +kernel
theorem d_302_15 : m_dn M_302 15 (.iconst 0) 1 16 := by decide +kernel
theorem d_302_16 : m_dn M_302 16 (.istore_n 2) 1 17 := by decide +kernel
theorem d_302_17 : m_dn M_302 17 (.iconst 0) 1 18 := by decide +kernel
theorem d_302_18 : m_dn M_302 18 (.istore_n 3) 1 19 := by decide +kernel
theorem d_302_19 : m_dn M_302 19 (.iload_n 3) 1 20 := by decide +kernel
theorem d_302_2 : m_dn M_302 2 (.bipush 6) 2 4 := by decide +kernel
theorem d_302_20 : m_dn M_302 20 (.aload_n 0) 1 21 := by decide +kernel
theorem d_302_21 : m_dn M_302 21 (.iload_n 1) 1 22 := by decide +kernel
theorem d_302_22 : m_dn M_302 22 (.bipush 7) 2 24 := by decide +kernel
theorem d_302_24 : m_dn M_302 24 (.invokevirtual 436) 3 27 := by decide +kernel
theorem d_302_27 : m_dn M_302 27 (.if_icmp .ge 35) 3 30 := by decide +kernel
theorem d_302_30 : m_dn M_302 30 (.iload_n 2) 1 31 := by decide +kernel
theorem d_302_31 : m_dn M_302 31 (.ifCond .ne 19) 3 34 := by decide +kernel
theorem d_302_34 : m_dn M_302 34 (.aload_n 0) 1 35 := by decide +kernel
theorem d_302_35 : m_dn M_302 35 (.iload_n 1) 1 36 := by decide +kernel
theorem d_302_36 : m_dn M_302 36 (.bipush 8) 2 38 := by decide +kernel
theorem d_302_38 : m_dn M_302 38 (.iload_n 3) 1 39 := by decide +kernel
theorem d_302_39 : m_dn M_302 39 (.iadd) 1 40 := by decide +kernel
theorem d_302_4 : m_dn M_302 4 (.invokevirtual 436) 3 7 := by decide +kernel
theorem d_302_40 : m_dn M_302 40 (.invokevirtual 436) 3 43 := by decide +kernel
theorem d_302_43 : m_dn M_302 43 (.aload_n 0) 1 44 := by decide +kernel
theorem d_302_44 : m_dn M_302 44 (.invokevirtual 560) 3 47 := by decide +kernel
theorem d_302_47 : m_dn M_302 47 (.if_icmp .ne 7) 3 50 := by decide +kernel
theorem d_302_50 : m_dn M_302 50 (.iconst 1) 1 51 := by decide +kernel
theorem d_302_51 : m_dn M_302 51 (.goto 4) 3 54 := by decide +kernel
theorem d_302_54 : m_dn M_302 54 (.iconst 0) 1 55 := by decide +kernel
theorem d_302_55 : m_dn M_302 55 (.istore_n 2) 1 56 := by decide +kernel
theorem d_302_56 : m_dn M_302 56 (.iinc 3 1) 3 59 := by decide +kernel
theorem d_302_59 : m_dn M_302 59 (.goto (-40)) 3 62 := by decide +kernel
theorem d_302_62 : m_dn M_302 62 (.iload_n 2) 1 63 := by decide +kernel
theorem d_302_63 : m_dn M_302 63 (.ifCond .eq 7) 3 66 := by decide +kernel
theorem d_302_66 : m_dn M_302 66 (.sipush 304) 3 69 := by decide +kernel
theorem d_302_69 : m_dn M_302 69 (.ireturn) 1 70 := by decide +kernel
theorem d_302_7 : m_dn M_302 7 (.iconst 1) 1 8 := by decide +kernel
theorem d_302_70 : m_dn M_302 70 (.aload_n 0) 1 71 := by decide +kernel
theorem d_302_71 : m_dn M_302 71 (.iload_n 1) 1 72 := by decide +kernel
theorem d_302_72 : m_dn M_302 72 (.aload_n 0) 1 73 := by decide +kernel
theorem d_302_73 : m_dn M_302 73 (.invokevirtual 560) 3 76 := by decide +kernel
theorem d_302_76 : m_dn M_302 76 (.invokevirtual 439) 3 79 := by decide +kernel
theorem d_302_79 : m_dn M_302 79 (.ifCond .ne 7) 3 82 := by decide +kernel
theorem d_302_8 : m_dn M_302 8 (.if_icmp .ne 7) 3 11 := by decide +kernel
theorem d_302_82 : m_dn M_302 82 (.sipush 200) 3 85 := by decide +kernel
theorem d_302_85 : m_dn M_302 85 (.ireturn) 1 86 := by decide +kernel
theorem d_302_86 : m_dn M_302 86 (.aload_n 0) 1 87 := by decide +kernel
theorem d_302_87 : m_dn M_302 87 (.iload_n 1) 1 88 := by decide +kernel
theorem d_302_88 : m_dn M_302 88 (.aload_n 0) 1 89 := by decide +kernel
theorem d_302_89 : m_dn M_302 89 (.getfield 143) 3 92 := by decide +kernel
theorem d_302_92 : m_dn M_302 92 (.iconst 1) 1 93 := by decide +kernel
theorem d_302_93 : m_dn M_302 93 (.iaload) 1 94 := by decide +kernel
theorem d_302_94 : m_dn M_302 94 (.aload_n 0) 1 95 := by decide +kernel
theorem d_302_95 : m_dn M_302 95 (.invokevirtual 560) 3 98 := by decide +kernel
theorem d_302_98 : m_dn M_302 98 (.invokevirtual 452) 3 101 := by decide +kernel
theorem d_303_0 : m_dn M_303 0 (.bipush 8) 2 2 := by decide +kernel
theorem d_303_10 : m_dn M_303 10 (.getfield 542) 3 13 := by decide +kernel
theorem d_303_13 : m_dn M_303 13 (.iadd) 1 14 := by decide +kernel
theorem d_303_14 : m_dn M_303 14 (.ireturn) 1 15 := by decide +kernel
theorem d_303_2 : m_dn M_303 2 (.aload_n 0) 1 3 := by decide +kernel
theorem d_303_3 : m_dn M_303 3 (.getfield 143) 3 6 := by decide +kernel
theorem d_303_6 : m_dn M_303 6 (.iconst 0) 1 7 := by decide +kernel
theorem d_303_7 : m_dn M_303 7 (.iaload) 1 8 := by decide +kernel
theorem d_303_8 : m_dn M_303 8 (.imul) 1 9 := by decide +kernel
theorem d_303_9 : m_dn M_303 9 (.aload_n 0) 1 10 := by decide +kernel
theorem d_304_0 : m_dn M_304 0 (.iconst 0) 1 1 := by decide +kernel
theorem d_304_1 : m_dn M_304 1 (.istore 6) 2 3 := by decide +kernel
theorem d_304_10 : m_dn M_304 10 (.aload_n 0) 1 11 := by decide +kernel
theorem d_304_11 : m_dn M_304 11 (.getfield 140) 3 14 := by decide +kernel
theorem d_304_14 : m_dn M_304 14 (.iload 6) 2 16 := by decide +kernel
theorem d_304_16 : m_dn M_304 16 (.iconst 0) 1 17 := by decide +kernel
theorem d_304_17 : m_dn M_304 17 (.iastore) 1 18 := by decide +kernel
theorem d_304_18 : m_dn M_304 18 (.iinc 6 1) 3 21 := by decide +kernel
theorem d_304_21 : m_dn M_304 21 (.goto (-18)) 3 24 := by decide +kernel
theorem d_304_24 : m_dn M_304 24 (.aload_n 0) 1 25 := by decide +kernel
theorem d_304_25 : m_dn M_304 25 (.getfield 140) 3 28 := by decide +kernel
theorem d_304_28 : m_dn M_304 28 (.iconst 0) 1 29 := by decide +kernel
theorem d_304_29 : m_dn M_304 29 (.iload_n 1) 1 30 := by decide +kernel
theorem d_304_3 : m_dn M_304 3 (.iload 6) 2 5 := by decide +kernel
theorem d_304_30 : m_dn M_304 30 (.iastore) 1 31 := by decide +kernel
theorem d_304_31 : m_dn M_304 31 (.aload_n 0) 1 32 := by decide +kernel
theorem d_304_32 : m_dn M_304 32 (.getfield 140) 3 35 := by decide +kernel
theorem d_304_35 : m_dn M_304 35 (.iconst 1) 1 36 := by decide +kernel
theorem d_304_36 : m_dn M_304 36 (.iload_n 2) 1 37 := by decide +kernel
theorem d_304_37 : m_dn M_304 37 (.iastore) 1 38 := by decide +kernel
theorem d_304_38 : m_dn M_304 38 (.aload_n 0) 1 39 := by decide +kernel
theorem d_304_39 : m_dn M_304 39 (.getfield 140) 3 42 := by decide +kernel
theorem d_304_42 : m_dn M_304 42 (.iconst 2) 1 43 := by decide +kernel
theorem d_304_43 : m_dn M_304 43 (.iload_n 3) 1 44 := by decide +kernel
theorem d_304_44 : m_dn M_304 44 (.iastore) 1 45 := by decide +kernel
theorem d_304_45 : m_dn M_304 45 (.aload_n 0) 1 46 := by decide +kernel
theorem d_304_46 : m_dn M_304 46 (.getfield 140) 3 49 := by decide +kernel
theorem d_304_49 : m_dn M_304 49 (.iconst 3) 1 50 := by decide +kernel
theorem d_304_5 : m_dn M_304 5 (.bipush 22) 2 7 := by decide +kernel
theorem d_304_50 : m_dn M_304 50 (.iload 4) 2 52 := by decide +kernel
theorem d_304_52 : m_dn M_304 52 (.iastore) 1 53 := by decide +kernel
theorem d_304_53 : m_dn M_304 53 (.aload_n 0) 1 54 := by decide +kernel
theorem d_304_54 : m_dn M_304 54 (.getfield 140) 3 57 := by decide +kernel
theorem d_304_57 : m_dn M_304 57 (.iconst 4) 1 58 := by decide +kernel
theorem d_304_58 : m_dn M_304 58 (.iload 5) 2 60 := by decide +kernel
theorem d_304_60 : m_dn M_304 60 (.iconst 4) 1 61 := by decide +kernel
theorem d_304_61 : m_dn M_304 61 (.idiv) 1 62 := by decide +kernel
theorem d_304_62 : m_dn M_304 62 (.iastore) 1 63 := by decide +kernel
theorem d_304_63 : m_dn M_304 63 (.aload_n 0) 1 64 := by decide +kernel
theorem d_304_64 : m_dn M_304 64 (.getfield 140) 3 67 := by decide +kernel
theorem d_304_67 : m_dn M_304 67 (.iconst 5) 1 68 := by decide +kernel
theorem d_304_68 : m_dn M_304 68 (.iload 5) 2 70 := by decide +kernel
theorem d_304_7 : m_dn M_304 7 (.if_icmp .ge 17) 3 10 := by decide +kernel
theorem d_304_70 : m_dn M_304 70 (.iconst 4) 1 71 := by decide +kernel
theorem d_304_71 : m_dn M_304 71 (.irem) 1 72 := by decide +kernel
theorem d_304_72 : m_dn M_304 72 (.iastore) 1 73 := by decide +kernel
theorem d_304_73 : m_dn M_304 73 (.return_) 1 74 := by decide +kernel
theorem d_305_0 : m_dn M_305 0 (.aload_n 0) 1 1 := by decide +kernel
theorem d_305_1 : m_dn M_305 1 (.getfield 533) 3 4 := by decide +kernel
theorem d_305_10 : m_dn M_305 10 (.dup) 1 11 := by decide +kernel
theorem d_305_11 : m_dn M_305 11 (.getfield 536) 3 14 := by decide +kernel
theorem d_305_14 : m_dn M_305 14 (.iconst 1) 1 15 := by decide +kernel
theorem d_305_15 : m_dn M_305 15 (.iadd) 1 16 := by decide +kernel
theorem d_305_16 : m_dn M_305 16 (.putfield 536) 3 19 := by decide +kernel
theorem d_305_19 : m_dn M_305 19 (.return_) 1 20 := by decide +kernel
theorem d_305_20 : m_dn M_305 20 (.iconst 0) 1 21 := by decide +kernel
theorem d_305_21 : m_dn M_305 21 (.istore_n 1) 1 22 := by decide +kernel
theorem d_305_22 : m_dn M_305 22 (.iload_n 1) 1 23 := by decide +kernel
theorem d_305_23 : m_dn M_305 23 (.bipush 22) 2 25 := by decide +kernel
theorem d_305_25 : m_dn M_305 25 (.if_icmp .ge 29) 3 28 := by decide +kernel
theorem d_305_28 : m_dn M_305 28 (.aload_n 0) 1 29 := by decide +kernel
theorem d_305_29 : m_dn M_305 29 (.getfield 137) 3 32 := by decide +kernel
theorem d_305_32 : m_dn M_305 32 (.bipush 22) 2 34 := by decide +kernel
theorem d_305_34 : m_dn M_305 34 (.aload_n 0) 1 35 := by decide +kernel
theorem d_305_35 : m_dn M_305 35 (.getfield 533) 3 38 := by decide +kernel
theorem d_305_38 : m_dn M_305 38 (.imul) 1 39 := by decide +kernel
theorem d_305_39 : m_dn M_305 39 (.iload_n 1) 1 40 := by decide +kernel
theorem d_305_4 : m_dn M_305 4 (.bipush 100) 2 6 := by decide +kernel
theorem d_305_40 : m_dn M_305 40 (.iadd) 1 41 := by decide +kernel
theorem d_305_41 : m_dn M_305 41 (.aload_n 0) 1 42 := by decide +kernel
theorem d_305_42 : m_dn M_305 42 (.getfield 140) 3 45 := by decide +kernel
theorem d_305_45 : m_dn M_305 45 (.iload_n 1) 1 46 := by decide +kernel
theorem d_305_46 : m_dn M_305 46 (.iaload) 1 47 := by decide +kernel
theorem d_305_47 : m_dn M_305 47 (.iastore) 1 48 := by decide +kernel
theorem d_305_48 : m_dn M_305 48 (.iinc 1 1) 3 51 := by decide +kernel
theorem d_305_51 : m_dn M_305 51 (.goto (-29)) 3 54 := by decide +kernel
theorem d_305_54 : m_dn M_305 54 (.aload_n 0) 1 55 := by decide +kernel
theorem d_305_55 : m_dn M_305 55 (.dup) 1 56 := by decide +kernel
theorem d_305_56 : m_dn M_305 56 (.getfield 533) 3 59 := by decide +kernel
theorem d_305_59 : m_dn M_305 59 (.iconst 1) 1 60 := by decide +kernel
theorem d_305_6 : m_dn M_305 6 (.if_icmp .ne 14) 3 9 := by decide +kernel
theorem d_305_60 : m_dn M_305 60 (.iadd) 1 61 := by decide +kernel
theorem d_305_61 : m_dn M_305 61 (.putfield 533) 3 64 := by decide +kernel
theorem d_305_64 : m_dn M_305 64 (.return_) 1 65 := by decide +kernel
theorem d_305_9 : m_dn M_305 9 (.aload_n 0) 1 10 := by decide +kernel
theorem d_306_0 : m_dn M_306 0 (.aload_n 0) 1 1 := by decide +kernel
theorem d_306_1 : m_dn M_306 1 (.getfield 131) 3 4 := by decide +kernel
theorem d_306_10 : m_dn M_306 10 (.iload_n 2) 1 11 := by decide +kernel
theorem d_306_100 : m_dn M_306 100 (.iconst 4) 1 101 := by decide +kernel
theorem d_306_101 : m_dn M_306 101 (.invokevirtual 431) 3 104 := by decide +kernel
theorem d_306_104 : m_dn M_306 104 (.iadd) 1 105 := by decide +kernel
theorem d_306_105 : m_dn M_306 105 (.if_icmp .ge 7) 3 108 := by decide +kernel
theorem d_306_108 : m_dn M_306 108 (.iconst 1) 1 109 := by decide +kernel
theorem d_306_109 : m_dn M_306 109 (.goto 4) 3 112 := by decide +kernel
theorem d_306_11 : m_dn M_306 11 (.invokevirtual 462) 3 14 := by decide +kernel
theorem d_306_112 : m_dn M_306 112 (.iconst 0) 1 113 := by decide +kernel
theorem d_306_113 : m_dn M_306 113 (.ireturn) 1 114 := by decide +kernel
theorem d_306_14 : m_dn M_306 14 (.istore 4) 2 16 := by decide +kernel
theorem d_306_16 : m_dn M_306 16 (.iload_n 3) 1 17 := by decide +kernel
theorem d_306_17 : m_dn M_306 17 (.iconst (-1)) 1 18 := by decide +kernel
theorem d_306_18 : m_dn M_306 18 (.if_icmp .eq 34) 3 21 := by decide +kernel
theorem d_306_21 : m_dn M_306 21 (.aload_n 0) 1 22 := by decide +kernel
theorem d_306_22 : m_dn M_306 22 (.iload_n 3) 1 23 := by decide +kernel
theorem d_306_23 : m_dn M_306 23 (.bipush 19) 2 25 := by decide +kernel
theorem d_306_25 : m_dn M_306 25 (.invokevirtual 436) 3 28 := by decide +kernel
theorem d_306_28 : m_dn M_306 28 (.iconst (-1)) 1 29 := by decide +kernel
theorem d_306_29 : m_dn M_306 29 (.if_icmp .eq 23) 3 32 := by decide +kernel
theorem d_306_32 : m_dn M_306 32 (.iload 4) 2 34 := by decide +kernel
theorem d_306_34 : m_dn M_306 34 (.aload_n 0) 1 35 := by decide +kernel
theorem d_306_35 : m_dn M_306 35 (.iload_n 2) 1 36 := by decide +kernel
theorem d_306_36 : m_dn M_306 36 (.invokevirtual 465) 3 39 := by decide +kernel
theorem d_306_39 : m_dn M_306 39 (.aload_n 0) 1 40 := by decide +kernel
theorem d_306_4 : m_dn M_306 4 (.iload_n 1) 1 5 := by decide +kernel
theorem d_306_40 : m_dn M_306 40 (.iload_n 3) 1 41 := by decide +kernel
theorem d_306_41 : m_dn M_306 41 (.bipush 19) 2 43 := by decide +kernel
theorem d_306_43 : m_dn M_306 43 (.invokevirtual 436) 3 46 := by decide +kernel
theorem d_306_46 : m_dn M_306 46 (.iadd) 1 47 := by decide +kernel
theorem d_306_47 : m_dn M_306 47 (.if_icmp .ge 5) 3 50 := by decide +kernel
theorem d_306_5 : m_dn M_306 5 (.iconst 2) 1 6 := by decide +kernel
theorem d_306_50 : m_dn M_306 50 (.iconst 1) 1 51 := by decide +kernel
theorem d_306_51 : m_dn M_306 51 (.ireturn) 1 52 := by decide +kernel
theorem d_306_52 : m_dn M_306 52 (.iload_n 3) 1 53 := by decide +kernel
theorem d_306_53 : m_dn M_306 53 (.iconst (-1)) 1 54 := by decide +kernel
theorem d_306_54 : m_dn M_306 54 (.if_icmp .eq 25) 3 57 := by decide +kernel
theorem d_306_57 : m_dn M_306 57 (.aload_n 0) 1 58 := by decide +kernel
theorem d_306_58 : m_dn M_306 58 (.iload_n 3) 1 59 := by decide +kernel
theorem d_306_59 : m_dn M_306 59 (.bipush 18) 2 61 := by decide +kernel
theorem d_306_6 : m_dn M_306 6 (.iadd) 1 7 := by decide +kernel
theorem d_306_61 : m_dn M_306 61 (.invokevirtual 436) 3 64 := by decide +kernel
theorem d_306_64 : m_dn M_306 64 (.iconst (-1)) 1 65 := by decide +kernel
theorem d_306_65 : m_dn M_306 65 (.if_icmp .ne 18) 3 68 := by decide +kernel
theorem d_306_68 : m_dn M_306 68 (.aload_n 0) 1 69 := by decide +kernel
theorem d_306_69 : m_dn M_306 69 (.iload_n 3) 1 70 := by decide +kernel
theorem d_306_7 : m_dn M_306 7 (.iaload) 1 8 := by decide +kernel
theorem d_306_70 : m_dn M_306 70 (.bipush 20) 2 72 := by decide +kernel
theorem d_306_72 : m_dn M_306 72 (.invokevirtual 436) 3 75 := by decide +kernel
theorem d_306_75 : m_dn M_306 75 (.iconst (-1)) 1 76 := by decide +kernel
theorem d_306_76 : m_dn M_306 76 (.if_icmp .ne 7) 3 79 := by decide +kernel
theorem d_306_79 : m_dn M_306 79 (.iconst 1) 1 80 := by decide +kernel
theorem d_306_8 : m_dn M_306 8 (.istore_n 3) 1 9 := by decide +kernel
theorem d_306_80 : m_dn M_306 80 (.goto 4) 3 83 := by decide +kernel
theorem d_306_83 : m_dn M_306 83 (.iconst 0) 1 84 := by decide +kernel
theorem d_306_84 : m_dn M_306 84 (.istore 5) 2 86 := by decide +kernel
theorem d_306_86 : m_dn M_306 86 (.iload 5) 2 88 := by decide +kernel
theorem d_306_88 : m_dn M_306 88 (.ifCond .eq 24) 3 91 := by decide +kernel
theorem d_306_9 : m_dn M_306 9 (.aload_n 0) 1 10 := by decide +kernel
theorem d_306_91 : m_dn M_306 91 (.iload 4) 2 93 := by decide +kernel
theorem d_306_93 : m_dn M_306 93 (.aload_n 0) 1 94 := by decide +kernel
theorem d_306_94 : m_dn M_306 94 (.iload_n 2) 1 95 := by decide +kernel
theorem d_306_95 : m_dn M_306 95 (.invokevirtual 465) 3 98 := by decide +kernel
theorem d_306_98 : m_dn M_306 98 (.aload_n 0) 1 99 := by decide +kernel
theorem d_306_99 : m_dn M_306 99 (.iload_n 2) 1 100 := by decide +kernel
theorem d_307_0 : m_dn M_307 0 (.aload_n 0) 1 1 := by decide +kernel
theorem d_307_1 : m_dn M_307 1 (.getfield 131) 3 4 := by decide +kernel
theorem d_307_10 : m_dn M_307 10 (.iload_n 2) 1 11 := by decide +kernel
theorem d_307_100 : m_dn M_307 100 (.iload_n 3) 1 101 := by decide +kernel
theorem d_307_101 : m_dn M_307 101 (.iconst 3) 1 102 := by decide +kernel
theorem d_307_102 : m_dn M_307 102 (.invokevirtual 436) 3 105 := by decide +kernel
theorem d_307_105 : m_dn M_307 105 (.iconst 2) 1 106 := by decide +kernel
theorem d_307_106 : m_dn M_307 106 (.if_icmp .ne 78) 3 109 := by decide +kernel
theorem d_307_109 : m_dn M_307 109 (.aload_n 0) 1 110 := by decide +kernel
theorem d_307_11 : m_dn M_307 11 (.aload_n 0) 1 12 := by decide +kernel
theorem d_307_110 : m_dn M_307 110 (.getfield 103) 3 113 := by decide +kernel
theorem d_307_113 : m_dn M_307 113 (.iload_n 2) 1 114 := by decide +kernel
theorem d_307_114 : m_dn M_307 114 (.aload_n 0) 1 115 := by decide +kernel
theorem d_307_115 : m_dn M_307 115 (.iload_n 3) 1 116 := by decide +kernel
theorem d_307_116 : m_dn M_307 116 (.iconst 4) 1 117 := by decide +kernel
theorem d_307_117 : m_dn M_307 117 (.invokevirtual 436) 3 120 := by decide +kernel
theorem d_307_12 : m_dn M_307 12 (.getfield 131) 3 15 := by decide +kernel
theorem d_307_120 : m_dn M_307 120 (.sipush 255) 3 123 := by decide +kernel
theorem d_307_123 : m_dn M_307 123 (.if_icmp .le 9) 3 126 := by decide +kernel
theorem d_307_126 : m_dn M_307 126 (.sipush 255) 3 129 := by decide +kernel
theorem d_307_129 : m_dn M_307 129 (.goto 9) 3 132 := by decide +kernel
theorem d_307_132 : m_dn M_307 132 (.aload_n 0) 1 133 := by decide +kernel
theorem d_307_133 : m_dn M_307 133 (.iload_n 3) 1 134 := by decide +kernel
theorem d_307_134 : m_dn M_307 134 (.iconst 4) 1 135 := by decide +kernel
theorem d_307_135 : m_dn M_307 135 (.invokevirtual 436) 3 138 := by decide +kernel
theorem d_307_138 : m_dn M_307 138 (.bipush 16) 2 140 := by decide +kernel
theorem d_307_140 : m_dn M_307 140 (.idiv) 1 141 := by decide +kernel
theorem d_307_141 : m_dn M_307 141 (.iastore) 1 142 := by decide +kernel
theorem d_307_142 : m_dn M_307 142 (.aload_n 0) 1 143 := by decide +kernel
theorem d_307_143 : m_dn M_307 143 (.getfield 106) 3 146 := by decide +kernel
theorem d_307_146 : m_dn M_307 146 (.iload_n 2) 1 147 := by decide +kernel
theorem d_307_147 : m_dn M_307 147 (.aload_n 0) 1 148 := by decide +kernel
theorem d_307_148 : m_dn M_307 148 (.iload_n 3) 1 149 := by decide +kernel
theorem d_307_149 : m_dn M_307 149 (.iconst 3) 1 150 := by decide +kernel
theorem d_307_15 : m_dn M_307 15 (.iload_n 1) 1 16 := by decide +kernel
theorem d_307_150 : m_dn M_307 150 (.invokevirtual 436) 3 153 := by decide +kernel
theorem d_307_153 : m_dn M_307 153 (.iconst 2) 1 154 := by decide +kernel
theorem d_307_154 : m_dn M_307 154 (.if_icmp .eq 15) 3 157 := by decide +kernel
theorem d_307_157 : m_dn M_307 157 (.aload_n 0) 1 158 := by decide +kernel
theorem d_307_158 : m_dn M_307 158 (.iload_n 3) 1 159 := by decide +kernel
theorem d_307_159 : m_dn M_307 159 (.iconst 5) 1 160 := by decide +kernel
theorem d_307_16 : m_dn M_307 16 (.bipush 11) 2 18 := by decide +kernel
theorem d_307_160 : m_dn M_307 160 (.invokevirtual 436) 3 163 := by decide +kernel
theorem d_307_163 : m_dn M_307 163 (.sipush 255) 3 166 := by decide +kernel
theorem d_307_166 : m_dn M_307 166 (.if_icmp .le 8) 3 169 := by decide +kernel
theorem d_307_169 : m_dn M_307 169 (.bipush 15) 2 171 := by decide +kernel
theorem d_307_171 : m_dn M_307 171 (.goto 12) 3 174 := by decide +kernel
theorem d_307_174 : m_dn M_307 174 (.aload_n 0) 1 175 := by decide +kernel
theorem d_307_175 : m_dn M_307 175 (.iload_n 3) 1 176 := by decide +kernel
theorem d_307_176 : m_dn M_307 176 (.iconst 5) 1 177 := by decide +kernel
theorem d_307_177 : m_dn M_307 177 (.invokevirtual 436) 3 180 := by decide +kernel
theorem d_307_18 : m_dn M_307 18 (.iadd) 1 19 := by decide +kernel
theorem d_307_180 : m_dn M_307 180 (.bipush 16) 2 182 := by decide +kernel
theorem d_307_182 : m_dn M_307 182 (.idiv) 1 183 := by decide +kernel
theorem d_307_183 : m_dn M_307 183 (.iastore) 1 184 := by decide +kernel
theorem d_307_184 : m_dn M_307 184 (.aload_n 0) 1 185 := by decide +kernel
theorem d_307_185 : m_dn M_307 185 (.getfield 131) 3 188 := by decide +kernel
theorem d_307_188 : m_dn M_307 188 (.iload_n 1) 1 189 := by decide +kernel
theorem d_307_189 : m_dn M_307 189 (.bipush 10) 2 191 := by decide +kernel
theorem d_307_19 : m_dn M_307 19 (.iaload) 1 20 := by decide +kernel
theorem d_307_191 : m_dn M_307 191 (.iadd) 1 192 := by decide +kernel
theorem d_307_192 : m_dn M_307 192 (.iaload) 1 193 := by decide +kernel
theorem d_307_193 : m_dn M_307 193 (.ifCond .ne 96) 3 196 := by decide +kernel
theorem d_307_196 : m_dn M_307 196 (.aload_n 0) 1 197 := by decide +kernel
theorem d_307_197 : m_dn M_307 197 (.iload_n 1) 1 198 := by decide +kernel
theorem d_307_198 : m_dn M_307 198 (.iload 4) 2 200 := by decide +kernel
theorem d_307_20 : m_dn M_307 20 (.invokevirtual 468) 3 23 := by decide +kernel
theorem d_307_200 : m_dn M_307 200 (.invokevirtual 471) 3 203 := by decide +kernel
theorem d_307_203 : m_dn M_307 203 (.ifCond .eq 86) 3 206 := by decide +kernel
theorem d_307_206 : m_dn M_307 206 (.aload_n 0) 1 207 := by decide +kernel
theorem d_307_207 : m_dn M_307 207 (.iload_n 1) 1 208 := by decide +kernel
theorem d_307_208 : m_dn M_307 208 (.invokevirtual 474) 3 211 := by decide +kernel
theorem d_307_211 : m_dn M_307 211 (.ifCond .ne 78) 3 214 := by decide +kernel
theorem d_307_214 : m_dn M_307 214 (.aload_n 0) 1 215 := by decide +kernel
theorem d_307_215 : m_dn M_307 215 (.iload_n 1) 1 216 := by decide +kernel
theorem d_307_216 : m_dn M_307 216 (.iload 4) 2 218 := by decide +kernel
theorem d_307_218 : m_dn M_307 218 (.invokevirtual 480) 3 221 := by decide +kernel
theorem d_307_221 : m_dn M_307 221 (.ifCond .eq 68) 3 224 := by decide +kernel
theorem d_307_224 : m_dn M_307 224 (.aload_n 0) 1 225 := by decide +kernel
theorem d_307_225 : m_dn M_307 225 (.iload_n 1) 1 226 := by decide +kernel
theorem d_307_226 : m_dn M_307 226 (.iload 4) 2 228 := by decide +kernel
theorem d_307_228 : m_dn M_307 228 (.invokevirtual 477) 3 231 := by decide +kernel
theorem d_307_23 : m_dn M_307 23 (.istore 4) 2 25 := by decide +kernel
theorem d_307_231 : m_dn M_307 231 (.ifCond .ne 58) 3 234 := by decide +kernel
theorem d_307_234 : m_dn M_307 234 (.aload_n 0) 1 235 := by decide +kernel
theorem d_307_235 : m_dn M_307 235 (.iload_n 1) 1 236 := by decide +kernel
theorem d_307_236 : m_dn M_307 236 (.aload_n 0) 1 237 := by decide +kernel
theorem d_307_237 : m_dn M_307 237 (.iload 4) 2 239 := by decide +kernel
theorem d_307_239 : m_dn M_307 239 (.iconst 1) 1 240 := by decide +kernel
theorem d_307_240 : m_dn M_307 240 (.invokevirtual 431) 3 243 := by decide +kernel
theorem d_307_243 : m_dn M_307 243 (.aload_n 0) 1 244 := by decide +kernel
theorem d_307_244 : m_dn M_307 244 (.iload 4) 2 246 := by decide +kernel
theorem d_307_246 : m_dn M_307 246 (.invokevirtual 456) 3 249 := by decide +kernel
theorem d_307_249 : m_dn M_307 249 (.invokevirtual 459) 3 252 := by decide +kernel
theorem d_307_25 : m_dn M_307 25 (.aload_n 0) 1 26 := by decide +kernel
theorem d_307_252 : m_dn M_307 252 (.aload_n 0) 1 253 := by decide +kernel
theorem d_307_253 : m_dn M_307 253 (.getfield 85) 3 256 := by decide +kernel
theorem d_307_256 : m_dn M_307 256 (.iload 4) 2 258 := by decide +kernel
theorem d_307_258 : m_dn M_307 258 (.iaload) 1 259 := by decide +kernel
theorem d_307_259 : m_dn M_307 259 (.iconst (-1)) 1 260 := by decide +kernel
theorem d_307_26 : m_dn M_307 26 (.getfield 103) 3 29 := by decide +kernel
theorem d_307_260 : m_dn M_307 260 (.ixor) 1 261 := by decide +kernel
theorem d_307_261 : m_dn M_307 261 (.iand) 1 262 := by decide +kernel
theorem d_307_262 : m_dn M_307 262 (.istore 5) 2 264 := by decide +kernel
theorem d_307_264 : m_dn M_307 264 (.aload_n 0) 1 265 := by decide +kernel
theorem d_307_265 : m_dn M_307 265 (.getfield 103) 3 268 := by decide +kernel
theorem d_307_268 : m_dn M_307 268 (.iload_n 2) 1 269 := by decide +kernel
theorem d_307_269 : m_dn M_307 269 (.iload 5) 2 271 := by decide +kernel
theorem d_307_271 : m_dn M_307 271 (.invokestatic 514) 3 274 := by decide +kernel
theorem d_307_274 : m_dn M_307 274 (.iastore) 1 275 := by decide +kernel
theorem d_307_275 : m_dn M_307 275 (.aload_n 0) 1 276 := by decide +kernel
theorem d_307_276 : m_dn M_307 276 (.getfield 106) 3 279 := by decide +kernel
theorem d_307_279 : m_dn M_307 279 (.iload_n 2) 1 280 := by decide +kernel
theorem d_307_280 : m_dn M_307 280 (.bipush 31) 2 282 := by decide +kernel
theorem d_307_282 : m_dn M_307 282 (.iload 5) 2 284 := by decide +kernel
theorem d_307_284 : m_dn M_307 284 (.invokestatic 517) 3 287 := by decide +kernel
theorem d_307_287 : m_dn M_307 287 (.isub) 1 288 := by decide +kernel
theorem d_307_288 : m_dn M_307 288 (.iastore) 1 289 := by decide +kernel
theorem d_307_289 : m_dn M_307 289 (.aload_n 0) 1 290 := by decide +kernel
theorem d_307_29 : m_dn M_307 29 (.iload_n 2) 1 30 := by decide +kernel
theorem d_307_290 : m_dn M_307 290 (.getfield 94) 3 293 := by decide +kernel
theorem d_307_293 : m_dn M_307 293 (.iload_n 2) 1 294 := by decide +kernel
theorem d_307_294 : m_dn M_307 294 (.aload_n 0) 1 295 := by decide +kernel
theorem d_307_295 : m_dn M_307 295 (.iload_n 1) 1 296 := by decide +kernel
theorem d_307_296 : m_dn M_307 296 (.invokevirtual 474) 3 299 := by decide +kernel
theorem d_307_299 : m_dn M_307 299 (.bastore) 1 300 := by decide +kernel
theorem d_307_30 : m_dn M_307 30 (.iload_n 3) 1 31 := by decide +kernel
theorem d_307_300 : m_dn M_307 300 (.aload_n 0) 1 301 := by decide +kernel
theorem d_307_301 : m_dn M_307 301 (.getfield 112) 3 304 := by decide +kernel
theorem d_307_304 : m_dn M_307 304 (.iload_n 2) 1 305 := by decide +kernel
theorem d_307_305 : m_dn M_307 305 (.aload_n 0) 1 306 := by decide +kernel
theorem d_307_306 : m_dn M_307 306 (.getfield 131) 3 309 := by decide +kernel
theorem d_307_309 : m_dn M_307 309 (.iload_n 1) 1 310 := by decide +kernel
theorem d_307_31 : m_dn M_307 31 (.iconst (-1)) 1 32 := by decide +kernel
theorem d_307_310 : m_dn M_307 310 (.bipush 11) 2 312 := by decide +kernel
theorem d_307_312 : m_dn M_307 312 (.iadd) 1 313 := by decide +kernel
theorem d_307_313 : m_dn M_307 313 (.iaload) 1 314 := by decide +kernel
theorem d_307_314 : m_dn M_307 314 (.iastore) 1 315 := by decide +kernel
theorem d_307_315 : m_dn M_307 315 (.aload_n 0) 1 316 := by decide +kernel
theorem d_307_316 : m_dn M_307 316 (.iload_n 2) 1 317 := by decide +kernel
theorem d_307_317 : m_dn M_307 317 (.invokevirtual 520) 3 320 := by decide +kernel
theorem d_307_32 : m_dn M_307 32 (.if_icmp .ne 14) 3 35 := by decide +kernel
theorem d_307_320 : m_dn M_307 320 (.ireturn) 1 321 := by decide +kernel
theorem d_307_35 : m_dn M_307 35 (.aload_n 0) 1 36 := by decide +kernel
theorem d_307_36 : m_dn M_307 36 (.getfield 131) 3 39 := by decide +kernel
theorem d_307_39 : m_dn M_307 39 (.iload_n 1) 1 40 := by decide +kernel
theorem d_307_4 : m_dn M_307 4 (.iload_n 1) 1 5 := by decide +kernel
theorem d_307_40 : m_dn M_307 40 (.iconst 5) 1 41 := by decide +kernel
theorem d_307_41 : m_dn M_307 41 (.iadd) 1 42 := by decide +kernel
theorem d_307_42 : m_dn M_307 42 (.iaload) 1 43 := by decide +kernel
theorem d_307_43 : m_dn M_307 43 (.goto 4) 3 46 := by decide +kernel
theorem d_307_46 : m_dn M_307 46 (.iconst 0) 1 47 := by decide +kernel
theorem d_307_47 : m_dn M_307 47 (.iastore) 1 48 := by decide +kernel
theorem d_307_48 : m_dn M_307 48 (.aload_n 0) 1 49 := by decide +kernel
theorem d_307_49 : m_dn M_307 49 (.getfield 106) 3 52 := by decide +kernel
theorem d_307_5 : m_dn M_307 5 (.iconst 2) 1 6 := by decide +kernel
theorem d_307_52 : m_dn M_307 52 (.iload_n 2) 1 53 := by decide +kernel
theorem d_307_53 : m_dn M_307 53 (.iload_n 3) 1 54 := by decide +kernel
theorem d_307_54 : m_dn M_307 54 (.iconst (-1)) 1 55 := by decide +kernel
theorem d_307_55 : m_dn M_307 55 (.if_icmp .ne 15) 3 58 := by decide +kernel
theorem d_307_58 : m_dn M_307 58 (.aload_n 0) 1 59 := by decide +kernel
theorem d_307_59 : m_dn M_307 59 (.getfield 131) 3 62 := by decide +kernel
theorem d_307_6 : m_dn M_307 6 (.iadd) 1 7 := by decide +kernel
theorem d_307_62 : m_dn M_307 62 (.iload_n 1) 1 63 := by decide +kernel
theorem d_307_63 : m_dn M_307 63 (.bipush 6) 2 65 := by decide +kernel
theorem d_307_65 : m_dn M_307 65 (.iadd) 1 66 := by decide +kernel
theorem d_307_66 : m_dn M_307 66 (.iaload) 1 67 := by decide +kernel
theorem d_307_67 : m_dn M_307 67 (.goto 5) 3 70 := by decide +kernel
theorem d_307_7 : m_dn M_307 7 (.iaload) 1 8 := by decide +kernel
theorem d_307_70 : m_dn M_307 70 (.bipush 15) 2 72 := by decide +kernel
theorem d_307_72 : m_dn M_307 72 (.iastore) 1 73 := by decide +kernel
theorem d_307_73 : m_dn M_307 73 (.iload_n 3) 1 74 := by decide +kernel
theorem d_307_74 : m_dn M_307 74 (.iconst (-1)) 1 75 := by decide +kernel
theorem d_307_75 : m_dn M_307 75 (.if_icmp .eq 109) 3 78 := by decide +kernel
theorem d_307_78 : m_dn M_307 78 (.aload_n 0) 1 79 := by decide +kernel
theorem d_307_79 : m_dn M_307 79 (.iload_n 3) 1 80 := by decide +kernel
theorem d_307_8 : m_dn M_307 8 (.istore_n 3) 1 9 := by decide +kernel
theorem d_307_80 : m_dn M_307 80 (.bipush 21) 2 82 := by decide +kernel
theorem d_307_82 : m_dn M_307 82 (.invokevirtual 436) 3 85 := by decide +kernel
theorem d_307_85 : m_dn M_307 85 (.iconst (-1)) 1 86 := by decide +kernel
theorem d_307_86 : m_dn M_307 86 (.if_icmp .ne 98) 3 89 := by decide +kernel
theorem d_307_89 : m_dn M_307 89 (.aload_n 0) 1 90 := by decide +kernel
theorem d_307_9 : m_dn M_307 9 (.aload_n 0) 1 10 := by decide +kernel
theorem d_307_90 : m_dn M_307 90 (.iload_n 3) 1 91 := by decide +kernel
theorem d_307_91 : m_dn M_307 91 (.iconst 3) 1 92 := by decide +kernel
theorem d_307_92 : m_dn M_307 92 (.invokevirtual 436) 3 95 := by decide +kernel
theorem d_307_95 : m_dn M_307 95 (.iconst 1) 1 96 := by decide +kernel
theorem d_307_96 : m_dn M_307 96 (.if_icmp .eq 13) 3 99 := by decide +kernel
theorem d_307_99 : m_dn M_307 99 (.aload_n 0) 1 100 := by decide +kernel
theorem d_308_0 : m_dn M_308 0 (.iload_n 1) 1 1 := by decide +kernel
theorem d_308_1 : m_dn M_308 1 (.sipush 128) 3 4 := by decide +kernel
theorem d_308_100 : m_dn M_308 100 (.iload_n 1) 1 101 := by decide +kernel
theorem d_308_101 : m_dn M_308 101 (.iaload) 1 102 := by decide +kernel
theorem d_308_102 : m_dn M_308 102 (.iload_n 1) 1 103 := by decide +kernel
theorem d_308_103 : m_dn M_308 103 (.sipush 128) 3 106 := by decide +kernel
theorem d_308_106 : m_dn M_308 106 (.irem) 1 107 := by decide +kernel
theorem d_308_107 : m_dn M_308 107 (.invokevirtual 526) 3 110 := by decide +kernel
theorem d_308_110 : m_dn M_308 110 (.aload_n 0) 1 111 := by decide +kernel
theorem d_308_111 : m_dn M_308 111 (.getfield 140) 3 114 := by decide +kernel
theorem d_308_114 : m_dn M_308 114 (.bipush 6) 2 116 := by decide +kernel
theorem d_308_116 : m_dn M_308 116 (.aload_n 0) 1 117 := by decide +kernel
theorem d_308_117 : m_dn M_308 117 (.getfield 103) 3 120 := by decide +kernel
theorem d_308_12 : m_dn M_308 12 (.irem) 1 13 := by decide +kernel
theorem d_308_120 : m_dn M_308 120 (.iload_n 1) 1 121 := by decide +kernel
theorem d_308_121 : m_dn M_308 121 (.iaload) 1 122 := by decide +kernel
theorem d_308_122 : m_dn M_308 122 (.iastore) 1 123 := by decide +kernel
theorem d_308_123 : m_dn M_308 123 (.aload_n 0) 1 124 := by decide +kernel
theorem d_308_124 : m_dn M_308 124 (.getfield 140) 3 127 := by decide +kernel
theorem d_308_127 : m_dn M_308 127 (.bipush 7) 2 129 := by decide +kernel
theorem d_308_129 : m_dn M_308 129 (.aload_n 0) 1 130 := by decide +kernel
theorem d_308_13 : m_dn M_308 13 (.invokevirtual 523) 3 16 := by decide +kernel
theorem d_308_130 : m_dn M_308 130 (.getfield 106) 3 133 := by decide +kernel
theorem d_308_133 : m_dn M_308 133 (.iload_n 1) 1 134 := by decide +kernel
theorem d_308_134 : m_dn M_308 134 (.iaload) 1 135 := by decide +kernel
theorem d_308_135 : m_dn M_308 135 (.iastore) 1 136 := by decide +kernel
theorem d_308_136 : m_dn M_308 136 (.aload_n 0) 1 137 := by decide +kernel
theorem d_308_137 : m_dn M_308 137 (.getfield 140) 3 140 := by decide +kernel
theorem d_308_140 : m_dn M_308 140 (.bipush 8) 2 142 := by decide +kernel
theorem d_308_142 : m_dn M_308 142 (.aload_n 0) 1 143 := by decide +kernel
theorem d_308_143 : m_dn M_308 143 (.getfield 42) 3 146 := by decide +kernel
theorem d_308_146 : m_dn M_308 146 (.iload_n 2) 1 147 := by decide +kernel
theorem d_308_147 : m_dn M_308 147 (.iaload) 1 148 := by decide +kernel
theorem d_308_148 : m_dn M_308 148 (.iastore) 1 149 := by decide +kernel
theorem d_308_149 : m_dn M_308 149 (.aload_n 0) 1 150 := by decide +kernel
theorem d_308_150 : m_dn M_308 150 (.getfield 109) 3 153 := by decide +kernel
theorem d_308_153 : m_dn M_308 153 (.iload_n 1) 1 154 := by decide +kernel
theorem d_308_154 : m_dn M_308 154 (.aload_n 0) 1 155 := by decide +kernel
theorem d_308_155 : m_dn M_308 155 (.getfield 42) 3 158 := by decide +kernel
theorem d_308_158 : m_dn M_308 158 (.iload_n 2) 1 159 := by decide +kernel
theorem d_308_159 : m_dn M_308 159 (.iaload) 1 160 := by decide +kernel
theorem d_308_16 : m_dn M_308 16 (.istore_n 3) 1 17 := by decide +kernel
theorem d_308_160 : m_dn M_308 160 (.iastore) 1 161 := by decide +kernel
theorem d_308_161 : m_dn M_308 161 (.aload_n 0) 1 162 := by decide +kernel
theorem d_308_162 : m_dn M_308 162 (.getfield 140) 3 165 := by decide +kernel
theorem d_308_165 : m_dn M_308 165 (.bipush 9) 2 167 := by decide +kernel
theorem d_308_167 : m_dn M_308 167 (.aload_n 0) 1 168 := by decide +kernel
theorem d_308_168 : m_dn M_308 168 (.getfield 94) 3 171 := by decide +kernel
theorem d_308_17 : m_dn M_308 17 (.aload_n 0) 1 18 := by decide +kernel
theorem d_308_171 : m_dn M_308 171 (.iload_n 1) 1 172 := by decide +kernel
theorem d_308_172 : m_dn M_308 172 (.baload) 1 173 := by decide +kernel
theorem d_308_173 : m_dn M_308 173 (.ifCond .eq 7) 3 176 := by decide +kernel
theorem d_308_176 : m_dn M_308 176 (.iconst 1) 1 177 := by decide +kernel
theorem d_308_177 : m_dn M_308 177 (.goto 4) 3 180 := by decide +kernel
theorem d_308_18 : m_dn M_308 18 (.getfield 91) 3 21 := by decide +kernel
theorem d_308_180 : m_dn M_308 180 (.iconst 0) 1 181 := by decide +kernel
theorem d_308_181 : m_dn M_308 181 (.iastore) 1 182 := by decide +kernel
theorem d_308_182 : m_dn M_308 182 (.aload_n 0) 1 183 := by decide +kernel
theorem d_308_183 : m_dn M_308 183 (.getfield 140) 3 186 := by decide +kernel
theorem d_308_186 : m_dn M_308 186 (.bipush 21) 2 188 := by decide +kernel
theorem d_308_188 : m_dn M_308 188 (.aload_n 0) 1 189 := by decide +kernel
theorem d_308_189 : m_dn M_308 189 (.getfield 112) 3 192 := by decide +kernel
theorem d_308_192 : m_dn M_308 192 (.iload_n 1) 1 193 := by decide +kernel
theorem d_308_193 : m_dn M_308 193 (.iaload) 1 194 := by decide +kernel
theorem d_308_194 : m_dn M_308 194 (.iastore) 1 195 := by decide +kernel
theorem d_308_195 : m_dn M_308 195 (.iload 4) 2 197 := by decide +kernel
theorem d_308_197 : m_dn M_308 197 (.iconst (-1)) 1 198 := by decide +kernel
theorem d_308_198 : m_dn M_308 198 (.if_icmp .eq 76) 3 201 := by decide +kernel
theorem d_308_201 : m_dn M_308 201 (.aload_n 0) 1 202 := by decide +kernel
theorem d_308_202 : m_dn M_308 202 (.getfield 103) 3 205 := by decide +kernel
theorem d_308_205 : m_dn M_308 205 (.iload_n 1) 1 206 := by decide +kernel
theorem d_308_206 : m_dn M_308 206 (.iaload) 1 207 := by decide +kernel
theorem d_308_207 : m_dn M_308 207 (.aload_n 0) 1 208 := by decide +kernel
theorem d_308_208 : m_dn M_308 208 (.getfield 106) 3 211 := by decide +kernel
theorem d_308_21 : m_dn M_308 21 (.iload_n 1) 1 22 := by decide +kernel
theorem d_308_211 : m_dn M_308 211 (.iload_n 1) 1 212 := by decide +kernel
theorem d_308_212 : m_dn M_308 212 (.iaload) 1 213 := by decide +kernel
theorem d_308_213 : m_dn M_308 213 (.aload_n 0) 1 214 := by decide +kernel
theorem d_308_214 : m_dn M_308 214 (.iload 4) 2 216 := by decide +kernel
theorem d_308_216 : m_dn M_308 216 (.iconst 1) 1 217 := by decide +kernel
theorem d_308_217 : m_dn M_308 217 (.invokevirtual 431) 3 220 := by decide +kernel
theorem d_308_22 : m_dn M_308 22 (.iload_n 3) 1 23 := by decide +kernel
theorem d_308_220 : m_dn M_308 220 (.invokestatic 449) 3 223 := by decide +kernel
theorem d_308_223 : m_dn M_308 223 (.istore 5) 2 225 := by decide +kernel
theorem d_308_225 : m_dn M_308 225 (.aload_n 0) 1 226 := by decide +kernel
theorem d_308_226 : m_dn M_308 226 (.getfield 140) 3 229 := by decide +kernel
theorem d_308_229 : m_dn M_308 229 (.bipush 10) 2 231 := by decide +kernel
theorem d_308_23 : m_dn M_308 23 (.iconst (-1)) 1 24 := by decide +kernel
theorem d_308_231 : m_dn M_308 231 (.aload_n 0) 1 232 := by decide +kernel
theorem d_308_232 : m_dn M_308 232 (.getfield 76) 3 235 := by decide +kernel
theorem d_308_235 : m_dn M_308 235 (.iload 4) 2 237 := by decide +kernel
theorem d_308_237 : m_dn M_308 237 (.iaload) 1 238 := by decide +kernel
theorem d_308_238 : m_dn M_308 238 (.aload_n 0) 1 239 := by decide +kernel
theorem d_308_239 : m_dn M_308 239 (.getfield 42) 3 242 := by decide +kernel
theorem d_308_24 : m_dn M_308 24 (.if_icmp .eq 7) 3 27 := by decide +kernel
theorem d_308_242 : m_dn M_308 242 (.iload_n 2) 1 243 := by decide +kernel
theorem d_308_243 : m_dn M_308 243 (.iaload) 1 244 := by decide +kernel
theorem d_308_244 : m_dn M_308 244 (.if_icmp .lt 28) 3 247 := by decide +kernel
theorem d_308_247 : m_dn M_308 247 (.aload_n 0) 1 248 := by decide +kernel
theorem d_308_248 : m_dn M_308 248 (.getfield 85) 3 251 := by decide +kernel
theorem d_308_251 : m_dn M_308 251 (.iload 4) 2 253 := by decide +kernel
theorem d_308_253 : m_dn M_308 253 (.iaload) 1 254 := by decide +kernel
theorem d_308_254 : m_dn M_308 254 (.iload 5) 2 256 := by decide +kernel
theorem d_308_256 : m_dn M_308 256 (.iand) 1 257 := by decide +kernel
theorem d_308_257 : m_dn M_308 257 (.iload 5) 2 259 := by decide +kernel
theorem d_308_259 : m_dn M_308 259 (.if_icmp .ne 13) 3 262 := by decide +kernel
theorem d_308_262 : m_dn M_308 262 (.aload_n 0) 1 263 := by decide +kernel
theorem d_308_263 : m_dn M_308 263 (.iload 4) 2 265 := by decide +kernel
theorem d_308_265 : m_dn M_308 265 (.iconst 0) 1 266 := by decide +kernel
theorem d_308_266 : m_dn M_308 266 (.invokevirtual 431) 3 269 := by decide +kernel
theorem d_308_269 : m_dn M_308 269 (.goto 4) 3 272 := by decide +kernel
theorem d_308_27 : m_dn M_308 27 (.iconst 1) 1 28 := by decide +kernel
theorem d_308_272 : m_dn M_308 272 (.iconst 0) 1 273 := by decide +kernel
theorem d_308_273 : m_dn M_308 273 (.iastore) 1 274 := by decide +kernel
theorem d_308_274 : m_dn M_308 274 (.aload_n 0) 1 275 := by decide +kernel
theorem d_308_275 : m_dn M_308 275 (.invokevirtual 530) 3 278 := by decide +kernel
theorem d_308_278 : m_dn M_308 278 (.iconst 1) 1 279 := by decide +kernel
theorem d_308_279 : m_dn M_308 279 (.ireturn) 1 280 := by decide +kernel
theorem d_308_28 : m_dn M_308 28 (.goto 4) 3 31 := by decide +kernel
theorem d_308_31 : m_dn M_308 31 (.iconst 0) 1 32 := by decide +kernel
theorem d_308_32 : m_dn M_308 32 (.bastore) 1 33 := by decide +kernel
theorem d_308_33 : m_dn M_308 33 (.iload_n 3) 1 34 := by decide +kernel
theorem d_308_34 : m_dn M_308 34 (.iconst (-1)) 1 35 := by decide +kernel
theorem d_308_35 : m_dn M_308 35 (.if_icmp .ne 5) 3 38 := by decide +kernel
theorem d_308_38 : m_dn M_308 38 (.iconst 0) 1 39 := by decide +kernel
theorem d_308_39 : m_dn M_308 39 (.ireturn) 1 40 := by decide +kernel
theorem d_308_4 : m_dn M_308 4 (.idiv) 1 5 := by decide +kernel
theorem d_308_40 : m_dn M_308 40 (.aload_n 0) 1 41 := by decide +kernel
theorem d_308_41 : m_dn M_308 41 (.iload_n 1) 1 42 := by decide +kernel
theorem d_308_42 : m_dn M_308 42 (.aload_n 0) 1 43 := by decide +kernel
theorem d_308_43 : m_dn M_308 43 (.getfield 112) 3 46 := by decide +kernel
theorem d_308_46 : m_dn M_308 46 (.iload_n 1) 1 47 := by decide +kernel
theorem d_308_47 : m_dn M_308 47 (.iaload) 1 48 := by decide +kernel
theorem d_308_48 : m_dn M_308 48 (.invokevirtual 468) 3 51 := by decide +kernel
theorem d_308_5 : m_dn M_308 5 (.istore_n 2) 1 6 := by decide +kernel
theorem d_308_51 : m_dn M_308 51 (.istore 4) 2 53 := by decide +kernel
theorem d_308_53 : m_dn M_308 53 (.aload_n 0) 1 54 := by decide +kernel
theorem d_308_54 : m_dn M_308 54 (.getfield 51) 3 57 := by decide +kernel
theorem d_308_57 : m_dn M_308 57 (.iload_n 2) 1 58 := by decide +kernel
theorem d_308_58 : m_dn M_308 58 (.dup2) 1 59 := by decide +kernel
theorem d_308_59 : m_dn M_308 59 (.iaload) 1 60 := by decide +kernel
theorem d_308_6 : m_dn M_308 6 (.aload_n 0) 1 7 := by decide +kernel
theorem d_308_60 : m_dn M_308 60 (.iconst 1) 1 61 := by decide +kernel
theorem d_308_61 : m_dn M_308 61 (.iadd) 1 62 := by decide +kernel
theorem d_308_62 : m_dn M_308 62 (.iastore) 1 63 := by decide +kernel
theorem d_308_63 : m_dn M_308 63 (.aload_n 0) 1 64 := by decide +kernel
theorem d_308_64 : m_dn M_308 64 (.getfield 97) 3 67 := by decide +kernel
theorem d_308_67 : m_dn M_308 67 (.iload_n 1) 1 68 := by decide +kernel
theorem d_308_68 : m_dn M_308 68 (.aload_n 0) 1 69 := by decide +kernel
theorem d_308_69 : m_dn M_308 69 (.getfield 51) 3 72 := by decide +kernel
theorem d_308_7 : m_dn M_308 7 (.iload_n 2) 1 8 := by decide +kernel
theorem d_308_72 : m_dn M_308 72 (.iload_n 2) 1 73 := by decide +kernel
theorem d_308_73 : m_dn M_308 73 (.iaload) 1 74 := by decide +kernel
theorem d_308_74 : m_dn M_308 74 (.iastore) 1 75 := by decide +kernel
theorem d_308_75 : m_dn M_308 75 (.aload_n 0) 1 76 := by decide +kernel
theorem d_308_76 : m_dn M_308 76 (.getfield 100) 3 79 := by decide +kernel
theorem d_308_79 : m_dn M_308 79 (.iload_n 1) 1 80 := by decide +kernel
theorem d_308_8 : m_dn M_308 8 (.iload_n 1) 1 9 := by decide +kernel
theorem d_308_80 : m_dn M_308 80 (.aload_n 0) 1 81 := by decide +kernel
theorem d_308_81 : m_dn M_308 81 (.getfield 390) 3 84 := by decide +kernel
theorem d_308_84 : m_dn M_308 84 (.iastore) 1 85 := by decide +kernel
theorem d_308_85 : m_dn M_308 85 (.aload_n 0) 1 86 := by decide +kernel
theorem d_308_86 : m_dn M_308 86 (.getfield 115) 3 89 := by decide +kernel
theorem d_308_89 : m_dn M_308 89 (.iload_n 1) 1 90 := by decide +kernel
theorem d_308_9 : m_dn M_308 9 (.sipush 128) 3 12 := by decide +kernel
theorem d_308_90 : m_dn M_308 90 (.iload_n 3) 1 91 := by decide +kernel
theorem d_308_91 : m_dn M_308 91 (.iastore) 1 92 := by decide +kernel
theorem d_308_92 : m_dn M_308 92 (.aload_n 0) 1 93 := by decide +kernel
theorem d_308_93 : m_dn M_308 93 (.iconst 0) 1 94 := by decide +kernel
theorem d_308_94 : m_dn M_308 94 (.iload_n 2) 1 95 := by decide +kernel
theorem d_308_95 : m_dn M_308 95 (.iload_n 3) 1 96 := by decide +kernel
theorem d_308_96 : m_dn M_308 96 (.aload_n 0) 1 97 := by decide +kernel
theorem d_308_97 : m_dn M_308 97 (.getfield 97) 3 100 := by decide +kernel
theorem d_309_0 : m_dn M_309 0 (.iload_n 1) 1 1 := by decide +kernel
theorem d_309_1 : m_dn M_309 1 (.iconst 3) 1 2 := by decide +kernel
theorem d_309_10 : m_dn M_309 10 (.iload_n 2) 1 11 := by decide +kernel
theorem d_309_11 : m_dn M_309 11 (.iload_n 1) 1 12 := by decide +kernel
theorem d_309_12 : m_dn M_309 12 (.invokevirtual 510) 3 15 := by decide +kernel
theorem d_309_15 : m_dn M_309 15 (.istore_n 3) 1 16 := by decide +kernel
theorem d_309_16 : m_dn M_309 16 (.iload_n 3) 1 17 := by decide +kernel
theorem d_309_17 : m_dn M_309 17 (.iconst (-1)) 1 18 := by decide +kernel
theorem d_309_18 : m_dn M_309 18 (.if_icmp .ne 14) 3 21 := by decide +kernel
theorem d_309_2 : m_dn M_309 2 (.if_icmp .ge 5) 3 5 := by decide +kernel
theorem d_309_21 : m_dn M_309 21 (.aload_n 0) 1 22 := by decide +kernel
theorem d_309_22 : m_dn M_309 22 (.iconst 1) 1 23 := by decide +kernel
theorem d_309_23 : m_dn M_309 23 (.iconst 2) 1 24 := by decide +kernel
theorem d_309_24 : m_dn M_309 24 (.iload_n 2) 1 25 := by decide +kernel
theorem d_309_25 : m_dn M_309 25 (.iconst 0) 1 26 := by decide +kernel
theorem d_309_26 : m_dn M_309 26 (.invokevirtual 510) 3 29 := by decide +kernel
theorem d_309_29 : m_dn M_309 29 (.goto 4) 3 32 := by decide +kernel
theorem d_309_32 : m_dn M_309 32 (.iload_n 3) 1 33 := by decide +kernel
theorem d_309_33 : m_dn M_309 33 (.ireturn) 1 34 := by decide +kernel
theorem d_309_5 : m_dn M_309 5 (.iconst 0) 1 6 := by decide +kernel
theorem d_309_6 : m_dn M_309 6 (.ireturn) 1 7 := by decide +kernel
theorem d_309_7 : m_dn M_309 7 (.aload_n 0) 1 8 := by decide +kernel
theorem d_309_8 : m_dn M_309 8 (.iconst 1) 1 9 := by decide +kernel
theorem d_309_9 : m_dn M_309 9 (.iconst 2) 1 10 := by decide +kernel
theorem d_310_0 : m_dn M_310 0 (.iconst 0) 1 1 := by decide +kernel
theorem d_310_1 : m_dn M_310 1 (.istore_n 2) 1 2 := by decide +kernel
theorem d_310_12 : m_dn M_310 12 (.bipush 12) 2 14 := by decide +kernel
theorem d_310_14 : m_dn M_310 14 (.aload_n 0) 1 15 := by decide +kernel
theorem d_310_15 : m_dn M_310 15 (.getfield 507) 3 18 := by decide +kernel
theorem d_310_18 : m_dn M_310 18 (.imul) 1 19 := by decide +kernel
theorem d_310_19 : m_dn M_310 19 (.iload_n 2) 1 20 := by decide +kernel
theorem d_310_2 : m_dn M_310 2 (.iload_n 2) 1 3 := by decide +kernel
theorem d_310_20 : m_dn M_310 20 (.iadd) 1 21 := by decide +kernel
theorem d_310_21 : m_dn M_310 21 (.aload_n 0) 1 22 := by decide +kernel
theorem d_310_22 : m_dn M_310 22 (.getfield 131) 3 25 := by decide +kernel
theorem d_310_25 : m_dn M_310 25 (.iload_n 1) 1 26 := by decide +kernel
theorem d_310_26 : m_dn M_310 26 (.iload_n 2) 1 27 := by decide +kernel
theorem d_310_27 : m_dn M_310 27 (.iadd) 1 28 := by decide +kernel
theorem d_310_28 : m_dn M_310 28 (.iaload) 1 29 := by decide +kernel
theorem d_310_29 : m_dn M_310 29 (.iastore) 1 30 := by decide +kernel
theorem d_310_3 : m_dn M_310 3 (.bipush 12) 2 5 := by decide +kernel
theorem d_310_30 : m_dn M_310 30 (.iinc 2 1) 3 33 := by decide +kernel
theorem d_310_33 : m_dn M_310 33 (.goto (-31)) 3 36 := by decide +kernel
theorem d_310_36 : m_dn M_310 36 (.aload_n 0) 1 37 := by decide +kernel
theorem d_310_37 : m_dn M_310 37 (.dup) 1 38 := by decide +kernel
theorem d_310_38 : m_dn M_310 38 (.getfield 507) 3 41 := by decide +kernel
theorem d_310_41 : m_dn M_310 41 (.iconst 1) 1 42 := by decide +kernel
theorem d_310_42 : m_dn M_310 42 (.iadd) 1 43 := by decide +kernel
theorem d_310_43 : m_dn M_310 43 (.putfield 507) 3 46 := by decide +kernel
theorem d_310_46 : m_dn M_310 46 (.return_) 1 47 := by decide +kernel
theorem d_310_5 : m_dn M_310 5 (.if_icmp .ge 31) 3 8 := by decide +kernel
theorem d_310_8 : m_dn M_310 8 (.aload_n 0) 1 9 := by decide +kernel
theorem d_310_9 : m_dn M_310 9 (.getfield 131) 3 12 := by decide +kernel
theorem d_311_0 : m_dn M_311 0 (.aload_n 0) 1 1 := by decide +kernel
theorem d_311_1 : m_dn M_311 1 (.sipush 128) 3 4 := by decide +kernel
theorem d_311_10 : m_dn M_311 10 (.imul) 1 11 := by decide +kernel
theorem d_311_11 : m_dn M_311 11 (.aload_n 0) 1 12 := by decide +kernel
theorem d_311_12 : m_dn M_311 12 (.getfield 131) 3 15 := by decide +kernel
theorem d_311_15 : m_dn M_311 15 (.iload_n 1) 1 16 := by decide +kernel
theorem d_311_16 : m_dn M_311 16 (.iconst 1) 1 17 := by decide +kernel
theorem d_311_17 : m_dn M_311 17 (.iadd) 1 18 := by decide +kernel
theorem d_311_18 : m_dn M_311 18 (.iaload) 1 19 := by decide +kernel
theorem d_311_19 : m_dn M_311 19 (.iadd) 1 20 := by decide +kernel
theorem d_311_20 : m_dn M_311 20 (.aload_n 0) 1 21 := by decide +kernel
theorem d_311_21 : m_dn M_311 21 (.getfield 131) 3 24 := by decide +kernel
theorem d_311_24 : m_dn M_311 24 (.iload_n 1) 1 25 := by decide +kernel
theorem d_311_25 : m_dn M_311 25 (.bipush 11) 2 27 := by decide +kernel
theorem d_311_27 : m_dn M_311 27 (.iadd) 1 28 := by decide +kernel
theorem d_311_28 : m_dn M_311 28 (.iaload) 1 29 := by decide +kernel
theorem d_311_29 : m_dn M_311 29 (.invokevirtual 468) 3 32 := by decide +kernel
theorem d_311_32 : m_dn M_311 32 (.istore_n 2) 1 33 := by decide +kernel
theorem d_311_33 : m_dn M_311 33 (.aload_n 0) 1 34 := by decide +kernel
theorem d_311_34 : m_dn M_311 34 (.iload_n 1) 1 35 := by decide +kernel
theorem d_311_35 : m_dn M_311 35 (.iload_n 2) 1 36 := by decide +kernel
theorem d_311_36 : m_dn M_311 36 (.invokevirtual 471) 3 39 := by decide +kernel
theorem d_311_39 : m_dn M_311 39 (.ifCond .eq 42) 3 42 := by decide +kernel
theorem d_311_4 : m_dn M_311 4 (.aload_n 0) 1 5 := by decide +kernel
theorem d_311_42 : m_dn M_311 42 (.aload_n 0) 1 43 := by decide +kernel
theorem d_311_43 : m_dn M_311 43 (.iload_n 1) 1 44 := by decide +kernel
theorem d_311_44 : m_dn M_311 44 (.iload_n 2) 1 45 := by decide +kernel
theorem d_311_45 : m_dn M_311 45 (.invokevirtual 477) 3 48 := by decide +kernel
theorem d_311_48 : m_dn M_311 48 (.ifCond .eq 33) 3 51 := by decide +kernel
theorem d_311_5 : m_dn M_311 5 (.getfield 131) 3 8 := by decide +kernel
theorem d_311_51 : m_dn M_311 51 (.aload_n 0) 1 52 := by decide +kernel
theorem d_311_52 : m_dn M_311 52 (.iload_n 2) 1 53 := by decide +kernel
theorem d_311_53 : m_dn M_311 53 (.invokevirtual 462) 3 56 := by decide +kernel
theorem d_311_56 : m_dn M_311 56 (.aload_n 0) 1 57 := by decide +kernel
theorem d_311_57 : m_dn M_311 57 (.iload_n 2) 1 58 := by decide +kernel
theorem d_311_58 : m_dn M_311 58 (.invokevirtual 465) 3 61 := by decide +kernel
theorem d_311_61 : m_dn M_311 61 (.aload_n 0) 1 62 := by decide +kernel
theorem d_311_62 : m_dn M_311 62 (.iload_n 2) 1 63 := by decide +kernel
theorem d_311_63 : m_dn M_311 63 (.iconst 3) 1 64 := by decide +kernel
theorem d_311_64 : m_dn M_311 64 (.invokevirtual 431) 3 67 := by decide +kernel
theorem d_311_67 : m_dn M_311 67 (.iadd) 1 68 := by decide +kernel
theorem d_311_68 : m_dn M_311 68 (.if_icmp .ge 13) 3 71 := by decide +kernel
theorem d_311_71 : m_dn M_311 71 (.aload_n 0) 1 72 := by decide +kernel
theorem d_311_72 : m_dn M_311 72 (.iload_n 1) 1 73 := by decide +kernel
theorem d_311_73 : m_dn M_311 73 (.iload_n 2) 1 74 := by decide +kernel
theorem d_311_74 : m_dn M_311 74 (.iconst 2) 1 75 := by decide +kernel
theorem d_311_75 : m_dn M_311 75 (.invokevirtual 487) 3 78 := by decide +kernel
theorem d_311_78 : m_dn M_311 78 (.goto 11) 3 81 := by decide +kernel
theorem d_311_8 : m_dn M_311 8 (.iload_n 1) 1 9 := by decide +kernel
theorem d_311_81 : m_dn M_311 81 (.aload_n 0) 1 82 := by decide +kernel
theorem d_311_82 : m_dn M_311 82 (.iload_n 1) 1 83 := by decide +kernel
theorem d_311_83 : m_dn M_311 83 (.sipush 504) 3 86 := by decide +kernel
theorem d_311_86 : m_dn M_311 86 (.invokevirtual 539) 3 89 := by decide +kernel
theorem d_311_89 : m_dn M_311 89 (.return_) 1 90 := by decide +kernel
theorem d_311_9 : m_dn M_311 9 (.iaload) 1 10 := by decide +kernel
theorem d_312_0 : m_dn M_312 0 (.aload_n 0) 1 1 := by decide +kernel
theorem d_312_1 : m_dn M_312 1 (.getfield 131) 3 4 := by decide +kernel
theorem d_312_12 : m_dn M_312 12 (.aload_n 0) 1 13 := by decide +kernel
theorem d_312_13 : m_dn M_312 13 (.aload_n 0) 1 14 := by decide +kernel
theorem d_312_14 : m_dn M_312 14 (.getfield 131) 3 17 := by decide +kernel
theorem d_312_17 : m_dn M_312 17 (.iload_n 1) 1 18 := by decide +kernel
theorem d_312_18 : m_dn M_312 18 (.iconst 2) 1 19 := by decide +kernel
theorem d_312_19 : m_dn M_312 19 (.iadd) 1 20 := by decide +kernel
theorem d_312_20 : m_dn M_312 20 (.iaload) 1 21 := by decide +kernel
theorem d_312_21 : m_dn M_312 21 (.iload_n 2) 1 22 := by decide +kernel
theorem d_312_22 : m_dn M_312 22 (.iconst (-1)) 1 23 := by decide +kernel
theorem d_312_23 : m_dn M_312 23 (.iconst 0) 1 24 := by decide +kernel
theorem d_312_24 : m_dn M_312 24 (.invokevirtual 497) 3 27 := by decide +kernel
theorem d_312_27 : m_dn M_312 27 (.return_) 1 28 := by decide +kernel
theorem d_312_28 : m_dn M_312 28 (.aload_n 0) 1 29 := by decide +kernel
theorem d_312_29 : m_dn M_312 29 (.iconst 1) 1 30 := by decide +kernel
theorem d_312_30 : m_dn M_312 30 (.aload_n 0) 1 31 := by decide +kernel
theorem d_312_31 : m_dn M_312 31 (.getfield 131) 3 34 := by decide +kernel
theorem d_312_34 : m_dn M_312 34 (.iload_n 1) 1 35 := by decide +kernel
theorem d_312_35 : m_dn M_312 35 (.iaload) 1 36 := by decide +kernel
theorem d_312_36 : m_dn M_312 36 (.aload_n 0) 1 37 := by decide +kernel
theorem d_312_37 : m_dn M_312 37 (.getfield 131) 3 40 := by decide +kernel
theorem d_312_4 : m_dn M_312 4 (.iload_n 1) 1 5 := by decide +kernel
theorem d_312_40 : m_dn M_312 40 (.iload_n 1) 1 41 := by decide +kernel
theorem d_312_41 : m_dn M_312 41 (.iconst 3) 1 42 := by decide +kernel
theorem d_312_42 : m_dn M_312 42 (.iadd) 1 43 := by decide +kernel
theorem d_312_43 : m_dn M_312 43 (.iaload) 1 44 := by decide +kernel
theorem d_312_44 : m_dn M_312 44 (.aload_n 0) 1 45 := by decide +kernel
theorem d_312_45 : m_dn M_312 45 (.getfield 131) 3 48 := by decide +kernel
theorem d_312_48 : m_dn M_312 48 (.iload_n 1) 1 49 := by decide +kernel
theorem d_312_49 : m_dn M_312 49 (.iconst 4) 1 50 := by decide +kernel
theorem d_312_5 : m_dn M_312 5 (.iconst 2) 1 6 := by decide +kernel
theorem d_312_50 : m_dn M_312 50 (.iadd) 1 51 := by decide +kernel
theorem d_312_51 : m_dn M_312 51 (.iaload) 1 52 := by decide +kernel
theorem d_312_52 : m_dn M_312 52 (.aload_n 0) 1 53 := by decide +kernel
theorem d_312_53 : m_dn M_312 53 (.getfield 131) 3 56 := by decide +kernel
theorem d_312_56 : m_dn M_312 56 (.iload_n 1) 1 57 := by decide +kernel
theorem d_312_57 : m_dn M_312 57 (.iconst 1) 1 58 := by decide +kernel
theorem d_312_58 : m_dn M_312 58 (.iadd) 1 59 := by decide +kernel
theorem d_312_59 : m_dn M_312 59 (.iaload) 1 60 := by decide +kernel
theorem d_312_6 : m_dn M_312 6 (.iadd) 1 7 := by decide +kernel
theorem d_312_60 : m_dn M_312 60 (.invokevirtual 526) 3 63 := by decide +kernel
theorem d_312_63 : m_dn M_312 63 (.aload_n 0) 1 64 := by decide +kernel
theorem d_312_64 : m_dn M_312 64 (.getfield 140) 3 67 := by decide +kernel
theorem d_312_67 : m_dn M_312 67 (.bipush 6) 2 69 := by decide +kernel
theorem d_312_69 : m_dn M_312 69 (.iload_n 2) 1 70 := by decide +kernel
theorem d_312_7 : m_dn M_312 7 (.iaload) 1 8 := by decide +kernel
theorem d_312_70 : m_dn M_312 70 (.iastore) 1 71 := by decide +kernel
theorem d_312_71 : m_dn M_312 71 (.aload_n 0) 1 72 := by decide +kernel
theorem d_312_72 : m_dn M_312 72 (.invokevirtual 530) 3 75 := by decide +kernel
theorem d_312_75 : m_dn M_312 75 (.return_) 1 76 := by decide +kernel
theorem d_312_8 : m_dn M_312 8 (.iconst (-1)) 1 9 := by decide +kernel
theorem d_312_9 : m_dn M_312 9 (.if_icmp .eq 19) 3 12 := by decide +kernel
def D_m_span_5 (F : Nat) : Nat → Int32 → Int32 → Int32 → Int32 → mS → Option (Int32)
  | 0, _, _, _, _, _ => none
  | n + 1, x1, x2, x3, x4, S => cond (m_c2 .gt x4 x1) (some x3) (cond (m_c2 .ge ((16 : Int32) * x4) x2) (some x3) (D_m_span_5 F n x1 x2 (x3 ||| ((1 : Int32) <<< (x4 &&& 31))) (x4 + Int32.ofInt 1) S))
theorem T_m_span_5 {l : Launch} {w0 : List mM} {F : Nat} : ∀ (n : Nat) {x1 : Int32} {x2 : Int32} {x3 : Int32} {x4 : Int32} {S : mS} {w : List mM} {r : Int32}, m_RM S w → m_Fq w0 w → D_m_span_5 F n x1 x2 x3 x4 S = some r → m_Rs l M_286 (5, [(1, .int x1), (2, .int x2), (3, .int x3), (4, .int x4)], [], w) (fun v w' => v = some (.int r) ∧ m_RM S w' ∧ m_Fq w0 w') 0 0 0 0 := by
  intro n
  induction n with
  | zero => intro x1 x2 x3 x4 S w r h hF h0; cases h0
  | succ n ih =>
    intro x1 x2 x3 x4 S w r h hF h0
    rw [D_m_span_5] at h0
    refine m_Rs.n0 b_286 (x_iload d_286_5 rfl) ?_
    refine m_Rs.n0 b_286 (x_iload_n d_286_7 rfl) ?_
    cases hc1 : m_c2 .gt x4 x1 with
    | true =>
      have h0 := cT hc1 h0
      refine m_Rs.n0 b_286 (x_ict d_286_8 rfl hc1) ?_
      refine m_Rs.n0 b_286 (x_iload_n d_286_33 rfl) ?_
      exact m_Rs.ret b_286 (m_rt_ir d_286_34 rfl rfl) (rI h0 h hF)
    | false =>
      have h0 := cF hc1 h0
      refine m_Rs.n0 b_286 (x_icf d_286_8 rfl hc1) ?_
      refine m_Rs.n0 b_286 (x_bipush (z := 16) d_286_11 (by decide)) ?_
      refine m_Rs.n0 b_286 (x_iload d_286_13 rfl) ?_
      refine m_Rs.n0 b_286 (x_imul d_286_15 rfl) ?_
      refine m_Rs.n0 b_286 (x_iload_n d_286_16 rfl) ?_
      cases hc2 : m_c2 .ge ((16 : Int32) * x4) x2 with
      | true =>
        have h0 := cT hc2 h0
        refine m_Rs.n0 b_286 (x_ict d_286_17 rfl hc2) ?_
        refine m_Rs.n0 b_286 (x_iload_n d_286_33 rfl) ?_
        exact m_Rs.ret b_286 (m_rt_ir d_286_34 rfl rfl) (rI h0 h hF)
      | false =>
        have h0 := cF hc2 h0
        refine m_Rs.n0 b_286 (x_icf d_286_17 rfl hc2) ?_
        refine m_Rs.n0 b_286 (x_iload_n d_286_20 rfl) ?_
        refine m_Rs.n0 b_286 (x_iconst (z := 1) d_286_21 (by decide)) ?_
        refine m_Rs.n0 b_286 (x_iload d_286_22 rfl) ?_
        refine m_Rs.n0 b_286 (x_ishl d_286_24 rfl) ?_
        refine m_Rs.n0 b_286 (x_ior d_286_25 rfl) ?_
        refine m_Rs.n0 b_286 (x_istore_n d_286_26 rfl (show m_put1 _ _ _ = [(3, _), (1, _), (2, _), (4, _)] from rfl)) ?_
        refine m_Rs.n0 b_286 (x_iinc d_286_27 rfl rfl rfl (show m_put1 _ _ _ = [(4, _), (3, _), (1, _), (2, _)] from rfl)) ?_
        refine m_Rs.n0 b_286 (x_goto d_286_30 rfl) ?_
        exact m_Rs.pick [2, 3, 1, 0] rfl (ih h hF h0)
def D_m_span (F : Nat) (a0 : Int32) (a1 : Int32) (a2 : Int32) (S : mS) : Option (Int32) := D_m_span_5 F F a1 a2 (0 : Int32) a0 S
theorem T_m_span {l : Launch} {w : List mM} {F : Nat} {a0 : Int32} {a1 : Int32} {a2 : Int32} {S : mS} {r : Int32} (h : m_RM S w) (h0 : D_m_span F a0 a1 a2 S = some r) : m_Rs l M_286 (m_ent M_286 [.int a0, .int a1, .int a2] w) (fun v w' => v = some (.int r) ∧ m_RM S w' ∧ m_Fq w w') 0 0 0 0 := by
  show m_Rs l M_286 (0, [(0, .int a0), (1, .int a1), (2, .int a2)], [], w) _ 0 0 0 0
  generalize hw0 : w = w0 at h ⊢
  have hF : m_Fq w0 w0 := m_Fq.refl
  rw [D_m_span] at h0
  refine m_Rs.n0 b_286 (x_iconst (z := 0) d_286_0 (by decide)) ?_
  refine m_Rs.n0 b_286 (x_istore_n d_286_1 rfl (show m_put1 _ _ _ = [(3, _), (0, _), (1, _), (2, _)] from rfl)) ?_
  refine m_Rs.n0 b_286 (x_iload_n d_286_2 rfl) ?_
  refine m_Rs.n0 b_286 (x_istore d_286_3 rfl (show m_put1 _ _ _ = [(4, _), (3, _), (0, _), (1, _), (2, _)] from rfl)) ?_
  exact m_Rs.pick [3, 4, 1, 0] rfl (T_m_span_5 F h hF h0)
def D_m_rangeOf (F : Nat) (a0 : Int32) (a1 : Int32) (S : mS) : Option (Int32) := (D_m_asks F a0 (21 : Int32) S).bind fun v1 => (cond (m_c2 .eq v1 ((-1) : Int32)) ((D_m_asks F a0 (3 : Int32) S).bind fun v6 => some v6) ((D_m_asks F a0 (21 : Int32) S).bind fun v8 => cond (m_c2 .ne v8 a1) (some (0 : Int32)) ((D_m_asks F a0 (3 : Int32) S).bind fun v11 => some v11))).bind fun v13 => some v13
theorem T_m_rangeOf {l : Launch} {w : List mM} {F : Nat} {a0 : Int32} {a1 : Int32} {S : mS} {r : Int32} (h : m_RM S w) (h0 : D_m_rangeOf F a0 a1 S = some r) : m_Rs l M_289 (m_ent M_289 [.ref 583, .int a0, .int a1] w) (fun v w' => v = some (.int r) ∧ m_RM S w' ∧ m_Fq w w') 0 0 1 100 := by
  show m_Rs l M_289 (0, [(0, .ref 583), (1, .int a0), (2, .int a1)], [], w) _ 0 0 1 100
  generalize hw0 : w = w0 at h ⊢
  have hF : m_Fq w0 w0 := m_Fq.refl
  rw [D_m_rangeOf] at h0
  refine m_Rs.n0 b_289 (x_aload_n d_289_0 rfl) ?_
  refine m_Rs.n0 b_289 (x_iload_n d_289_1 rfl) ?_
  refine m_Rs.n0 b_289 (x_bipush (z := 21) d_289_2 (by decide)) ?_
  obtain ⟨v1, e2, h0⟩ := bS h0
  refine m_Rs.callS b_289 (y_cv d_289_4 rfl q_282 (m_isRecv_of rfl h.1) (show m_takeI _ _ = some (_, [_, _, _], []) from rfl) (by simp only [m_okf, List.all_cons, List.all_nil, Bool.and_true, Bool.and_self, m_okv_i, m_okv_l, m_okv_0, m_okv_t, m_okv_at h.1]) rfl) (T_m_asks h e2) hF rfl (fun w1 h hF => ?_) (by decide) (by decide)
  refine m_Rs.n0 b_289 (x_iconst (z := (-1)) d_289_7 (by decide)) ?_
  obtain ⟨v13, e4, h0⟩ := bS h0
  have kk3 : ∀ (xz : Int32) (w1 : List mM), xz = v13 → m_RM S w1 → m_Fq w0 w1 → m_Rs l M_289 (32, [(0, .ref 583), (1, .int a0), (2, .int a1)], [.int xz], w1) (fun v w' => v = some (.int r) ∧ m_RM S w' ∧ m_Fq w0 w') 0 0 1 100 := by
    intro xz w ez h hF
    rw [ez]
    exact m_Rs.ret b_289 (m_rt_ir d_289_32 rfl rfl) (rI h0 h hF)
  cases hc5 : m_c2 .eq v1 ((-1) : Int32) with
  | true =>
    have e4 := cT hc5 e4
    refine m_Rs.n0 b_289 (x_ict d_289_8 rfl hc5) ?_
    refine m_Rs.n0 b_289 (x_aload_n d_289_22 rfl) ?_
    refine m_Rs.n0 b_289 (x_iload_n d_289_23 rfl) ?_
    refine m_Rs.n0 b_289 (x_iconst (z := 3) d_289_24 (by decide)) ?_
    obtain ⟨v6, e7, e4⟩ := bS e4
    refine m_Rs.callS b_289 (y_cv d_289_25 rfl q_282 (m_isRecv_of rfl h.1) (show m_takeI _ _ = some (_, [_, _, _], []) from rfl) (by simp only [m_okf, List.all_cons, List.all_nil, Bool.and_true, Bool.and_self, m_okv_i, m_okv_l, m_okv_0, m_okv_t, m_okv_at h.1]) rfl) (T_m_asks h e7) hF rfl (fun w1 h hF => ?_) (by decide) (by decide)
    refine m_Rs.n0 b_289 (x_goto d_289_28 rfl) ?_
    exact kk3 _ _ (Option.some.inj e4) h hF
  | false =>
    have e4 := cF hc5 e4
    refine m_Rs.n0 b_289 (x_icf d_289_8 rfl hc5) ?_
    refine m_Rs.n0 b_289 (x_aload_n d_289_11 rfl) ?_
    refine m_Rs.n0 b_289 (x_iload_n d_289_12 rfl) ?_
    refine m_Rs.n0 b_289 (x_bipush (z := 21) d_289_13 (by decide)) ?_
    obtain ⟨v8, e9, e4⟩ := bS e4
    refine m_Rs.callS b_289 (y_cv d_289_15 rfl q_282 (m_isRecv_of rfl h.1) (show m_takeI _ _ = some (_, [_, _, _], []) from rfl) (by simp only [m_okf, List.all_cons, List.all_nil, Bool.and_true, Bool.and_self, m_okv_i, m_okv_l, m_okv_0, m_okv_t, m_okv_at h.1]) rfl) (T_m_asks h e9) hF rfl (fun w1 h hF => ?_) (by decide) (by decide)
    refine m_Rs.n0 b_289 (x_iload_n d_289_18 rfl) ?_
    cases hc10 : m_c2 .ne v8 a1 with
    | true =>
      have e4 := cT hc10 e4
      refine m_Rs.n0 b_289 (x_ict d_289_19 rfl hc10) ?_
      refine m_Rs.n0 b_289 (x_iconst (z := 0) d_289_31 (by decide)) ?_
      exact kk3 _ _ (Option.some.inj e4) h hF
    | false =>
      have e4 := cF hc10 e4
      refine m_Rs.n0 b_289 (x_icf d_289_19 rfl hc10) ?_
      refine m_Rs.n0 b_289 (x_aload_n d_289_22 rfl) ?_
      refine m_Rs.n0 b_289 (x_iload_n d_289_23 rfl) ?_
      refine m_Rs.n0 b_289 (x_iconst (z := 3) d_289_24 (by decide)) ?_
      obtain ⟨v11, e12, e4⟩ := bS e4
      refine m_Rs.callS b_289 (y_cv d_289_25 rfl q_282 (m_isRecv_of rfl h.1) (show m_takeI _ _ = some (_, [_, _, _], []) from rfl) (by simp only [m_okf, List.all_cons, List.all_nil, Bool.and_true, Bool.and_self, m_okv_i, m_okv_l, m_okv_0, m_okv_t, m_okv_at h.1]) rfl) (T_m_asks h e12) hF rfl (fun w1 h hF => ?_) (by decide) (by decide)
      refine m_Rs.n0 b_289 (x_goto d_289_28 rfl) ?_
      exact kk3 _ _ (Option.some.inj e4) h hF
def D_m_firstByte (F : Nat) (a0 : Int32) (a1 : Int32) (a2 : Int32) (S : mS) : Option (Int32) := (D_m_rangeOf F a0 a2 S).bind fun v1 => (cond (m_c1 .ne v1) (cond (m_c2 .ne v1 (3 : Int32)) ((D_m_asks F a0 (4 : Int32) S).bind fun v7 => some v7) ((D_m_asks F a0 (4 : Int32) S).bind fun v9 => cond (m_c1 .ge (a1 - v9)) ((D_m_asks F a0 (4 : Int32) S).bind fun v12 => some (a1 - v12)) (some (0 : Int32)))) (some (0 : Int32))).bind fun v14 => some v14
theorem T_m_firstByte {l : Launch} {w : List mM} {F : Nat} {a0 : Int32} {a1 : Int32} {a2 : Int32} {S : mS} {r : Int32} (h : m_RM S w) (h0 : D_m_firstByte F a0 a1 a2 S = some r) : m_Rs l M_288 (m_ent M_288 [.ref 583, .int a0, .int a1, .int a2] w) (fun v w' => v = some (.int r) ∧ m_RM S w' ∧ m_Fq w w') 0 0 2 200 := by
  show m_Rs l M_288 (0, [(0, .ref 583), (1, .int a0), (2, .int a1), (3, .int a2)], [], w) _ 0 0 2 200
  generalize hw0 : w = w0 at h ⊢
  have hF : m_Fq w0 w0 := m_Fq.refl
  rw [D_m_firstByte] at h0
  refine m_Rs.n0 b_288 (x_aload_n d_288_0 rfl) ?_
  refine m_Rs.n0 b_288 (x_iload_n d_288_1 rfl) ?_
  refine m_Rs.n0 b_288 (x_iload_n d_288_2 rfl) ?_
  obtain ⟨v1, e2, h0⟩ := bS h0
  refine m_Rs.callS b_288 (y_cv d_288_3 rfl q_289 (m_isRecv_of rfl h.1) (show m_takeI _ _ = some (_, [_, _, _], []) from rfl) (by simp only [m_okf, List.all_cons, List.all_nil, Bool.and_true, Bool.and_self, m_okv_i, m_okv_l, m_okv_0, m_okv_t, m_okv_at h.1]) rfl) (T_m_rangeOf h e2) hF rfl (fun w1 h hF => ?_) (by decide) (by decide)
  refine m_Rs.n0 b_288 (x_istore d_288_6 rfl (show m_put1 _ _ _ = [(4, _), (0, _), (1, _), (2, _), (3, _)] from rfl)) ?_
  refine m_Rs.n0 b_288 (x_iload d_288_8 rfl) ?_
  obtain ⟨v14, e4, h0⟩ := bS h0
  have kk3 : ∀ (xz : Int32) (w1 : List mM), xz = v14 → m_RM S w1 → m_Fq w0 w1 → m_Rs l M_288 (55, [(4, .int v1), (0, .ref 583), (1, .int a0), (2, .int a1), (3, .int a2)], [.int xz], w1) (fun v w' => v = some (.int r) ∧ m_RM S w' ∧ m_Fq w0 w') 0 0 2 200 := by
    intro xz w ez h hF
    rw [ez]
    exact m_Rs.ret b_288 (m_rt_ir d_288_55 rfl rfl) (rI h0 h hF)
  cases hc5 : m_c1 .ne v1 with
  | true =>
    have e4 := cT hc5 e4
    refine m_Rs.n0 b_288 (x_ift d_288_10 rfl hc5) ?_
    refine m_Rs.n0 b_288 (x_iload d_288_17 rfl) ?_
    refine m_Rs.n0 b_288 (x_iconst (z := 3) d_288_19 (by decide)) ?_
    cases hc6 : m_c2 .ne v1 (3 : Int32) with
    | true =>
      have e4 := cT hc6 e4
      refine m_Rs.n0 b_288 (x_ict d_288_20 rfl hc6) ?_
      refine m_Rs.n0 b_288 (x_aload_n d_288_49 rfl) ?_
      refine m_Rs.n0 b_288 (x_iload_n d_288_50 rfl) ?_
      refine m_Rs.n0 b_288 (x_iconst (z := 4) d_288_51 (by decide)) ?_
      obtain ⟨v7, e8, e4⟩ := bS e4
      refine m_Rs.callS b_288 (y_cv d_288_52 rfl q_282 (m_isRecv_of rfl h.1) (show m_takeI _ _ = some (_, [_, _, _], []) from rfl) (by simp only [m_okf, List.all_cons, List.all_nil, Bool.and_true, Bool.and_self, m_okv_i, m_okv_l, m_okv_0, m_okv_t, m_okv_at h.1]) rfl) (T_m_asks h e8) hF rfl (fun w1 h hF => ?_) (by decide) (by decide)
      exact kk3 _ _ (Option.some.inj e4) h hF
    | false =>
      have e4 := cF hc6 e4
      refine m_Rs.n0 b_288 (x_icf d_288_20 rfl hc6) ?_
      refine m_Rs.n0 b_288 (x_iload_n d_288_23 rfl) ?_
      refine m_Rs.n0 b_288 (x_aload_n d_288_24 rfl) ?_
      refine m_Rs.n0 b_288 (x_iload_n d_288_25 rfl) ?_
      refine m_Rs.n0 b_288 (x_iconst (z := 4) d_288_26 (by decide)) ?_
      obtain ⟨v9, e10, e4⟩ := bS e4
      refine m_Rs.callS b_288 (y_cv d_288_27 rfl q_282 (m_isRecv_of rfl h.1) (show m_takeI _ _ = some (_, [_, _, _], [_]) from rfl) (by simp only [m_okf, List.all_cons, List.all_nil, Bool.and_true, Bool.and_self, m_okv_i, m_okv_l, m_okv_0, m_okv_t, m_okv_at h.1]) rfl) (T_m_asks h e10) hF rfl (fun w1 h hF => ?_) (by decide) (by decide)
      refine m_Rs.n0 b_288 (x_isub d_288_30 rfl) ?_
      cases hc11 : m_c1 .ge (a1 - v9) with
      | true =>
        have e4 := cT hc11 e4
        refine m_Rs.n0 b_288 (x_ift d_288_31 rfl hc11) ?_
        refine m_Rs.n0 b_288 (x_iload_n d_288_38 rfl) ?_
        refine m_Rs.n0 b_288 (x_aload_n d_288_39 rfl) ?_
        refine m_Rs.n0 b_288 (x_iload_n d_288_40 rfl) ?_
        refine m_Rs.n0 b_288 (x_iconst (z := 4) d_288_41 (by decide)) ?_
        obtain ⟨v12, e13, e4⟩ := bS e4
        refine m_Rs.callS b_288 (y_cv d_288_42 rfl q_282 (m_isRecv_of rfl h.1) (show m_takeI _ _ = some (_, [_, _, _], [_]) from rfl) (by simp only [m_okf, List.all_cons, List.all_nil, Bool.and_true, Bool.and_self, m_okv_i, m_okv_l, m_okv_0, m_okv_t, m_okv_at h.1]) rfl) (T_m_asks h e13) hF rfl (fun w1 h hF => ?_) (by decide) (by decide)
        refine m_Rs.n0 b_288 (x_isub d_288_45 rfl) ?_
        refine m_Rs.n0 b_288 (x_goto d_288_46 rfl) ?_
        exact kk3 _ _ (Option.some.inj e4) h hF
      | false =>
        have e4 := cF hc11 e4
        refine m_Rs.n0 b_288 (x_iff d_288_31 rfl hc11) ?_
        refine m_Rs.n0 b_288 (x_iconst (z := 0) d_288_34 (by decide)) ?_
        refine m_Rs.n0 b_288 (x_goto d_288_35 rfl) ?_
        exact kk3 _ _ (Option.some.inj e4) h hF
  | false =>
    have e4 := cF hc5 e4
    refine m_Rs.n0 b_288 (x_iff d_288_10 rfl hc5) ?_
    refine m_Rs.n0 b_288 (x_iconst (z := 0) d_288_13 (by decide)) ?_
    refine m_Rs.n0 b_288 (x_goto d_288_14 rfl) ?_
    exact kk3 _ _ (Option.some.inj e4) h hF
def D_m_endByte (F : Nat) (a0 : Int32) (a1 : Int32) (a2 : Int32) (S : mS) : Option (Int32) := (D_m_rangeOf F a0 a2 S).bind fun v1 => (cond (m_c2 .ne v1 (1 : Int32)) (some a1) ((D_m_asks F a0 (5 : Int32) S).bind fun v6 => cond (m_c2 .ge v6 a1) (some a1) ((D_m_asks F a0 (5 : Int32) S).bind fun v9 => some (v9 + (1 : Int32))))).bind fun v11 => some v11
theorem T_m_endByte {l : Launch} {w : List mM} {F : Nat} {a0 : Int32} {a1 : Int32} {a2 : Int32} {S : mS} {r : Int32} (h : m_RM S w) (h0 : D_m_endByte F a0 a1 a2 S = some r) : m_Rs l M_290 (m_ent M_290 [.ref 583, .int a0, .int a1, .int a2] w) (fun v w' => v = some (.int r) ∧ m_RM S w' ∧ m_Fq w w') 0 0 2 200 := by
  show m_Rs l M_290 (0, [(0, .ref 583), (1, .int a0), (2, .int a1), (3, .int a2)], [], w) _ 0 0 2 200
  generalize hw0 : w = w0 at h ⊢
  have hF : m_Fq w0 w0 := m_Fq.refl
  rw [D_m_endByte] at h0
  refine m_Rs.n0 b_290 (x_aload_n d_290_0 rfl) ?_
  refine m_Rs.n0 b_290 (x_iload_n d_290_1 rfl) ?_
  refine m_Rs.n0 b_290 (x_iload_n d_290_2 rfl) ?_
  obtain ⟨v1, e2, h0⟩ := bS h0
  refine m_Rs.callS b_290 (y_cv d_290_3 rfl q_289 (m_isRecv_of rfl h.1) (show m_takeI _ _ = some (_, [_, _, _], []) from rfl) (by simp only [m_okf, List.all_cons, List.all_nil, Bool.and_true, Bool.and_self, m_okv_i, m_okv_l, m_okv_0, m_okv_t, m_okv_at h.1]) rfl) (T_m_rangeOf h e2) hF rfl (fun w1 h hF => ?_) (by decide) (by decide)
  refine m_Rs.n0 b_290 (x_iconst (z := 1) d_290_6 (by decide)) ?_
  obtain ⟨v11, e4, h0⟩ := bS h0
  have kk3 : ∀ (xz : Int32) (w1 : List mM), xz = v11 → m_RM S w1 → m_Fq w0 w1 → m_Rs l M_290 (32, [(0, .ref 583), (1, .int a0), (2, .int a1), (3, .int a2)], [.int xz], w1) (fun v w' => v = some (.int r) ∧ m_RM S w' ∧ m_Fq w0 w') 0 0 2 200 := by
    intro xz w ez h hF
    rw [ez]
    exact m_Rs.ret b_290 (m_rt_ir d_290_32 rfl rfl) (rI h0 h hF)
  cases hc5 : m_c2 .ne v1 (1 : Int32) with
  | true =>
    have e4 := cT hc5 e4
    refine m_Rs.n0 b_290 (x_ict d_290_7 rfl hc5) ?_
    refine m_Rs.n0 b_290 (x_iload_n d_290_31 rfl) ?_
    exact kk3 _ _ (Option.some.inj e4) h hF
  | false =>
    have e4 := cF hc5 e4
    refine m_Rs.n0 b_290 (x_icf d_290_7 rfl hc5) ?_
    refine m_Rs.n0 b_290 (x_aload_n d_290_10 rfl) ?_
    refine m_Rs.n0 b_290 (x_iload_n d_290_11 rfl) ?_
    refine m_Rs.n0 b_290 (x_iconst (z := 5) d_290_12 (by decide)) ?_
    obtain ⟨v6, e7, e4⟩ := bS e4
    refine m_Rs.callS b_290 (y_cv d_290_13 rfl q_282 (m_isRecv_of rfl h.1) (show m_takeI _ _ = some (_, [_, _, _], []) from rfl) (by simp only [m_okf, List.all_cons, List.all_nil, Bool.and_true, Bool.and_self, m_okv_i, m_okv_l, m_okv_0, m_okv_t, m_okv_at h.1]) rfl) (T_m_asks h e7) hF rfl (fun w1 h hF => ?_) (by decide) (by decide)
    refine m_Rs.n0 b_290 (x_iload_n d_290_16 rfl) ?_
    cases hc8 : m_c2 .ge v6 a1 with
    | true =>
      have e4 := cT hc8 e4
      refine m_Rs.n0 b_290 (x_ict d_290_17 rfl hc8) ?_
      refine m_Rs.n0 b_290 (x_iload_n d_290_31 rfl) ?_
      exact kk3 _ _ (Option.some.inj e4) h hF
    | false =>
      have e4 := cF hc8 e4
      refine m_Rs.n0 b_290 (x_icf d_290_17 rfl hc8) ?_
      refine m_Rs.n0 b_290 (x_aload_n d_290_20 rfl) ?_
      refine m_Rs.n0 b_290 (x_iload_n d_290_21 rfl) ?_
      refine m_Rs.n0 b_290 (x_iconst (z := 5) d_290_22 (by decide)) ?_
      obtain ⟨v9, e10, e4⟩ := bS e4
      refine m_Rs.callS b_290 (y_cv d_290_23 rfl q_282 (m_isRecv_of rfl h.1) (show m_takeI _ _ = some (_, [_, _, _], []) from rfl) (by simp only [m_okf, List.all_cons, List.all_nil, Bool.and_true, Bool.and_self, m_okv_i, m_okv_l, m_okv_0, m_okv_t, m_okv_at h.1]) rfl) (T_m_asks h e10) hF rfl (fun w1 h hF => ?_) (by decide) (by decide)
      refine m_Rs.n0 b_290 (x_iconst (z := 1) d_290_26 (by decide)) ?_
      refine m_Rs.n0 b_290 (x_iadd d_290_27 rfl) ?_
      refine m_Rs.n0 b_290 (x_goto d_290_28 rfl) ?_
      exact kk3 _ _ (Option.some.inj e4) h hF
def D_m_hasBytes (F : Nat) (a0 : Int32) (a1 : Int32) (a2 : Int32) (S : mS) : Option (Int32) := (D_m_firstByte F a0 a1 a2 S).bind fun v1 => (D_m_endByte F a0 a1 a2 S).bind fun v3 => (cond (m_c2 .ge v1 v3) (some (0 : Int32)) (some (1 : Int32))).bind fun v8 => (bret v8).bind fun v9 => some v9
theorem T_m_hasBytes {l : Launch} {w : List mM} {F : Nat} {a0 : Int32} {a1 : Int32} {a2 : Int32} {S : mS} {r : Int32} (h : m_RM S w) (h0 : D_m_hasBytes F a0 a1 a2 S = some r) : m_Rs l M_287 (m_ent M_287 [.ref 583, .int a0, .int a1, .int a2] w) (fun v w' => v = some (.int r) ∧ m_RM S w' ∧ m_Fq w w') 0 0 3 300 := by
  show m_Rs l M_287 (0, [(0, .ref 583), (1, .int a0), (2, .int a1), (3, .int a2)], [], w) _ 0 0 3 300
  generalize hw0 : w = w0 at h ⊢
  have hF : m_Fq w0 w0 := m_Fq.refl
  rw [D_m_hasBytes] at h0
  refine m_Rs.n0 b_287 (x_aload_n d_287_0 rfl) ?_
  refine m_Rs.n0 b_287 (x_iload_n d_287_1 rfl) ?_
  refine m_Rs.n0 b_287 (x_iload_n d_287_2 rfl) ?_
  refine m_Rs.n0 b_287 (x_iload_n d_287_3 rfl) ?_
  obtain ⟨v1, e2, h0⟩ := bS h0
  refine m_Rs.callS b_287 (y_cv d_287_4 rfl q_288 (m_isRecv_of rfl h.1) (show m_takeI _ _ = some (_, [_, _, _, _], []) from rfl) (by simp only [m_okf, List.all_cons, List.all_nil, Bool.and_true, Bool.and_self, m_okv_i, m_okv_l, m_okv_0, m_okv_t, m_okv_at h.1]) rfl) (T_m_firstByte h e2) hF rfl (fun w1 h hF => ?_) (by decide) (by decide)
  refine m_Rs.n0 b_287 (x_aload_n d_287_7 rfl) ?_
  refine m_Rs.n0 b_287 (x_iload_n d_287_8 rfl) ?_
  refine m_Rs.n0 b_287 (x_iload_n d_287_9 rfl) ?_
  refine m_Rs.n0 b_287 (x_iload_n d_287_10 rfl) ?_
  obtain ⟨v3, e4, h0⟩ := bS h0
  refine m_Rs.callS b_287 (y_cv d_287_11 rfl q_290 (m_isRecv_of rfl h.1) (show m_takeI _ _ = some (_, [_, _, _, _], [_]) from rfl) (by simp only [m_okf, List.all_cons, List.all_nil, Bool.and_true, Bool.and_self, m_okv_i, m_okv_l, m_okv_0, m_okv_t, m_okv_at h.1]) rfl) (T_m_endByte h e4) hF rfl (fun w1 h hF => ?_) (by decide) (by decide)
  obtain ⟨v8, e6, h0⟩ := bS h0
  have kk5 : ∀ (xz : Int32) (w1 : List mM), xz = v8 → m_RM S w1 → m_Fq w0 w1 → m_Rs l M_287 (22, [(0, .ref 583), (1, .int a0), (2, .int a1), (3, .int a2)], [.int xz], w1) (fun v w' => v = some (.int r) ∧ m_RM S w' ∧ m_Fq w0 w') 0 0 3 300 := by
    intro xz w ez h hF
    rw [ez]
    obtain ⟨v9, e10, h0⟩ := bS h0
    exact m_Rs.retb b_287 d_287_22 rfl e10 (rI h0 h hF)
  cases hc7 : m_c2 .ge v1 v3 with
  | true =>
    have e6 := cT hc7 e6
    refine m_Rs.n0 b_287 (x_ict d_287_14 rfl hc7) ?_
    refine m_Rs.n0 b_287 (x_iconst (z := 0) d_287_21 (by decide)) ?_
    exact kk5 _ _ (Option.some.inj e6) h hF
  | false =>
    have e6 := cF hc7 e6
    refine m_Rs.n0 b_287 (x_icf d_287_14 rfl hc7) ?_
    refine m_Rs.n0 b_287 (x_iconst (z := 1) d_287_17 (by decide)) ?_
    refine m_Rs.n0 b_287 (x_goto d_287_18 rfl) ?_
    exact kk5 _ _ (Option.some.inj e6) h hF
def D_m_needs (F : Nat) (a0 : Int32) (a1 : Int32) (a2 : Int32) (S : mS) : Option (Int32) := (aget 0 48000 S 622 (a0 + (2 : Int32))).bind fun v1 => cond (m_c2 .ne v1 ((-1) : Int32)) ((D_m_hasBytes F v1 a1 a2 S).bind fun v4 => (cond (m_c1 .eq v4) (some (0 : Int32)) ((D_m_firstByte F v1 a1 a2 S).bind fun v9 => (D_m_endByte F v1 a1 a2 S).bind fun v11 => (D_m_span F (v9 / (16 : Int32)) ((v11 - (1 : Int32)) / (16 : Int32)) a1 S).bind fun v13 => some v13)).bind fun v15 => some v15) ((aget 0 48000 S 622 (a0 + (5 : Int32))).bind fun v16 => (aget 0 48000 S 622 (a0 + (6 : Int32))).bind fun v18 => (D_m_span F v16 v18 a1 S).bind fun v20 => some v20)
theorem T_m_needs {l : Launch} {w : List mM} {F : Nat} {a0 : Int32} {a1 : Int32} {a2 : Int32} {S : mS} {r : Int32} (h : m_RM S w) (h0 : D_m_needs F a0 a1 a2 S = some r) : m_Rs l M_285 (m_ent M_285 [.ref 583, .int a0, .int a1, .int a2] w) (fun v w' => v = some (.int r) ∧ m_RM S w' ∧ m_Fq w w') 0 0 4 400 := by
  show m_Rs l M_285 (0, [(0, .ref 583), (1, .int a0), (2, .int a1), (3, .int a2)], [], w) _ 0 0 4 400
  generalize hw0 : w = w0 at h ⊢
  have hF : m_Fq w0 w0 := m_Fq.refl
  rw [D_m_needs] at h0
  refine m_Rs.n0 b_285 (x_aload_n d_285_0 rfl) ?_
  refine m_Rs.n0 b_285 (x_getf d_285_1 rfl h.1 rfl) ?_
  refine m_Rs.n0 b_285 (x_iload_n d_285_4 rfl) ?_
  refine m_Rs.n0 b_285 (x_iconst (z := 2) d_285_5 (by decide)) ?_
  refine m_Rs.n0 b_285 (x_iadd d_285_6 rfl) ?_
  obtain ⟨v1, e2, h0⟩ := bS h0
  refine m_Rs.dget b_285 d_285_7 h 38 rfl e2 ?_
  refine m_Rs.n0 b_285 (x_istore d_285_8 rfl (show m_put1 _ _ _ = [(4, _), (0, _), (1, _), (2, _), (3, _)] from rfl)) ?_
  refine m_Rs.n0 b_285 (x_iload d_285_10 rfl) ?_
  refine m_Rs.n0 b_285 (x_iconst (z := (-1)) d_285_12 (by decide)) ?_
  cases hc3 : m_c2 .ne v1 ((-1) : Int32) with
  | true =>
    have h0 := cT hc3 h0
    refine m_Rs.n0 b_285 (x_ict d_285_13 rfl hc3) ?_
    refine m_Rs.n0 b_285 (x_aload_n d_285_38 rfl) ?_
    refine m_Rs.n0 b_285 (x_iload d_285_39 rfl) ?_
    refine m_Rs.n0 b_285 (x_iload_n d_285_41 rfl) ?_
    refine m_Rs.n0 b_285 (x_iload_n d_285_42 rfl) ?_
    obtain ⟨v4, e5, h0⟩ := bS h0
    refine m_Rs.callS b_285 (y_cv d_285_43 rfl q_287 (m_isRecv_of rfl h.1) (show m_takeI _ _ = some (_, [_, _, _, _], []) from rfl) (by simp only [m_okf, List.all_cons, List.all_nil, Bool.and_true, Bool.and_self, m_okv_i, m_okv_l, m_okv_0, m_okv_t, m_okv_at h.1]) rfl) (T_m_hasBytes h e5) hF rfl (fun w1 h hF => ?_) (by decide) (by decide)
    obtain ⟨v15, e7, h0⟩ := bS h0
    have kk6 : ∀ (xz : Int32) (w1 : List mM), xz = v15 → m_RM S w1 → m_Fq w0 w1 → m_Rs l M_285 (81, [(4, .int v1), (0, .ref 583), (1, .int a0), (2, .int a1), (3, .int a2)], [.int xz], w1) (fun v w' => v = some (.int r) ∧ m_RM S w' ∧ m_Fq w0 w') 0 0 4 400 := by
      intro xz w ez h hF
      rw [ez]
      exact m_Rs.ret b_285 (m_rt_ir d_285_81 rfl rfl) (rI h0 h hF)
    cases hc8 : m_c1 .eq v4 with
    | true =>
      have e7 := cT hc8 e7
      refine m_Rs.n0 b_285 (x_ift d_285_46 rfl hc8) ?_
      refine m_Rs.n0 b_285 (x_iconst (z := 0) d_285_80 (by decide)) ?_
      exact kk6 _ _ (Option.some.inj e7) h hF
    | false =>
      have e7 := cF hc8 e7
      refine m_Rs.n0 b_285 (x_iff d_285_46 rfl hc8) ?_
      refine m_Rs.n0 b_285 (x_aload_n d_285_49 rfl) ?_
      refine m_Rs.n0 b_285 (x_iload d_285_50 rfl) ?_
      refine m_Rs.n0 b_285 (x_iload_n d_285_52 rfl) ?_
      refine m_Rs.n0 b_285 (x_iload_n d_285_53 rfl) ?_
      obtain ⟨v9, e10, e7⟩ := bS e7
      refine m_Rs.callS b_285 (y_cv d_285_54 rfl q_288 (m_isRecv_of rfl h.1) (show m_takeI _ _ = some (_, [_, _, _, _], []) from rfl) (by simp only [m_okf, List.all_cons, List.all_nil, Bool.and_true, Bool.and_self, m_okv_i, m_okv_l, m_okv_0, m_okv_t, m_okv_at h.1]) rfl) (T_m_firstByte h e10) hF rfl (fun w1 h hF => ?_) (by decide) (by decide)
      refine m_Rs.n0 b_285 (x_bipush (z := 16) d_285_57 (by decide)) ?_
      refine m_Rs.n0 b_285 (x_idiv d_285_59 (by decide) rfl) ?_
      refine m_Rs.n0 b_285 (x_aload_n d_285_60 rfl) ?_
      refine m_Rs.n0 b_285 (x_iload d_285_61 rfl) ?_
      refine m_Rs.n0 b_285 (x_iload_n d_285_63 rfl) ?_
      refine m_Rs.n0 b_285 (x_iload_n d_285_64 rfl) ?_
      obtain ⟨v11, e12, e7⟩ := bS e7
      refine m_Rs.callS b_285 (y_cv d_285_65 rfl q_290 (m_isRecv_of rfl h.1) (show m_takeI _ _ = some (_, [_, _, _, _], [_]) from rfl) (by simp only [m_okf, List.all_cons, List.all_nil, Bool.and_true, Bool.and_self, m_okv_i, m_okv_l, m_okv_0, m_okv_t, m_okv_at h.1]) rfl) (T_m_endByte h e12) hF rfl (fun w1 h hF => ?_) (by decide) (by decide)
      refine m_Rs.n0 b_285 (x_iconst (z := 1) d_285_68 (by decide)) ?_
      refine m_Rs.n0 b_285 (x_isub d_285_69 rfl) ?_
      refine m_Rs.n0 b_285 (x_bipush (z := 16) d_285_70 (by decide)) ?_
      refine m_Rs.n0 b_285 (x_idiv d_285_72 (by decide) rfl) ?_
      refine m_Rs.n0 b_285 (x_iload_n d_285_73 rfl) ?_
      obtain ⟨v13, e14, e7⟩ := bS e7
      refine m_Rs.callS b_285 (y_cs d_285_74 rfl q_286 (show m_takeS _ _ = some (_, [_, _, _], []) from rfl) (by simp only [m_okf, List.all_cons, List.all_nil, Bool.and_true, Bool.and_self, m_okv_i, m_okv_l, m_okv_0, m_okv_t, m_okv_at h.1]) rfl) (T_m_span h e14) hF rfl (fun w1 h hF => ?_) (by decide) (by decide)
      refine m_Rs.n0 b_285 (x_goto d_285_77 rfl) ?_
      exact kk6 _ _ (Option.some.inj e7) h hF
  | false =>
    have h0 := cF hc3 h0
    refine m_Rs.n0 b_285 (x_icf d_285_13 rfl hc3) ?_
    refine m_Rs.n0 b_285 (x_aload_n d_285_16 rfl) ?_
    refine m_Rs.n0 b_285 (x_getf d_285_17 rfl h.1 rfl) ?_
    refine m_Rs.n0 b_285 (x_iload_n d_285_20 rfl) ?_
    refine m_Rs.n0 b_285 (x_iconst (z := 5) d_285_21 (by decide)) ?_
    refine m_Rs.n0 b_285 (x_iadd d_285_22 rfl) ?_
    obtain ⟨v16, e17, h0⟩ := bS h0
    refine m_Rs.dget b_285 d_285_23 h 38 rfl e17 ?_
    refine m_Rs.n0 b_285 (x_aload_n d_285_24 rfl) ?_
    refine m_Rs.n0 b_285 (x_getf d_285_25 rfl h.1 rfl) ?_
    refine m_Rs.n0 b_285 (x_iload_n d_285_28 rfl) ?_
    refine m_Rs.n0 b_285 (x_bipush (z := 6) d_285_29 (by decide)) ?_
    refine m_Rs.n0 b_285 (x_iadd d_285_31 rfl) ?_
    obtain ⟨v18, e19, h0⟩ := bS h0
    refine m_Rs.dget b_285 d_285_32 h 38 rfl e19 ?_
    refine m_Rs.n0 b_285 (x_iload_n d_285_33 rfl) ?_
    obtain ⟨v20, e21, h0⟩ := bS h0
    refine m_Rs.callS b_285 (y_cs d_285_34 rfl q_286 (show m_takeS _ _ = some (_, [_, _, _], []) from rfl) (by simp only [m_okf, List.all_cons, List.all_nil, Bool.and_true, Bool.and_self, m_okv_i, m_okv_l, m_okv_0, m_okv_t, m_okv_at h.1]) rfl) (T_m_span h e21) hF rfl (fun w1 h hF => ?_) (by decide) (by decide)
    exact m_Rs.ret b_285 (m_rt_ir d_285_37 rfl rfl) (rI h0 h hF)
def D_m_isWhole (F : Nat) (a0 : Int32) (a1 : Int32) (S : mS) : Option (Int32) := (D_m_told F a1 (1 : Int32) S).bind fun v1 => (D_m_tagOf F a1 S).bind fun v3 => (D_m_needs F a0 v1 v3 S).bind fun v5 => (aget 0 7168 S 607 a1).bind fun v7 => (cond (m_c2 .ne (v7 &&& v5) v5) (some (0 : Int32)) (some (1 : Int32))).bind fun v12 => (bret v12).bind fun v13 => some v13
theorem T_m_isWhole {l : Launch} {w : List mM} {F : Nat} {a0 : Int32} {a1 : Int32} {S : mS} {r : Int32} (h : m_RM S w) (h0 : D_m_isWhole F a0 a1 S = some r) : m_Rs l M_283 (m_ent M_283 [.ref 583, .int a0, .int a1] w) (fun v w' => v = some (.int r) ∧ m_RM S w' ∧ m_Fq w w') 0 0 5 500 := by
  show m_Rs l M_283 (0, [(0, .ref 583), (1, .int a0), (2, .int a1)], [], w) _ 0 0 5 500
  generalize hw0 : w = w0 at h ⊢
  have hF : m_Fq w0 w0 := m_Fq.refl
  rw [D_m_isWhole] at h0
  refine m_Rs.n0 b_283 (x_aload_n d_283_0 rfl) ?_
  refine m_Rs.n0 b_283 (x_iload_n d_283_1 rfl) ?_
  refine m_Rs.n0 b_283 (x_aload_n d_283_2 rfl) ?_
  refine m_Rs.n0 b_283 (x_iload_n d_283_3 rfl) ?_
  refine m_Rs.n0 b_283 (x_iconst (z := 1) d_283_4 (by decide)) ?_
  obtain ⟨v1, e2, h0⟩ := bS h0
  refine m_Rs.callS b_283 (y_cv d_283_5 rfl q_278 (m_isRecv_of rfl h.1) (show m_takeI _ _ = some (_, [_, _, _], [_, _]) from rfl) (by simp only [m_okf, List.all_cons, List.all_nil, Bool.and_true, Bool.and_self, m_okv_i, m_okv_l, m_okv_0, m_okv_t, m_okv_at h.1]) rfl) (T_m_told h e2) hF rfl (fun w1 h hF => ?_) (by decide) (by decide)
  refine m_Rs.n0 b_283 (x_aload_n d_283_8 rfl) ?_
  refine m_Rs.n0 b_283 (x_iload_n d_283_9 rfl) ?_
  obtain ⟨v3, e4, h0⟩ := bS h0
  refine m_Rs.callS b_283 (y_cv d_283_10 rfl q_284 (m_isRecv_of rfl h.1) (show m_takeI _ _ = some (_, [_, _], [_, _, _]) from rfl) (by simp only [m_okf, List.all_cons, List.all_nil, Bool.and_true, Bool.and_self, m_okv_i, m_okv_l, m_okv_0, m_okv_t, m_okv_at h.1]) rfl) (T_m_tagOf h e4) hF rfl (fun w1 h hF => ?_) (by decide) (by decide)
  obtain ⟨v5, e6, h0⟩ := bS h0
  refine m_Rs.callS b_283 (y_cv d_283_13 rfl q_285 (m_isRecv_of rfl h.1) (show m_takeI _ _ = some (_, [_, _, _, _], []) from rfl) (by simp only [m_okf, List.all_cons, List.all_nil, Bool.and_true, Bool.and_self, m_okv_i, m_okv_l, m_okv_0, m_okv_t, m_okv_at h.1]) rfl) (T_m_needs h e6) hF rfl (fun w1 h hF => ?_) (by decide) (by decide)
  refine m_Rs.n0 b_283 (x_istore_n d_283_16 rfl (show m_put1 _ _ _ = [(3, _), (0, _), (1, _), (2, _)] from rfl)) ?_
  refine m_Rs.n0 b_283 (x_aload_n d_283_17 rfl) ?_
  refine m_Rs.n0 b_283 (x_getf d_283_18 rfl h.1 rfl) ?_
  refine m_Rs.n0 b_283 (x_iload_n d_283_21 rfl) ?_
  obtain ⟨v7, e8, h0⟩ := bS h0
  refine m_Rs.dget b_283 d_283_22 h 23 rfl e8 ?_
  refine m_Rs.n0 b_283 (x_iload_n d_283_23 rfl) ?_
  refine m_Rs.n0 b_283 (x_iand d_283_24 rfl) ?_
  refine m_Rs.n0 b_283 (x_iload_n d_283_25 rfl) ?_
  obtain ⟨v12, e10, h0⟩ := bS h0
  have kk9 : ∀ (xz : Int32) (w1 : List mM), xz = v12 → m_RM S w1 → m_Fq w0 w1 → m_Rs l M_283 (34, [(3, .int v5), (0, .ref 583), (1, .int a0), (2, .int a1)], [.int xz], w1) (fun v w' => v = some (.int r) ∧ m_RM S w' ∧ m_Fq w0 w') 0 0 5 500 := by
    intro xz w ez h hF
    rw [ez]
    obtain ⟨v13, e14, h0⟩ := bS h0
    exact m_Rs.retb b_283 d_283_34 rfl e14 (rI h0 h hF)
  cases hc11 : m_c2 .ne (v7 &&& v5) v5 with
  | true =>
    have e10 := cT hc11 e10
    refine m_Rs.n0 b_283 (x_ict d_283_26 rfl hc11) ?_
    refine m_Rs.n0 b_283 (x_iconst (z := 0) d_283_33 (by decide)) ?_
    exact kk9 _ _ (Option.some.inj e10) h hF
  | false =>
    have e10 := cF hc11 e10
    refine m_Rs.n0 b_283 (x_icf d_283_26 rfl hc11) ?_
    refine m_Rs.n0 b_283 (x_iconst (z := 1) d_283_29 (by decide)) ?_
    refine m_Rs.n0 b_283 (x_goto d_283_30 rfl) ?_
    exact kk9 _ _ (Option.some.inj e10) h hF
def D_m_ageOf (F : Nat) (a0 : Int32) (S : mS) : Option (Int32) := (aget 0 7168 S 605 a0).bind fun v1 => (aget 0 7168 S 606 a0).bind fun v3 => some ((v1 + (S.1 36)) - v3)
theorem T_m_ageOf {l : Launch} {w : List mM} {F : Nat} {a0 : Int32} {S : mS} {r : Int32} (h : m_RM S w) (h0 : D_m_ageOf F a0 S = some r) : m_Rs l M_292 (m_ent M_292 [.ref 583, .int a0] w) (fun v w' => v = some (.int r) ∧ m_RM S w' ∧ m_Fq w w') 0 0 0 0 := by
  show m_Rs l M_292 (0, [(0, .ref 583), (1, .int a0)], [], w) _ 0 0 0 0
  generalize hw0 : w = w0 at h ⊢
  have hF : m_Fq w0 w0 := m_Fq.refl
  rw [D_m_ageOf] at h0
  refine m_Rs.n0 b_292 (x_aload_n d_292_0 rfl) ?_
  refine m_Rs.n0 b_292 (x_getf d_292_1 rfl h.1 rfl) ?_
  refine m_Rs.n0 b_292 (x_iload_n d_292_4 rfl) ?_
  obtain ⟨v1, e2, h0⟩ := bS h0
  refine m_Rs.dget b_292 d_292_5 h 21 rfl e2 ?_
  refine m_Rs.n0 b_292 (x_aload_n d_292_6 rfl) ?_
  refine m_Rs.n0 b_292 (x_getf d_292_7 rfl h.1 rfl) ?_
  refine m_Rs.n0 b_292 (x_iadd d_292_10 rfl) ?_
  refine m_Rs.n0 b_292 (x_aload_n d_292_11 rfl) ?_
  refine m_Rs.n0 b_292 (x_getf d_292_12 rfl h.1 rfl) ?_
  refine m_Rs.n0 b_292 (x_iload_n d_292_15 rfl) ?_
  obtain ⟨v3, e4, h0⟩ := bS h0
  refine m_Rs.dget b_292 d_292_16 h 22 rfl e4 ?_
  refine m_Rs.n0 b_292 (x_isub d_292_17 rfl) ?_
  exact m_Rs.ret b_292 (m_rt_ir d_292_18 rfl rfl) (rI h0 h hF)
def D_m_lifeOf (F : Nat) (a0 : Int32) (S : mS) : Option (Int32) := (D_m_told F a0 (6 : Int32) S).bind fun v1 => (cond (m_c2 .ne v1 (1 : Int32)) ((D_m_told F a0 (2 : Int32) S).bind fun v6 => some v6) (some (0 : Int32))).bind fun v8 => some v8
theorem T_m_lifeOf {l : Launch} {w : List mM} {F : Nat} {a0 : Int32} {S : mS} {r : Int32} (h : m_RM S w) (h0 : D_m_lifeOf F a0 S = some r) : m_Rs l M_293 (m_ent M_293 [.ref 583, .int a0] w) (fun v w' => v = some (.int r) ∧ m_RM S w' ∧ m_Fq w w') 0 0 1 100 := by
  show m_Rs l M_293 (0, [(0, .ref 583), (1, .int a0)], [], w) _ 0 0 1 100
  generalize hw0 : w = w0 at h ⊢
  have hF : m_Fq w0 w0 := m_Fq.refl
  rw [D_m_lifeOf] at h0
  refine m_Rs.n0 b_293 (x_aload_n d_293_0 rfl) ?_
  refine m_Rs.n0 b_293 (x_iload_n d_293_1 rfl) ?_
  refine m_Rs.n0 b_293 (x_bipush (z := 6) d_293_2 (by decide)) ?_
  obtain ⟨v1, e2, h0⟩ := bS h0
  refine m_Rs.callS b_293 (y_cv d_293_4 rfl q_278 (m_isRecv_of rfl h.1) (show m_takeI _ _ = some (_, [_, _, _], []) from rfl) (by simp only [m_okf, List.all_cons, List.all_nil, Bool.and_true, Bool.and_self, m_okv_i, m_okv_l, m_okv_0, m_okv_t, m_okv_at h.1]) rfl) (T_m_told h e2) hF rfl (fun w1 h hF => ?_) (by decide) (by decide)
  refine m_Rs.n0 b_293 (x_iconst (z := 1) d_293_7 (by decide)) ?_
  obtain ⟨v8, e4, h0⟩ := bS h0
  have kk3 : ∀ (xz : Int32) (w1 : List mM), xz = v8 → m_RM S w1 → m_Fq w0 w1 → m_Rs l M_293 (21, [(0, .ref 583), (1, .int a0)], [.int xz], w1) (fun v w' => v = some (.int r) ∧ m_RM S w' ∧ m_Fq w0 w') 0 0 1 100 := by
    intro xz w ez h hF
    rw [ez]
    exact m_Rs.ret b_293 (m_rt_ir d_293_21 rfl rfl) (rI h0 h hF)
  cases hc5 : m_c2 .ne v1 (1 : Int32) with
  | true =>
    have e4 := cT hc5 e4
    refine m_Rs.n0 b_293 (x_ict d_293_8 rfl hc5) ?_
    refine m_Rs.n0 b_293 (x_aload_n d_293_15 rfl) ?_
    refine m_Rs.n0 b_293 (x_iload_n d_293_16 rfl) ?_
    refine m_Rs.n0 b_293 (x_iconst (z := 2) d_293_17 (by decide)) ?_
    obtain ⟨v6, e7, e4⟩ := bS e4
    refine m_Rs.callS b_293 (y_cv d_293_18 rfl q_278 (m_isRecv_of rfl h.1) (show m_takeI _ _ = some (_, [_, _, _], []) from rfl) (by simp only [m_okf, List.all_cons, List.all_nil, Bool.and_true, Bool.and_self, m_okv_i, m_okv_l, m_okv_0, m_okv_t, m_okv_at h.1]) rfl) (T_m_told h e7) hF rfl (fun w1 h hF => ?_) (by decide) (by decide)
    exact kk3 _ _ (Option.some.inj e4) h hF
  | false =>
    have e4 := cF hc5 e4
    refine m_Rs.n0 b_293 (x_icf d_293_8 rfl hc5) ?_
    refine m_Rs.n0 b_293 (x_iconst (z := 0) d_293_11 (by decide)) ?_
    refine m_Rs.n0 b_293 (x_goto d_293_12 rfl) ?_
    exact kk3 _ _ (Option.some.inj e4) h hF
def D_m_isFresh_73 (F : Nat) (x2 : Int32) (x3 : Int32) (x4 : Int32) (x5 : Int32) (S : mS) : Option (Int32) := cond (m_c2 .eq x3 ((-1) : Int32)) ((bret x5).bind fun v32 => some v32) ((D_m_asks F x3 (20 : Int32) S).bind fun v34 => cond (m_c2 .eq v34 ((-1) : Int32)) ((bret x5).bind fun v40 => some v40) ((cond (m_c1 .eq x5) (some (0 : Int32)) ((D_m_asks F x3 (20 : Int32) S).bind fun v45 => (D_m_lifeOf F x2 S).bind fun v47 => cond (m_c2 .ge (x4 + v45) v47) (some (0 : Int32)) (some (1 : Int32)))).bind fun v50 => (bret v50).bind fun v51 => some v51))
theorem T_m_isFresh_73 {l : Launch} {w0 : List mM} {F : Nat} {x2 : Int32} {x3 : Int32} {x4 : Int32} {x5 : Int32} {S : mS} {w : List mM} {r : Int32} (h : m_RM S w) (hF : m_Fq w0 w) (h0 : D_m_isFresh_73 F x2 x3 x4 x5 S = some r) : m_Rs l M_291 (73, [(0, .ref 583), (2, .int x2), (3, .int x3), (4, .int x4), (5, .int x5)], [], w) (fun v w' => v = some (.int r) ∧ m_RM S w' ∧ m_Fq w0 w') 0 0 2 200 := by
  rw [D_m_isFresh_73] at h0
  refine m_Rs.n0 b_291 (x_iload_n d_291_73 rfl) ?_
  refine m_Rs.n0 b_291 (x_iconst (z := (-1)) d_291_74 (by decide)) ?_
  cases hc31 : m_c2 .eq x3 ((-1) : Int32) with
  | true =>
    have h0 := cT hc31 h0
    refine m_Rs.n0 b_291 (x_ict d_291_75 rfl hc31) ?_
    refine m_Rs.n0 b_291 (x_iload d_291_119 rfl) ?_
    obtain ⟨v32, e33, h0⟩ := bS h0
    exact m_Rs.retb b_291 d_291_121 rfl e33 (rI h0 h hF)
  | false =>
    have h0 := cF hc31 h0
    refine m_Rs.n0 b_291 (x_icf d_291_75 rfl hc31) ?_
    refine m_Rs.n0 b_291 (x_aload_n d_291_78 rfl) ?_
    refine m_Rs.n0 b_291 (x_iload_n d_291_79 rfl) ?_
    refine m_Rs.n0 b_291 (x_bipush (z := 20) d_291_80 (by decide)) ?_
    obtain ⟨v34, e35, h0⟩ := bS h0
    refine m_Rs.callS b_291 (y_cv d_291_82 rfl q_282 (m_isRecv_of rfl h.1) (show m_takeI _ _ = some (_, [_, _, _], []) from rfl) (by simp only [m_okf, List.all_cons, List.all_nil, Bool.and_true, Bool.and_self, m_okv_i, m_okv_l, m_okv_0, m_okv_t, m_okv_at h.1]) rfl) (T_m_asks h e35) hF rfl (fun w1 h hF => ?_) (by decide) (by decide)
    refine m_Rs.n0 b_291 (x_iconst (z := (-1)) d_291_85 (by decide)) ?_
    cases hc39 : m_c2 .eq v34 ((-1) : Int32) with
    | true =>
      have h0 := cT hc39 h0
      refine m_Rs.n0 b_291 (x_ict d_291_86 rfl hc39) ?_
      refine m_Rs.n0 b_291 (x_iload d_291_119 rfl) ?_
      obtain ⟨v40, e41, h0⟩ := bS h0
      exact m_Rs.retb b_291 d_291_121 rfl e41 (rI h0 h hF)
    | false =>
      have h0 := cF hc39 h0
      refine m_Rs.n0 b_291 (x_icf d_291_86 rfl hc39) ?_
      refine m_Rs.n0 b_291 (x_iload d_291_89 rfl) ?_
      obtain ⟨v50, e43, h0⟩ := bS h0
      have kk42 : ∀ (xz : Int32) (w1 : List mM), xz = v50 → m_RM S w1 → m_Fq w0 w1 → m_Rs l M_291 (117, [(0, .ref 583), (2, .int x2), (3, .int x3), (4, .int x4), (5, .int x5)], [.int xz], w1) (fun v w' => v = some (.int r) ∧ m_RM S w' ∧ m_Fq w0 w') 0 0 2 200 := by
        intro xz w ez h hF
        rw [ez]
        refine m_Rs.n0 b_291 (x_istore d_291_117 rfl (show m_put1 _ _ _ = [(5, _), (0, _), (2, _), (3, _), (4, _)] from rfl)) ?_
        refine m_Rs.n0 b_291 (x_iload d_291_119 rfl) ?_
        obtain ⟨v51, e52, h0⟩ := bS h0
        exact m_Rs.retb b_291 d_291_121 rfl e52 (rI h0 h hF)
      cases hc44 : m_c1 .eq x5 with
      | true =>
        have e43 := cT hc44 e43
        refine m_Rs.n0 b_291 (x_ift d_291_91 rfl hc44) ?_
        refine m_Rs.n0 b_291 (x_iconst (z := 0) d_291_116 (by decide)) ?_
        exact kk42 _ _ (Option.some.inj e43) h hF
      | false =>
        have e43 := cF hc44 e43
        refine m_Rs.n0 b_291 (x_iff d_291_91 rfl hc44) ?_
        refine m_Rs.n0 b_291 (x_iload d_291_94 rfl) ?_
        refine m_Rs.n0 b_291 (x_aload_n d_291_96 rfl) ?_
        refine m_Rs.n0 b_291 (x_iload_n d_291_97 rfl) ?_
        refine m_Rs.n0 b_291 (x_bipush (z := 20) d_291_98 (by decide)) ?_
        obtain ⟨v45, e46, e43⟩ := bS e43
        refine m_Rs.callS b_291 (y_cv d_291_100 rfl q_282 (m_isRecv_of rfl h.1) (show m_takeI _ _ = some (_, [_, _, _], [_]) from rfl) (by simp only [m_okf, List.all_cons, List.all_nil, Bool.and_true, Bool.and_self, m_okv_i, m_okv_l, m_okv_0, m_okv_t, m_okv_at h.1]) rfl) (T_m_asks h e46) hF rfl (fun w1 h hF => ?_) (by decide) (by decide)
        refine m_Rs.n0 b_291 (x_iadd d_291_103 rfl) ?_
        refine m_Rs.n0 b_291 (x_aload_n d_291_104 rfl) ?_
        refine m_Rs.n0 b_291 (x_iload_n d_291_105 rfl) ?_
        obtain ⟨v47, e48, e43⟩ := bS e43
        refine m_Rs.callS b_291 (y_cv d_291_106 rfl q_293 (m_isRecv_of rfl h.1) (show m_takeI _ _ = some (_, [_, _], [_]) from rfl) (by simp only [m_okf, List.all_cons, List.all_nil, Bool.and_true, Bool.and_self, m_okv_i, m_okv_l, m_okv_0, m_okv_t, m_okv_at h.1]) rfl) (T_m_lifeOf h e48) hF rfl (fun w1 h hF => ?_) (by decide) (by decide)
        cases hc49 : m_c2 .ge (x4 + v45) v47 with
        | true =>
          have e43 := cT hc49 e43
          refine m_Rs.n0 b_291 (x_ict d_291_109 rfl hc49) ?_
          refine m_Rs.n0 b_291 (x_iconst (z := 0) d_291_116 (by decide)) ?_
          exact kk42 _ _ (Option.some.inj e43) h hF
        | false =>
          have e43 := cF hc49 e43
          refine m_Rs.n0 b_291 (x_icf d_291_109 rfl hc49) ?_
          refine m_Rs.n0 b_291 (x_iconst (z := 1) d_291_112 (by decide)) ?_
          refine m_Rs.n0 b_291 (x_goto d_291_113 rfl) ?_
          exact kk42 _ _ (Option.some.inj e43) h hF
def D_m_isFresh (F : Nat) (a0 : Int32) (a1 : Int32) (S : mS) : Option (Int32) := (aget 0 48000 S 622 (a0 + (2 : Int32))).bind fun v1 => (D_m_ageOf F a1 S).bind fun v3 => (D_m_lifeOf F a1 S).bind fun v5 => (cond (m_c2 .ge v3 v5) (some (0 : Int32)) (some (1 : Int32))).bind fun v10 => cond (m_c2 .eq v1 ((-1) : Int32)) (D_m_isFresh_73 F a1 v1 v3 v10 S) ((D_m_asks F v1 (18 : Int32) S).bind fun v15 => cond (m_c2 .eq v15 ((-1) : Int32)) (D_m_isFresh_73 F a1 v1 v3 v10 S) ((cond (m_c1 .eq v10) (some (0 : Int32)) ((D_m_asks F v1 (18 : Int32) S).bind fun v24 => cond (m_c2 .gt v3 v24) (some (0 : Int32)) (some (1 : Int32)))).bind fun v27 => D_m_isFresh_73 F a1 v1 v3 v27 S))
theorem T_m_isFresh {l : Launch} {w : List mM} {F : Nat} {a0 : Int32} {a1 : Int32} {S : mS} {r : Int32} (h : m_RM S w) (h0 : D_m_isFresh F a0 a1 S = some r) : m_Rs l M_291 (m_ent M_291 [.ref 583, .int a0, .int a1] w) (fun v w' => v = some (.int r) ∧ m_RM S w' ∧ m_Fq w w') 0 0 2 200 := by
  show m_Rs l M_291 (0, [(0, .ref 583), (1, .int a0), (2, .int a1)], [], w) _ 0 0 2 200
  generalize hw0 : w = w0 at h ⊢
  have hF : m_Fq w0 w0 := m_Fq.refl
  rw [D_m_isFresh] at h0
  refine m_Rs.n0 b_291 (x_aload_n d_291_0 rfl) ?_
  refine m_Rs.n0 b_291 (x_getf d_291_1 rfl h.1 rfl) ?_
  refine m_Rs.n0 b_291 (x_iload_n d_291_4 rfl) ?_
  refine m_Rs.n0 b_291 (x_iconst (z := 2) d_291_5 (by decide)) ?_
  refine m_Rs.n0 b_291 (x_iadd d_291_6 rfl) ?_
  obtain ⟨v1, e2, h0⟩ := bS h0
  refine m_Rs.dget b_291 d_291_7 h 38 rfl e2 ?_
  refine m_Rs.n0 b_291 (x_istore_n d_291_8 rfl (show m_put1 _ _ _ = [(3, _), (0, _), (1, _), (2, _)] from rfl)) ?_
  refine m_Rs.n0 b_291 (x_aload_n d_291_9 rfl) ?_
  refine m_Rs.n0 b_291 (x_iload_n d_291_10 rfl) ?_
  obtain ⟨v3, e4, h0⟩ := bS h0
  refine m_Rs.callS b_291 (y_cv d_291_11 rfl q_292 (m_isRecv_of rfl h.1) (show m_takeI _ _ = some (_, [_, _], []) from rfl) (by simp only [m_okf, List.all_cons, List.all_nil, Bool.and_true, Bool.and_self, m_okv_i, m_okv_l, m_okv_0, m_okv_t, m_okv_at h.1]) rfl) (T_m_ageOf h e4) hF rfl (fun w1 h hF => ?_) (by decide) (by decide)
  refine m_Rs.n0 b_291 (x_istore d_291_14 rfl (show m_put1 _ _ _ = [(4, _), (3, _), (0, _), (1, _), (2, _)] from rfl)) ?_
  refine m_Rs.n0 b_291 (x_iload d_291_16 rfl) ?_
  refine m_Rs.n0 b_291 (x_aload_n d_291_18 rfl) ?_
  refine m_Rs.n0 b_291 (x_iload_n d_291_19 rfl) ?_
  obtain ⟨v5, e6, h0⟩ := bS h0
  refine m_Rs.callS b_291 (y_cv d_291_20 rfl q_293 (m_isRecv_of rfl h.1) (show m_takeI _ _ = some (_, [_, _], [_]) from rfl) (by simp only [m_okf, List.all_cons, List.all_nil, Bool.and_true, Bool.and_self, m_okv_i, m_okv_l, m_okv_0, m_okv_t, m_okv_at h.1]) rfl) (T_m_lifeOf h e6) hF rfl (fun w1 h hF => ?_) (by decide) (by decide)
  obtain ⟨v10, e8, h0⟩ := bS h0
  have kk7 : ∀ (xz : Int32) (w1 : List mM), xz = v10 → m_RM S w1 → m_Fq w0 w1 → m_Rs l M_291 (31, [(4, .int v3), (3, .int v1), (0, .ref 583), (1, .int a0), (2, .int a1)], [.int xz], w1) (fun v w' => v = some (.int r) ∧ m_RM S w' ∧ m_Fq w0 w') 0 0 2 200 := by
    intro xz w ez h hF
    rw [ez]
    refine m_Rs.n0 b_291 (x_istore d_291_31 rfl (show m_put1 _ _ _ = [(5, _), (4, _), (3, _), (0, _), (1, _), (2, _)] from rfl)) ?_
    refine m_Rs.n0 b_291 (x_iload_n d_291_33 rfl) ?_
    refine m_Rs.n0 b_291 (x_iconst (z := (-1)) d_291_34 (by decide)) ?_
    cases hc14 : m_c2 .eq v1 ((-1) : Int32) with
    | true =>
      have h0 := cT hc14 h0
      refine m_Rs.n0 b_291 (x_ict d_291_35 rfl hc14) ?_
      exact m_Rs.pick [3, 5, 2, 1, 0] rfl (T_m_isFresh_73 h hF h0)
    | false =>
      have h0 := cF hc14 h0
      refine m_Rs.n0 b_291 (x_icf d_291_35 rfl hc14) ?_
      refine m_Rs.n0 b_291 (x_aload_n d_291_38 rfl) ?_
      refine m_Rs.n0 b_291 (x_iload_n d_291_39 rfl) ?_
      refine m_Rs.n0 b_291 (x_bipush (z := 18) d_291_40 (by decide)) ?_
      obtain ⟨v15, e16, h0⟩ := bS h0
      refine m_Rs.callS b_291 (y_cv d_291_42 rfl q_282 (m_isRecv_of rfl h.1) (show m_takeI _ _ = some (_, [_, _, _], []) from rfl) (by simp only [m_okf, List.all_cons, List.all_nil, Bool.and_true, Bool.and_self, m_okv_i, m_okv_l, m_okv_0, m_okv_t, m_okv_at h.1]) rfl) (T_m_asks h e16) hF rfl (fun w1 h hF => ?_) (by decide) (by decide)
      refine m_Rs.n0 b_291 (x_iconst (z := (-1)) d_291_45 (by decide)) ?_
      cases hc20 : m_c2 .eq v15 ((-1) : Int32) with
      | true =>
        have h0 := cT hc20 h0
        refine m_Rs.n0 b_291 (x_ict d_291_46 rfl hc20) ?_
        exact m_Rs.pick [3, 5, 2, 1, 0] rfl (T_m_isFresh_73 h hF h0)
      | false =>
        have h0 := cF hc20 h0
        refine m_Rs.n0 b_291 (x_icf d_291_46 rfl hc20) ?_
        refine m_Rs.n0 b_291 (x_iload d_291_49 rfl) ?_
        obtain ⟨v27, e22, h0⟩ := bS h0
        have kk21 : ∀ (xz : Int32) (w1 : List mM), xz = v27 → m_RM S w1 → m_Fq w0 w1 → m_Rs l M_291 (71, [(5, .int v10), (4, .int v3), (3, .int v1), (0, .ref 583), (1, .int a0), (2, .int a1)], [.int xz], w1) (fun v w' => v = some (.int r) ∧ m_RM S w' ∧ m_Fq w0 w') 0 0 2 200 := by
          intro xz w ez h hF
          rw [ez]
          refine m_Rs.n0 b_291 (x_istore d_291_71 rfl (show m_put1 _ _ _ = [(5, _), (4, _), (3, _), (0, _), (1, _), (2, _)] from rfl)) ?_
          exact m_Rs.pick [3, 5, 2, 1, 0] rfl (T_m_isFresh_73 h hF h0)
        cases hc23 : m_c1 .eq v10 with
        | true =>
          have e22 := cT hc23 e22
          refine m_Rs.n0 b_291 (x_ift d_291_51 rfl hc23) ?_
          refine m_Rs.n0 b_291 (x_iconst (z := 0) d_291_70 (by decide)) ?_
          exact kk21 _ _ (Option.some.inj e22) h hF
        | false =>
          have e22 := cF hc23 e22
          refine m_Rs.n0 b_291 (x_iff d_291_51 rfl hc23) ?_
          refine m_Rs.n0 b_291 (x_iload d_291_54 rfl) ?_
          refine m_Rs.n0 b_291 (x_aload_n d_291_56 rfl) ?_
          refine m_Rs.n0 b_291 (x_iload_n d_291_57 rfl) ?_
          refine m_Rs.n0 b_291 (x_bipush (z := 18) d_291_58 (by decide)) ?_
          obtain ⟨v24, e25, e22⟩ := bS e22
          refine m_Rs.callS b_291 (y_cv d_291_60 rfl q_282 (m_isRecv_of rfl h.1) (show m_takeI _ _ = some (_, [_, _, _], [_]) from rfl) (by simp only [m_okf, List.all_cons, List.all_nil, Bool.and_true, Bool.and_self, m_okv_i, m_okv_l, m_okv_0, m_okv_t, m_okv_at h.1]) rfl) (T_m_asks h e25) hF rfl (fun w1 h hF => ?_) (by decide) (by decide)
          cases hc26 : m_c2 .gt v3 v24 with
          | true =>
            have e22 := cT hc26 e22
            refine m_Rs.n0 b_291 (x_ict d_291_63 rfl hc26) ?_
            refine m_Rs.n0 b_291 (x_iconst (z := 0) d_291_70 (by decide)) ?_
            exact kk21 _ _ (Option.some.inj e22) h hF
          | false =>
            have e22 := cF hc26 e22
            refine m_Rs.n0 b_291 (x_icf d_291_63 rfl hc26) ?_
            refine m_Rs.n0 b_291 (x_iconst (z := 1) d_291_66 (by decide)) ?_
            refine m_Rs.n0 b_291 (x_goto d_291_67 rfl) ?_
            exact kk21 _ _ (Option.some.inj e22) h hF
  cases hc9 : m_c2 .ge v3 v5 with
  | true =>
    have e8 := cT hc9 e8
    refine m_Rs.n0 b_291 (x_ict d_291_23 rfl hc9) ?_
    refine m_Rs.n0 b_291 (x_iconst (z := 0) d_291_30 (by decide)) ?_
    exact kk7 _ _ (Option.some.inj e8) h hF
  | false =>
    have e8 := cF hc9 e8
    refine m_Rs.n0 b_291 (x_icf d_291_23 rfl hc9) ?_
    refine m_Rs.n0 b_291 (x_iconst (z := 1) d_291_26 (by decide)) ?_
    refine m_Rs.n0 b_291 (x_goto d_291_27 rfl) ?_
    exact kk7 _ _ (Option.some.inj e8) h hF
def D_m_newest (F : Nat) (a0 : Int32) (S : mS) : Option (mS) := (fput S 58 ((S.1 58) + (1 : Int32))).bind fun S1 => (aput 7168 S1 608 a0 (S1.1 58)).bind fun S3 => some S3
theorem T_m_newest {l : Launch} {w : List mM} {F : Nat} {a0 : Int32} {S : mS} {r : mS} (h : m_RM S w) (h0 : D_m_newest F a0 S = some r) : m_Rs l M_295 (m_ent M_295 [.ref 583, .int a0] w) (fun v w' => v = none ∧ m_RM r w' ∧ m_Fq w w') 0 0 0 0 := by
  show m_Rs l M_295 (0, [(0, .ref 583), (1, .int a0)], [], w) _ 0 0 0 0
  generalize hw0 : w = w0 at h ⊢
  have hF : m_Fq w0 w0 := m_Fq.refl
  rw [D_m_newest] at h0
  refine m_Rs.n0 b_295 (x_aload_n d_295_0 rfl) ?_
  refine m_Rs.n0 b_295 (x_dup d_295_1 rfl) ?_
  refine m_Rs.n0 b_295 (x_getf d_295_2 rfl h.1 rfl) ?_
  refine m_Rs.n0 b_295 (x_iconst (z := 1) d_295_5 (by decide)) ?_
  refine m_Rs.n0 b_295 (x_iadd d_295_6 rfl) ?_
  obtain ⟨S1, e2, h0⟩ := bS h0
  refine m_Rs.dfput b_295 d_295_7 h hF e2 rfl rfl rfl rfl rfl rfl (fun w1 h hF => ?_)
  refine m_Rs.n0 b_295 (x_aload_n d_295_10 rfl) ?_
  refine m_Rs.n0 b_295 (x_getf d_295_11 rfl h.1 rfl) ?_
  refine m_Rs.n0 b_295 (x_iload_n d_295_14 rfl) ?_
  refine m_Rs.n0 b_295 (x_aload_n d_295_15 rfl) ?_
  refine m_Rs.n0 b_295 (x_getf d_295_16 rfl h.1 rfl) ?_
  obtain ⟨S3, e4, h0⟩ := bS h0
  refine m_Rs.dput b_295 d_295_19 h hF 24 rfl e4 (fun w1 h hF => ?_)
  exact m_Rs.ret b_295 (m_rt_vr d_295_20 rfl) (rV h0 h hF)
def D_m_sizeOf (F : Nat) (a0 : Int32) (S : mS) : Option (Int32) := (aget 0 7168 S 607 a0).bind fun v1 => some ((16 : Int32) + ((16 : Int32) * (F_bc v1)))
theorem T_m_sizeOf {l : Launch} {w : List mM} {F : Nat} {a0 : Int32} {S : mS} {r : Int32} (h : m_RM S w) (h0 : D_m_sizeOf F a0 S = some r) : m_Rs l M_298 (m_ent M_298 [.ref 583, .int a0] w) (fun v w' => v = some (.int r) ∧ m_RM S w' ∧ m_Fq w w') 0 0 1 100 := by
  show m_Rs l M_298 (0, [(0, .ref 583), (1, .int a0)], [], w) _ 0 0 1 100
  generalize hw0 : w = w0 at h ⊢
  have hF : m_Fq w0 w0 := m_Fq.refl
  rw [D_m_sizeOf] at h0
  refine m_Rs.n0 b_298 (x_bipush (z := 16) d_298_0 (by decide)) ?_
  refine m_Rs.n0 b_298 (x_bipush (z := 16) d_298_2 (by decide)) ?_
  refine m_Rs.n0 b_298 (x_aload_n d_298_4 rfl) ?_
  refine m_Rs.n0 b_298 (x_getf d_298_5 rfl h.1 rfl) ?_
  refine m_Rs.n0 b_298 (x_iload_n d_298_8 rfl) ?_
  obtain ⟨v1, e2, h0⟩ := bS h0
  refine m_Rs.dget b_298 d_298_9 h 23 rfl e2 ?_
  refine m_Rs.callE b_298 (y_cs d_298_10 rfl q_100 (show m_takeS _ _ = some (_, [_], [_, _]) from rfl) (by simp only [m_okf, List.all_cons, List.all_nil, Bool.and_true, Bool.and_self, m_okv_i, m_okv_l, m_okv_0, m_okv_t, m_okv_at h.1]) rfl) P_bc rfl ?_ (by decide) (by decide)
  refine m_Rs.n0 b_298 (x_imul d_298_13 rfl) ?_
  refine m_Rs.n0 b_298 (x_iadd d_298_14 rfl) ?_
  exact m_Rs.ret b_298 (m_rt_ir d_298_15 rfl rfl) (rI h0 h hF)
def D_m_sizes_9 (F : Nat) : Nat → Int32 → Int32 → Int32 → Int32 → mS → Option (Int32)
  | 0, _, _, _, _, _ => none
  | n + 1, x1, x2, x3, x4, S => cond (m_c2 .ge x4 (((1024 : Int32) * x1) + (1024 : Int32))) (some x3) ((aget 4 7168 S 601 x4).bind fun v2 => (cond (m_c1 .eq v2) (some (0 : Int32)) (cond (m_c1 .eq x2) ((D_m_sizeOf F x4 S).bind fun v8 => some v8) ((aget 4 7168 S 602 x4).bind fun v10 => cond (m_c1 .eq v10) (some (0 : Int32)) ((D_m_sizeOf F x4 S).bind fun v13 => some v13)))).bind fun v15 => D_m_sizes_9 F n x1 x2 (x3 + v15) (x4 + Int32.ofInt 1) S)
theorem T_m_sizes_9 {l : Launch} {w0 : List mM} {F : Nat} : ∀ (n : Nat) {x1 : Int32} {x2 : Int32} {x3 : Int32} {x4 : Int32} {S : mS} {w : List mM} {r : Int32}, m_RM S w → m_Fq w0 w → D_m_sizes_9 F n x1 x2 x3 x4 S = some r → m_Rs l M_297 (9, [(0, .ref 583), (1, .int x1), (2, .int x2), (3, .int x3), (4, .int x4)], [], w) (fun v w' => v = some (.int r) ∧ m_RM S w' ∧ m_Fq w0 w') 0 0 2 200 := by
  intro n
  induction n with
  | zero => intro x1 x2 x3 x4 S w r h hF h0; cases h0
  | succ n ih =>
    intro x1 x2 x3 x4 S w r h hF h0
    rw [D_m_sizes_9] at h0
    refine m_Rs.n0 b_297 (x_iload d_297_9 rfl) ?_
    refine m_Rs.n0 b_297 (x_sipush (z := 1024) d_297_11 (by decide)) ?_
    refine m_Rs.n0 b_297 (x_iload_n d_297_14 rfl) ?_
    refine m_Rs.n0 b_297 (x_imul d_297_15 rfl) ?_
    refine m_Rs.n0 b_297 (x_sipush (z := 1024) d_297_16 (by decide)) ?_
    refine m_Rs.n0 b_297 (x_iadd d_297_19 rfl) ?_
    cases hc1 : m_c2 .ge x4 (((1024 : Int32) * x1) + (1024 : Int32)) with
    | true =>
      have h0 := cT hc1 h0
      refine m_Rs.n0 b_297 (x_ict d_297_20 rfl hc1) ?_
      refine m_Rs.n0 b_297 (x_iload_n d_297_66 rfl) ?_
      exact m_Rs.ret b_297 (m_rt_ir d_297_67 rfl rfl) (rI h0 h hF)
    | false =>
      have h0 := cF hc1 h0
      refine m_Rs.n0 b_297 (x_icf d_297_20 rfl hc1) ?_
      refine m_Rs.n0 b_297 (x_iload_n d_297_23 rfl) ?_
      refine m_Rs.n0 b_297 (x_aload_n d_297_24 rfl) ?_
      refine m_Rs.n0 b_297 (x_getf d_297_25 rfl h.1 rfl) ?_
      refine m_Rs.n0 b_297 (x_iload d_297_28 rfl) ?_
      obtain ⟨v2, e3, h0⟩ := bS h0
      refine m_Rs.dgetb b_297 d_297_30 h 17 rfl e3 ?_
      obtain ⟨v15, e5, h0⟩ := bS h0
      have kk4 : ∀ (xz : Int32) (w1 : List mM), xz = v15 → m_RM S w1 → m_Fq w0 w1 → m_Rs l M_297 (58, [(0, .ref 583), (1, .int x1), (2, .int x2), (3, .int x3), (4, .int x4)], [.int xz, .int x3], w1) (fun v w' => v = some (.int r) ∧ m_RM S w' ∧ m_Fq w0 w') 0 0 2 200 := by
        intro xz w ez h hF
        rw [ez]
        refine m_Rs.n0 b_297 (x_iadd d_297_58 rfl) ?_
        refine m_Rs.n0 b_297 (x_istore_n d_297_59 rfl (show m_put1 _ _ _ = [(3, _), (0, _), (1, _), (2, _), (4, _)] from rfl)) ?_
        refine m_Rs.n0 b_297 (x_iinc d_297_60 rfl rfl rfl (show m_put1 _ _ _ = [(4, _), (3, _), (0, _), (1, _), (2, _)] from rfl)) ?_
        refine m_Rs.n0 b_297 (x_goto d_297_63 rfl) ?_
        exact m_Rs.pick [2, 3, 4, 1, 0] rfl (ih h hF h0)
      cases hc6 : m_c1 .eq v2 with
      | true =>
        have e5 := cT hc6 e5
        refine m_Rs.n0 b_297 (x_ift d_297_31 rfl hc6) ?_
        refine m_Rs.n0 b_297 (x_iconst (z := 0) d_297_57 (by decide)) ?_
        exact kk4 _ _ (Option.some.inj e5) h hF
      | false =>
        have e5 := cF hc6 e5
        refine m_Rs.n0 b_297 (x_iff d_297_31 rfl hc6) ?_
        refine m_Rs.n0 b_297 (x_iload_n d_297_34 rfl) ?_
        cases hc7 : m_c1 .eq x2 with
        | true =>
          have e5 := cT hc7 e5
          refine m_Rs.n0 b_297 (x_ift d_297_35 rfl hc7) ?_
          refine m_Rs.n0 b_297 (x_aload_n d_297_48 rfl) ?_
          refine m_Rs.n0 b_297 (x_iload d_297_49 rfl) ?_
          obtain ⟨v8, e9, e5⟩ := bS e5
          refine m_Rs.callS b_297 (y_cv d_297_51 rfl q_298 (m_isRecv_of rfl h.1) (show m_takeI _ _ = some (_, [_, _], [_]) from rfl) (by simp only [m_okf, List.all_cons, List.all_nil, Bool.and_true, Bool.and_self, m_okv_i, m_okv_l, m_okv_0, m_okv_t, m_okv_at h.1]) rfl) (T_m_sizeOf h e9) hF rfl (fun w1 h hF => ?_) (by decide) (by decide)
          refine m_Rs.n0 b_297 (x_goto d_297_54 rfl) ?_
          exact kk4 _ _ (Option.some.inj e5) h hF
        | false =>
          have e5 := cF hc7 e5
          refine m_Rs.n0 b_297 (x_iff d_297_35 rfl hc7) ?_
          refine m_Rs.n0 b_297 (x_aload_n d_297_38 rfl) ?_
          refine m_Rs.n0 b_297 (x_getf d_297_39 rfl h.1 rfl) ?_
          refine m_Rs.n0 b_297 (x_iload d_297_42 rfl) ?_
          obtain ⟨v10, e11, e5⟩ := bS e5
          refine m_Rs.dgetb b_297 d_297_44 h 18 rfl e11 ?_
          cases hc12 : m_c1 .eq v10 with
          | true =>
            have e5 := cT hc12 e5
            refine m_Rs.n0 b_297 (x_ift d_297_45 rfl hc12) ?_
            refine m_Rs.n0 b_297 (x_iconst (z := 0) d_297_57 (by decide)) ?_
            exact kk4 _ _ (Option.some.inj e5) h hF
          | false =>
            have e5 := cF hc12 e5
            refine m_Rs.n0 b_297 (x_iff d_297_45 rfl hc12) ?_
            refine m_Rs.n0 b_297 (x_aload_n d_297_48 rfl) ?_
            refine m_Rs.n0 b_297 (x_iload d_297_49 rfl) ?_
            obtain ⟨v13, e14, e5⟩ := bS e5
            refine m_Rs.callS b_297 (y_cv d_297_51 rfl q_298 (m_isRecv_of rfl h.1) (show m_takeI _ _ = some (_, [_, _], [_]) from rfl) (by simp only [m_okf, List.all_cons, List.all_nil, Bool.and_true, Bool.and_self, m_okv_i, m_okv_l, m_okv_0, m_okv_t, m_okv_at h.1]) rfl) (T_m_sizeOf h e14) hF rfl (fun w1 h hF => ?_) (by decide) (by decide)
            refine m_Rs.n0 b_297 (x_goto d_297_54 rfl) ?_
            exact kk4 _ _ (Option.some.inj e5) h hF
def D_m_sizes (F : Nat) (a0 : Int32) (a1 : Int32) (S : mS) : Option (Int32) := D_m_sizes_9 F F a0 a1 (0 : Int32) ((1024 : Int32) * a0) S
theorem T_m_sizes {l : Launch} {w : List mM} {F : Nat} {a0 : Int32} {a1 : Int32} {S : mS} {r : Int32} (h : m_RM S w) (h0 : D_m_sizes F a0 a1 S = some r) : m_Rs l M_297 (m_ent M_297 [.ref 583, .int a0, .int a1] w) (fun v w' => v = some (.int r) ∧ m_RM S w' ∧ m_Fq w w') 0 0 2 200 := by
  show m_Rs l M_297 (0, [(0, .ref 583), (1, .int a0), (2, .int a1)], [], w) _ 0 0 2 200
  generalize hw0 : w = w0 at h ⊢
  have hF : m_Fq w0 w0 := m_Fq.refl
  rw [D_m_sizes] at h0
  refine m_Rs.n0 b_297 (x_iconst (z := 0) d_297_0 (by decide)) ?_
  refine m_Rs.n0 b_297 (x_istore_n d_297_1 rfl (show m_put1 _ _ _ = [(3, _), (0, _), (1, _), (2, _)] from rfl)) ?_
  refine m_Rs.n0 b_297 (x_sipush (z := 1024) d_297_2 (by decide)) ?_
  refine m_Rs.n0 b_297 (x_iload_n d_297_5 rfl) ?_
  refine m_Rs.n0 b_297 (x_imul d_297_6 rfl) ?_
  refine m_Rs.n0 b_297 (x_istore d_297_7 rfl (show m_put1 _ _ _ = [(4, _), (3, _), (0, _), (1, _), (2, _)] from rfl)) ?_
  exact m_Rs.pick [2, 3, 4, 1, 0] rfl (T_m_sizes_9 F h hF h0)
def D_m_oldest_68 (F : Nat) (rec9 : Int32 → Int32 → Int32 → Int32 → mS → Option (Int32)) (x1 : Int32) (x2 : Int32) (x3 : Int32) (x4 : Int32) (S : mS) : Option (Int32) := rec9 x1 x2 x3 (x4 + Int32.ofInt 1) S
theorem T_m_oldest_68 {l : Launch} {w0 : List mM} {F : Nat} {rec9 : Int32 → Int32 → Int32 → Int32 → mS → Option (Int32)} (hr9 : ∀ {x1 : Int32} {x2 : Int32} {x3 : Int32} {x4 : Int32} {S : mS} {w : List mM} {r : Int32}, m_RM S w → m_Fq w0 w → rec9 x1 x2 x3 x4 S = some r → m_Rs l M_299 (9, [(0, .ref 583), (1, .int x1), (2, .int x2), (3, .int x3), (4, .int x4)], [], w) (fun v w' => v = some (.int r) ∧ m_RM S w' ∧ m_Fq w0 w') 0 0 0 0) {x1 : Int32} {x2 : Int32} {x3 : Int32} {x4 : Int32} {S : mS} {w : List mM} {r : Int32} (h : m_RM S w) (hF : m_Fq w0 w) (h0 : D_m_oldest_68 F rec9 x1 x2 x3 x4 S = some r) : m_Rs l M_299 (68, [(0, .ref 583), (1, .int x1), (2, .int x2), (3, .int x3), (4, .int x4)], [], w) (fun v w' => v = some (.int r) ∧ m_RM S w' ∧ m_Fq w0 w') 0 0 0 0 := by
  rw [D_m_oldest_68] at h0
  refine m_Rs.n0 b_299 (x_iinc d_299_68 rfl rfl rfl (show m_put1 _ _ _ = [(4, _), (0, _), (1, _), (2, _), (3, _)] from rfl)) ?_
  refine m_Rs.n0 b_299 (x_goto d_299_71 rfl) ?_
  exact m_Rs.pick [1, 2, 3, 4, 0] rfl (hr9 h hF h0)
def D_m_oldest_65 (F : Nat) (rec9 : Int32 → Int32 → Int32 → Int32 → mS → Option (Int32)) (x1 : Int32) (x2 : Int32) (x4 : Int32) (S : mS) : Option (Int32) := D_m_oldest_68 F rec9 x1 x2 x4 x4 S
theorem T_m_oldest_65 {l : Launch} {w0 : List mM} {F : Nat} {rec9 : Int32 → Int32 → Int32 → Int32 → mS → Option (Int32)} (hr9 : ∀ {x1 : Int32} {x2 : Int32} {x3 : Int32} {x4 : Int32} {S : mS} {w : List mM} {r : Int32}, m_RM S w → m_Fq w0 w → rec9 x1 x2 x3 x4 S = some r → m_Rs l M_299 (9, [(0, .ref 583), (1, .int x1), (2, .int x2), (3, .int x3), (4, .int x4)], [], w) (fun v w' => v = some (.int r) ∧ m_RM S w' ∧ m_Fq w0 w') 0 0 0 0) {x1 : Int32} {x2 : Int32} {x4 : Int32} {S : mS} {w : List mM} {r : Int32} (h : m_RM S w) (hF : m_Fq w0 w) (h0 : D_m_oldest_65 F rec9 x1 x2 x4 S = some r) : m_Rs l M_299 (65, [(0, .ref 583), (1, .int x1), (2, .int x2), (4, .int x4)], [], w) (fun v w' => v = some (.int r) ∧ m_RM S w' ∧ m_Fq w0 w') 0 0 0 0 := by
  rw [D_m_oldest_65] at h0
  refine m_Rs.n0 b_299 (x_iload d_299_65 rfl) ?_
  refine m_Rs.n0 b_299 (x_istore_n d_299_67 rfl (show m_put1 _ _ _ = [(3, _), (0, _), (1, _), (2, _), (4, _)] from rfl)) ?_
  exact m_Rs.pick [1, 2, 3, 0, 4] rfl (T_m_oldest_68 hr9 h hF h0)
def D_m_oldest_9 (F : Nat) : Nat → Int32 → Int32 → Int32 → Int32 → mS → Option (Int32)
  | 0, _, _, _, _, _ => none
  | n + 1, x1, x2, x3, x4, S => cond (m_c2 .ge x4 (((1024 : Int32) * x1) + (1024 : Int32))) (some x3) ((aget 4 7168 S 601 x4).bind fun v2 => cond (m_c1 .eq v2) (D_m_oldest_68 F (D_m_oldest_9 F n) x1 x2 x3 x4 S) ((aget 4 7168 S 602 x4).bind fun v8 => cond (m_c2 .ne v8 x2) (D_m_oldest_68 F (D_m_oldest_9 F n) x1 x2 x3 x4 S) (cond (m_c2 .eq x3 ((-1) : Int32)) (D_m_oldest_65 F (D_m_oldest_9 F n) x1 x2 x4 S) ((aget 0 7168 S 608 x4).bind fun v18 => (aget 0 7168 S 608 x3).bind fun v20 => cond (m_c2 .ge v18 v20) (D_m_oldest_68 F (D_m_oldest_9 F n) x1 x2 x3 x4 S) (D_m_oldest_65 F (D_m_oldest_9 F n) x1 x2 x4 S)))))
theorem T_m_oldest_9 {l : Launch} {w0 : List mM} {F : Nat} : ∀ (n : Nat) {x1 : Int32} {x2 : Int32} {x3 : Int32} {x4 : Int32} {S : mS} {w : List mM} {r : Int32}, m_RM S w → m_Fq w0 w → D_m_oldest_9 F n x1 x2 x3 x4 S = some r → m_Rs l M_299 (9, [(0, .ref 583), (1, .int x1), (2, .int x2), (3, .int x3), (4, .int x4)], [], w) (fun v w' => v = some (.int r) ∧ m_RM S w' ∧ m_Fq w0 w') 0 0 0 0 := by
  intro n
  induction n with
  | zero => intro x1 x2 x3 x4 S w r h hF h0; cases h0
  | succ n ih =>
    intro x1 x2 x3 x4 S w r h hF h0
    rw [D_m_oldest_9] at h0
    refine m_Rs.n0 b_299 (x_iload d_299_9 rfl) ?_
    refine m_Rs.n0 b_299 (x_sipush (z := 1024) d_299_11 (by decide)) ?_
    refine m_Rs.n0 b_299 (x_iload_n d_299_14 rfl) ?_
    refine m_Rs.n0 b_299 (x_imul d_299_15 rfl) ?_
    refine m_Rs.n0 b_299 (x_sipush (z := 1024) d_299_16 (by decide)) ?_
    refine m_Rs.n0 b_299 (x_iadd d_299_19 rfl) ?_
    cases hc1 : m_c2 .ge x4 (((1024 : Int32) * x1) + (1024 : Int32)) with
    | true =>
      have h0 := cT hc1 h0
      refine m_Rs.n0 b_299 (x_ict d_299_20 rfl hc1) ?_
      refine m_Rs.n0 b_299 (x_iload_n d_299_74 rfl) ?_
      exact m_Rs.ret b_299 (m_rt_ir d_299_75 rfl rfl) (rI h0 h hF)
    | false =>
      have h0 := cF hc1 h0
      refine m_Rs.n0 b_299 (x_icf d_299_20 rfl hc1) ?_
      refine m_Rs.n0 b_299 (x_aload_n d_299_23 rfl) ?_
      refine m_Rs.n0 b_299 (x_getf d_299_24 rfl h.1 rfl) ?_
      refine m_Rs.n0 b_299 (x_iload d_299_27 rfl) ?_
      obtain ⟨v2, e3, h0⟩ := bS h0
      refine m_Rs.dgetb b_299 d_299_29 h 17 rfl e3 ?_
      cases hc7 : m_c1 .eq v2 with
      | true =>
        have h0 := cT hc7 h0
        refine m_Rs.n0 b_299 (x_ift d_299_30 rfl hc7) ?_
        exact m_Rs.pick [0, 1, 2, 3, 4] rfl (T_m_oldest_68 ih h hF h0)
      | false =>
        have h0 := cF hc7 h0
        refine m_Rs.n0 b_299 (x_iff d_299_30 rfl hc7) ?_
        refine m_Rs.n0 b_299 (x_aload_n d_299_33 rfl) ?_
        refine m_Rs.n0 b_299 (x_getf d_299_34 rfl h.1 rfl) ?_
        refine m_Rs.n0 b_299 (x_iload d_299_37 rfl) ?_
        obtain ⟨v8, e9, h0⟩ := bS h0
        refine m_Rs.dgetb b_299 d_299_39 h 18 rfl e9 ?_
        refine m_Rs.n0 b_299 (x_iload_n d_299_40 rfl) ?_
        cases hc13 : m_c2 .ne v8 x2 with
        | true =>
          have h0 := cT hc13 h0
          refine m_Rs.n0 b_299 (x_ict d_299_41 rfl hc13) ?_
          exact m_Rs.pick [0, 1, 2, 3, 4] rfl (T_m_oldest_68 ih h hF h0)
        | false =>
          have h0 := cF hc13 h0
          refine m_Rs.n0 b_299 (x_icf d_299_41 rfl hc13) ?_
          refine m_Rs.n0 b_299 (x_iload_n d_299_44 rfl) ?_
          refine m_Rs.n0 b_299 (x_iconst (z := (-1)) d_299_45 (by decide)) ?_
          cases hc17 : m_c2 .eq x3 ((-1) : Int32) with
          | true =>
            have h0 := cT hc17 h0
            refine m_Rs.n0 b_299 (x_ict d_299_46 rfl hc17) ?_
            exact m_Rs.pick [0, 1, 2, 4] rfl (T_m_oldest_65 ih h hF h0)
          | false =>
            have h0 := cF hc17 h0
            refine m_Rs.n0 b_299 (x_icf d_299_46 rfl hc17) ?_
            refine m_Rs.n0 b_299 (x_aload_n d_299_49 rfl) ?_
            refine m_Rs.n0 b_299 (x_getf d_299_50 rfl h.1 rfl) ?_
            refine m_Rs.n0 b_299 (x_iload d_299_53 rfl) ?_
            obtain ⟨v18, e19, h0⟩ := bS h0
            refine m_Rs.dget b_299 d_299_55 h 24 rfl e19 ?_
            refine m_Rs.n0 b_299 (x_aload_n d_299_56 rfl) ?_
            refine m_Rs.n0 b_299 (x_getf d_299_57 rfl h.1 rfl) ?_
            refine m_Rs.n0 b_299 (x_iload_n d_299_60 rfl) ?_
            obtain ⟨v20, e21, h0⟩ := bS h0
            refine m_Rs.dget b_299 d_299_61 h 24 rfl e21 ?_
            cases hc25 : m_c2 .ge v18 v20 with
            | true =>
              have h0 := cT hc25 h0
              refine m_Rs.n0 b_299 (x_ict d_299_62 rfl hc25) ?_
              exact m_Rs.pick [0, 1, 2, 3, 4] rfl (T_m_oldest_68 ih h hF h0)
            | false =>
              have h0 := cF hc25 h0
              refine m_Rs.n0 b_299 (x_icf d_299_62 rfl hc25) ?_
              exact m_Rs.pick [0, 1, 2, 4] rfl (T_m_oldest_65 ih h hF h0)
def D_m_oldest (F : Nat) (a0 : Int32) (a1 : Int32) (S : mS) : Option (Int32) := D_m_oldest_9 F F a0 a1 ((-1) : Int32) ((1024 : Int32) * a0) S
theorem T_m_oldest {l : Launch} {w : List mM} {F : Nat} {a0 : Int32} {a1 : Int32} {S : mS} {r : Int32} (h : m_RM S w) (h0 : D_m_oldest F a0 a1 S = some r) : m_Rs l M_299 (m_ent M_299 [.ref 583, .int a0, .int a1] w) (fun v w' => v = some (.int r) ∧ m_RM S w' ∧ m_Fq w w') 0 0 0 0 := by
  show m_Rs l M_299 (0, [(0, .ref 583), (1, .int a0), (2, .int a1)], [], w) _ 0 0 0 0
  generalize hw0 : w = w0 at h ⊢
  have hF : m_Fq w0 w0 := m_Fq.refl
  rw [D_m_oldest] at h0
  refine m_Rs.n0 b_299 (x_iconst (z := (-1)) d_299_0 (by decide)) ?_
  refine m_Rs.n0 b_299 (x_istore_n d_299_1 rfl (show m_put1 _ _ _ = [(3, _), (0, _), (1, _), (2, _)] from rfl)) ?_
  refine m_Rs.n0 b_299 (x_sipush (z := 1024) d_299_2 (by decide)) ?_
  refine m_Rs.n0 b_299 (x_iload_n d_299_5 rfl) ?_
  refine m_Rs.n0 b_299 (x_imul d_299_6 rfl) ?_
  refine m_Rs.n0 b_299 (x_istore d_299_7 rfl (show m_put1 _ _ _ = [(4, _), (3, _), (0, _), (1, _), (2, _)] from rfl)) ?_
  exact m_Rs.pick [2, 3, 4, 1, 0] rfl (T_m_oldest_9 F h hF h0)
def D_m_trim_39 (F : Nat) : Nat → Int32 → mS → Option (mS)
  | 0, _, _ => none
  | n + 1, x1, S => (D_m_sizes F x1 (0 : Int32) S).bind fun v12 => (aget 0 7 S 592 x1).bind fun v14 => cond (m_c2 .le v12 v14) (some S) ((D_m_oldest F x1 (0 : Int32) S).bind fun v17 => (cond (m_c2 .ne v17 ((-1) : Int32)) (some v17) ((D_m_oldest F x1 (1 : Int32) S).bind fun v22 => some v22)).bind fun v24 => (bput 7168 S 601 v24 (0 : Int32)).bind fun S25 => D_m_trim_39 F n x1 S25)
theorem T_m_trim_39 {l : Launch} {w0 : List mM} {F : Nat} : ∀ (n : Nat) {x1 : Int32} {S : mS} {w : List mM} {r : mS}, m_RM S w → m_Fq w0 w → D_m_trim_39 F n x1 S = some r → m_Rs l M_296 (39, [(0, .ref 583), (1, .int x1)], [], w) (fun v w' => v = none ∧ m_RM r w' ∧ m_Fq w0 w') 0 0 3 300 := by
  intro n
  induction n with
  | zero => intro x1 S w r h hF h0; cases h0
  | succ n ih =>
    intro x1 S w r h hF h0
    rw [D_m_trim_39] at h0
    refine m_Rs.n0 b_296 (x_aload_n d_296_39 rfl) ?_
    refine m_Rs.n0 b_296 (x_iload_n d_296_40 rfl) ?_
    refine m_Rs.n0 b_296 (x_iconst (z := 0) d_296_41 (by decide)) ?_
    obtain ⟨v12, e13, h0⟩ := bS h0
    refine m_Rs.callS b_296 (y_cv d_296_42 rfl q_297 (m_isRecv_of rfl h.1) (show m_takeI _ _ = some (_, [_, _, _], []) from rfl) (by simp only [m_okf, List.all_cons, List.all_nil, Bool.and_true, Bool.and_self, m_okv_i, m_okv_l, m_okv_0, m_okv_t, m_okv_at h.1]) rfl) (T_m_sizes h e13) hF rfl (fun w1 h hF => ?_) (by decide) (by decide)
    refine m_Rs.n0 b_296 (x_aload_n d_296_45 rfl) ?_
    refine m_Rs.n0 b_296 (x_getf d_296_46 rfl h.1 rfl) ?_
    refine m_Rs.n0 b_296 (x_iload_n d_296_49 rfl) ?_
    obtain ⟨v14, e15, h0⟩ := bS h0
    refine m_Rs.dget b_296 d_296_50 h 8 rfl e15 ?_
    cases hc16 : m_c2 .le v12 v14 with
    | true =>
      have h0 := cT hc16 h0
      refine m_Rs.n0 b_296 (x_ict d_296_51 rfl hc16) ?_
      exact m_Rs.ret b_296 (m_rt_vr d_296_85 rfl) (rV h0 h hF)
    | false =>
      have h0 := cF hc16 h0
      refine m_Rs.n0 b_296 (x_icf d_296_51 rfl hc16) ?_
      refine m_Rs.n0 b_296 (x_aload_n d_296_54 rfl) ?_
      refine m_Rs.n0 b_296 (x_iload_n d_296_55 rfl) ?_
      refine m_Rs.n0 b_296 (x_iconst (z := 0) d_296_56 (by decide)) ?_
      obtain ⟨v17, e18, h0⟩ := bS h0
      refine m_Rs.callS b_296 (y_cv d_296_57 rfl q_299 (m_isRecv_of rfl h.1) (show m_takeI _ _ = some (_, [_, _, _], []) from rfl) (by simp only [m_okf, List.all_cons, List.all_nil, Bool.and_true, Bool.and_self, m_okv_i, m_okv_l, m_okv_0, m_okv_t, m_okv_at h.1]) rfl) (T_m_oldest h e18) hF rfl (fun w1 h hF => ?_) (by decide) (by decide)
      refine m_Rs.n0 b_296 (x_istore_n d_296_60 rfl (show m_put1 _ _ _ = [(2, _), (0, _), (1, _)] from rfl)) ?_
      refine m_Rs.n0 b_296 (x_aload_n d_296_61 rfl) ?_
      refine m_Rs.n0 b_296 (x_getf d_296_62 rfl h.1 rfl) ?_
      refine m_Rs.n0 b_296 (x_iload_n d_296_65 rfl) ?_
      refine m_Rs.n0 b_296 (x_iconst (z := (-1)) d_296_66 (by decide)) ?_
      obtain ⟨v24, e20, h0⟩ := bS h0
      have kk19 : ∀ (xz : Int32) (w1 : List mM), xz = v24 → m_RM S w1 → m_Fq w0 w1 → m_Rs l M_296 (80, [(2, .int v17), (0, .ref 583), (1, .int x1)], [.int xz, .ref 601], w1) (fun v w' => v = none ∧ m_RM r w' ∧ m_Fq w0 w') 0 0 3 300 := by
        intro xz w ez h hF
        rw [ez]
        refine m_Rs.n0 b_296 (x_iconst (z := 0) d_296_80 (by decide)) ?_
        obtain ⟨S25, e26, h0⟩ := bS h0
        refine m_Rs.dputb b_296 d_296_81 h hF 17 rfl e26 (fun w1 h hF => ?_)
        refine m_Rs.n0 b_296 (x_goto d_296_82 rfl) ?_
        exact m_Rs.pick [1, 2] rfl (ih h hF h0)
      cases hc21 : m_c2 .ne v17 ((-1) : Int32) with
      | true =>
        have e20 := cT hc21 e20
        refine m_Rs.n0 b_296 (x_ict d_296_67 rfl hc21) ?_
        refine m_Rs.n0 b_296 (x_iload_n d_296_79 rfl) ?_
        exact kk19 _ _ (Option.some.inj e20) h hF
      | false =>
        have e20 := cF hc21 e20
        refine m_Rs.n0 b_296 (x_icf d_296_67 rfl hc21) ?_
        refine m_Rs.n0 b_296 (x_aload_n d_296_70 rfl) ?_
        refine m_Rs.n0 b_296 (x_iload_n d_296_71 rfl) ?_
        refine m_Rs.n0 b_296 (x_iconst (z := 1) d_296_72 (by decide)) ?_
        obtain ⟨v22, e23, e20⟩ := bS e20
        refine m_Rs.callS b_296 (y_cv d_296_73 rfl q_299 (m_isRecv_of rfl h.1) (show m_takeI _ _ = some (_, [_, _, _], [_]) from rfl) (by simp only [m_okf, List.all_cons, List.all_nil, Bool.and_true, Bool.and_self, m_okv_i, m_okv_l, m_okv_0, m_okv_t, m_okv_at h.1, m_okv_at (h.a 17 rfl)]) rfl) (T_m_oldest h e23) hF rfl (fun w1 h hF => ?_) (by decide) (by decide)
        refine m_Rs.n0 b_296 (x_goto d_296_76 rfl) ?_
        exact kk19 _ _ (Option.some.inj e20) h hF
def D_m_trim_0 (F : Nat) : Nat → Int32 → mS → Option (mS)
  | 0, _, _ => none
  | n + 1, x1, S => (D_m_sizes F x1 (1 : Int32) S).bind fun v1 => (aget 0 7 S 592 x1).bind fun v3 => cond (m_c2 .le v1 (v3 / (2 : Int32))) (D_m_trim_39 F F x1 S) ((D_m_oldest F x1 (1 : Int32) S).bind fun v6 => (bput 7168 S 602 v6 (0 : Int32)).bind fun S8 => (D_m_newest F v6 S8).bind fun S10 => D_m_trim_0 F n x1 S10)
theorem T_m_trim_0 {l : Launch} {w0 : List mM} {F : Nat} : ∀ (n : Nat) {x1 : Int32} {S : mS} {w : List mM} {r : mS}, m_RM S w → m_Fq w0 w → D_m_trim_0 F n x1 S = some r → m_Rs l M_296 (0, [(0, .ref 583), (1, .int x1)], [], w) (fun v w' => v = none ∧ m_RM r w' ∧ m_Fq w0 w') 0 0 3 300 := by
  intro n
  induction n with
  | zero => intro x1 S w r h hF h0; cases h0
  | succ n ih =>
    intro x1 S w r h hF h0
    rw [D_m_trim_0] at h0
    refine m_Rs.n0 b_296 (x_aload_n d_296_0 rfl) ?_
    refine m_Rs.n0 b_296 (x_iload_n d_296_1 rfl) ?_
    refine m_Rs.n0 b_296 (x_iconst (z := 1) d_296_2 (by decide)) ?_
    obtain ⟨v1, e2, h0⟩ := bS h0
    refine m_Rs.callS b_296 (y_cv d_296_3 rfl q_297 (m_isRecv_of rfl h.1) (show m_takeI _ _ = some (_, [_, _, _], []) from rfl) (by simp only [m_okf, List.all_cons, List.all_nil, Bool.and_true, Bool.and_self, m_okv_i, m_okv_l, m_okv_0, m_okv_t, m_okv_at h.1]) rfl) (T_m_sizes h e2) hF rfl (fun w1 h hF => ?_) (by decide) (by decide)
    refine m_Rs.n0 b_296 (x_aload_n d_296_6 rfl) ?_
    refine m_Rs.n0 b_296 (x_getf d_296_7 rfl h.1 rfl) ?_
    refine m_Rs.n0 b_296 (x_iload_n d_296_10 rfl) ?_
    obtain ⟨v3, e4, h0⟩ := bS h0
    refine m_Rs.dget b_296 d_296_11 h 8 rfl e4 ?_
    refine m_Rs.n0 b_296 (x_iconst (z := 2) d_296_12 (by decide)) ?_
    refine m_Rs.n0 b_296 (x_idiv d_296_13 (by decide) rfl) ?_
    cases hc5 : m_c2 .le v1 (v3 / (2 : Int32)) with
    | true =>
      have h0 := cT hc5 h0
      refine m_Rs.n0 b_296 (x_ict d_296_14 rfl hc5) ?_
      exact m_Rs.pick [0, 1] rfl (T_m_trim_39 F h hF h0)
    | false =>
      have h0 := cF hc5 h0
      refine m_Rs.n0 b_296 (x_icf d_296_14 rfl hc5) ?_
      refine m_Rs.n0 b_296 (x_aload_n d_296_17 rfl) ?_
      refine m_Rs.n0 b_296 (x_iload_n d_296_18 rfl) ?_
      refine m_Rs.n0 b_296 (x_iconst (z := 1) d_296_19 (by decide)) ?_
      obtain ⟨v6, e7, h0⟩ := bS h0
      refine m_Rs.callS b_296 (y_cv d_296_20 rfl q_299 (m_isRecv_of rfl h.1) (show m_takeI _ _ = some (_, [_, _, _], []) from rfl) (by simp only [m_okf, List.all_cons, List.all_nil, Bool.and_true, Bool.and_self, m_okv_i, m_okv_l, m_okv_0, m_okv_t, m_okv_at h.1]) rfl) (T_m_oldest h e7) hF rfl (fun w1 h hF => ?_) (by decide) (by decide)
      refine m_Rs.n0 b_296 (x_istore_n d_296_23 rfl (show m_put1 _ _ _ = [(2, _), (0, _), (1, _)] from rfl)) ?_
      refine m_Rs.n0 b_296 (x_aload_n d_296_24 rfl) ?_
      refine m_Rs.n0 b_296 (x_getf d_296_25 rfl h.1 rfl) ?_
      refine m_Rs.n0 b_296 (x_iload_n d_296_28 rfl) ?_
      refine m_Rs.n0 b_296 (x_iconst (z := 0) d_296_29 (by decide)) ?_
      obtain ⟨S8, e9, h0⟩ := bS h0
      refine m_Rs.dputb b_296 d_296_30 h hF 18 rfl e9 (fun w1 h hF => ?_)
      refine m_Rs.n0 b_296 (x_aload_n d_296_31 rfl) ?_
      refine m_Rs.n0 b_296 (x_iload_n d_296_32 rfl) ?_
      obtain ⟨S10, e11, h0⟩ := bS h0
      refine m_Rs.callSv b_296 (y_cv d_296_33 rfl q_295 (m_isRecv_of rfl h.1) (show m_takeI _ _ = some (_, [_, _], []) from rfl) (by simp only [m_okf, List.all_cons, List.all_nil, Bool.and_true, Bool.and_self, m_okv_i, m_okv_l, m_okv_0, m_okv_t, m_okv_at h.1]) rfl) (T_m_newest h e11) hF rfl (fun w1 h hF => ?_) (by decide) (by decide)
      refine m_Rs.n0 b_296 (x_goto d_296_36 rfl) ?_
      exact m_Rs.pick [1, 2] rfl (ih h hF h0)
def D_m_trim (F : Nat) (a0 : Int32) (S : mS) : Option (mS) := D_m_trim_0 F F a0 S
theorem T_m_trim {l : Launch} {w : List mM} {F : Nat} {a0 : Int32} {S : mS} {r : mS} (h : m_RM S w) (h0 : D_m_trim F a0 S = some r) : m_Rs l M_296 (m_ent M_296 [.ref 583, .int a0] w) (fun v w' => v = none ∧ m_RM r w' ∧ m_Fq w w') 0 0 3 300 := by
  show m_Rs l M_296 (0, [(0, .ref 583), (1, .int a0)], [], w) _ 0 0 3 300
  generalize hw0 : w = w0 at h ⊢
  have hF : m_Fq w0 w0 := m_Fq.refl
  rw [D_m_trim] at h0
  exact m_Rs.pick [0, 1] rfl (T_m_trim_0 F h hF h0)
def D_m_use (F : Nat) (a0 : Int32) (a1 : Int32) (S : mS) : Option (mS) := (bput 7168 S 602 a1 (1 : Int32)).bind fun S1 => (D_m_newest F a1 S1).bind fun S3 => (D_m_trim F a0 S3).bind fun S5 => some S5
theorem T_m_use {l : Launch} {w : List mM} {F : Nat} {a0 : Int32} {a1 : Int32} {S : mS} {r : mS} (h : m_RM S w) (h0 : D_m_use F a0 a1 S = some r) : m_Rs l M_294 (m_ent M_294 [.ref 583, .int a0, .int a1] w) (fun v w' => v = none ∧ m_RM r w' ∧ m_Fq w w') 0 0 4 400 := by
  show m_Rs l M_294 (0, [(0, .ref 583), (1, .int a0), (2, .int a1)], [], w) _ 0 0 4 400
  generalize hw0 : w = w0 at h ⊢
  have hF : m_Fq w0 w0 := m_Fq.refl
  rw [D_m_use] at h0
  refine m_Rs.n0 b_294 (x_aload_n d_294_0 rfl) ?_
  refine m_Rs.n0 b_294 (x_getf d_294_1 rfl h.1 rfl) ?_
  refine m_Rs.n0 b_294 (x_iload_n d_294_4 rfl) ?_
  refine m_Rs.n0 b_294 (x_iconst (z := 1) d_294_5 (by decide)) ?_
  obtain ⟨S1, e2, h0⟩ := bS h0
  refine m_Rs.dputb b_294 d_294_6 h hF 18 rfl e2 (fun w1 h hF => ?_)
  refine m_Rs.n0 b_294 (x_aload_n d_294_7 rfl) ?_
  refine m_Rs.n0 b_294 (x_iload_n d_294_8 rfl) ?_
  obtain ⟨S3, e4, h0⟩ := bS h0
  refine m_Rs.callSv b_294 (y_cv d_294_9 rfl q_295 (m_isRecv_of rfl h.1) (show m_takeI _ _ = some (_, [_, _], []) from rfl) (by simp only [m_okf, List.all_cons, List.all_nil, Bool.and_true, Bool.and_self, m_okv_i, m_okv_l, m_okv_0, m_okv_t, m_okv_at h.1]) rfl) (T_m_newest h e4) hF rfl (fun w1 h hF => ?_) (by decide) (by decide)
  refine m_Rs.n0 b_294 (x_aload_n d_294_12 rfl) ?_
  refine m_Rs.n0 b_294 (x_iload_n d_294_13 rfl) ?_
  obtain ⟨S5, e6, h0⟩ := bS h0
  refine m_Rs.callSv b_294 (y_cv d_294_14 rfl q_296 (m_isRecv_of rfl h.1) (show m_takeI _ _ = some (_, [_, _], []) from rfl) (by simp only [m_okf, List.all_cons, List.all_nil, Bool.and_true, Bool.and_self, m_okv_i, m_okv_l, m_okv_0, m_okv_t, m_okv_at h.1]) rfl) (T_m_trim h e6) hF rfl (fun w1 h hF => ?_) (by decide) (by decide)
  exact m_Rs.ret b_294 (m_rt_vr d_294_17 rfl) (rV h0 h hF)
def D_m_nowTag (F : Nat) (S : mS) : Option (Int32) := (aget 0 9 S 626 (0 : Int32)).bind fun v1 => some (((8 : Int32) * v1) + (S.1 87))
theorem T_m_nowTag {l : Launch} {w : List mM} {F : Nat} {S : mS} {r : Int32} (h : m_RM S w) (h0 : D_m_nowTag F S = some r) : m_Rs l M_303 (m_ent M_303 [.ref 583] w) (fun v w' => v = some (.int r) ∧ m_RM S w' ∧ m_Fq w w') 0 0 0 0 := by
  show m_Rs l M_303 (0, [(0, .ref 583)], [], w) _ 0 0 0 0
  generalize hw0 : w = w0 at h ⊢
  have hF : m_Fq w0 w0 := m_Fq.refl
  rw [D_m_nowTag] at h0
  refine m_Rs.n0 b_303 (x_bipush (z := 8) d_303_0 (by decide)) ?_
  refine m_Rs.n0 b_303 (x_aload_n d_303_2 rfl) ?_
  refine m_Rs.n0 b_303 (x_getf d_303_3 rfl h.1 rfl) ?_
  refine m_Rs.n0 b_303 (x_iconst (z := 0) d_303_6 (by decide)) ?_
  obtain ⟨v1, e2, h0⟩ := bS h0
  refine m_Rs.dget b_303 d_303_7 h 42 rfl e2 ?_
  refine m_Rs.n0 b_303 (x_imul d_303_8 rfl) ?_
  refine m_Rs.n0 b_303 (x_aload_n d_303_9 rfl) ?_
  refine m_Rs.n0 b_303 (x_getf d_303_10 rfl h.1 rfl) ?_
  refine m_Rs.n0 b_303 (x_iadd d_303_13 rfl) ?_
  exact m_Rs.ret b_303 (m_rt_ir d_303_14 rfl rfl) (rI h0 h hF)
def D_m_statusOf_19 (F : Nat) : Nat → Int32 → Int32 → Int32 → mS → Option (Int32)
  | 0, _, _, _, _ => none
  | n + 1, x1, x2, x3, S => (D_m_asks F x1 (7 : Int32) S).bind fun v7 => cond (m_c2 .ge x3 v7) (cond (m_c1 .eq x2) ((D_m_nowTag F S).bind fun v11 => (D_m_rangeOf F x1 v11 S).bind fun v13 => cond (m_c1 .ne v13) ((aget 0 9 S 626 (1 : Int32)).bind fun v16 => (D_m_nowTag F S).bind fun v18 => (D_m_hasBytes F x1 v16 v18 S).bind fun v20 => (cond (m_c1 .eq v20) (some (416 : Int32)) (some (206 : Int32))).bind fun v25 => some v25) (some (200 : Int32))) (some (304 : Int32))) ((cond (m_c1 .ne x2) (some (1 : Int32)) ((D_m_asks F x1 ((8 : Int32) + x3) S).bind fun v29 => (D_m_nowTag F S).bind fun v31 => cond (m_c2 .ne v29 v31) (some (0 : Int32)) (some (1 : Int32)))).bind fun v34 => D_m_statusOf_19 F n x1 v34 (x3 + Int32.ofInt 1) S)
theorem T_m_statusOf_19 {l : Launch} {w0 : List mM} {F : Nat} : ∀ (n : Nat) {x1 : Int32} {x2 : Int32} {x3 : Int32} {S : mS} {w : List mM} {r : Int32}, m_RM S w → m_Fq w0 w → D_m_statusOf_19 F n x1 x2 x3 S = some r → m_Rs l M_302 (19, [(0, .ref 583), (1, .int x1), (2, .int x2), (3, .int x3)], [], w) (fun v w' => v = some (.int r) ∧ m_RM S w' ∧ m_Fq w0 w') 0 0 4 400 := by
  intro n
  induction n with
  | zero => intro x1 x2 x3 S w r h hF h0; cases h0
  | succ n ih =>
    intro x1 x2 x3 S w r h hF h0
    rw [D_m_statusOf_19] at h0
    refine m_Rs.n0 b_302 (x_iload_n d_302_19 rfl) ?_
    refine m_Rs.n0 b_302 (x_aload_n d_302_20 rfl) ?_
    refine m_Rs.n0 b_302 (x_iload_n d_302_21 rfl) ?_
    refine m_Rs.n0 b_302 (x_bipush (z := 7) d_302_22 (by decide)) ?_
    obtain ⟨v7, e8, h0⟩ := bS h0
    refine m_Rs.callS b_302 (y_cv d_302_24 rfl q_282 (m_isRecv_of rfl h.1) (show m_takeI _ _ = some (_, [_, _, _], [_]) from rfl) (by simp only [m_okf, List.all_cons, List.all_nil, Bool.and_true, Bool.and_self, m_okv_i, m_okv_l, m_okv_0, m_okv_t, m_okv_at h.1]) rfl) (T_m_asks h e8) hF rfl (fun w1 h hF => ?_) (by decide) (by decide)
    cases hc9 : m_c2 .ge x3 v7 with
    | true =>
      have h0 := cT hc9 h0
      refine m_Rs.n0 b_302 (x_ict d_302_27 rfl hc9) ?_
      refine m_Rs.n0 b_302 (x_iload_n d_302_62 rfl) ?_
      cases hc10 : m_c1 .eq x2 with
      | true =>
        have h0 := cT hc10 h0
        refine m_Rs.n0 b_302 (x_ift d_302_63 rfl hc10) ?_
        refine m_Rs.n0 b_302 (x_aload_n d_302_70 rfl) ?_
        refine m_Rs.n0 b_302 (x_iload_n d_302_71 rfl) ?_
        refine m_Rs.n0 b_302 (x_aload_n d_302_72 rfl) ?_
        obtain ⟨v11, e12, h0⟩ := bS h0
        refine m_Rs.callS b_302 (y_cv d_302_73 rfl q_303 (m_isRecv_of rfl h.1) (show m_takeI _ _ = some (_, [_], [_, _]) from rfl) (by simp only [m_okf, List.all_cons, List.all_nil, Bool.and_true, Bool.and_self, m_okv_i, m_okv_l, m_okv_0, m_okv_t, m_okv_at h.1]) rfl) (T_m_nowTag h e12) hF rfl (fun w1 h hF => ?_) (by decide) (by decide)
        obtain ⟨v13, e14, h0⟩ := bS h0
        refine m_Rs.callS b_302 (y_cv d_302_76 rfl q_289 (m_isRecv_of rfl h.1) (show m_takeI _ _ = some (_, [_, _, _], []) from rfl) (by simp only [m_okf, List.all_cons, List.all_nil, Bool.and_true, Bool.and_self, m_okv_i, m_okv_l, m_okv_0, m_okv_t, m_okv_at h.1]) rfl) (T_m_rangeOf h e14) hF rfl (fun w1 h hF => ?_) (by decide) (by decide)
        cases hc15 : m_c1 .ne v13 with
        | true =>
          have h0 := cT hc15 h0
          refine m_Rs.n0 b_302 (x_ift d_302_79 rfl hc15) ?_
          refine m_Rs.n0 b_302 (x_aload_n d_302_86 rfl) ?_
          refine m_Rs.n0 b_302 (x_iload_n d_302_87 rfl) ?_
          refine m_Rs.n0 b_302 (x_aload_n d_302_88 rfl) ?_
          refine m_Rs.n0 b_302 (x_getf d_302_89 rfl h.1 rfl) ?_
          refine m_Rs.n0 b_302 (x_iconst (z := 1) d_302_92 (by decide)) ?_
          obtain ⟨v16, e17, h0⟩ := bS h0
          refine m_Rs.dget b_302 d_302_93 h 42 rfl e17 ?_
          refine m_Rs.n0 b_302 (x_aload_n d_302_94 rfl) ?_
          obtain ⟨v18, e19, h0⟩ := bS h0
          refine m_Rs.callS b_302 (y_cv d_302_95 rfl q_303 (m_isRecv_of rfl h.1) (show m_takeI _ _ = some (_, [_], [_, _, _]) from rfl) (by simp only [m_okf, List.all_cons, List.all_nil, Bool.and_true, Bool.and_self, m_okv_i, m_okv_l, m_okv_0, m_okv_t, m_okv_at h.1]) rfl) (T_m_nowTag h e19) hF rfl (fun w1 h hF => ?_) (by decide) (by decide)
          obtain ⟨v20, e21, h0⟩ := bS h0
          refine m_Rs.callS b_302 (y_cv d_302_98 rfl q_287 (m_isRecv_of rfl h.1) (show m_takeI _ _ = some (_, [_, _, _, _], []) from rfl) (by simp only [m_okf, List.all_cons, List.all_nil, Bool.and_true, Bool.and_self, m_okv_i, m_okv_l, m_okv_0, m_okv_t, m_okv_at h.1]) rfl) (T_m_hasBytes h e21) hF rfl (fun w1 h hF => ?_) (by decide) (by decide)
          obtain ⟨v25, e23, h0⟩ := bS h0
          have kk22 : ∀ (xz : Int32) (w1 : List mM), xz = v25 → m_RM S w1 → m_Fq w0 w1 → m_Rs l M_302 (113, [(0, .ref 583), (1, .int x1), (2, .int x2), (3, .int x3)], [.int xz], w1) (fun v w' => v = some (.int r) ∧ m_RM S w' ∧ m_Fq w0 w') 0 0 4 400 := by
            intro xz w ez h hF
            rw [ez]
            exact m_Rs.ret b_302 (m_rt_ir d_302_113 rfl rfl) (rI h0 h hF)
          cases hc24 : m_c1 .eq v20 with
          | true =>
            have e23 := cT hc24 e23
            refine m_Rs.n0 b_302 (x_ift d_302_101 rfl hc24) ?_
            refine m_Rs.n0 b_302 (x_sipush (z := 416) d_302_110 (by decide)) ?_
            exact kk22 _ _ (Option.some.inj e23) h hF
          | false =>
            have e23 := cF hc24 e23
            refine m_Rs.n0 b_302 (x_iff d_302_101 rfl hc24) ?_
            refine m_Rs.n0 b_302 (x_sipush (z := 206) d_302_104 (by decide)) ?_
            refine m_Rs.n0 b_302 (x_goto d_302_107 rfl) ?_
            exact kk22 _ _ (Option.some.inj e23) h hF
        | false =>
          have h0 := cF hc15 h0
          refine m_Rs.n0 b_302 (x_iff d_302_79 rfl hc15) ?_
          refine m_Rs.n0 b_302 (x_sipush (z := 200) d_302_82 (by decide)) ?_
          exact m_Rs.ret b_302 (m_rt_ir d_302_85 rfl rfl) (rI h0 h hF)
      | false =>
        have h0 := cF hc10 h0
        refine m_Rs.n0 b_302 (x_iff d_302_63 rfl hc10) ?_
        refine m_Rs.n0 b_302 (x_sipush (z := 304) d_302_66 (by decide)) ?_
        exact m_Rs.ret b_302 (m_rt_ir d_302_69 rfl rfl) (rI h0 h hF)
    | false =>
      have h0 := cF hc9 h0
      refine m_Rs.n0 b_302 (x_icf d_302_27 rfl hc9) ?_
      refine m_Rs.n0 b_302 (x_iload_n d_302_30 rfl) ?_
      obtain ⟨v34, e27, h0⟩ := bS h0
      have kk26 : ∀ (xz : Int32) (w1 : List mM), xz = v34 → m_RM S w1 → m_Fq w0 w1 → m_Rs l M_302 (55, [(0, .ref 583), (1, .int x1), (2, .int x2), (3, .int x3)], [.int xz], w1) (fun v w' => v = some (.int r) ∧ m_RM S w' ∧ m_Fq w0 w') 0 0 4 400 := by
        intro xz w ez h hF
        rw [ez]
        refine m_Rs.n0 b_302 (x_istore_n d_302_55 rfl (show m_put1 _ _ _ = [(2, _), (0, _), (1, _), (3, _)] from rfl)) ?_
        refine m_Rs.n0 b_302 (x_iinc d_302_56 rfl rfl rfl (show m_put1 _ _ _ = [(3, _), (2, _), (0, _), (1, _)] from rfl)) ?_
        refine m_Rs.n0 b_302 (x_goto d_302_59 rfl) ?_
        exact m_Rs.pick [2, 3, 1, 0] rfl (ih h hF h0)
      cases hc28 : m_c1 .ne x2 with
      | true =>
        have e27 := cT hc28 e27
        refine m_Rs.n0 b_302 (x_ift d_302_31 rfl hc28) ?_
        refine m_Rs.n0 b_302 (x_iconst (z := 1) d_302_50 (by decide)) ?_
        refine m_Rs.n0 b_302 (x_goto d_302_51 rfl) ?_
        exact kk26 _ _ (Option.some.inj e27) h hF
      | false =>
        have e27 := cF hc28 e27
        refine m_Rs.n0 b_302 (x_iff d_302_31 rfl hc28) ?_
        refine m_Rs.n0 b_302 (x_aload_n d_302_34 rfl) ?_
        refine m_Rs.n0 b_302 (x_iload_n d_302_35 rfl) ?_
        refine m_Rs.n0 b_302 (x_bipush (z := 8) d_302_36 (by decide)) ?_
        refine m_Rs.n0 b_302 (x_iload_n d_302_38 rfl) ?_
        refine m_Rs.n0 b_302 (x_iadd d_302_39 rfl) ?_
        obtain ⟨v29, e30, e27⟩ := bS e27
        refine m_Rs.callS b_302 (y_cv d_302_40 rfl q_282 (m_isRecv_of rfl h.1) (show m_takeI _ _ = some (_, [_, _, _], []) from rfl) (by simp only [m_okf, List.all_cons, List.all_nil, Bool.and_true, Bool.and_self, m_okv_i, m_okv_l, m_okv_0, m_okv_t, m_okv_at h.1]) rfl) (T_m_asks h e30) hF rfl (fun w1 h hF => ?_) (by decide) (by decide)
        refine m_Rs.n0 b_302 (x_aload_n d_302_43 rfl) ?_
        obtain ⟨v31, e32, e27⟩ := bS e27
        refine m_Rs.callS b_302 (y_cv d_302_44 rfl q_303 (m_isRecv_of rfl h.1) (show m_takeI _ _ = some (_, [_], [_]) from rfl) (by simp only [m_okf, List.all_cons, List.all_nil, Bool.and_true, Bool.and_self, m_okv_i, m_okv_l, m_okv_0, m_okv_t, m_okv_at h.1]) rfl) (T_m_nowTag h e32) hF rfl (fun w1 h hF => ?_) (by decide) (by decide)
        cases hc33 : m_c2 .ne v29 v31 with
        | true =>
          have e27 := cT hc33 e27
          refine m_Rs.n0 b_302 (x_ict d_302_47 rfl hc33) ?_
          refine m_Rs.n0 b_302 (x_iconst (z := 0) d_302_54 (by decide)) ?_
          exact kk26 _ _ (Option.some.inj e27) h hF
        | false =>
          have e27 := cF hc33 e27
          refine m_Rs.n0 b_302 (x_icf d_302_47 rfl hc33) ?_
          refine m_Rs.n0 b_302 (x_iconst (z := 1) d_302_50 (by decide)) ?_
          refine m_Rs.n0 b_302 (x_goto d_302_51 rfl) ?_
          exact kk26 _ _ (Option.some.inj e27) h hF
def D_m_statusOf (F : Nat) (a0 : Int32) (S : mS) : Option (Int32) := (D_m_asks F a0 (6 : Int32) S).bind fun v1 => (cond (m_c2 .ne v1 (1 : Int32)) (some (0 : Int32)) (some (1 : Int32))).bind fun v6 => D_m_statusOf_19 F F a0 v6 (0 : Int32) S
theorem T_m_statusOf {l : Launch} {w : List mM} {F : Nat} {a0 : Int32} {S : mS} {r : Int32} (h : m_RM S w) (h0 : D_m_statusOf F a0 S = some r) : m_Rs l M_302 (m_ent M_302 [.ref 583, .int a0] w) (fun v w' => v = some (.int r) ∧ m_RM S w' ∧ m_Fq w w') 0 0 4 400 := by
  show m_Rs l M_302 (0, [(0, .ref 583), (1, .int a0)], [], w) _ 0 0 4 400
  generalize hw0 : w = w0 at h ⊢
  have hF : m_Fq w0 w0 := m_Fq.refl
  rw [D_m_statusOf] at h0
  refine m_Rs.n0 b_302 (x_aload_n d_302_0 rfl) ?_
  refine m_Rs.n0 b_302 (x_iload_n d_302_1 rfl) ?_
  refine m_Rs.n0 b_302 (x_bipush (z := 6) d_302_2 (by decide)) ?_
  obtain ⟨v1, e2, h0⟩ := bS h0
  refine m_Rs.callS b_302 (y_cv d_302_4 rfl q_282 (m_isRecv_of rfl h.1) (show m_takeI _ _ = some (_, [_, _, _], []) from rfl) (by simp only [m_okf, List.all_cons, List.all_nil, Bool.and_true, Bool.and_self, m_okv_i, m_okv_l, m_okv_0, m_okv_t, m_okv_at h.1]) rfl) (T_m_asks h e2) hF rfl (fun w1 h hF => ?_) (by decide) (by decide)
  refine m_Rs.n0 b_302 (x_iconst (z := 1) d_302_7 (by decide)) ?_
  obtain ⟨v6, e4, h0⟩ := bS h0
  have kk3 : ∀ (xz : Int32) (w1 : List mM), xz = v6 → m_RM S w1 → m_Fq w0 w1 → m_Rs l M_302 (16, [(0, .ref 583), (1, .int a0)], [.int xz], w1) (fun v w' => v = some (.int r) ∧ m_RM S w' ∧ m_Fq w0 w') 0 0 4 400 := by
    intro xz w ez h hF
    rw [ez]
    refine m_Rs.n0 b_302 (x_istore_n d_302_16 rfl (show m_put1 _ _ _ = [(2, _), (0, _), (1, _)] from rfl)) ?_
    refine m_Rs.n0 b_302 (x_iconst (z := 0) d_302_17 (by decide)) ?_
    refine m_Rs.n0 b_302 (x_istore_n d_302_18 rfl (show m_put1 _ _ _ = [(3, _), (2, _), (0, _), (1, _)] from rfl)) ?_
    exact m_Rs.pick [2, 3, 1, 0] rfl (T_m_statusOf_19 F h hF h0)
  cases hc5 : m_c2 .ne v1 (1 : Int32) with
  | true =>
    have e4 := cT hc5 e4
    refine m_Rs.n0 b_302 (x_ict d_302_8 rfl hc5) ?_
    refine m_Rs.n0 b_302 (x_iconst (z := 0) d_302_15 (by decide)) ?_
    exact kk3 _ _ (Option.some.inj e4) h hF
  | false =>
    have e4 := cF hc5 e4
    refine m_Rs.n0 b_302 (x_icf d_302_8 rfl hc5) ?_
    refine m_Rs.n0 b_302 (x_iconst (z := 1) d_302_11 (by decide)) ?_
    refine m_Rs.n0 b_302 (x_goto d_302_12 rfl) ?_
    exact kk3 _ _ (Option.some.inj e4) h hF
def D_m_blank_3 (F : Nat) : Nat → Int32 → Int32 → Int32 → Int32 → Int32 → Int32 → mS → Option (mS)
  | 0, _, _, _, _, _, _, _ => none
  | n + 1, x1, x2, x3, x4, x5, x6, S => cond (m_c2 .ge x6 (22 : Int32)) ((aput 22 S 625 (0 : Int32) x1).bind fun S2 => (aput 22 S2 625 (1 : Int32) x2).bind fun S4 => (aput 22 S4 625 (2 : Int32) x3).bind fun S6 => (aput 22 S6 625 (3 : Int32) x4).bind fun S8 => (aput 22 S8 625 (4 : Int32) (x5 / (4 : Int32))).bind fun S10 => (aput 22 S10 625 (5 : Int32) (x5 - x5 / (4 : Int32) * (4 : Int32))).bind fun S12 => some S12) ((aput 22 S 625 x6 (0 : Int32)).bind fun S14 => D_m_blank_3 F n x1 x2 x3 x4 x5 (x6 + Int32.ofInt 1) S14)
theorem T_m_blank_3 {l : Launch} {w0 : List mM} {F : Nat} : ∀ (n : Nat) {x1 : Int32} {x2 : Int32} {x3 : Int32} {x4 : Int32} {x5 : Int32} {x6 : Int32} {S : mS} {w : List mM} {r : mS}, m_RM S w → m_Fq w0 w → D_m_blank_3 F n x1 x2 x3 x4 x5 x6 S = some r → m_Rs l M_304 (3, [(0, .ref 583), (1, .int x1), (2, .int x2), (3, .int x3), (4, .int x4), (5, .int x5), (6, .int x6)], [], w) (fun v w' => v = none ∧ m_RM r w' ∧ m_Fq w0 w') 0 0 0 0 := by
  intro n
  induction n with
  | zero => intro x1 x2 x3 x4 x5 x6 S w r h hF h0; cases h0
  | succ n ih =>
    intro x1 x2 x3 x4 x5 x6 S w r h hF h0
    rw [D_m_blank_3] at h0
    refine m_Rs.n0 b_304 (x_iload d_304_3 rfl) ?_
    refine m_Rs.n0 b_304 (x_bipush (z := 22) d_304_5 (by decide)) ?_
    cases hc1 : m_c2 .ge x6 (22 : Int32) with
    | true =>
      have h0 := cT hc1 h0
      refine m_Rs.n0 b_304 (x_ict d_304_7 rfl hc1) ?_
      refine m_Rs.n0 b_304 (x_aload_n d_304_24 rfl) ?_
      refine m_Rs.n0 b_304 (x_getf d_304_25 rfl h.1 rfl) ?_
      refine m_Rs.n0 b_304 (x_iconst (z := 0) d_304_28 (by decide)) ?_
      refine m_Rs.n0 b_304 (x_iload_n d_304_29 rfl) ?_
      obtain ⟨S2, e3, h0⟩ := bS h0
      refine m_Rs.dput b_304 d_304_30 h hF 41 rfl e3 (fun w1 h hF => ?_)
      refine m_Rs.n0 b_304 (x_aload_n d_304_31 rfl) ?_
      refine m_Rs.n0 b_304 (x_getf d_304_32 rfl h.1 rfl) ?_
      refine m_Rs.n0 b_304 (x_iconst (z := 1) d_304_35 (by decide)) ?_
      refine m_Rs.n0 b_304 (x_iload_n d_304_36 rfl) ?_
      obtain ⟨S4, e5, h0⟩ := bS h0
      refine m_Rs.dput b_304 d_304_37 h hF 41 rfl e5 (fun w1 h hF => ?_)
      refine m_Rs.n0 b_304 (x_aload_n d_304_38 rfl) ?_
      refine m_Rs.n0 b_304 (x_getf d_304_39 rfl h.1 rfl) ?_
      refine m_Rs.n0 b_304 (x_iconst (z := 2) d_304_42 (by decide)) ?_
      refine m_Rs.n0 b_304 (x_iload_n d_304_43 rfl) ?_
      obtain ⟨S6, e7, h0⟩ := bS h0
      refine m_Rs.dput b_304 d_304_44 h hF 41 rfl e7 (fun w1 h hF => ?_)
      refine m_Rs.n0 b_304 (x_aload_n d_304_45 rfl) ?_
      refine m_Rs.n0 b_304 (x_getf d_304_46 rfl h.1 rfl) ?_
      refine m_Rs.n0 b_304 (x_iconst (z := 3) d_304_49 (by decide)) ?_
      refine m_Rs.n0 b_304 (x_iload d_304_50 rfl) ?_
      obtain ⟨S8, e9, h0⟩ := bS h0
      refine m_Rs.dput b_304 d_304_52 h hF 41 rfl e9 (fun w1 h hF => ?_)
      refine m_Rs.n0 b_304 (x_aload_n d_304_53 rfl) ?_
      refine m_Rs.n0 b_304 (x_getf d_304_54 rfl h.1 rfl) ?_
      refine m_Rs.n0 b_304 (x_iconst (z := 4) d_304_57 (by decide)) ?_
      refine m_Rs.n0 b_304 (x_iload d_304_58 rfl) ?_
      refine m_Rs.n0 b_304 (x_iconst (z := 4) d_304_60 (by decide)) ?_
      refine m_Rs.n0 b_304 (x_idiv d_304_61 (by decide) rfl) ?_
      obtain ⟨S10, e11, h0⟩ := bS h0
      refine m_Rs.dput b_304 d_304_62 h hF 41 rfl e11 (fun w1 h hF => ?_)
      refine m_Rs.n0 b_304 (x_aload_n d_304_63 rfl) ?_
      refine m_Rs.n0 b_304 (x_getf d_304_64 rfl h.1 rfl) ?_
      refine m_Rs.n0 b_304 (x_iconst (z := 5) d_304_67 (by decide)) ?_
      refine m_Rs.n0 b_304 (x_iload d_304_68 rfl) ?_
      refine m_Rs.n0 b_304 (x_iconst (z := 4) d_304_70 (by decide)) ?_
      refine m_Rs.n0 b_304 (x_irem d_304_71 (by decide) rfl) ?_
      obtain ⟨S12, e13, h0⟩ := bS h0
      refine m_Rs.dput b_304 d_304_72 h hF 41 rfl e13 (fun w1 h hF => ?_)
      exact m_Rs.ret b_304 (m_rt_vr d_304_73 rfl) (rV h0 h hF)
    | false =>
      have h0 := cF hc1 h0
      refine m_Rs.n0 b_304 (x_icf d_304_7 rfl hc1) ?_
      refine m_Rs.n0 b_304 (x_aload_n d_304_10 rfl) ?_
      refine m_Rs.n0 b_304 (x_getf d_304_11 rfl h.1 rfl) ?_
      refine m_Rs.n0 b_304 (x_iload d_304_14 rfl) ?_
      refine m_Rs.n0 b_304 (x_iconst (z := 0) d_304_16 (by decide)) ?_
      obtain ⟨S14, e15, h0⟩ := bS h0
      refine m_Rs.dput b_304 d_304_17 h hF 41 rfl e15 (fun w1 h hF => ?_)
      refine m_Rs.n0 b_304 (x_iinc d_304_18 rfl rfl rfl (show m_put1 _ _ _ = [(6, _), (0, _), (1, _), (2, _), (3, _), (4, _), (5, _)] from rfl)) ?_
      refine m_Rs.n0 b_304 (x_goto d_304_21 rfl) ?_
      exact m_Rs.pick [1, 2, 3, 4, 5, 6, 0] rfl (ih h hF h0)
def D_m_blank (F : Nat) (a0 : Int32) (a1 : Int32) (a2 : Int32) (a3 : Int32) (a4 : Int32) (S : mS) : Option (mS) := D_m_blank_3 F F a0 a1 a2 a3 a4 (0 : Int32) S
theorem T_m_blank {l : Launch} {w : List mM} {F : Nat} {a0 : Int32} {a1 : Int32} {a2 : Int32} {a3 : Int32} {a4 : Int32} {S : mS} {r : mS} (h : m_RM S w) (h0 : D_m_blank F a0 a1 a2 a3 a4 S = some r) : m_Rs l M_304 (m_ent M_304 [.ref 583, .int a0, .int a1, .int a2, .int a3, .int a4] w) (fun v w' => v = none ∧ m_RM r w' ∧ m_Fq w w') 0 0 0 0 := by
  show m_Rs l M_304 (0, [(0, .ref 583), (1, .int a0), (2, .int a1), (3, .int a2), (4, .int a3), (5, .int a4)], [], w) _ 0 0 0 0
  generalize hw0 : w = w0 at h ⊢
  have hF : m_Fq w0 w0 := m_Fq.refl
  rw [D_m_blank] at h0
  refine m_Rs.n0 b_304 (x_iconst (z := 0) d_304_0 (by decide)) ?_
  refine m_Rs.n0 b_304 (x_istore d_304_1 rfl (show m_put1 _ _ _ = [(6, _), (0, _), (1, _), (2, _), (3, _), (4, _), (5, _)] from rfl)) ?_
  exact m_Rs.pick [1, 2, 3, 4, 5, 6, 0] rfl (T_m_blank_3 F h hF h0)
def D_m_post_22 (F : Nat) : Nat → Int32 → mS → Option (mS)
  | 0, _, _ => none
  | n + 1, x1, S => cond (m_c2 .ge x1 (22 : Int32)) ((fput S 77 ((S.1 77) + (1 : Int32))).bind fun S5 => some S5) ((aget 0 22 S 625 x1).bind fun v7 => (aput 2200 S 624 (((22 : Int32) * (S.1 77)) + x1) v7).bind fun S9 => D_m_post_22 F n (x1 + Int32.ofInt 1) S9)
theorem T_m_post_22 {l : Launch} {w0 : List mM} {F : Nat} : ∀ (n : Nat) {x1 : Int32} {S : mS} {w : List mM} {r : mS}, m_RM S w → m_Fq w0 w → D_m_post_22 F n x1 S = some r → m_Rs l M_305 (22, [(0, .ref 583), (1, .int x1)], [], w) (fun v w' => v = none ∧ m_RM r w' ∧ m_Fq w0 w') 0 0 0 0 := by
  intro n
  induction n with
  | zero => intro x1 S w r h hF h0; cases h0
  | succ n ih =>
    intro x1 S w r h hF h0
    rw [D_m_post_22] at h0
    refine m_Rs.n0 b_305 (x_iload_n d_305_22 rfl) ?_
    refine m_Rs.n0 b_305 (x_bipush (z := 22) d_305_23 (by decide)) ?_
    cases hc4 : m_c2 .ge x1 (22 : Int32) with
    | true =>
      have h0 := cT hc4 h0
      refine m_Rs.n0 b_305 (x_ict d_305_25 rfl hc4) ?_
      refine m_Rs.n0 b_305 (x_aload_n d_305_54 rfl) ?_
      refine m_Rs.n0 b_305 (x_dup d_305_55 rfl) ?_
      refine m_Rs.n0 b_305 (x_getf d_305_56 rfl h.1 rfl) ?_
      refine m_Rs.n0 b_305 (x_iconst (z := 1) d_305_59 (by decide)) ?_
      refine m_Rs.n0 b_305 (x_iadd d_305_60 rfl) ?_
      obtain ⟨S5, e6, h0⟩ := bS h0
      refine m_Rs.dfput b_305 d_305_61 h hF e6 rfl rfl rfl rfl rfl rfl (fun w1 h hF => ?_)
      exact m_Rs.ret b_305 (m_rt_vr d_305_64 rfl) (rV h0 h hF)
    | false =>
      have h0 := cF hc4 h0
      refine m_Rs.n0 b_305 (x_icf d_305_25 rfl hc4) ?_
      refine m_Rs.n0 b_305 (x_aload_n d_305_28 rfl) ?_
      refine m_Rs.n0 b_305 (x_getf d_305_29 rfl h.1 rfl) ?_
      refine m_Rs.n0 b_305 (x_bipush (z := 22) d_305_32 (by decide)) ?_
      refine m_Rs.n0 b_305 (x_aload_n d_305_34 rfl) ?_
      refine m_Rs.n0 b_305 (x_getf d_305_35 rfl h.1 rfl) ?_
      refine m_Rs.n0 b_305 (x_imul d_305_38 rfl) ?_
      refine m_Rs.n0 b_305 (x_iload_n d_305_39 rfl) ?_
      refine m_Rs.n0 b_305 (x_iadd d_305_40 rfl) ?_
      refine m_Rs.n0 b_305 (x_aload_n d_305_41 rfl) ?_
      refine m_Rs.n0 b_305 (x_getf d_305_42 rfl h.1 rfl) ?_
      refine m_Rs.n0 b_305 (x_iload_n d_305_45 rfl) ?_
      obtain ⟨v7, e8, h0⟩ := bS h0
      refine m_Rs.dget b_305 d_305_46 h 41 rfl e8 ?_
      obtain ⟨S9, e10, h0⟩ := bS h0
      refine m_Rs.dput b_305 d_305_47 h hF 40 rfl e10 (fun w1 h hF => ?_)
      refine m_Rs.n0 b_305 (x_iinc d_305_48 rfl rfl rfl (show m_put1 _ _ _ = [(1, _), (0, _)] from rfl)) ?_
      refine m_Rs.n0 b_305 (x_goto d_305_51 rfl) ?_
      exact m_Rs.pick [1, 0] rfl (ih h hF h0)
def D_m_post (F : Nat) (S : mS) : Option (mS) := cond (m_c2 .ne (S.1 77) (100 : Int32)) (D_m_post_22 F F (0 : Int32) S) ((fput S 39 ((S.1 39) + (1 : Int32))).bind fun S2 => some S2)
theorem T_m_post {l : Launch} {w : List mM} {F : Nat} {S : mS} {r : mS} (h : m_RM S w) (h0 : D_m_post F S = some r) : m_Rs l M_305 (m_ent M_305 [.ref 583] w) (fun v w' => v = none ∧ m_RM r w' ∧ m_Fq w w') 0 0 0 0 := by
  show m_Rs l M_305 (0, [(0, .ref 583)], [], w) _ 0 0 0 0
  generalize hw0 : w = w0 at h ⊢
  have hF : m_Fq w0 w0 := m_Fq.refl
  rw [D_m_post] at h0
  refine m_Rs.n0 b_305 (x_aload_n d_305_0 rfl) ?_
  refine m_Rs.n0 b_305 (x_getf d_305_1 rfl h.1 rfl) ?_
  refine m_Rs.n0 b_305 (x_bipush (z := 100) d_305_4 (by decide)) ?_
  cases hc1 : m_c2 .ne (S.1 77) (100 : Int32) with
  | true =>
    have h0 := cT hc1 h0
    refine m_Rs.n0 b_305 (x_ict d_305_6 rfl hc1) ?_
    refine m_Rs.n0 b_305 (x_iconst (z := 0) d_305_20 (by decide)) ?_
    refine m_Rs.n0 b_305 (x_istore_n d_305_21 rfl (show m_put1 _ _ _ = [(1, _), (0, _)] from rfl)) ?_
    exact m_Rs.pick [1, 0] rfl (T_m_post_22 F h hF h0)
  | false =>
    have h0 := cF hc1 h0
    refine m_Rs.n0 b_305 (x_icf d_305_6 rfl hc1) ?_
    refine m_Rs.n0 b_305 (x_aload_n d_305_9 rfl) ?_
    refine m_Rs.n0 b_305 (x_dup d_305_10 rfl) ?_
    refine m_Rs.n0 b_305 (x_getf d_305_11 rfl h.1 rfl) ?_
    refine m_Rs.n0 b_305 (x_iconst (z := 1) d_305_14 (by decide)) ?_
    refine m_Rs.n0 b_305 (x_iadd d_305_15 rfl) ?_
    obtain ⟨S2, e3, h0⟩ := bS h0
    refine m_Rs.dfput b_305 d_305_16 h hF e3 rfl rfl rfl rfl rfl rfl (fun w1 h hF => ?_)
    exact m_Rs.ret b_305 (m_rt_vr d_305_19 rfl) (rV h0 h hF)
def D_m_give_209 (F : Nat) : Nat → Int32 → mS → Option (mS)
  | 0, _, _ => none
  | n + 1, x5, S => cond (m_c2 .ge x5 (9 : Int32)) ((D_m_post F S).bind fun S57 => some S57) ((aget 0 9 S 626 x5).bind fun v59 => (aput 22 S 625 ((12 : Int32) + x5) v59).bind fun S61 => D_m_give_209 F n (x5 + Int32.ofInt 1) S61)
theorem T_m_give_209 {l : Launch} {w0 : List mM} {F : Nat} : ∀ (n : Nat) {x5 : Int32} {S : mS} {w : List mM} {r : mS}, m_RM S w → m_Fq w0 w → D_m_give_209 F n x5 S = some r → m_Rs l M_301 (209, [(0, .ref 583), (5, .int x5)], [], w) (fun v w' => v = none ∧ m_RM r w' ∧ m_Fq w0 w') 0 0 5 500 := by
  intro n
  induction n with
  | zero => intro x5 S w r h hF h0; cases h0
  | succ n ih =>
    intro x5 S w r h hF h0
    rw [D_m_give_209] at h0
    refine m_Rs.n0 b_301 (x_iload d_301_209 rfl) ?_
    refine m_Rs.n0 b_301 (x_bipush (z := 9) d_301_211 (by decide)) ?_
    cases hc56 : m_c2 .ge x5 (9 : Int32) with
    | true =>
      have h0 := cT hc56 h0
      refine m_Rs.n0 b_301 (x_ict d_301_213 rfl hc56) ?_
      refine m_Rs.n0 b_301 (x_aload_n d_301_239 rfl) ?_
      obtain ⟨S57, e58, h0⟩ := bS h0
      refine m_Rs.callSv b_301 (y_cv d_301_240 rfl q_305 (m_isRecv_of rfl h.1) (show m_takeI _ _ = some (_, [_], []) from rfl) (by simp only [m_okf, List.all_cons, List.all_nil, Bool.and_true, Bool.and_self, m_okv_i, m_okv_l, m_okv_0, m_okv_t, m_okv_at h.1]) rfl) (T_m_post h e58) hF rfl (fun w1 h hF => ?_) (by decide) (by decide)
      exact m_Rs.ret b_301 (m_rt_vr d_301_243 rfl) (rV h0 h hF)
    | false =>
      have h0 := cF hc56 h0
      refine m_Rs.n0 b_301 (x_icf d_301_213 rfl hc56) ?_
      refine m_Rs.n0 b_301 (x_aload_n d_301_216 rfl) ?_
      refine m_Rs.n0 b_301 (x_getf d_301_217 rfl h.1 rfl) ?_
      refine m_Rs.n0 b_301 (x_bipush (z := 12) d_301_220 (by decide)) ?_
      refine m_Rs.n0 b_301 (x_iload d_301_222 rfl) ?_
      refine m_Rs.n0 b_301 (x_iadd d_301_224 rfl) ?_
      refine m_Rs.n0 b_301 (x_aload_n d_301_225 rfl) ?_
      refine m_Rs.n0 b_301 (x_getf d_301_226 rfl h.1 rfl) ?_
      refine m_Rs.n0 b_301 (x_iload d_301_229 rfl) ?_
      obtain ⟨v59, e60, h0⟩ := bS h0
      refine m_Rs.dget b_301 d_301_231 h 42 rfl e60 ?_
      obtain ⟨S61, e62, h0⟩ := bS h0
      refine m_Rs.dput b_301 d_301_232 h hF 41 rfl e62 (fun w1 h hF => ?_)
      refine m_Rs.n0 b_301 (x_iinc d_301_233 rfl rfl rfl (show m_put1 _ _ _ = [(5, _), (0, _)] from rfl)) ?_
      refine m_Rs.n0 b_301 (x_goto d_301_236 rfl) ?_
      exact m_Rs.pick [1, 0] rfl (ih h hF h0)
def D_m_give (F : Nat) (a0 : Int32) (a1 : Int32) (S : mS) : Option (mS) := (aget 0 48000 S 622 (a0 + (2 : Int32))).bind fun v1 => cond (m_c2 .eq v1 ((-1) : Int32)) ((aget 0 48000 S 622 a0).bind fun v4 => (aget 0 48000 S 622 (a0 + (3 : Int32))).bind fun v6 => (aget 0 48000 S 622 (a0 + (4 : Int32))).bind fun v8 => (aget 0 48000 S 622 (a0 + (1 : Int32))).bind fun v10 => (D_m_blank F (1 : Int32) v4 v6 v8 v10 S).bind fun S12 => (aget 0 48000 S12 622 (a0 + (9 : Int32))).bind fun v14 => (aget 0 9 S12 626 (0 : Int32)).bind fun v16 => (cond (m_c2 .ne v14 v16) (some (0 : Int32)) (some (1 : Int32))).bind fun v21 => (cond (m_c1 .eq v21) (some (200 : Int32)) (some (304 : Int32))).bind fun v25 => (aput 22 S12 625 (6 : Int32) v25).bind fun S26 => (aget 0 9 S26 626 (0 : Int32)).bind fun v28 => (aput 22 S26 625 (7 : Int32) v28).bind fun S30 => (aput 22 S30 625 (8 : Int32) (S30.1 84)).bind fun S32 => (aput 22 S32 625 (10 : Int32) ((S32.1 85) - (S32.1 36))).bind fun S34 => (cond (m_c1 .eq v21) ((aget 0 48000 S34 622 (a0 + (5 : Int32))).bind fun v39 => (aget 0 48000 S34 622 (a0 + (6 : Int32))).bind fun v41 => (aget 0 9 S34 626 (1 : Int32)).bind fun v43 => (D_m_span F v39 v41 v43 S34).bind fun v45 => some ((S34.1 86) &&& v45)) (some (0 : Int32))).bind fun v47 => (aput 22 S34 625 (11 : Int32) v47).bind fun S48 => (aput 22 S48 625 (21 : Int32) (S48.1 87)).bind fun S50 => D_m_give_209 F F (0 : Int32) S50) ((D_m_statusOf F v1 S).bind fun v52 => (D_m_close F v1 v52 a1 (1 : Int32) S).bind fun S54 => some S54)
theorem T_m_give {l : Launch} {w : List mM} {F : Nat} {a0 : Int32} {a1 : Int32} {S : mS} {r : mS} (h : m_RM S w) (h0 : D_m_give F a0 a1 S = some r) : m_Rs l M_301 (m_ent M_301 [.ref 583, .int a0, .int a1] w) (fun v w' => v = none ∧ m_RM r w' ∧ m_Fq w w') 0 0 5 500 := by
  show m_Rs l M_301 (0, [(0, .ref 583), (1, .int a0), (2, .int a1)], [], w) _ 0 0 5 500
  generalize hw0 : w = w0 at h ⊢
  have hF : m_Fq w0 w0 := m_Fq.refl
  rw [D_m_give] at h0
  refine m_Rs.n0 b_301 (x_aload_n d_301_0 rfl) ?_
  refine m_Rs.n0 b_301 (x_getf d_301_1 rfl h.1 rfl) ?_
  refine m_Rs.n0 b_301 (x_iload_n d_301_4 rfl) ?_
  refine m_Rs.n0 b_301 (x_iconst (z := 2) d_301_5 (by decide)) ?_
  refine m_Rs.n0 b_301 (x_iadd d_301_6 rfl) ?_
  obtain ⟨v1, e2, h0⟩ := bS h0
  refine m_Rs.dget b_301 d_301_7 h 38 rfl e2 ?_
  refine m_Rs.n0 b_301 (x_istore_n d_301_8 rfl (show m_put1 _ _ _ = [(3, _), (0, _), (1, _), (2, _)] from rfl)) ?_
  refine m_Rs.n0 b_301 (x_iload_n d_301_9 rfl) ?_
  refine m_Rs.n0 b_301 (x_iconst (z := (-1)) d_301_10 (by decide)) ?_
  cases hc3 : m_c2 .eq v1 ((-1) : Int32) with
  | true =>
    have h0 := cT hc3 h0
    refine m_Rs.n0 b_301 (x_ict d_301_11 rfl hc3) ?_
    refine m_Rs.n0 b_301 (x_aload_n d_301_27 rfl) ?_
    refine m_Rs.n0 b_301 (x_iconst (z := 1) d_301_28 (by decide)) ?_
    refine m_Rs.n0 b_301 (x_aload_n d_301_29 rfl) ?_
    refine m_Rs.n0 b_301 (x_getf d_301_30 rfl h.1 rfl) ?_
    refine m_Rs.n0 b_301 (x_iload_n d_301_33 rfl) ?_
    obtain ⟨v4, e5, h0⟩ := bS h0
    refine m_Rs.dget b_301 d_301_34 h 38 rfl e5 ?_
    refine m_Rs.n0 b_301 (x_aload_n d_301_35 rfl) ?_
    refine m_Rs.n0 b_301 (x_getf d_301_36 rfl h.1 rfl) ?_
    refine m_Rs.n0 b_301 (x_iload_n d_301_39 rfl) ?_
    refine m_Rs.n0 b_301 (x_iconst (z := 3) d_301_40 (by decide)) ?_
    refine m_Rs.n0 b_301 (x_iadd d_301_41 rfl) ?_
    obtain ⟨v6, e7, h0⟩ := bS h0
    refine m_Rs.dget b_301 d_301_42 h 38 rfl e7 ?_
    refine m_Rs.n0 b_301 (x_aload_n d_301_43 rfl) ?_
    refine m_Rs.n0 b_301 (x_getf d_301_44 rfl h.1 rfl) ?_
    refine m_Rs.n0 b_301 (x_iload_n d_301_47 rfl) ?_
    refine m_Rs.n0 b_301 (x_iconst (z := 4) d_301_48 (by decide)) ?_
    refine m_Rs.n0 b_301 (x_iadd d_301_49 rfl) ?_
    obtain ⟨v8, e9, h0⟩ := bS h0
    refine m_Rs.dget b_301 d_301_50 h 38 rfl e9 ?_
    refine m_Rs.n0 b_301 (x_aload_n d_301_51 rfl) ?_
    refine m_Rs.n0 b_301 (x_getf d_301_52 rfl h.1 rfl) ?_
    refine m_Rs.n0 b_301 (x_iload_n d_301_55 rfl) ?_
    refine m_Rs.n0 b_301 (x_iconst (z := 1) d_301_56 (by decide)) ?_
    refine m_Rs.n0 b_301 (x_iadd d_301_57 rfl) ?_
    obtain ⟨v10, e11, h0⟩ := bS h0
    refine m_Rs.dget b_301 d_301_58 h 38 rfl e11 ?_
    obtain ⟨S12, e13, h0⟩ := bS h0
    refine m_Rs.callSv b_301 (y_cv d_301_59 rfl q_304 (m_isRecv_of rfl h.1) (show m_takeI _ _ = some (_, [_, _, _, _, _, _], []) from rfl) (by simp only [m_okf, List.all_cons, List.all_nil, Bool.and_true, Bool.and_self, m_okv_i, m_okv_l, m_okv_0, m_okv_t, m_okv_at h.1]) rfl) (T_m_blank h e13) hF rfl (fun w1 h hF => ?_) (by decide) (by decide)
    refine m_Rs.n0 b_301 (x_aload_n d_301_62 rfl) ?_
    refine m_Rs.n0 b_301 (x_getf d_301_63 rfl h.1 rfl) ?_
    refine m_Rs.n0 b_301 (x_iload_n d_301_66 rfl) ?_
    refine m_Rs.n0 b_301 (x_bipush (z := 9) d_301_67 (by decide)) ?_
    refine m_Rs.n0 b_301 (x_iadd d_301_69 rfl) ?_
    obtain ⟨v14, e15, h0⟩ := bS h0
    refine m_Rs.dget b_301 d_301_70 h 38 rfl e15 ?_
    refine m_Rs.n0 b_301 (x_aload_n d_301_71 rfl) ?_
    refine m_Rs.n0 b_301 (x_getf d_301_72 rfl h.1 rfl) ?_
    refine m_Rs.n0 b_301 (x_iconst (z := 0) d_301_75 (by decide)) ?_
    obtain ⟨v16, e17, h0⟩ := bS h0
    refine m_Rs.dget b_301 d_301_76 h 42 rfl e17 ?_
    obtain ⟨v21, e19, h0⟩ := bS h0
    have kk18 : ∀ (xz : Int32) (w1 : List mM), xz = v21 → m_RM S12 w1 → m_Fq w0 w1 → m_Rs l M_301 (85, [(3, .int v1), (0, .ref 583), (1, .int a0), (2, .int a1)], [.int xz], w1) (fun v w' => v = none ∧ m_RM r w' ∧ m_Fq w0 w') 0 0 5 500 := by
      intro xz w ez h hF
      rw [ez]
      refine m_Rs.n0 b_301 (x_istore d_301_85 rfl (show m_put1 _ _ _ = [(4, _), (3, _), (0, _), (1, _), (2, _)] from rfl)) ?_
      refine m_Rs.n0 b_301 (x_aload_n d_301_87 rfl) ?_
      refine m_Rs.n0 b_301 (x_getf d_301_88 rfl h.1 rfl) ?_
      refine m_Rs.n0 b_301 (x_bipush (z := 6) d_301_91 (by decide)) ?_
      refine m_Rs.n0 b_301 (x_iload d_301_93 rfl) ?_
      obtain ⟨v25, e23, h0⟩ := bS h0
      have kk22 : ∀ (xz : Int32) (w1 : List mM), xz = v25 → m_RM S12 w1 → m_Fq w0 w1 → m_Rs l M_301 (107, [(4, .int v21), (3, .int v1), (0, .ref 583), (1, .int a0), (2, .int a1)], [.int xz, .int (6 : Int32), .ref 625], w1) (fun v w' => v = none ∧ m_RM r w' ∧ m_Fq w0 w') 0 0 5 500 := by
        intro xz w ez h hF
        rw [ez]
        obtain ⟨S26, e27, h0⟩ := bS h0
        refine m_Rs.dput b_301 d_301_107 h hF 41 rfl e27 (fun w1 h hF => ?_)
        refine m_Rs.n0 b_301 (x_aload_n d_301_108 rfl) ?_
        refine m_Rs.n0 b_301 (x_getf d_301_109 rfl h.1 rfl) ?_
        refine m_Rs.n0 b_301 (x_bipush (z := 7) d_301_112 (by decide)) ?_
        refine m_Rs.n0 b_301 (x_aload_n d_301_114 rfl) ?_
        refine m_Rs.n0 b_301 (x_getf d_301_115 rfl h.1 rfl) ?_
        refine m_Rs.n0 b_301 (x_iconst (z := 0) d_301_118 (by decide)) ?_
        obtain ⟨v28, e29, h0⟩ := bS h0
        refine m_Rs.dget b_301 d_301_119 h 42 rfl e29 ?_
        obtain ⟨S30, e31, h0⟩ := bS h0
        refine m_Rs.dput b_301 d_301_120 h hF 41 rfl e31 (fun w1 h hF => ?_)
        refine m_Rs.n0 b_301 (x_aload_n d_301_121 rfl) ?_
        refine m_Rs.n0 b_301 (x_getf d_301_122 rfl h.1 rfl) ?_
        refine m_Rs.n0 b_301 (x_bipush (z := 8) d_301_125 (by decide)) ?_
        refine m_Rs.n0 b_301 (x_aload_n d_301_127 rfl) ?_
        refine m_Rs.n0 b_301 (x_getf d_301_128 rfl h.1 rfl) ?_
        obtain ⟨S32, e33, h0⟩ := bS h0
        refine m_Rs.dput b_301 d_301_131 h hF 41 rfl e33 (fun w1 h hF => ?_)
        refine m_Rs.n0 b_301 (x_aload_n d_301_132 rfl) ?_
        refine m_Rs.n0 b_301 (x_getf d_301_133 rfl h.1 rfl) ?_
        refine m_Rs.n0 b_301 (x_bipush (z := 10) d_301_136 (by decide)) ?_
        refine m_Rs.n0 b_301 (x_aload_n d_301_138 rfl) ?_
        refine m_Rs.n0 b_301 (x_getf d_301_139 rfl h.1 rfl) ?_
        refine m_Rs.n0 b_301 (x_aload_n d_301_142 rfl) ?_
        refine m_Rs.n0 b_301 (x_getf d_301_143 rfl h.1 rfl) ?_
        refine m_Rs.n0 b_301 (x_isub d_301_146 rfl) ?_
        obtain ⟨S34, e35, h0⟩ := bS h0
        refine m_Rs.dput b_301 d_301_147 h hF 41 rfl e35 (fun w1 h hF => ?_)
        refine m_Rs.n0 b_301 (x_aload_n d_301_148 rfl) ?_
        refine m_Rs.n0 b_301 (x_getf d_301_149 rfl h.1 rfl) ?_
        refine m_Rs.n0 b_301 (x_bipush (z := 11) d_301_152 (by decide)) ?_
        refine m_Rs.n0 b_301 (x_iload d_301_154 rfl) ?_
        obtain ⟨v47, e37, h0⟩ := bS h0
        have kk36 : ∀ (xz : Int32) (w1 : List mM), xz = v47 → m_RM S34 w1 → m_Fq w0 w1 → m_Rs l M_301 (194, [(4, .int v21), (3, .int v1), (0, .ref 583), (1, .int a0), (2, .int a1)], [.int xz, .int (11 : Int32), .ref 625], w1) (fun v w' => v = none ∧ m_RM r w' ∧ m_Fq w0 w') 0 0 5 500 := by
          intro xz w ez h hF
          rw [ez]
          obtain ⟨S48, e49, h0⟩ := bS h0
          refine m_Rs.dput b_301 d_301_194 h hF 41 rfl e49 (fun w1 h hF => ?_)
          refine m_Rs.n0 b_301 (x_aload_n d_301_195 rfl) ?_
          refine m_Rs.n0 b_301 (x_getf d_301_196 rfl h.1 rfl) ?_
          refine m_Rs.n0 b_301 (x_bipush (z := 21) d_301_199 (by decide)) ?_
          refine m_Rs.n0 b_301 (x_aload_n d_301_201 rfl) ?_
          refine m_Rs.n0 b_301 (x_getf d_301_202 rfl h.1 rfl) ?_
          obtain ⟨S50, e51, h0⟩ := bS h0
          refine m_Rs.dput b_301 d_301_205 h hF 41 rfl e51 (fun w1 h hF => ?_)
          refine m_Rs.n0 b_301 (x_iconst (z := 0) d_301_206 (by decide)) ?_
          refine m_Rs.n0 b_301 (x_istore d_301_207 rfl (show m_put1 _ _ _ = [(5, _), (4, _), (3, _), (0, _), (1, _), (2, _)] from rfl)) ?_
          exact m_Rs.pick [3, 0] rfl (T_m_give_209 F h hF h0)
        cases hc38 : m_c1 .eq v21 with
        | true =>
          have e37 := cT hc38 e37
          refine m_Rs.n0 b_301 (x_ift d_301_156 rfl hc38) ?_
          refine m_Rs.n0 b_301 (x_aload_n d_301_163 rfl) ?_
          refine m_Rs.n0 b_301 (x_getf d_301_164 rfl h.1 rfl) ?_
          refine m_Rs.n0 b_301 (x_aload_n d_301_167 rfl) ?_
          refine m_Rs.n0 b_301 (x_getf d_301_168 rfl h.1 rfl) ?_
          refine m_Rs.n0 b_301 (x_iload_n d_301_171 rfl) ?_
          refine m_Rs.n0 b_301 (x_iconst (z := 5) d_301_172 (by decide)) ?_
          refine m_Rs.n0 b_301 (x_iadd d_301_173 rfl) ?_
          obtain ⟨v39, e40, e37⟩ := bS e37
          refine m_Rs.dget b_301 d_301_174 h 38 rfl e40 ?_
          refine m_Rs.n0 b_301 (x_aload_n d_301_175 rfl) ?_
          refine m_Rs.n0 b_301 (x_getf d_301_176 rfl h.1 rfl) ?_
          refine m_Rs.n0 b_301 (x_iload_n d_301_179 rfl) ?_
          refine m_Rs.n0 b_301 (x_bipush (z := 6) d_301_180 (by decide)) ?_
          refine m_Rs.n0 b_301 (x_iadd d_301_182 rfl) ?_
          obtain ⟨v41, e42, e37⟩ := bS e37
          refine m_Rs.dget b_301 d_301_183 h 38 rfl e42 ?_
          refine m_Rs.n0 b_301 (x_aload_n d_301_184 rfl) ?_
          refine m_Rs.n0 b_301 (x_getf d_301_185 rfl h.1 rfl) ?_
          refine m_Rs.n0 b_301 (x_iconst (z := 1) d_301_188 (by decide)) ?_
          obtain ⟨v43, e44, e37⟩ := bS e37
          refine m_Rs.dget b_301 d_301_189 h 42 rfl e44 ?_
          obtain ⟨v45, e46, e37⟩ := bS e37
          refine m_Rs.callS b_301 (y_cs d_301_190 rfl q_286 (show m_takeS _ _ = some (_, [_, _, _], [_, _, _]) from rfl) (by simp only [m_okf, List.all_cons, List.all_nil, Bool.and_true, Bool.and_self, m_okv_i, m_okv_l, m_okv_0, m_okv_t, m_okv_at h.1, m_okv_at (h.a 41 rfl)]) rfl) (T_m_span h e46) hF rfl (fun w1 h hF => ?_) (by decide) (by decide)
          refine m_Rs.n0 b_301 (x_iand d_301_193 rfl) ?_
          exact kk36 _ _ (Option.some.inj e37) h hF
        | false =>
          have e37 := cF hc38 e37
          refine m_Rs.n0 b_301 (x_iff d_301_156 rfl hc38) ?_
          refine m_Rs.n0 b_301 (x_iconst (z := 0) d_301_159 (by decide)) ?_
          refine m_Rs.n0 b_301 (x_goto d_301_160 rfl) ?_
          exact kk36 _ _ (Option.some.inj e37) h hF
      cases hc24 : m_c1 .eq v21 with
      | true =>
        have e23 := cT hc24 e23
        refine m_Rs.n0 b_301 (x_ift d_301_95 rfl hc24) ?_
        refine m_Rs.n0 b_301 (x_sipush (z := 200) d_301_104 (by decide)) ?_
        exact kk22 _ _ (Option.some.inj e23) h hF
      | false =>
        have e23 := cF hc24 e23
        refine m_Rs.n0 b_301 (x_iff d_301_95 rfl hc24) ?_
        refine m_Rs.n0 b_301 (x_sipush (z := 304) d_301_98 (by decide)) ?_
        refine m_Rs.n0 b_301 (x_goto d_301_101 rfl) ?_
        exact kk22 _ _ (Option.some.inj e23) h hF
    cases hc20 : m_c2 .ne v14 v16 with
    | true =>
      have e19 := cT hc20 e19
      refine m_Rs.n0 b_301 (x_ict d_301_77 rfl hc20) ?_
      refine m_Rs.n0 b_301 (x_iconst (z := 0) d_301_84 (by decide)) ?_
      exact kk18 _ _ (Option.some.inj e19) h hF
    | false =>
      have e19 := cF hc20 e19
      refine m_Rs.n0 b_301 (x_icf d_301_77 rfl hc20) ?_
      refine m_Rs.n0 b_301 (x_iconst (z := 1) d_301_80 (by decide)) ?_
      refine m_Rs.n0 b_301 (x_goto d_301_81 rfl) ?_
      exact kk18 _ _ (Option.some.inj e19) h hF
  | false =>
    have h0 := cF hc3 h0
    refine m_Rs.n0 b_301 (x_icf d_301_11 rfl hc3) ?_
    refine m_Rs.n0 b_301 (x_aload_n d_301_14 rfl) ?_
    refine m_Rs.n0 b_301 (x_iload_n d_301_15 rfl) ?_
    refine m_Rs.n0 b_301 (x_aload_n d_301_16 rfl) ?_
    refine m_Rs.n0 b_301 (x_iload_n d_301_17 rfl) ?_
    obtain ⟨v52, e53, h0⟩ := bS h0
    refine m_Rs.callS b_301 (y_cv d_301_18 rfl q_302 (m_isRecv_of rfl h.1) (show m_takeI _ _ = some (_, [_, _], [_, _]) from rfl) (by simp only [m_okf, List.all_cons, List.all_nil, Bool.and_true, Bool.and_self, m_okv_i, m_okv_l, m_okv_0, m_okv_t, m_okv_at h.1]) rfl) (T_m_statusOf h e53) hF rfl (fun w1 h hF => ?_) (by decide) (by decide)
    refine m_Rs.n0 b_301 (x_iload_n d_301_21 rfl) ?_
    refine m_Rs.n0 b_301 (x_iconst (z := 1) d_301_22 (by decide)) ?_
    obtain ⟨S54, e55, h0⟩ := bS h0
    refine m_Rs.callSv b_301 (y_cv d_301_23 rfl q_270 (m_isRecv_of rfl h.1) (show m_takeI _ _ = some (_, [_, _, _, _, _], []) from rfl) (by simp only [m_okf, List.all_cons, List.all_nil, Bool.and_true, Bool.and_self, m_okv_i, m_okv_l, m_okv_0, m_okv_t, m_okv_at h.1]) rfl) (T_m_close h e55) hF rfl (fun w1 h hF => ?_) (by decide) (by decide)
    exact m_Rs.ret b_301 (m_rt_vr d_301_26 rfl) (rV h0 h hF)
def D_m_serve_3 (F : Nat) : Nat → Int32 → Int32 → Int32 → Int32 → mS → Option (mS)
  | 0, _, _, _, _, _ => none
  | n + 1, x1, x2, x3, x4, S => cond (m_c2 .ge x4 (9 : Int32)) ((fput S 87 (x2 - x2 / (8 : Int32) * (8 : Int32))).bind fun S2 => (aget 0 7168 S2 604 x2).bind fun v4 => (fput S2 84 v4).bind fun S6 => (D_m_ageOf F x2 S6).bind fun v8 => (fput S6 85 v8).bind fun S10 => (aget 0 7168 S10 607 x2).bind fun v12 => (fput S10 86 v12).bind fun S14 => (D_m_give F x1 x3 S14).bind fun S16 => some S16) ((D_m_told F x2 x4 S).bind fun v18 => (aput 9 S 626 x4 v18).bind fun S20 => D_m_serve_3 F n x1 x2 x3 (x4 + Int32.ofInt 1) S20)
theorem T_m_serve_3 {l : Launch} {w0 : List mM} {F : Nat} : ∀ (n : Nat) {x1 : Int32} {x2 : Int32} {x3 : Int32} {x4 : Int32} {S : mS} {w : List mM} {r : mS}, m_RM S w → m_Fq w0 w → D_m_serve_3 F n x1 x2 x3 x4 S = some r → m_Rs l M_300 (3, [(0, .ref 583), (1, .int x1), (2, .int x2), (3, .int x3), (4, .int x4)], [], w) (fun v w' => v = none ∧ m_RM r w' ∧ m_Fq w0 w') 0 0 6 600 := by
  intro n
  induction n with
  | zero => intro x1 x2 x3 x4 S w r h hF h0; cases h0
  | succ n ih =>
    intro x1 x2 x3 x4 S w r h hF h0
    rw [D_m_serve_3] at h0
    refine m_Rs.n0 b_300 (x_iload d_300_3 rfl) ?_
    refine m_Rs.n0 b_300 (x_bipush (z := 9) d_300_5 (by decide)) ?_
    cases hc1 : m_c2 .ge x4 (9 : Int32) with
    | true =>
      have h0 := cT hc1 h0
      refine m_Rs.n0 b_300 (x_ict d_300_7 rfl hc1) ?_
      refine m_Rs.n0 b_300 (x_aload_n d_300_30 rfl) ?_
      refine m_Rs.n0 b_300 (x_iload_n d_300_31 rfl) ?_
      refine m_Rs.n0 b_300 (x_bipush (z := 8) d_300_32 (by decide)) ?_
      refine m_Rs.n0 b_300 (x_irem d_300_34 (by decide) rfl) ?_
      obtain ⟨S2, e3, h0⟩ := bS h0
      refine m_Rs.dfput b_300 d_300_35 h hF e3 rfl rfl rfl rfl rfl rfl (fun w1 h hF => ?_)
      refine m_Rs.n0 b_300 (x_aload_n d_300_38 rfl) ?_
      refine m_Rs.n0 b_300 (x_aload_n d_300_39 rfl) ?_
      refine m_Rs.n0 b_300 (x_getf d_300_40 rfl h.1 rfl) ?_
      refine m_Rs.n0 b_300 (x_iload_n d_300_43 rfl) ?_
      obtain ⟨v4, e5, h0⟩ := bS h0
      refine m_Rs.dget b_300 d_300_44 h 20 rfl e5 ?_
      obtain ⟨S6, e7, h0⟩ := bS h0
      refine m_Rs.dfput b_300 d_300_45 h hF e7 rfl rfl rfl rfl rfl rfl (fun w1 h hF => ?_)
      refine m_Rs.n0 b_300 (x_aload_n d_300_48 rfl) ?_
      refine m_Rs.n0 b_300 (x_aload_n d_300_49 rfl) ?_
      refine m_Rs.n0 b_300 (x_iload_n d_300_50 rfl) ?_
      obtain ⟨v8, e9, h0⟩ := bS h0
      refine m_Rs.callS b_300 (y_cv d_300_51 rfl q_292 (m_isRecv_of rfl h.1) (show m_takeI _ _ = some (_, [_, _], [_]) from rfl) (by simp only [m_okf, List.all_cons, List.all_nil, Bool.and_true, Bool.and_self, m_okv_i, m_okv_l, m_okv_0, m_okv_t, m_okv_at h.1]) rfl) (T_m_ageOf h e9) hF rfl (fun w1 h hF => ?_) (by decide) (by decide)
      obtain ⟨S10, e11, h0⟩ := bS h0
      refine m_Rs.dfput b_300 d_300_54 h hF e11 rfl rfl rfl rfl rfl rfl (fun w1 h hF => ?_)
      refine m_Rs.n0 b_300 (x_aload_n d_300_57 rfl) ?_
      refine m_Rs.n0 b_300 (x_aload_n d_300_58 rfl) ?_
      refine m_Rs.n0 b_300 (x_getf d_300_59 rfl h.1 rfl) ?_
      refine m_Rs.n0 b_300 (x_iload_n d_300_62 rfl) ?_
      obtain ⟨v12, e13, h0⟩ := bS h0
      refine m_Rs.dget b_300 d_300_63 h 23 rfl e13 ?_
      obtain ⟨S14, e15, h0⟩ := bS h0
      refine m_Rs.dfput b_300 d_300_64 h hF e15 rfl rfl rfl rfl rfl rfl (fun w1 h hF => ?_)
      refine m_Rs.n0 b_300 (x_aload_n d_300_67 rfl) ?_
      refine m_Rs.n0 b_300 (x_iload_n d_300_68 rfl) ?_
      refine m_Rs.n0 b_300 (x_iload_n d_300_69 rfl) ?_
      obtain ⟨S16, e17, h0⟩ := bS h0
      refine m_Rs.callSv b_300 (y_cv d_300_70 rfl q_301 (m_isRecv_of rfl h.1) (show m_takeI _ _ = some (_, [_, _, _], []) from rfl) (by simp only [m_okf, List.all_cons, List.all_nil, Bool.and_true, Bool.and_self, m_okv_i, m_okv_l, m_okv_0, m_okv_t, m_okv_at h.1]) rfl) (T_m_give h e17) hF rfl (fun w1 h hF => ?_) (by decide) (by decide)
      exact m_Rs.ret b_300 (m_rt_vr d_300_73 rfl) (rV h0 h hF)
    | false =>
      have h0 := cF hc1 h0
      refine m_Rs.n0 b_300 (x_icf d_300_7 rfl hc1) ?_
      refine m_Rs.n0 b_300 (x_aload_n d_300_10 rfl) ?_
      refine m_Rs.n0 b_300 (x_getf d_300_11 rfl h.1 rfl) ?_
      refine m_Rs.n0 b_300 (x_iload d_300_14 rfl) ?_
      refine m_Rs.n0 b_300 (x_aload_n d_300_16 rfl) ?_
      refine m_Rs.n0 b_300 (x_iload_n d_300_17 rfl) ?_
      refine m_Rs.n0 b_300 (x_iload d_300_18 rfl) ?_
      obtain ⟨v18, e19, h0⟩ := bS h0
      refine m_Rs.callS b_300 (y_cv d_300_20 rfl q_278 (m_isRecv_of rfl h.1) (show m_takeI _ _ = some (_, [_, _, _], [_, _]) from rfl) (by simp only [m_okf, List.all_cons, List.all_nil, Bool.and_true, Bool.and_self, m_okv_i, m_okv_l, m_okv_0, m_okv_t, m_okv_at h.1, m_okv_at (h.a 42 rfl)]) rfl) (T_m_told h e19) hF rfl (fun w1 h hF => ?_) (by decide) (by decide)
      obtain ⟨S20, e21, h0⟩ := bS h0
      refine m_Rs.dput b_300 d_300_23 h hF 42 rfl e21 (fun w1 h hF => ?_)
      refine m_Rs.n0 b_300 (x_iinc d_300_24 rfl rfl rfl (show m_put1 _ _ _ = [(4, _), (0, _), (1, _), (2, _), (3, _)] from rfl)) ?_
      refine m_Rs.n0 b_300 (x_goto d_300_27 rfl) ?_
      exact m_Rs.pick [1, 2, 3, 4, 0] rfl (ih h hF h0)
def D_m_serve (F : Nat) (a0 : Int32) (a1 : Int32) (a2 : Int32) (S : mS) : Option (mS) := D_m_serve_3 F F a0 a1 a2 (0 : Int32) S
theorem T_m_serve {l : Launch} {w : List mM} {F : Nat} {a0 : Int32} {a1 : Int32} {a2 : Int32} {S : mS} {r : mS} (h : m_RM S w) (h0 : D_m_serve F a0 a1 a2 S = some r) : m_Rs l M_300 (m_ent M_300 [.ref 583, .int a0, .int a1, .int a2] w) (fun v w' => v = none ∧ m_RM r w' ∧ m_Fq w w') 0 0 6 600 := by
  show m_Rs l M_300 (0, [(0, .ref 583), (1, .int a0), (2, .int a1), (3, .int a2)], [], w) _ 0 0 6 600
  generalize hw0 : w = w0 at h ⊢
  have hF : m_Fq w0 w0 := m_Fq.refl
  rw [D_m_serve] at h0
  refine m_Rs.n0 b_300 (x_iconst (z := 0) d_300_0 (by decide)) ?_
  refine m_Rs.n0 b_300 (x_istore d_300_1 rfl (show m_put1 _ _ _ = [(4, _), (0, _), (1, _), (2, _), (3, _)] from rfl)) ?_
  exact m_Rs.pick [1, 2, 3, 4, 0] rfl (T_m_serve_3 F h hF h0)
def D_m_isStaleEnough_52 (F : Nat) (x2 : Int32) (x3 : Int32) (x4 : Int32) (S : mS) : Option (Int32) := (cond (m_c2 .eq x3 ((-1) : Int32)) (some (1 : Int32)) ((D_m_asks F x3 (18 : Int32) S).bind fun v17 => cond (m_c2 .ne v17 ((-1) : Int32)) (some (0 : Int32)) ((D_m_asks F x3 (20 : Int32) S).bind fun v20 => cond (m_c2 .ne v20 ((-1) : Int32)) (some (0 : Int32)) (some (1 : Int32))))).bind fun v23 => (cond (m_c1 .eq v23) (some (0 : Int32)) ((D_m_lifeOf F x2 S).bind fun v27 => (D_m_told F x2 (4 : Int32) S).bind fun v29 => cond (m_c2 .ge x4 (v27 + v29)) (some (0 : Int32)) (some (1 : Int32)))).bind fun v32 => (bret v32).bind fun v33 => some v33
theorem T_m_isStaleEnough_52 {l : Launch} {w0 : List mM} {F : Nat} {x2 : Int32} {x3 : Int32} {x4 : Int32} {S : mS} {w : List mM} {r : Int32} (h : m_RM S w) (hF : m_Fq w0 w) (h0 : D_m_isStaleEnough_52 F x2 x3 x4 S = some r) : m_Rs l M_306 (52, [(0, .ref 583), (2, .int x2), (3, .int x3), (4, .int x4)], [], w) (fun v w' => v = some (.int r) ∧ m_RM S w' ∧ m_Fq w0 w') 0 0 2 200 := by
  rw [D_m_isStaleEnough_52] at h0
  refine m_Rs.n0 b_306 (x_iload_n d_306_52 rfl) ?_
  refine m_Rs.n0 b_306 (x_iconst (z := (-1)) d_306_53 (by decide)) ?_
  obtain ⟨v23, e15, h0⟩ := bS h0
  have kk14 : ∀ (xz : Int32) (w1 : List mM), xz = v23 → m_RM S w1 → m_Fq w0 w1 → m_Rs l M_306 (84, [(0, .ref 583), (2, .int x2), (3, .int x3), (4, .int x4)], [.int xz], w1) (fun v w' => v = some (.int r) ∧ m_RM S w' ∧ m_Fq w0 w') 0 0 2 200 := by
    intro xz w ez h hF
    rw [ez]
    refine m_Rs.n0 b_306 (x_istore d_306_84 rfl (show m_put1 _ _ _ = [(5, _), (0, _), (2, _), (3, _), (4, _)] from rfl)) ?_
    refine m_Rs.n0 b_306 (x_iload d_306_86 rfl) ?_
    obtain ⟨v32, e25, h0⟩ := bS h0
    have kk24 : ∀ (xz : Int32) (w1 : List mM), xz = v32 → m_RM S w1 → m_Fq w0 w1 → m_Rs l M_306 (113, [(5, .int v23), (0, .ref 583), (2, .int x2), (3, .int x3), (4, .int x4)], [.int xz], w1) (fun v w' => v = some (.int r) ∧ m_RM S w' ∧ m_Fq w0 w') 0 0 2 200 := by
      intro xz w ez h hF
      rw [ez]
      obtain ⟨v33, e34, h0⟩ := bS h0
      exact m_Rs.retb b_306 d_306_113 rfl e34 (rI h0 h hF)
    cases hc26 : m_c1 .eq v23 with
    | true =>
      have e25 := cT hc26 e25
      refine m_Rs.n0 b_306 (x_ift d_306_88 rfl hc26) ?_
      refine m_Rs.n0 b_306 (x_iconst (z := 0) d_306_112 (by decide)) ?_
      exact kk24 _ _ (Option.some.inj e25) h hF
    | false =>
      have e25 := cF hc26 e25
      refine m_Rs.n0 b_306 (x_iff d_306_88 rfl hc26) ?_
      refine m_Rs.n0 b_306 (x_iload d_306_91 rfl) ?_
      refine m_Rs.n0 b_306 (x_aload_n d_306_93 rfl) ?_
      refine m_Rs.n0 b_306 (x_iload_n d_306_94 rfl) ?_
      obtain ⟨v27, e28, e25⟩ := bS e25
      refine m_Rs.callS b_306 (y_cv d_306_95 rfl q_293 (m_isRecv_of rfl h.1) (show m_takeI _ _ = some (_, [_, _], [_]) from rfl) (by simp only [m_okf, List.all_cons, List.all_nil, Bool.and_true, Bool.and_self, m_okv_i, m_okv_l, m_okv_0, m_okv_t, m_okv_at h.1]) rfl) (T_m_lifeOf h e28) hF rfl (fun w1 h hF => ?_) (by decide) (by decide)
      refine m_Rs.n0 b_306 (x_aload_n d_306_98 rfl) ?_
      refine m_Rs.n0 b_306 (x_iload_n d_306_99 rfl) ?_
      refine m_Rs.n0 b_306 (x_iconst (z := 4) d_306_100 (by decide)) ?_
      obtain ⟨v29, e30, e25⟩ := bS e25
      refine m_Rs.callS b_306 (y_cv d_306_101 rfl q_278 (m_isRecv_of rfl h.1) (show m_takeI _ _ = some (_, [_, _, _], [_, _]) from rfl) (by simp only [m_okf, List.all_cons, List.all_nil, Bool.and_true, Bool.and_self, m_okv_i, m_okv_l, m_okv_0, m_okv_t, m_okv_at h.1]) rfl) (T_m_told h e30) hF rfl (fun w1 h hF => ?_) (by decide) (by decide)
      refine m_Rs.n0 b_306 (x_iadd d_306_104 rfl) ?_
      cases hc31 : m_c2 .ge x4 (v27 + v29) with
      | true =>
        have e25 := cT hc31 e25
        refine m_Rs.n0 b_306 (x_ict d_306_105 rfl hc31) ?_
        refine m_Rs.n0 b_306 (x_iconst (z := 0) d_306_112 (by decide)) ?_
        exact kk24 _ _ (Option.some.inj e25) h hF
      | false =>
        have e25 := cF hc31 e25
        refine m_Rs.n0 b_306 (x_icf d_306_105 rfl hc31) ?_
        refine m_Rs.n0 b_306 (x_iconst (z := 1) d_306_108 (by decide)) ?_
        refine m_Rs.n0 b_306 (x_goto d_306_109 rfl) ?_
        exact kk24 _ _ (Option.some.inj e25) h hF
  cases hc16 : m_c2 .eq x3 ((-1) : Int32) with
  | true =>
    have e15 := cT hc16 e15
    refine m_Rs.n0 b_306 (x_ict d_306_54 rfl hc16) ?_
    refine m_Rs.n0 b_306 (x_iconst (z := 1) d_306_79 (by decide)) ?_
    refine m_Rs.n0 b_306 (x_goto d_306_80 rfl) ?_
    exact kk14 _ _ (Option.some.inj e15) h hF
  | false =>
    have e15 := cF hc16 e15
    refine m_Rs.n0 b_306 (x_icf d_306_54 rfl hc16) ?_
    refine m_Rs.n0 b_306 (x_aload_n d_306_57 rfl) ?_
    refine m_Rs.n0 b_306 (x_iload_n d_306_58 rfl) ?_
    refine m_Rs.n0 b_306 (x_bipush (z := 18) d_306_59 (by decide)) ?_
    obtain ⟨v17, e18, e15⟩ := bS e15
    refine m_Rs.callS b_306 (y_cv d_306_61 rfl q_282 (m_isRecv_of rfl h.1) (show m_takeI _ _ = some (_, [_, _, _], []) from rfl) (by simp only [m_okf, List.all_cons, List.all_nil, Bool.and_true, Bool.and_self, m_okv_i, m_okv_l, m_okv_0, m_okv_t, m_okv_at h.1]) rfl) (T_m_asks h e18) hF rfl (fun w1 h hF => ?_) (by decide) (by decide)
    refine m_Rs.n0 b_306 (x_iconst (z := (-1)) d_306_64 (by decide)) ?_
    cases hc19 : m_c2 .ne v17 ((-1) : Int32) with
    | true =>
      have e15 := cT hc19 e15
      refine m_Rs.n0 b_306 (x_ict d_306_65 rfl hc19) ?_
      refine m_Rs.n0 b_306 (x_iconst (z := 0) d_306_83 (by decide)) ?_
      exact kk14 _ _ (Option.some.inj e15) h hF
    | false =>
      have e15 := cF hc19 e15
      refine m_Rs.n0 b_306 (x_icf d_306_65 rfl hc19) ?_
      refine m_Rs.n0 b_306 (x_aload_n d_306_68 rfl) ?_
      refine m_Rs.n0 b_306 (x_iload_n d_306_69 rfl) ?_
      refine m_Rs.n0 b_306 (x_bipush (z := 20) d_306_70 (by decide)) ?_
      obtain ⟨v20, e21, e15⟩ := bS e15
      refine m_Rs.callS b_306 (y_cv d_306_72 rfl q_282 (m_isRecv_of rfl h.1) (show m_takeI _ _ = some (_, [_, _, _], []) from rfl) (by simp only [m_okf, List.all_cons, List.all_nil, Bool.and_true, Bool.and_self, m_okv_i, m_okv_l, m_okv_0, m_okv_t, m_okv_at h.1]) rfl) (T_m_asks h e21) hF rfl (fun w1 h hF => ?_) (by decide) (by decide)
      refine m_Rs.n0 b_306 (x_iconst (z := (-1)) d_306_75 (by decide)) ?_
      cases hc22 : m_c2 .ne v20 ((-1) : Int32) with
      | true =>
        have e15 := cT hc22 e15
        refine m_Rs.n0 b_306 (x_ict d_306_76 rfl hc22) ?_
        refine m_Rs.n0 b_306 (x_iconst (z := 0) d_306_83 (by decide)) ?_
        exact kk14 _ _ (Option.some.inj e15) h hF
      | false =>
        have e15 := cF hc22 e15
        refine m_Rs.n0 b_306 (x_icf d_306_76 rfl hc22) ?_
        refine m_Rs.n0 b_306 (x_iconst (z := 1) d_306_79 (by decide)) ?_
        refine m_Rs.n0 b_306 (x_goto d_306_80 rfl) ?_
        exact kk14 _ _ (Option.some.inj e15) h hF
def D_m_isStaleEnough (F : Nat) (a0 : Int32) (a1 : Int32) (S : mS) : Option (Int32) := (aget 0 48000 S 622 (a0 + (2 : Int32))).bind fun v1 => (D_m_ageOf F a1 S).bind fun v3 => cond (m_c2 .eq v1 ((-1) : Int32)) (D_m_isStaleEnough_52 F a1 v1 v3 S) ((D_m_asks F v1 (19 : Int32) S).bind fun v6 => cond (m_c2 .eq v6 ((-1) : Int32)) (D_m_isStaleEnough_52 F a1 v1 v3 S) ((D_m_lifeOf F a1 S).bind fun v9 => (D_m_asks F v1 (19 : Int32) S).bind fun v11 => cond (m_c2 .ge v3 (v9 + v11)) (D_m_isStaleEnough_52 F a1 v1 v3 S) (some (1 : Int32))))
theorem T_m_isStaleEnough {l : Launch} {w : List mM} {F : Nat} {a0 : Int32} {a1 : Int32} {S : mS} {r : Int32} (h : m_RM S w) (h0 : D_m_isStaleEnough F a0 a1 S = some r) : m_Rs l M_306 (m_ent M_306 [.ref 583, .int a0, .int a1] w) (fun v w' => v = some (.int r) ∧ m_RM S w' ∧ m_Fq w w') 0 0 2 200 := by
  show m_Rs l M_306 (0, [(0, .ref 583), (1, .int a0), (2, .int a1)], [], w) _ 0 0 2 200
  generalize hw0 : w = w0 at h ⊢
  have hF : m_Fq w0 w0 := m_Fq.refl
  rw [D_m_isStaleEnough] at h0
  refine m_Rs.n0 b_306 (x_aload_n d_306_0 rfl) ?_
  refine m_Rs.n0 b_306 (x_getf d_306_1 rfl h.1 rfl) ?_
  refine m_Rs.n0 b_306 (x_iload_n d_306_4 rfl) ?_
  refine m_Rs.n0 b_306 (x_iconst (z := 2) d_306_5 (by decide)) ?_
  refine m_Rs.n0 b_306 (x_iadd d_306_6 rfl) ?_
  obtain ⟨v1, e2, h0⟩ := bS h0
  refine m_Rs.dget b_306 d_306_7 h 38 rfl e2 ?_
  refine m_Rs.n0 b_306 (x_istore_n d_306_8 rfl (show m_put1 _ _ _ = [(3, _), (0, _), (1, _), (2, _)] from rfl)) ?_
  refine m_Rs.n0 b_306 (x_aload_n d_306_9 rfl) ?_
  refine m_Rs.n0 b_306 (x_iload_n d_306_10 rfl) ?_
  obtain ⟨v3, e4, h0⟩ := bS h0
  refine m_Rs.callS b_306 (y_cv d_306_11 rfl q_292 (m_isRecv_of rfl h.1) (show m_takeI _ _ = some (_, [_, _], []) from rfl) (by simp only [m_okf, List.all_cons, List.all_nil, Bool.and_true, Bool.and_self, m_okv_i, m_okv_l, m_okv_0, m_okv_t, m_okv_at h.1]) rfl) (T_m_ageOf h e4) hF rfl (fun w1 h hF => ?_) (by decide) (by decide)
  refine m_Rs.n0 b_306 (x_istore d_306_14 rfl (show m_put1 _ _ _ = [(4, _), (3, _), (0, _), (1, _), (2, _)] from rfl)) ?_
  refine m_Rs.n0 b_306 (x_iload_n d_306_16 rfl) ?_
  refine m_Rs.n0 b_306 (x_iconst (z := (-1)) d_306_17 (by decide)) ?_
  cases hc5 : m_c2 .eq v1 ((-1) : Int32) with
  | true =>
    have h0 := cT hc5 h0
    refine m_Rs.n0 b_306 (x_ict d_306_18 rfl hc5) ?_
    exact m_Rs.pick [2, 4, 1, 0] rfl (T_m_isStaleEnough_52 h hF h0)
  | false =>
    have h0 := cF hc5 h0
    refine m_Rs.n0 b_306 (x_icf d_306_18 rfl hc5) ?_
    refine m_Rs.n0 b_306 (x_aload_n d_306_21 rfl) ?_
    refine m_Rs.n0 b_306 (x_iload_n d_306_22 rfl) ?_
    refine m_Rs.n0 b_306 (x_bipush (z := 19) d_306_23 (by decide)) ?_
    obtain ⟨v6, e7, h0⟩ := bS h0
    refine m_Rs.callS b_306 (y_cv d_306_25 rfl q_282 (m_isRecv_of rfl h.1) (show m_takeI _ _ = some (_, [_, _, _], []) from rfl) (by simp only [m_okf, List.all_cons, List.all_nil, Bool.and_true, Bool.and_self, m_okv_i, m_okv_l, m_okv_0, m_okv_t, m_okv_at h.1]) rfl) (T_m_asks h e7) hF rfl (fun w1 h hF => ?_) (by decide) (by decide)
    refine m_Rs.n0 b_306 (x_iconst (z := (-1)) d_306_28 (by decide)) ?_
    cases hc8 : m_c2 .eq v6 ((-1) : Int32) with
    | true =>
      have h0 := cT hc8 h0
      refine m_Rs.n0 b_306 (x_ict d_306_29 rfl hc8) ?_
      exact m_Rs.pick [2, 4, 1, 0] rfl (T_m_isStaleEnough_52 h hF h0)
    | false =>
      have h0 := cF hc8 h0
      refine m_Rs.n0 b_306 (x_icf d_306_29 rfl hc8) ?_
      refine m_Rs.n0 b_306 (x_iload d_306_32 rfl) ?_
      refine m_Rs.n0 b_306 (x_aload_n d_306_34 rfl) ?_
      refine m_Rs.n0 b_306 (x_iload_n d_306_35 rfl) ?_
      obtain ⟨v9, e10, h0⟩ := bS h0
      refine m_Rs.callS b_306 (y_cv d_306_36 rfl q_293 (m_isRecv_of rfl h.1) (show m_takeI _ _ = some (_, [_, _], [_]) from rfl) (by simp only [m_okf, List.all_cons, List.all_nil, Bool.and_true, Bool.and_self, m_okv_i, m_okv_l, m_okv_0, m_okv_t, m_okv_at h.1]) rfl) (T_m_lifeOf h e10) hF rfl (fun w1 h hF => ?_) (by decide) (by decide)
      refine m_Rs.n0 b_306 (x_aload_n d_306_39 rfl) ?_
      refine m_Rs.n0 b_306 (x_iload_n d_306_40 rfl) ?_
      refine m_Rs.n0 b_306 (x_bipush (z := 19) d_306_41 (by decide)) ?_
      obtain ⟨v11, e12, h0⟩ := bS h0
      refine m_Rs.callS b_306 (y_cv d_306_43 rfl q_282 (m_isRecv_of rfl h.1) (show m_takeI _ _ = some (_, [_, _, _], [_, _]) from rfl) (by simp only [m_okf, List.all_cons, List.all_nil, Bool.and_true, Bool.and_self, m_okv_i, m_okv_l, m_okv_0, m_okv_t, m_okv_at h.1]) rfl) (T_m_asks h e12) hF rfl (fun w1 h hF => ?_) (by decide) (by decide)
      refine m_Rs.n0 b_306 (x_iadd d_306_46 rfl) ?_
      cases hc13 : m_c2 .ge v3 (v9 + v11) with
      | true =>
        have h0 := cT hc13 h0
        refine m_Rs.n0 b_306 (x_ict d_306_47 rfl hc13) ?_
        exact m_Rs.pick [2, 4, 1, 0] rfl (T_m_isStaleEnough_52 h hF h0)
      | false =>
        have h0 := cF hc13 h0
        refine m_Rs.n0 b_306 (x_icf d_306_47 rfl hc13) ?_
        refine m_Rs.n0 b_306 (x_iconst (z := 1) d_306_50 (by decide)) ?_
        exact m_Rs.ret b_306 (m_rt_ir d_306_51 rfl m_nb1) (rI h0 h hF)
def D_ntz_74 (F : Nat) (x0 : Int32) (x1 : Int32) (S : mS) : Option (Int32) := some (x1 + ((x0 : Int32).toUInt32 >>> (((1 : Int32) : Int32).toUInt32 &&& Int32.toUInt32 31)).toInt32)
theorem T_ntz_74 {l : Launch} {w0 : List mM} {F : Nat} {x0 : Int32} {x1 : Int32} {S : mS} {w : List mM} {r : Int32} (h : m_RM S w) (hF : m_Fq w0 w) (h0 : D_ntz_74 F x0 x1 S = some r) : m_Rs l M_120 (74, [(0, .int x0), (1, .int x1)], [], w) (fun v w' => v = some (.int r) ∧ m_RM S w' ∧ m_Fq w0 w') 0 0 0 0 := by
  rw [D_ntz_74] at h0
  refine m_Rs.n0 b_120 (x_iload_n d_120_74 rfl) ?_
  refine m_Rs.n0 b_120 (x_iload_n d_120_75 rfl) ?_
  refine m_Rs.n0 b_120 (x_iconst (z := 1) d_120_76 (by decide)) ?_
  refine m_Rs.n0 b_120 (x_iushr d_120_77 rfl) ?_
  refine m_Rs.n0 b_120 (x_iadd d_120_78 rfl) ?_
  exact m_Rs.ret b_120 (m_rt_ir d_120_79 rfl rfl) (rI h0 h hF)
def D_ntz_62 (F : Nat) (x0 : Int32) (x1 : Int32) (S : mS) : Option (Int32) := cond (m_c2 .le x0 (4 : Int32)) (D_ntz_74 F x0 x1 S) (D_ntz_74 F ((x0 : Int32).toUInt32 >>> (((2 : Int32) : Int32).toUInt32 &&& Int32.toUInt32 31)).toInt32 (x1 + Int32.ofInt 2) S)
theorem T_ntz_62 {l : Launch} {w0 : List mM} {F : Nat} {x0 : Int32} {x1 : Int32} {S : mS} {w : List mM} {r : Int32} (h : m_RM S w) (hF : m_Fq w0 w) (h0 : D_ntz_62 F x0 x1 S = some r) : m_Rs l M_120 (62, [(0, .int x0), (1, .int x1)], [], w) (fun v w' => v = some (.int r) ∧ m_RM S w' ∧ m_Fq w0 w') 0 0 0 0 := by
  rw [D_ntz_62] at h0
  refine m_Rs.n0 b_120 (x_iload_n d_120_62 rfl) ?_
  refine m_Rs.n0 b_120 (x_iconst (z := 4) d_120_63 (by decide)) ?_
  cases hc17 : m_c2 .le x0 (4 : Int32) with
  | true =>
    have h0 := cT hc17 h0
    refine m_Rs.n0 b_120 (x_ict d_120_64 rfl hc17) ?_
    exact m_Rs.pick [0, 1] rfl (T_ntz_74 h hF h0)
  | false =>
    have h0 := cF hc17 h0
    refine m_Rs.n0 b_120 (x_icf d_120_64 rfl hc17) ?_
    refine m_Rs.n0 b_120 (x_iinc d_120_67 rfl rfl rfl (show m_put1 _ _ _ = [(1, _), (0, _)] from rfl)) ?_
    refine m_Rs.n0 b_120 (x_iload_n d_120_70 rfl) ?_
    refine m_Rs.n0 b_120 (x_iconst (z := 2) d_120_71 (by decide)) ?_
    refine m_Rs.n0 b_120 (x_iushr d_120_72 rfl) ?_
    refine m_Rs.n0 b_120 (x_istore_n d_120_73 rfl (show m_put1 _ _ _ = [(0, _), (1, _)] from rfl)) ?_
    exact m_Rs.pick [0, 1] rfl (T_ntz_74 h hF h0)
def D_ntz_49 (F : Nat) (x0 : Int32) (x1 : Int32) (S : mS) : Option (Int32) := cond (m_c2 .le x0 (16 : Int32)) (D_ntz_62 F x0 x1 S) (D_ntz_62 F ((x0 : Int32).toUInt32 >>> (((4 : Int32) : Int32).toUInt32 &&& Int32.toUInt32 31)).toInt32 (x1 + Int32.ofInt 4) S)
theorem T_ntz_49 {l : Launch} {w0 : List mM} {F : Nat} {x0 : Int32} {x1 : Int32} {S : mS} {w : List mM} {r : Int32} (h : m_RM S w) (hF : m_Fq w0 w) (h0 : D_ntz_49 F x0 x1 S = some r) : m_Rs l M_120 (49, [(0, .int x0), (1, .int x1)], [], w) (fun v w' => v = some (.int r) ∧ m_RM S w' ∧ m_Fq w0 w') 0 0 0 0 := by
  rw [D_ntz_49] at h0
  refine m_Rs.n0 b_120 (x_iload_n d_120_49 rfl) ?_
  refine m_Rs.n0 b_120 (x_bipush (z := 16) d_120_50 (by decide)) ?_
  cases hc13 : m_c2 .le x0 (16 : Int32) with
  | true =>
    have h0 := cT hc13 h0
    refine m_Rs.n0 b_120 (x_ict d_120_52 rfl hc13) ?_
    exact m_Rs.pick [0, 1] rfl (T_ntz_62 h hF h0)
  | false =>
    have h0 := cF hc13 h0
    refine m_Rs.n0 b_120 (x_icf d_120_52 rfl hc13) ?_
    refine m_Rs.n0 b_120 (x_iinc d_120_55 rfl rfl rfl (show m_put1 _ _ _ = [(1, _), (0, _)] from rfl)) ?_
    refine m_Rs.n0 b_120 (x_iload_n d_120_58 rfl) ?_
    refine m_Rs.n0 b_120 (x_iconst (z := 4) d_120_59 (by decide)) ?_
    refine m_Rs.n0 b_120 (x_iushr d_120_60 rfl) ?_
    refine m_Rs.n0 b_120 (x_istore_n d_120_61 rfl (show m_put1 _ _ _ = [(0, _), (1, _)] from rfl)) ?_
    exact m_Rs.pick [0, 1] rfl (T_ntz_62 h hF h0)
def D_ntz_34 (F : Nat) (x0 : Int32) (x1 : Int32) (S : mS) : Option (Int32) := cond (m_c2 .le x0 (256 : Int32)) (D_ntz_49 F x0 x1 S) (D_ntz_49 F ((x0 : Int32).toUInt32 >>> (((8 : Int32) : Int32).toUInt32 &&& Int32.toUInt32 31)).toInt32 (x1 + Int32.ofInt 8) S)
theorem T_ntz_34 {l : Launch} {w0 : List mM} {F : Nat} {x0 : Int32} {x1 : Int32} {S : mS} {w : List mM} {r : Int32} (h : m_RM S w) (hF : m_Fq w0 w) (h0 : D_ntz_34 F x0 x1 S = some r) : m_Rs l M_120 (34, [(0, .int x0), (1, .int x1)], [], w) (fun v w' => v = some (.int r) ∧ m_RM S w' ∧ m_Fq w0 w') 0 0 0 0 := by
  rw [D_ntz_34] at h0
  refine m_Rs.n0 b_120 (x_iload_n d_120_34 rfl) ?_
  refine m_Rs.n0 b_120 (x_sipush (z := 256) d_120_35 (by decide)) ?_
  cases hc9 : m_c2 .le x0 (256 : Int32) with
  | true =>
    have h0 := cT hc9 h0
    refine m_Rs.n0 b_120 (x_ict d_120_38 rfl hc9) ?_
    exact m_Rs.pick [0, 1] rfl (T_ntz_49 h hF h0)
  | false =>
    have h0 := cF hc9 h0
    refine m_Rs.n0 b_120 (x_icf d_120_38 rfl hc9) ?_
    refine m_Rs.n0 b_120 (x_iinc d_120_41 rfl rfl rfl (show m_put1 _ _ _ = [(1, _), (0, _)] from rfl)) ?_
    refine m_Rs.n0 b_120 (x_iload_n d_120_44 rfl) ?_
    refine m_Rs.n0 b_120 (x_bipush (z := 8) d_120_45 (by decide)) ?_
    refine m_Rs.n0 b_120 (x_iushr d_120_47 rfl) ?_
    refine m_Rs.n0 b_120 (x_istore_n d_120_48 rfl (show m_put1 _ _ _ = [(0, _), (1, _)] from rfl)) ?_
    exact m_Rs.pick [0, 1] rfl (T_ntz_49 h hF h0)
def D_ntz (F : Nat) (a0 : Int32) (S : mS) : Option (Int32) := cond (m_c1 .gt ((a0 ^^^ ((-1) : Int32)) &&& (a0 - (1 : Int32)))) (cond (m_c2 .le ((a0 ^^^ ((-1) : Int32)) &&& (a0 - (1 : Int32))) (65536 : Int32)) (D_ntz_34 F ((a0 ^^^ ((-1) : Int32)) &&& (a0 - (1 : Int32))) (1 : Int32) S) (D_ntz_34 F ((((a0 ^^^ ((-1) : Int32)) &&& (a0 - (1 : Int32))) : Int32).toUInt32 >>> (((16 : Int32) : Int32).toUInt32 &&& Int32.toUInt32 31)).toInt32 ((1 : Int32) + Int32.ofInt 16) S)) (some (((a0 ^^^ ((-1) : Int32)) &&& (a0 - (1 : Int32))) &&& (32 : Int32)))
theorem T_ntz {l : Launch} {w : List mM} {F : Nat} {a0 : Int32} {S : mS} {r : Int32} (h : m_RM S w) (h0 : D_ntz F a0 S = some r) : m_Rs l M_120 (m_ent M_120 [.int a0] w) (fun v w' => v = some (.int r) ∧ m_RM S w' ∧ m_Fq w w') 0 0 0 0 := by
  show m_Rs l M_120 (0, [(0, .int a0)], [], w) _ 0 0 0 0
  generalize hw0 : w = w0 at h ⊢
  have hF : m_Fq w0 w0 := m_Fq.refl
  rw [D_ntz] at h0
  refine m_Rs.n0 b_120 (x_iload_n d_120_0 rfl) ?_
  refine m_Rs.n0 b_120 (x_iconst (z := (-1)) d_120_1 (by decide)) ?_
  refine m_Rs.n0 b_120 (x_ixor d_120_2 rfl) ?_
  refine m_Rs.n0 b_120 (x_iload_n d_120_3 rfl) ?_
  refine m_Rs.n0 b_120 (x_iconst (z := 1) d_120_4 (by decide)) ?_
  refine m_Rs.n0 b_120 (x_isub d_120_5 rfl) ?_
  refine m_Rs.n0 b_120 (x_iand d_120_6 rfl) ?_
  refine m_Rs.n0 b_120 (x_istore_n d_120_7 rfl (show m_put1 _ _ _ = [(0, _)] from rfl)) ?_
  refine m_Rs.n0 b_120 (x_iload_n d_120_8 rfl) ?_
  cases hc1 : m_c1 .gt ((a0 ^^^ ((-1) : Int32)) &&& (a0 - (1 : Int32))) with
  | true =>
    have h0 := cT hc1 h0
    refine m_Rs.n0 b_120 (x_ift d_120_9 rfl hc1) ?_
    refine m_Rs.n0 b_120 (x_iconst (z := 1) d_120_17 (by decide)) ?_
    refine m_Rs.n0 b_120 (x_istore_n d_120_18 rfl (show m_put1 _ _ _ = [(1, _), (0, _)] from rfl)) ?_
    refine m_Rs.n0 b_120 (x_iload_n d_120_19 rfl) ?_
    refine m_Rs.n0 b_120 (x_ldcw (v := .int 65536) d_120_20 rfl) ?_
    cases hc5 : m_c2 .le ((a0 ^^^ ((-1) : Int32)) &&& (a0 - (1 : Int32))) (65536 : Int32) with
    | true =>
      have h0 := cT hc5 h0
      refine m_Rs.n0 b_120 (x_ict d_120_23 rfl hc5) ?_
      exact m_Rs.pick [1, 0] rfl (T_ntz_34 h hF h0)
    | false =>
      have h0 := cF hc5 h0
      refine m_Rs.n0 b_120 (x_icf d_120_23 rfl hc5) ?_
      refine m_Rs.n0 b_120 (x_iinc d_120_26 rfl rfl rfl (show m_put1 _ _ _ = [(1, _), (0, _)] from rfl)) ?_
      refine m_Rs.n0 b_120 (x_iload_n d_120_29 rfl) ?_
      refine m_Rs.n0 b_120 (x_bipush (z := 16) d_120_30 (by decide)) ?_
      refine m_Rs.n0 b_120 (x_iushr d_120_32 rfl) ?_
      refine m_Rs.n0 b_120 (x_istore_n d_120_33 rfl (show m_put1 _ _ _ = [(0, _), (1, _)] from rfl)) ?_
      exact m_Rs.pick [0, 1] rfl (T_ntz_34 h hF h0)
  | false =>
    have h0 := cF hc1 h0
    refine m_Rs.n0 b_120 (x_iff d_120_9 rfl hc1) ?_
    refine m_Rs.n0 b_120 (x_iload_n d_120_12 rfl) ?_
    refine m_Rs.n0 b_120 (x_bipush (z := 32) d_120_13 (by decide)) ?_
    refine m_Rs.n0 b_120 (x_iand d_120_15 rfl) ?_
    exact m_Rs.ret b_120 (m_rt_ir d_120_16 rfl rfl) (rI h0 h hF)
def D_nlz_73 (F : Nat) (x0 : Int32) (x1 : Int32) (S : mS) : Option (Int32) := some (x1 - ((x0 : Int32).toUInt32 >>> (((1 : Int32) : Int32).toUInt32 &&& Int32.toUInt32 31)).toInt32)
theorem T_nlz_73 {l : Launch} {w0 : List mM} {F : Nat} {x0 : Int32} {x1 : Int32} {S : mS} {w : List mM} {r : Int32} (h : m_RM S w) (hF : m_Fq w0 w) (h0 : D_nlz_73 F x0 x1 S = some r) : m_Rs l M_121 (73, [(0, .int x0), (1, .int x1)], [], w) (fun v w' => v = some (.int r) ∧ m_RM S w' ∧ m_Fq w0 w') 0 0 0 0 := by
  rw [D_nlz_73] at h0
  refine m_Rs.n0 b_121 (x_iload_n d_121_73 rfl) ?_
  refine m_Rs.n0 b_121 (x_iload_n d_121_74 rfl) ?_
  refine m_Rs.n0 b_121 (x_iconst (z := 1) d_121_75 (by decide)) ?_
  refine m_Rs.n0 b_121 (x_iushr d_121_76 rfl) ?_
  refine m_Rs.n0 b_121 (x_isub d_121_77 rfl) ?_
  exact m_Rs.ret b_121 (m_rt_ir d_121_78 rfl rfl) (rI h0 h hF)
def D_nlz_61 (F : Nat) (x0 : Int32) (x1 : Int32) (S : mS) : Option (Int32) := cond (m_c2 .lt x0 (4 : Int32)) (D_nlz_73 F x0 x1 S) (D_nlz_73 F ((x0 : Int32).toUInt32 >>> (((2 : Int32) : Int32).toUInt32 &&& Int32.toUInt32 31)).toInt32 (x1 + Int32.ofInt (-2)) S)
theorem T_nlz_61 {l : Launch} {w0 : List mM} {F : Nat} {x0 : Int32} {x1 : Int32} {S : mS} {w : List mM} {r : Int32} (h : m_RM S w) (hF : m_Fq w0 w) (h0 : D_nlz_61 F x0 x1 S = some r) : m_Rs l M_121 (61, [(0, .int x0), (1, .int x1)], [], w) (fun v w' => v = some (.int r) ∧ m_RM S w' ∧ m_Fq w0 w') 0 0 0 0 := by
  rw [D_nlz_61] at h0
  refine m_Rs.n0 b_121 (x_iload_n d_121_61 rfl) ?_
  refine m_Rs.n0 b_121 (x_iconst (z := 4) d_121_62 (by decide)) ?_
  cases hc21 : m_c2 .lt x0 (4 : Int32) with
  | true =>
    have h0 := cT hc21 h0
    refine m_Rs.n0 b_121 (x_ict d_121_63 rfl hc21) ?_
    exact m_Rs.pick [0, 1] rfl (T_nlz_73 h hF h0)
  | false =>
    have h0 := cF hc21 h0
    refine m_Rs.n0 b_121 (x_icf d_121_63 rfl hc21) ?_
    refine m_Rs.n0 b_121 (x_iinc d_121_66 rfl rfl rfl (show m_put1 _ _ _ = [(1, _), (0, _)] from rfl)) ?_
    refine m_Rs.n0 b_121 (x_iload_n d_121_69 rfl) ?_
    refine m_Rs.n0 b_121 (x_iconst (z := 2) d_121_70 (by decide)) ?_
    refine m_Rs.n0 b_121 (x_iushr d_121_71 rfl) ?_
    refine m_Rs.n0 b_121 (x_istore_n d_121_72 rfl (show m_put1 _ _ _ = [(0, _), (1, _)] from rfl)) ?_
    exact m_Rs.pick [0, 1] rfl (T_nlz_73 h hF h0)
def D_nlz_48 (F : Nat) (x0 : Int32) (x1 : Int32) (S : mS) : Option (Int32) := cond (m_c2 .lt x0 (16 : Int32)) (D_nlz_61 F x0 x1 S) (D_nlz_61 F ((x0 : Int32).toUInt32 >>> (((4 : Int32) : Int32).toUInt32 &&& Int32.toUInt32 31)).toInt32 (x1 + Int32.ofInt (-4)) S)
theorem T_nlz_48 {l : Launch} {w0 : List mM} {F : Nat} {x0 : Int32} {x1 : Int32} {S : mS} {w : List mM} {r : Int32} (h : m_RM S w) (hF : m_Fq w0 w) (h0 : D_nlz_48 F x0 x1 S = some r) : m_Rs l M_121 (48, [(0, .int x0), (1, .int x1)], [], w) (fun v w' => v = some (.int r) ∧ m_RM S w' ∧ m_Fq w0 w') 0 0 0 0 := by
  rw [D_nlz_48] at h0
  refine m_Rs.n0 b_121 (x_iload_n d_121_48 rfl) ?_
  refine m_Rs.n0 b_121 (x_bipush (z := 16) d_121_49 (by decide)) ?_
  cases hc17 : m_c2 .lt x0 (16 : Int32) with
  | true =>
    have h0 := cT hc17 h0
    refine m_Rs.n0 b_121 (x_ict d_121_51 rfl hc17) ?_
    exact m_Rs.pick [0, 1] rfl (T_nlz_61 h hF h0)
  | false =>
    have h0 := cF hc17 h0
    refine m_Rs.n0 b_121 (x_icf d_121_51 rfl hc17) ?_
    refine m_Rs.n0 b_121 (x_iinc d_121_54 rfl rfl rfl (show m_put1 _ _ _ = [(1, _), (0, _)] from rfl)) ?_
    refine m_Rs.n0 b_121 (x_iload_n d_121_57 rfl) ?_
    refine m_Rs.n0 b_121 (x_iconst (z := 4) d_121_58 (by decide)) ?_
    refine m_Rs.n0 b_121 (x_iushr d_121_59 rfl) ?_
    refine m_Rs.n0 b_121 (x_istore_n d_121_60 rfl (show m_put1 _ _ _ = [(0, _), (1, _)] from rfl)) ?_
    exact m_Rs.pick [0, 1] rfl (T_nlz_61 h hF h0)
def D_nlz_33 (F : Nat) (x0 : Int32) (x1 : Int32) (S : mS) : Option (Int32) := cond (m_c2 .lt x0 (256 : Int32)) (D_nlz_48 F x0 x1 S) (D_nlz_48 F ((x0 : Int32).toUInt32 >>> (((8 : Int32) : Int32).toUInt32 &&& Int32.toUInt32 31)).toInt32 (x1 + Int32.ofInt (-8)) S)
theorem T_nlz_33 {l : Launch} {w0 : List mM} {F : Nat} {x0 : Int32} {x1 : Int32} {S : mS} {w : List mM} {r : Int32} (h : m_RM S w) (hF : m_Fq w0 w) (h0 : D_nlz_33 F x0 x1 S = some r) : m_Rs l M_121 (33, [(0, .int x0), (1, .int x1)], [], w) (fun v w' => v = some (.int r) ∧ m_RM S w' ∧ m_Fq w0 w') 0 0 0 0 := by
  rw [D_nlz_33] at h0
  refine m_Rs.n0 b_121 (x_iload_n d_121_33 rfl) ?_
  refine m_Rs.n0 b_121 (x_sipush (z := 256) d_121_34 (by decide)) ?_
  cases hc13 : m_c2 .lt x0 (256 : Int32) with
  | true =>
    have h0 := cT hc13 h0
    refine m_Rs.n0 b_121 (x_ict d_121_37 rfl hc13) ?_
    exact m_Rs.pick [0, 1] rfl (T_nlz_48 h hF h0)
  | false =>
    have h0 := cF hc13 h0
    refine m_Rs.n0 b_121 (x_icf d_121_37 rfl hc13) ?_
    refine m_Rs.n0 b_121 (x_iinc d_121_40 rfl rfl rfl (show m_put1 _ _ _ = [(1, _), (0, _)] from rfl)) ?_
    refine m_Rs.n0 b_121 (x_iload_n d_121_43 rfl) ?_
    refine m_Rs.n0 b_121 (x_bipush (z := 8) d_121_44 (by decide)) ?_
    refine m_Rs.n0 b_121 (x_iushr d_121_46 rfl) ?_
    refine m_Rs.n0 b_121 (x_istore_n d_121_47 rfl (show m_put1 _ _ _ = [(0, _), (1, _)] from rfl)) ?_
    exact m_Rs.pick [0, 1] rfl (T_nlz_48 h hF h0)
def D_nlz (F : Nat) (a0 : Int32) (S : mS) : Option (Int32) := cond (m_c1 .gt a0) (cond (m_c2 .lt a0 (65536 : Int32)) (D_nlz_33 F a0 (31 : Int32) S) (D_nlz_33 F ((a0 : Int32).toUInt32 >>> (((16 : Int32) : Int32).toUInt32 &&& Int32.toUInt32 31)).toInt32 ((31 : Int32) + Int32.ofInt (-16)) S)) ((cond (m_c1 .ne a0) (some (0 : Int32)) (some (32 : Int32))).bind fun v9 => some v9)
theorem T_nlz {l : Launch} {w : List mM} {F : Nat} {a0 : Int32} {S : mS} {r : Int32} (h : m_RM S w) (h0 : D_nlz F a0 S = some r) : m_Rs l M_121 (m_ent M_121 [.int a0] w) (fun v w' => v = some (.int r) ∧ m_RM S w' ∧ m_Fq w w') 0 0 0 0 := by
  show m_Rs l M_121 (0, [(0, .int a0)], [], w) _ 0 0 0 0
  generalize hw0 : w = w0 at h ⊢
  have hF : m_Fq w0 w0 := m_Fq.refl
  rw [D_nlz] at h0
  refine m_Rs.n0 b_121 (x_iload_n d_121_0 rfl) ?_
  cases hc1 : m_c1 .gt a0 with
  | true =>
    have h0 := cT hc1 h0
    refine m_Rs.n0 b_121 (x_ift d_121_1 rfl hc1) ?_
    refine m_Rs.n0 b_121 (x_bipush (z := 31) d_121_15 (by decide)) ?_
    refine m_Rs.n0 b_121 (x_istore_n d_121_17 rfl (show m_put1 _ _ _ = [(1, _), (0, _)] from rfl)) ?_
    refine m_Rs.n0 b_121 (x_iload_n d_121_18 rfl) ?_
    refine m_Rs.n0 b_121 (x_ldcw (v := .int 65536) d_121_19 rfl) ?_
    cases hc5 : m_c2 .lt a0 (65536 : Int32) with
    | true =>
      have h0 := cT hc5 h0
      refine m_Rs.n0 b_121 (x_ict d_121_22 rfl hc5) ?_
      exact m_Rs.pick [1, 0] rfl (T_nlz_33 h hF h0)
    | false =>
      have h0 := cF hc5 h0
      refine m_Rs.n0 b_121 (x_icf d_121_22 rfl hc5) ?_
      refine m_Rs.n0 b_121 (x_iinc d_121_25 rfl rfl rfl (show m_put1 _ _ _ = [(1, _), (0, _)] from rfl)) ?_
      refine m_Rs.n0 b_121 (x_iload_n d_121_28 rfl) ?_
      refine m_Rs.n0 b_121 (x_bipush (z := 16) d_121_29 (by decide)) ?_
      refine m_Rs.n0 b_121 (x_iushr d_121_31 rfl) ?_
      refine m_Rs.n0 b_121 (x_istore_n d_121_32 rfl (show m_put1 _ _ _ = [(0, _), (1, _)] from rfl)) ?_
      exact m_Rs.pick [0, 1] rfl (T_nlz_33 h hF h0)
  | false =>
    have h0 := cF hc1 h0
    refine m_Rs.n0 b_121 (x_iff d_121_1 rfl hc1) ?_
    refine m_Rs.n0 b_121 (x_iload_n d_121_4 rfl) ?_
    obtain ⟨v9, e7, h0⟩ := bS h0
    have kk6 : ∀ (xz : Int32) (w1 : List mM), xz = v9 → m_RM S w1 → m_Fq w0 w1 → m_Rs l M_121 (14, [(0, .int a0)], [.int xz], w1) (fun v w' => v = some (.int r) ∧ m_RM S w' ∧ m_Fq w0 w') 0 0 0 0 := by
      intro xz w ez h hF
      rw [ez]
      exact m_Rs.ret b_121 (m_rt_ir d_121_14 rfl rfl) (rI h0 h hF)
    cases hc8 : m_c1 .ne a0 with
    | true =>
      have e7 := cT hc8 e7
      refine m_Rs.n0 b_121 (x_ift d_121_5 rfl hc8) ?_
      refine m_Rs.n0 b_121 (x_iconst (z := 0) d_121_13 (by decide)) ?_
      exact kk6 _ _ (Option.some.inj e7) h hF
    | false =>
      have e7 := cF hc8 e7
      refine m_Rs.n0 b_121 (x_iff d_121_5 rfl hc8) ?_
      refine m_Rs.n0 b_121 (x_bipush (z := 32) d_121_8 (by decide)) ?_
      refine m_Rs.n0 b_121 (x_goto d_121_10 rfl) ?_
      exact kk6 _ _ (Option.some.inj e7) h hF
def D_m_goal (F : Nat) (a0 : Int32) (a1 : Int32) (S : mS) : Option (Int32) := cond (m_c2 .ge a0 (3 : Int32)) ((D_m_ring F (1 : Int32) (2 : Int32) a1 a0 S).bind fun v2 => (cond (m_c2 .ne v2 ((-1) : Int32)) (some v2) ((D_m_ring F (1 : Int32) (2 : Int32) a1 (0 : Int32) S).bind fun v7 => some v7)).bind fun v9 => some v9) (some (0 : Int32))
theorem T_m_goal {l : Launch} {w : List mM} {F : Nat} {a0 : Int32} {a1 : Int32} {S : mS} {r : Int32} (h : m_RM S w) (h0 : D_m_goal F a0 a1 S = some r) : m_Rs l M_309 (m_ent M_309 [.ref 583, .int a0, .int a1] w) (fun v w' => v = some (.int r) ∧ m_RM S w' ∧ m_Fq w w') 0 0 2 200 := by
  show m_Rs l M_309 (0, [(0, .ref 583), (1, .int a0), (2, .int a1)], [], w) _ 0 0 2 200
  generalize hw0 : w = w0 at h ⊢
  have hF : m_Fq w0 w0 := m_Fq.refl
  rw [D_m_goal] at h0
  refine m_Rs.n0 b_309 (x_iload_n d_309_0 rfl) ?_
  refine m_Rs.n0 b_309 (x_iconst (z := 3) d_309_1 (by decide)) ?_
  cases hc1 : m_c2 .ge a0 (3 : Int32) with
  | true =>
    have h0 := cT hc1 h0
    refine m_Rs.n0 b_309 (x_ict d_309_2 rfl hc1) ?_
    refine m_Rs.n0 b_309 (x_aload_n d_309_7 rfl) ?_
    refine m_Rs.n0 b_309 (x_iconst (z := 1) d_309_8 (by decide)) ?_
    refine m_Rs.n0 b_309 (x_iconst (z := 2) d_309_9 (by decide)) ?_
    refine m_Rs.n0 b_309 (x_iload_n d_309_10 rfl) ?_
    refine m_Rs.n0 b_309 (x_iload_n d_309_11 rfl) ?_
    obtain ⟨v2, e3, h0⟩ := bS h0
    refine m_Rs.callS b_309 (y_cv d_309_12 rfl q_272 (m_isRecv_of rfl h.1) (show m_takeI _ _ = some (_, [_, _, _, _, _], []) from rfl) (by simp only [m_okf, List.all_cons, List.all_nil, Bool.and_true, Bool.and_self, m_okv_i, m_okv_l, m_okv_0, m_okv_t, m_okv_at h.1]) rfl) (T_m_ring h e3) hF rfl (fun w1 h hF => ?_) (by decide) (by decide)
    refine m_Rs.n0 b_309 (x_istore_n d_309_15 rfl (show m_put1 _ _ _ = [(3, _), (0, _), (1, _), (2, _)] from rfl)) ?_
    refine m_Rs.n0 b_309 (x_iload_n d_309_16 rfl) ?_
    refine m_Rs.n0 b_309 (x_iconst (z := (-1)) d_309_17 (by decide)) ?_
    obtain ⟨v9, e5, h0⟩ := bS h0
    have kk4 : ∀ (xz : Int32) (w1 : List mM), xz = v9 → m_RM S w1 → m_Fq w0 w1 → m_Rs l M_309 (33, [(3, .int v2), (0, .ref 583), (1, .int a0), (2, .int a1)], [.int xz], w1) (fun v w' => v = some (.int r) ∧ m_RM S w' ∧ m_Fq w0 w') 0 0 2 200 := by
      intro xz w ez h hF
      rw [ez]
      exact m_Rs.ret b_309 (m_rt_ir d_309_33 rfl rfl) (rI h0 h hF)
    cases hc6 : m_c2 .ne v2 ((-1) : Int32) with
    | true =>
      have e5 := cT hc6 e5
      refine m_Rs.n0 b_309 (x_ict d_309_18 rfl hc6) ?_
      refine m_Rs.n0 b_309 (x_iload_n d_309_32 rfl) ?_
      exact kk4 _ _ (Option.some.inj e5) h hF
    | false =>
      have e5 := cF hc6 e5
      refine m_Rs.n0 b_309 (x_icf d_309_18 rfl hc6) ?_
      refine m_Rs.n0 b_309 (x_aload_n d_309_21 rfl) ?_
      refine m_Rs.n0 b_309 (x_iconst (z := 1) d_309_22 (by decide)) ?_
      refine m_Rs.n0 b_309 (x_iconst (z := 2) d_309_23 (by decide)) ?_
      refine m_Rs.n0 b_309 (x_iload_n d_309_24 rfl) ?_
      refine m_Rs.n0 b_309 (x_iconst (z := 0) d_309_25 (by decide)) ?_
      obtain ⟨v7, e8, e5⟩ := bS e5
      refine m_Rs.callS b_309 (y_cv d_309_26 rfl q_272 (m_isRecv_of rfl h.1) (show m_takeI _ _ = some (_, [_, _, _, _, _], []) from rfl) (by simp only [m_okf, List.all_cons, List.all_nil, Bool.and_true, Bool.and_self, m_okv_i, m_okv_l, m_okv_0, m_okv_t, m_okv_at h.1]) rfl) (T_m_ring h e8) hF rfl (fun w1 h hF => ?_) (by decide) (by decide)
      refine m_Rs.n0 b_309 (x_goto d_309_29 rfl) ?_
      exact kk4 _ _ (Option.some.inj e5) h hF
  | false =>
    have h0 := cF hc1 h0
    refine m_Rs.n0 b_309 (x_icf d_309_2 rfl hc1) ?_
    refine m_Rs.n0 b_309 (x_iconst (z := 0) d_309_5 (by decide)) ?_
    exact m_Rs.ret b_309 (m_rt_ir d_309_6 rfl rfl) (rI h0 h hF)
def D_m_send_274 (F : Nat) (S : mS) : Option (Int32 × mS) := (D_m_post F S).bind fun S85 => some ((1 : Int32), S85)
theorem T_m_send_274 {l : Launch} {w0 : List mM} {F : Nat} {S : mS} {w : List mM} {r : Int32 × mS} (h : m_RM S w) (hF : m_Fq w0 w) (h0 : D_m_send_274 F S = some r) : m_Rs l M_308 (274, [(0, .ref 583)], [], w) (fun v w' => v = some (.int r.1) ∧ m_RM r.2 w' ∧ m_Fq w0 w') 0 0 3 300 := by
  rw [D_m_send_274] at h0
  refine m_Rs.n0 b_308 (x_aload_n d_308_274 rfl) ?_
  obtain ⟨S85, e86, h0⟩ := bS h0
  refine m_Rs.callSv b_308 (y_cv d_308_275 rfl q_305 (m_isRecv_of rfl h.1) (show m_takeI _ _ = some (_, [_], []) from rfl) (by simp only [m_okf, List.all_cons, List.all_nil, Bool.and_true, Bool.and_self, m_okv_i, m_okv_l, m_okv_0, m_okv_t, m_okv_at h.1]) rfl) (T_m_post h e86) hF rfl (fun w1 h hF => ?_) (by decide) (by decide)
  refine m_Rs.n0 b_308 (x_iconst (z := 1) d_308_278 (by decide)) ?_
  exact m_Rs.ret b_308 (m_rt_ir d_308_279 rfl m_nb1) (rP h0 h hF)
def D_m_send (F : Nat) (a0 : Int32) (S : mS) : Option (Int32 × mS) := (D_m_goal F (a0 / (128 : Int32)) (a0 - a0 / (128 : Int32) * (128 : Int32)) S).bind fun v1 => (cond (m_c2 .eq v1 ((-1) : Int32)) (some (0 : Int32)) (some (1 : Int32))).bind fun v6 => (bput 896 S 609 a0 v6).bind fun S7 => cond (m_c2 .ne v1 ((-1) : Int32)) ((aget 0 896 S7 616 a0).bind fun v10 => (D_m_suits F a0 v10 S7).bind fun v12 => (aget 0 7 S7 596 (a0 / (128 : Int32))).bind fun v14 => (aput 7 S7 596 (a0 / (128 : Int32)) (v14 + (1 : Int32))).bind fun S16 => (aget 0 7 S16 596 (a0 / (128 : Int32))).bind fun v18 => (aput 896 S16 611 a0 v18).bind fun S20 => (aput 896 S20 612 a0 (S20.1 36)).bind fun S22 => (aput 896 S22 617 a0 v1).bind fun S24 => (aget 0 896 S24 611 a0).bind fun v26 => (D_m_blank F (0 : Int32) (a0 / (128 : Int32)) v1 v26 (a0 - a0 / (128 : Int32) * (128 : Int32)) S24).bind fun S28 => (aget 0 896 S28 613 a0).bind fun v30 => (aput 22 S28 625 (6 : Int32) v30).bind fun S32 => (aget 0 896 S32 614 a0).bind fun v34 => (aput 22 S32 625 (7 : Int32) v34).bind fun S36 => (aget 0 7 S36 593 (a0 / (128 : Int32))).bind fun v38 => (aput 22 S36 625 (8 : Int32) v38).bind fun S40 => (aget 0 7 S40 593 (a0 / (128 : Int32))).bind fun v42 => (aput 896 S40 615 a0 v42).bind fun S44 => (aget 4 896 S44 610 a0).bind fun v46 => (cond (m_c1 .eq v46) (some (0 : Int32)) (some (1 : Int32))).bind fun v51 => (aput 22 S44 625 (9 : Int32) v51).bind fun S52 => (aget 0 896 S52 616 a0).bind fun v54 => (aput 22 S52 625 (21 : Int32) v54).bind fun S56 => cond (m_c2 .eq v12 ((-1) : Int32)) (D_m_send_274 F S56) ((aget 0 896 S56 613 a0).bind fun v62 => (aget 0 896 S56 614 a0).bind fun v64 => (D_m_told F v12 (1 : Int32) S56).bind fun v66 => (D_m_span F v62 v64 v66 S56).bind fun v68 => (aget 0 7168 S56 604 v12).bind fun v70 => (aget 0 7 S56 593 (a0 / (128 : Int32))).bind fun v72 => (cond (m_c2 .lt v70 v72) (some (0 : Int32)) ((aget 0 7168 S56 607 v12).bind fun v77 => cond (m_c2 .ne (v77 &&& v68) v68) (some (0 : Int32)) ((D_m_told F v12 (0 : Int32) S56).bind fun v80 => some v80))).bind fun v82 => (aput 22 S56 625 (10 : Int32) v82).bind fun S83 => D_m_send_274 F S83)) (some ((0 : Int32), S7))
theorem T_m_send {l : Launch} {w : List mM} {F : Nat} {a0 : Int32} {S : mS} {r : Int32 × mS} (h : m_RM S w) (h0 : D_m_send F a0 S = some r) : m_Rs l M_308 (m_ent M_308 [.ref 583, .int a0] w) (fun v w' => v = some (.int r.1) ∧ m_RM r.2 w' ∧ m_Fq w w') 0 0 3 300 := by
  show m_Rs l M_308 (0, [(0, .ref 583), (1, .int a0)], [], w) _ 0 0 3 300
  generalize hw0 : w = w0 at h ⊢
  have hF : m_Fq w0 w0 := m_Fq.refl
  rw [D_m_send] at h0
  refine m_Rs.n0 b_308 (x_iload_n d_308_0 rfl) ?_
  refine m_Rs.n0 b_308 (x_sipush (z := 128) d_308_1 (by decide)) ?_
  refine m_Rs.n0 b_308 (x_idiv d_308_4 (by decide) rfl) ?_
  refine m_Rs.n0 b_308 (x_istore_n d_308_5 rfl (show m_put1 _ _ _ = [(2, _), (0, _), (1, _)] from rfl)) ?_
  refine m_Rs.n0 b_308 (x_aload_n d_308_6 rfl) ?_
  refine m_Rs.n0 b_308 (x_iload_n d_308_7 rfl) ?_
  refine m_Rs.n0 b_308 (x_iload_n d_308_8 rfl) ?_
  refine m_Rs.n0 b_308 (x_sipush (z := 128) d_308_9 (by decide)) ?_
  refine m_Rs.n0 b_308 (x_irem d_308_12 (by decide) rfl) ?_
  obtain ⟨v1, e2, h0⟩ := bS h0
  refine m_Rs.callS b_308 (y_cv d_308_13 rfl q_309 (m_isRecv_of rfl h.1) (show m_takeI _ _ = some (_, [_, _, _], []) from rfl) (by simp only [m_okf, List.all_cons, List.all_nil, Bool.and_true, Bool.and_self, m_okv_i, m_okv_l, m_okv_0, m_okv_t, m_okv_at h.1]) rfl) (T_m_goal h e2) hF rfl (fun w1 h hF => ?_) (by decide) (by decide)
  refine m_Rs.n0 b_308 (x_istore_n d_308_16 rfl (show m_put1 _ _ _ = [(3, _), (2, _), (0, _), (1, _)] from rfl)) ?_
  refine m_Rs.n0 b_308 (x_aload_n d_308_17 rfl) ?_
  refine m_Rs.n0 b_308 (x_getf d_308_18 rfl h.1 rfl) ?_
  refine m_Rs.n0 b_308 (x_iload_n d_308_21 rfl) ?_
  refine m_Rs.n0 b_308 (x_iload_n d_308_22 rfl) ?_
  refine m_Rs.n0 b_308 (x_iconst (z := (-1)) d_308_23 (by decide)) ?_
  obtain ⟨v6, e4, h0⟩ := bS h0
  have kk3 : ∀ (xz : Int32) (w1 : List mM), xz = v6 → m_RM S w1 → m_Fq w0 w1 → m_Rs l M_308 (32, [(3, .int v1), (2, .int (a0 / (128 : Int32))), (0, .ref 583), (1, .int a0)], [.int xz, .int a0, .ref 609], w1) (fun v w' => v = some (.int r.1) ∧ m_RM r.2 w' ∧ m_Fq w0 w') 0 0 3 300 := by
    intro xz w ez h hF
    rw [ez]
    obtain ⟨S7, e8, h0⟩ := bS h0
    refine m_Rs.dputb b_308 d_308_32 h hF 25 rfl e8 (fun w1 h hF => ?_)
    refine m_Rs.n0 b_308 (x_iload_n d_308_33 rfl) ?_
    refine m_Rs.n0 b_308 (x_iconst (z := (-1)) d_308_34 (by decide)) ?_
    cases hc9 : m_c2 .ne v1 ((-1) : Int32) with
    | true =>
      have h0 := cT hc9 h0
      refine m_Rs.n0 b_308 (x_ict d_308_35 rfl hc9) ?_
      refine m_Rs.n0 b_308 (x_aload_n d_308_40 rfl) ?_
      refine m_Rs.n0 b_308 (x_iload_n d_308_41 rfl) ?_
      refine m_Rs.n0 b_308 (x_aload_n d_308_42 rfl) ?_
      refine m_Rs.n0 b_308 (x_getf d_308_43 rfl h.1 rfl) ?_
      refine m_Rs.n0 b_308 (x_iload_n d_308_46 rfl) ?_
      obtain ⟨v10, e11, h0⟩ := bS h0
      refine m_Rs.dget b_308 d_308_47 h 32 rfl e11 ?_
      obtain ⟨v12, e13, h0⟩ := bS h0
      refine m_Rs.callS b_308 (y_cv d_308_48 rfl q_277 (m_isRecv_of rfl h.1) (show m_takeI _ _ = some (_, [_, _, _], []) from rfl) (by simp only [m_okf, List.all_cons, List.all_nil, Bool.and_true, Bool.and_self, m_okv_i, m_okv_l, m_okv_0, m_okv_t, m_okv_at h.1]) rfl) (T_m_suits h e13) hF rfl (fun w1 h hF => ?_) (by decide) (by decide)
      refine m_Rs.n0 b_308 (x_istore d_308_51 rfl (show m_put1 _ _ _ = [(4, _), (3, _), (2, _), (0, _), (1, _)] from rfl)) ?_
      refine m_Rs.n0 b_308 (x_aload_n d_308_53 rfl) ?_
      refine m_Rs.n0 b_308 (x_getf d_308_54 rfl h.1 rfl) ?_
      refine m_Rs.n0 b_308 (x_iload_n d_308_57 rfl) ?_
      refine m_Rs.n0 b_308 (x_dup2 d_308_58 rfl rfl) ?_
      obtain ⟨v14, e15, h0⟩ := bS h0
      refine m_Rs.dget b_308 d_308_59 h 12 rfl e15 ?_
      refine m_Rs.n0 b_308 (x_iconst (z := 1) d_308_60 (by decide)) ?_
      refine m_Rs.n0 b_308 (x_iadd d_308_61 rfl) ?_
      obtain ⟨S16, e17, h0⟩ := bS h0
      refine m_Rs.dput b_308 d_308_62 h hF 12 rfl e17 (fun w1 h hF => ?_)
      refine m_Rs.n0 b_308 (x_aload_n d_308_63 rfl) ?_
      refine m_Rs.n0 b_308 (x_getf d_308_64 rfl h.1 rfl) ?_
      refine m_Rs.n0 b_308 (x_iload_n d_308_67 rfl) ?_
      refine m_Rs.n0 b_308 (x_aload_n d_308_68 rfl) ?_
      refine m_Rs.n0 b_308 (x_getf d_308_69 rfl h.1 rfl) ?_
      refine m_Rs.n0 b_308 (x_iload_n d_308_72 rfl) ?_
      obtain ⟨v18, e19, h0⟩ := bS h0
      refine m_Rs.dget b_308 d_308_73 h 12 rfl e19 ?_
      obtain ⟨S20, e21, h0⟩ := bS h0
      refine m_Rs.dput b_308 d_308_74 h hF 27 rfl e21 (fun w1 h hF => ?_)
      refine m_Rs.n0 b_308 (x_aload_n d_308_75 rfl) ?_
      refine m_Rs.n0 b_308 (x_getf d_308_76 rfl h.1 rfl) ?_
      refine m_Rs.n0 b_308 (x_iload_n d_308_79 rfl) ?_
      refine m_Rs.n0 b_308 (x_aload_n d_308_80 rfl) ?_
      refine m_Rs.n0 b_308 (x_getf d_308_81 rfl h.1 rfl) ?_
      obtain ⟨S22, e23, h0⟩ := bS h0
      refine m_Rs.dput b_308 d_308_84 h hF 28 rfl e23 (fun w1 h hF => ?_)
      refine m_Rs.n0 b_308 (x_aload_n d_308_85 rfl) ?_
      refine m_Rs.n0 b_308 (x_getf d_308_86 rfl h.1 rfl) ?_
      refine m_Rs.n0 b_308 (x_iload_n d_308_89 rfl) ?_
      refine m_Rs.n0 b_308 (x_iload_n d_308_90 rfl) ?_
      obtain ⟨S24, e25, h0⟩ := bS h0
      refine m_Rs.dput b_308 d_308_91 h hF 33 rfl e25 (fun w1 h hF => ?_)
      refine m_Rs.n0 b_308 (x_aload_n d_308_92 rfl) ?_
      refine m_Rs.n0 b_308 (x_iconst (z := 0) d_308_93 (by decide)) ?_
      refine m_Rs.n0 b_308 (x_iload_n d_308_94 rfl) ?_
      refine m_Rs.n0 b_308 (x_iload_n d_308_95 rfl) ?_
      refine m_Rs.n0 b_308 (x_aload_n d_308_96 rfl) ?_
      refine m_Rs.n0 b_308 (x_getf d_308_97 rfl h.1 rfl) ?_
      refine m_Rs.n0 b_308 (x_iload_n d_308_100 rfl) ?_
      obtain ⟨v26, e27, h0⟩ := bS h0
      refine m_Rs.dget b_308 d_308_101 h 27 rfl e27 ?_
      refine m_Rs.n0 b_308 (x_iload_n d_308_102 rfl) ?_
      refine m_Rs.n0 b_308 (x_sipush (z := 128) d_308_103 (by decide)) ?_
      refine m_Rs.n0 b_308 (x_irem d_308_106 (by decide) rfl) ?_
      obtain ⟨S28, e29, h0⟩ := bS h0
      refine m_Rs.callSv b_308 (y_cv d_308_107 rfl q_304 (m_isRecv_of rfl h.1) (show m_takeI _ _ = some (_, [_, _, _, _, _, _], []) from rfl) (by simp only [m_okf, List.all_cons, List.all_nil, Bool.and_true, Bool.and_self, m_okv_i, m_okv_l, m_okv_0, m_okv_t, m_okv_at h.1]) rfl) (T_m_blank h e29) hF rfl (fun w1 h hF => ?_) (by decide) (by decide)
      refine m_Rs.n0 b_308 (x_aload_n d_308_110 rfl) ?_
      refine m_Rs.n0 b_308 (x_getf d_308_111 rfl h.1 rfl) ?_
      refine m_Rs.n0 b_308 (x_bipush (z := 6) d_308_114 (by decide)) ?_
      refine m_Rs.n0 b_308 (x_aload_n d_308_116 rfl) ?_
      refine m_Rs.n0 b_308 (x_getf d_308_117 rfl h.1 rfl) ?_
      refine m_Rs.n0 b_308 (x_iload_n d_308_120 rfl) ?_
      obtain ⟨v30, e31, h0⟩ := bS h0
      refine m_Rs.dget b_308 d_308_121 h 29 rfl e31 ?_
      obtain ⟨S32, e33, h0⟩ := bS h0
      refine m_Rs.dput b_308 d_308_122 h hF 41 rfl e33 (fun w1 h hF => ?_)
      refine m_Rs.n0 b_308 (x_aload_n d_308_123 rfl) ?_
      refine m_Rs.n0 b_308 (x_getf d_308_124 rfl h.1 rfl) ?_
      refine m_Rs.n0 b_308 (x_bipush (z := 7) d_308_127 (by decide)) ?_
      refine m_Rs.n0 b_308 (x_aload_n d_308_129 rfl) ?_
      refine m_Rs.n0 b_308 (x_getf d_308_130 rfl h.1 rfl) ?_
      refine m_Rs.n0 b_308 (x_iload_n d_308_133 rfl) ?_
      obtain ⟨v34, e35, h0⟩ := bS h0
      refine m_Rs.dget b_308 d_308_134 h 30 rfl e35 ?_
      obtain ⟨S36, e37, h0⟩ := bS h0
      refine m_Rs.dput b_308 d_308_135 h hF 41 rfl e37 (fun w1 h hF => ?_)
      refine m_Rs.n0 b_308 (x_aload_n d_308_136 rfl) ?_
      refine m_Rs.n0 b_308 (x_getf d_308_137 rfl h.1 rfl) ?_
      refine m_Rs.n0 b_308 (x_bipush (z := 8) d_308_140 (by decide)) ?_
      refine m_Rs.n0 b_308 (x_aload_n d_308_142 rfl) ?_
      refine m_Rs.n0 b_308 (x_getf d_308_143 rfl h.1 rfl) ?_
      refine m_Rs.n0 b_308 (x_iload_n d_308_146 rfl) ?_
      obtain ⟨v38, e39, h0⟩ := bS h0
      refine m_Rs.dget b_308 d_308_147 h 9 rfl e39 ?_
      obtain ⟨S40, e41, h0⟩ := bS h0
      refine m_Rs.dput b_308 d_308_148 h hF 41 rfl e41 (fun w1 h hF => ?_)
      refine m_Rs.n0 b_308 (x_aload_n d_308_149 rfl) ?_
      refine m_Rs.n0 b_308 (x_getf d_308_150 rfl h.1 rfl) ?_
      refine m_Rs.n0 b_308 (x_iload_n d_308_153 rfl) ?_
      refine m_Rs.n0 b_308 (x_aload_n d_308_154 rfl) ?_
      refine m_Rs.n0 b_308 (x_getf d_308_155 rfl h.1 rfl) ?_
      refine m_Rs.n0 b_308 (x_iload_n d_308_158 rfl) ?_
      obtain ⟨v42, e43, h0⟩ := bS h0
      refine m_Rs.dget b_308 d_308_159 h 9 rfl e43 ?_
      obtain ⟨S44, e45, h0⟩ := bS h0
      refine m_Rs.dput b_308 d_308_160 h hF 31 rfl e45 (fun w1 h hF => ?_)
      refine m_Rs.n0 b_308 (x_aload_n d_308_161 rfl) ?_
      refine m_Rs.n0 b_308 (x_getf d_308_162 rfl h.1 rfl) ?_
      refine m_Rs.n0 b_308 (x_bipush (z := 9) d_308_165 (by decide)) ?_
      refine m_Rs.n0 b_308 (x_aload_n d_308_167 rfl) ?_
      refine m_Rs.n0 b_308 (x_getf d_308_168 rfl h.1 rfl) ?_
      refine m_Rs.n0 b_308 (x_iload_n d_308_171 rfl) ?_
      obtain ⟨v46, e47, h0⟩ := bS h0
      refine m_Rs.dgetb b_308 d_308_172 h 26 rfl e47 ?_
      obtain ⟨v51, e49, h0⟩ := bS h0
      have kk48 : ∀ (xz : Int32) (w1 : List mM), xz = v51 → m_RM S44 w1 → m_Fq w0 w1 → m_Rs l M_308 (181, [(4, .int v12), (3, .int v1), (2, .int (a0 / (128 : Int32))), (0, .ref 583), (1, .int a0)], [.int xz, .int (9 : Int32), .ref 625], w1) (fun v w' => v = some (.int r.1) ∧ m_RM r.2 w' ∧ m_Fq w0 w') 0 0 3 300 := by
        intro xz w ez h hF
        rw [ez]
        obtain ⟨S52, e53, h0⟩ := bS h0
        refine m_Rs.dput b_308 d_308_181 h hF 41 rfl e53 (fun w1 h hF => ?_)
        refine m_Rs.n0 b_308 (x_aload_n d_308_182 rfl) ?_
        refine m_Rs.n0 b_308 (x_getf d_308_183 rfl h.1 rfl) ?_
        refine m_Rs.n0 b_308 (x_bipush (z := 21) d_308_186 (by decide)) ?_
        refine m_Rs.n0 b_308 (x_aload_n d_308_188 rfl) ?_
        refine m_Rs.n0 b_308 (x_getf d_308_189 rfl h.1 rfl) ?_
        refine m_Rs.n0 b_308 (x_iload_n d_308_192 rfl) ?_
        obtain ⟨v54, e55, h0⟩ := bS h0
        refine m_Rs.dget b_308 d_308_193 h 32 rfl e55 ?_
        obtain ⟨S56, e57, h0⟩ := bS h0
        refine m_Rs.dput b_308 d_308_194 h hF 41 rfl e57 (fun w1 h hF => ?_)
        refine m_Rs.n0 b_308 (x_iload d_308_195 rfl) ?_
        refine m_Rs.n0 b_308 (x_iconst (z := (-1)) d_308_197 (by decide)) ?_
        cases hc61 : m_c2 .eq v12 ((-1) : Int32) with
        | true =>
          have h0 := cT hc61 h0
          refine m_Rs.n0 b_308 (x_ict d_308_198 rfl hc61) ?_
          exact m_Rs.pick [3] rfl (T_m_send_274 h hF h0)
        | false =>
          have h0 := cF hc61 h0
          refine m_Rs.n0 b_308 (x_icf d_308_198 rfl hc61) ?_
          refine m_Rs.n0 b_308 (x_aload_n d_308_201 rfl) ?_
          refine m_Rs.n0 b_308 (x_getf d_308_202 rfl h.1 rfl) ?_
          refine m_Rs.n0 b_308 (x_iload_n d_308_205 rfl) ?_
          obtain ⟨v62, e63, h0⟩ := bS h0
          refine m_Rs.dget b_308 d_308_206 h 29 rfl e63 ?_
          refine m_Rs.n0 b_308 (x_aload_n d_308_207 rfl) ?_
          refine m_Rs.n0 b_308 (x_getf d_308_208 rfl h.1 rfl) ?_
          refine m_Rs.n0 b_308 (x_iload_n d_308_211 rfl) ?_
          obtain ⟨v64, e65, h0⟩ := bS h0
          refine m_Rs.dget b_308 d_308_212 h 30 rfl e65 ?_
          refine m_Rs.n0 b_308 (x_aload_n d_308_213 rfl) ?_
          refine m_Rs.n0 b_308 (x_iload d_308_214 rfl) ?_
          refine m_Rs.n0 b_308 (x_iconst (z := 1) d_308_216 (by decide)) ?_
          obtain ⟨v66, e67, h0⟩ := bS h0
          refine m_Rs.callS b_308 (y_cv d_308_217 rfl q_278 (m_isRecv_of rfl h.1) (show m_takeI _ _ = some (_, [_, _, _], [_, _]) from rfl) (by simp only [m_okf, List.all_cons, List.all_nil, Bool.and_true, Bool.and_self, m_okv_i, m_okv_l, m_okv_0, m_okv_t, m_okv_at h.1]) rfl) (T_m_told h e67) hF rfl (fun w1 h hF => ?_) (by decide) (by decide)
          obtain ⟨v68, e69, h0⟩ := bS h0
          refine m_Rs.callS b_308 (y_cs d_308_220 rfl q_286 (show m_takeS _ _ = some (_, [_, _, _], []) from rfl) (by simp only [m_okf, List.all_cons, List.all_nil, Bool.and_true, Bool.and_self, m_okv_i, m_okv_l, m_okv_0, m_okv_t, m_okv_at h.1]) rfl) (T_m_span h e69) hF rfl (fun w1 h hF => ?_) (by decide) (by decide)
          refine m_Rs.n0 b_308 (x_istore d_308_223 rfl (show m_put1 _ _ _ = [(5, _), (4, _), (3, _), (2, _), (0, _), (1, _)] from rfl)) ?_
          refine m_Rs.n0 b_308 (x_aload_n d_308_225 rfl) ?_
          refine m_Rs.n0 b_308 (x_getf d_308_226 rfl h.1 rfl) ?_
          refine m_Rs.n0 b_308 (x_bipush (z := 10) d_308_229 (by decide)) ?_
          refine m_Rs.n0 b_308 (x_aload_n d_308_231 rfl) ?_
          refine m_Rs.n0 b_308 (x_getf d_308_232 rfl h.1 rfl) ?_
          refine m_Rs.n0 b_308 (x_iload d_308_235 rfl) ?_
          obtain ⟨v70, e71, h0⟩ := bS h0
          refine m_Rs.dget b_308 d_308_237 h 20 rfl e71 ?_
          refine m_Rs.n0 b_308 (x_aload_n d_308_238 rfl) ?_
          refine m_Rs.n0 b_308 (x_getf d_308_239 rfl h.1 rfl) ?_
          refine m_Rs.n0 b_308 (x_iload_n d_308_242 rfl) ?_
          obtain ⟨v72, e73, h0⟩ := bS h0
          refine m_Rs.dget b_308 d_308_243 h 9 rfl e73 ?_
          obtain ⟨v82, e75, h0⟩ := bS h0
          have kk74 : ∀ (xz : Int32) (w1 : List mM), xz = v82 → m_RM S56 w1 → m_Fq w0 w1 → m_Rs l M_308 (273, [(5, .int v68), (4, .int v12), (3, .int v1), (2, .int (a0 / (128 : Int32))), (0, .ref 583), (1, .int a0)], [.int xz, .int (10 : Int32), .ref 625], w1) (fun v w' => v = some (.int r.1) ∧ m_RM r.2 w' ∧ m_Fq w0 w') 0 0 3 300 := by
            intro xz w ez h hF
            rw [ez]
            obtain ⟨S83, e84, h0⟩ := bS h0
            refine m_Rs.dput b_308 d_308_273 h hF 41 rfl e84 (fun w1 h hF => ?_)
            exact m_Rs.pick [4] rfl (T_m_send_274 h hF h0)
          cases hc76 : m_c2 .lt v70 v72 with
          | true =>
            have e75 := cT hc76 e75
            refine m_Rs.n0 b_308 (x_ict d_308_244 rfl hc76) ?_
            refine m_Rs.n0 b_308 (x_iconst (z := 0) d_308_272 (by decide)) ?_
            exact kk74 _ _ (Option.some.inj e75) h hF
          | false =>
            have e75 := cF hc76 e75
            refine m_Rs.n0 b_308 (x_icf d_308_244 rfl hc76) ?_
            refine m_Rs.n0 b_308 (x_aload_n d_308_247 rfl) ?_
            refine m_Rs.n0 b_308 (x_getf d_308_248 rfl h.1 rfl) ?_
            refine m_Rs.n0 b_308 (x_iload d_308_251 rfl) ?_
            obtain ⟨v77, e78, e75⟩ := bS e75
            refine m_Rs.dget b_308 d_308_253 h 23 rfl e78 ?_
            refine m_Rs.n0 b_308 (x_iload d_308_254 rfl) ?_
            refine m_Rs.n0 b_308 (x_iand d_308_256 rfl) ?_
            refine m_Rs.n0 b_308 (x_iload d_308_257 rfl) ?_
            cases hc79 : m_c2 .ne (v77 &&& v68) v68 with
            | true =>
              have e75 := cT hc79 e75
              refine m_Rs.n0 b_308 (x_ict d_308_259 rfl hc79) ?_
              refine m_Rs.n0 b_308 (x_iconst (z := 0) d_308_272 (by decide)) ?_
              exact kk74 _ _ (Option.some.inj e75) h hF
            | false =>
              have e75 := cF hc79 e75
              refine m_Rs.n0 b_308 (x_icf d_308_259 rfl hc79) ?_
              refine m_Rs.n0 b_308 (x_aload_n d_308_262 rfl) ?_
              refine m_Rs.n0 b_308 (x_iload d_308_263 rfl) ?_
              refine m_Rs.n0 b_308 (x_iconst (z := 0) d_308_265 (by decide)) ?_
              obtain ⟨v80, e81, e75⟩ := bS e75
              refine m_Rs.callS b_308 (y_cv d_308_266 rfl q_278 (m_isRecv_of rfl h.1) (show m_takeI _ _ = some (_, [_, _, _], [_, _]) from rfl) (by simp only [m_okf, List.all_cons, List.all_nil, Bool.and_true, Bool.and_self, m_okv_i, m_okv_l, m_okv_0, m_okv_t, m_okv_at h.1, m_okv_at (h.a 41 rfl)]) rfl) (T_m_told h e81) hF rfl (fun w1 h hF => ?_) (by decide) (by decide)
              refine m_Rs.n0 b_308 (x_goto d_308_269 rfl) ?_
              exact kk74 _ _ (Option.some.inj e75) h hF
      cases hc50 : m_c1 .eq v46 with
      | true =>
        have e49 := cT hc50 e49
        refine m_Rs.n0 b_308 (x_ift d_308_173 rfl hc50) ?_
        refine m_Rs.n0 b_308 (x_iconst (z := 0) d_308_180 (by decide)) ?_
        exact kk48 _ _ (Option.some.inj e49) h hF
      | false =>
        have e49 := cF hc50 e49
        refine m_Rs.n0 b_308 (x_iff d_308_173 rfl hc50) ?_
        refine m_Rs.n0 b_308 (x_iconst (z := 1) d_308_176 (by decide)) ?_
        refine m_Rs.n0 b_308 (x_goto d_308_177 rfl) ?_
        exact kk48 _ _ (Option.some.inj e49) h hF
    | false =>
      have h0 := cF hc9 h0
      refine m_Rs.n0 b_308 (x_icf d_308_35 rfl hc9) ?_
      refine m_Rs.n0 b_308 (x_iconst (z := 0) d_308_38 (by decide)) ?_
      exact m_Rs.ret b_308 (m_rt_ir d_308_39 rfl m_nb0) (rP h0 h hF)
  cases hc5 : m_c2 .eq v1 ((-1) : Int32) with
  | true =>
    have e4 := cT hc5 e4
    refine m_Rs.n0 b_308 (x_ict d_308_24 rfl hc5) ?_
    refine m_Rs.n0 b_308 (x_iconst (z := 0) d_308_31 (by decide)) ?_
    exact kk3 _ _ (Option.some.inj e4) h hF
  | false =>
    have e4 := cF hc5 e4
    refine m_Rs.n0 b_308 (x_icf d_308_24 rfl hc5) ?_
    refine m_Rs.n0 b_308 (x_iconst (z := 1) d_308_27 (by decide)) ?_
    refine m_Rs.n0 b_308 (x_goto d_308_28 rfl) ?_
    exact kk3 _ _ (Option.some.inj e4) h hF
def D_m_fetch_289 (F : Nat) (x1 : Int32) (x2 : Int32) (S : mS) : Option (Int32 × mS) := (D_m_isForced F x1 S).bind fun v137 => (bput 896 S 610 x2 v137).bind fun S139 => (aget 0 48000 S139 622 (x1 + (11 : Int32))).bind fun v141 => (aput 896 S139 616 x2 v141).bind fun S143 => (D_m_send F x2 S143).bind fun q145 => (bret q145.1).bind fun v147 => some (v147, q145.2)
theorem T_m_fetch_289 {l : Launch} {w0 : List mM} {F : Nat} {x1 : Int32} {x2 : Int32} {S : mS} {w : List mM} {r : Int32 × mS} (h : m_RM S w) (hF : m_Fq w0 w) (h0 : D_m_fetch_289 F x1 x2 S = some r) : m_Rs l M_307 (289, [(0, .ref 583), (1, .int x1), (2, .int x2)], [], w) (fun v w' => v = some (.int r.1) ∧ m_RM r.2 w' ∧ m_Fq w0 w') 0 0 6 600 := by
  rw [D_m_fetch_289] at h0
  refine m_Rs.n0 b_307 (x_aload_n d_307_289 rfl) ?_
  refine m_Rs.n0 b_307 (x_getf d_307_290 rfl h.1 rfl) ?_
  refine m_Rs.n0 b_307 (x_iload_n d_307_293 rfl) ?_
  refine m_Rs.n0 b_307 (x_aload_n d_307_294 rfl) ?_
  refine m_Rs.n0 b_307 (x_iload_n d_307_295 rfl) ?_
  obtain ⟨v137, e138, h0⟩ := bS h0
  refine m_Rs.callS b_307 (y_cv d_307_296 rfl q_281 (m_isRecv_of rfl h.1) (show m_takeI _ _ = some (_, [_, _], [_, _]) from rfl) (by simp only [m_okf, List.all_cons, List.all_nil, Bool.and_true, Bool.and_self, m_okv_i, m_okv_l, m_okv_0, m_okv_t, m_okv_at h.1, m_okv_at (h.a 26 rfl)]) rfl) (T_m_isForced h e138) hF rfl (fun w1 h hF => ?_) (by decide) (by decide)
  obtain ⟨S139, e140, h0⟩ := bS h0
  refine m_Rs.dputb b_307 d_307_299 h hF 26 rfl e140 (fun w1 h hF => ?_)
  refine m_Rs.n0 b_307 (x_aload_n d_307_300 rfl) ?_
  refine m_Rs.n0 b_307 (x_getf d_307_301 rfl h.1 rfl) ?_
  refine m_Rs.n0 b_307 (x_iload_n d_307_304 rfl) ?_
  refine m_Rs.n0 b_307 (x_aload_n d_307_305 rfl) ?_
  refine m_Rs.n0 b_307 (x_getf d_307_306 rfl h.1 rfl) ?_
  refine m_Rs.n0 b_307 (x_iload_n d_307_309 rfl) ?_
  refine m_Rs.n0 b_307 (x_bipush (z := 11) d_307_310 (by decide)) ?_
  refine m_Rs.n0 b_307 (x_iadd d_307_312 rfl) ?_
  obtain ⟨v141, e142, h0⟩ := bS h0
  refine m_Rs.dget b_307 d_307_313 h 38 rfl e142 ?_
  obtain ⟨S143, e144, h0⟩ := bS h0
  refine m_Rs.dput b_307 d_307_314 h hF 32 rfl e144 (fun w1 h hF => ?_)
  refine m_Rs.n0 b_307 (x_aload_n d_307_315 rfl) ?_
  refine m_Rs.n0 b_307 (x_iload_n d_307_316 rfl) ?_
  obtain ⟨q145, e146, h0⟩ := bS h0
  refine m_Rs.callS b_307 (y_cv d_307_317 rfl q_308 (m_isRecv_of rfl h.1) (show m_takeI _ _ = some (_, [_, _], []) from rfl) (by simp only [m_okf, List.all_cons, List.all_nil, Bool.and_true, Bool.and_self, m_okv_i, m_okv_l, m_okv_0, m_okv_t, m_okv_at h.1]) rfl) (T_m_send h e146) hF rfl (fun w1 h hF => ?_) (by decide) (by decide)
  obtain ⟨v147, e148, h0⟩ := bS h0
  exact m_Rs.retb b_307 d_307_320 rfl e148 (rP h0 h hF)
def D_m_fetch_184 (F : Nat) (x1 : Int32) (x2 : Int32) (x4 : Int32) (S : mS) : Option (Int32 × mS) := (aget 0 48000 S 622 (x1 + (10 : Int32))).bind fun v91 => cond (m_c1 .ne v91) (D_m_fetch_289 F x1 x2 S) ((D_m_isMarked F x1 x4 S).bind fun v97 => cond (m_c1 .eq v97) (D_m_fetch_289 F x1 x2 S) ((D_m_isForced F x1 S).bind fun v103 => cond (m_c1 .ne v103) (D_m_fetch_289 F x1 x2 S) ((D_m_isFresh F x1 x4 S).bind fun v109 => cond (m_c1 .eq v109) (D_m_fetch_289 F x1 x2 S) ((D_m_isWhole F x1 x4 S).bind fun v115 => cond (m_c1 .ne v115) (D_m_fetch_289 F x1 x2 S) ((D_m_told F x4 (1 : Int32) S).bind fun v121 => (D_m_tagOf F x4 S).bind fun v123 => (D_m_needs F x1 v121 v123 S).bind fun v125 => (aget 0 7168 S 607 x4).bind fun v127 => (D_ntz F (v125 &&& (v127 ^^^ ((-1) : Int32))) S).bind fun v129 => (aput 896 S 613 x2 v129).bind fun S131 => (D_nlz F (v125 &&& (v127 ^^^ ((-1) : Int32))) S131).bind fun v133 => (aput 896 S131 614 x2 ((31 : Int32) - v133)).bind fun S135 => D_m_fetch_289 F x1 x2 S135)))))
theorem T_m_fetch_184 {l : Launch} {w0 : List mM} {F : Nat} {x1 : Int32} {x2 : Int32} {x4 : Int32} {S : mS} {w : List mM} {r : Int32 × mS} (h : m_RM S w) (hF : m_Fq w0 w) (h0 : D_m_fetch_184 F x1 x2 x4 S = some r) : m_Rs l M_307 (184, [(0, .ref 583), (1, .int x1), (2, .int x2), (4, .int x4)], [], w) (fun v w' => v = some (.int r.1) ∧ m_RM r.2 w' ∧ m_Fq w0 w') 0 0 6 600 := by
  rw [D_m_fetch_184] at h0
  refine m_Rs.n0 b_307 (x_aload_n d_307_184 rfl) ?_
  refine m_Rs.n0 b_307 (x_getf d_307_185 rfl h.1 rfl) ?_
  refine m_Rs.n0 b_307 (x_iload_n d_307_188 rfl) ?_
  refine m_Rs.n0 b_307 (x_bipush (z := 10) d_307_189 (by decide)) ?_
  refine m_Rs.n0 b_307 (x_iadd d_307_191 rfl) ?_
  obtain ⟨v91, e92, h0⟩ := bS h0
  refine m_Rs.dget b_307 d_307_192 h 38 rfl e92 ?_
  cases hc96 : m_c1 .ne v91 with
  | true =>
    have h0 := cT hc96 h0
    refine m_Rs.n0 b_307 (x_ift d_307_193 rfl hc96) ?_
    exact m_Rs.pick [0, 1, 2] rfl (T_m_fetch_289 h hF h0)
  | false =>
    have h0 := cF hc96 h0
    refine m_Rs.n0 b_307 (x_iff d_307_193 rfl hc96) ?_
    refine m_Rs.n0 b_307 (x_aload_n d_307_196 rfl) ?_
    refine m_Rs.n0 b_307 (x_iload_n d_307_197 rfl) ?_
    refine m_Rs.n0 b_307 (x_iload d_307_198 rfl) ?_
    obtain ⟨v97, e98, h0⟩ := bS h0
    refine m_Rs.callS b_307 (y_cv d_307_200 rfl q_280 (m_isRecv_of rfl h.1) (show m_takeI _ _ = some (_, [_, _, _], []) from rfl) (by simp only [m_okf, List.all_cons, List.all_nil, Bool.and_true, Bool.and_self, m_okv_i, m_okv_l, m_okv_0, m_okv_t, m_okv_at h.1]) rfl) (T_m_isMarked h e98) hF rfl (fun w1 h hF => ?_) (by decide) (by decide)
    cases hc102 : m_c1 .eq v97 with
    | true =>
      have h0 := cT hc102 h0
      refine m_Rs.n0 b_307 (x_ift d_307_203 rfl hc102) ?_
      exact m_Rs.pick [0, 1, 2] rfl (T_m_fetch_289 h hF h0)
    | false =>
      have h0 := cF hc102 h0
      refine m_Rs.n0 b_307 (x_iff d_307_203 rfl hc102) ?_
      refine m_Rs.n0 b_307 (x_aload_n d_307_206 rfl) ?_
      refine m_Rs.n0 b_307 (x_iload_n d_307_207 rfl) ?_
      obtain ⟨v103, e104, h0⟩ := bS h0
      refine m_Rs.callS b_307 (y_cv d_307_208 rfl q_281 (m_isRecv_of rfl h.1) (show m_takeI _ _ = some (_, [_, _], []) from rfl) (by simp only [m_okf, List.all_cons, List.all_nil, Bool.and_true, Bool.and_self, m_okv_i, m_okv_l, m_okv_0, m_okv_t, m_okv_at h.1]) rfl) (T_m_isForced h e104) hF rfl (fun w1 h hF => ?_) (by decide) (by decide)
      cases hc108 : m_c1 .ne v103 with
      | true =>
        have h0 := cT hc108 h0
        refine m_Rs.n0 b_307 (x_ift d_307_211 rfl hc108) ?_
        exact m_Rs.pick [0, 1, 2] rfl (T_m_fetch_289 h hF h0)
      | false =>
        have h0 := cF hc108 h0
        refine m_Rs.n0 b_307 (x_iff d_307_211 rfl hc108) ?_
        refine m_Rs.n0 b_307 (x_aload_n d_307_214 rfl) ?_
        refine m_Rs.n0 b_307 (x_iload_n d_307_215 rfl) ?_
        refine m_Rs.n0 b_307 (x_iload d_307_216 rfl) ?_
        obtain ⟨v109, e110, h0⟩ := bS h0
        refine m_Rs.callS b_307 (y_cv d_307_218 rfl q_291 (m_isRecv_of rfl h.1) (show m_takeI _ _ = some (_, [_, _, _], []) from rfl) (by simp only [m_okf, List.all_cons, List.all_nil, Bool.and_true, Bool.and_self, m_okv_i, m_okv_l, m_okv_0, m_okv_t, m_okv_at h.1]) rfl) (T_m_isFresh h e110) hF rfl (fun w1 h hF => ?_) (by decide) (by decide)
        cases hc114 : m_c1 .eq v109 with
        | true =>
          have h0 := cT hc114 h0
          refine m_Rs.n0 b_307 (x_ift d_307_221 rfl hc114) ?_
          exact m_Rs.pick [0, 1, 2] rfl (T_m_fetch_289 h hF h0)
        | false =>
          have h0 := cF hc114 h0
          refine m_Rs.n0 b_307 (x_iff d_307_221 rfl hc114) ?_
          refine m_Rs.n0 b_307 (x_aload_n d_307_224 rfl) ?_
          refine m_Rs.n0 b_307 (x_iload_n d_307_225 rfl) ?_
          refine m_Rs.n0 b_307 (x_iload d_307_226 rfl) ?_
          obtain ⟨v115, e116, h0⟩ := bS h0
          refine m_Rs.callS b_307 (y_cv d_307_228 rfl q_283 (m_isRecv_of rfl h.1) (show m_takeI _ _ = some (_, [_, _, _], []) from rfl) (by simp only [m_okf, List.all_cons, List.all_nil, Bool.and_true, Bool.and_self, m_okv_i, m_okv_l, m_okv_0, m_okv_t, m_okv_at h.1]) rfl) (T_m_isWhole h e116) hF rfl (fun w1 h hF => ?_) (by decide) (by decide)
          cases hc120 : m_c1 .ne v115 with
          | true =>
            have h0 := cT hc120 h0
            refine m_Rs.n0 b_307 (x_ift d_307_231 rfl hc120) ?_
            exact m_Rs.pick [0, 1, 2] rfl (T_m_fetch_289 h hF h0)
          | false =>
            have h0 := cF hc120 h0
            refine m_Rs.n0 b_307 (x_iff d_307_231 rfl hc120) ?_
            refine m_Rs.n0 b_307 (x_aload_n d_307_234 rfl) ?_
            refine m_Rs.n0 b_307 (x_iload_n d_307_235 rfl) ?_
            refine m_Rs.n0 b_307 (x_aload_n d_307_236 rfl) ?_
            refine m_Rs.n0 b_307 (x_iload d_307_237 rfl) ?_
            refine m_Rs.n0 b_307 (x_iconst (z := 1) d_307_239 (by decide)) ?_
            obtain ⟨v121, e122, h0⟩ := bS h0
            refine m_Rs.callS b_307 (y_cv d_307_240 rfl q_278 (m_isRecv_of rfl h.1) (show m_takeI _ _ = some (_, [_, _, _], [_, _]) from rfl) (by simp only [m_okf, List.all_cons, List.all_nil, Bool.and_true, Bool.and_self, m_okv_i, m_okv_l, m_okv_0, m_okv_t, m_okv_at h.1]) rfl) (T_m_told h e122) hF rfl (fun w1 h hF => ?_) (by decide) (by decide)
            refine m_Rs.n0 b_307 (x_aload_n d_307_243 rfl) ?_
            refine m_Rs.n0 b_307 (x_iload d_307_244 rfl) ?_
            obtain ⟨v123, e124, h0⟩ := bS h0
            refine m_Rs.callS b_307 (y_cv d_307_246 rfl q_284 (m_isRecv_of rfl h.1) (show m_takeI _ _ = some (_, [_, _], [_, _, _]) from rfl) (by simp only [m_okf, List.all_cons, List.all_nil, Bool.and_true, Bool.and_self, m_okv_i, m_okv_l, m_okv_0, m_okv_t, m_okv_at h.1]) rfl) (T_m_tagOf h e124) hF rfl (fun w1 h hF => ?_) (by decide) (by decide)
            obtain ⟨v125, e126, h0⟩ := bS h0
            refine m_Rs.callS b_307 (y_cv d_307_249 rfl q_285 (m_isRecv_of rfl h.1) (show m_takeI _ _ = some (_, [_, _, _, _], []) from rfl) (by simp only [m_okf, List.all_cons, List.all_nil, Bool.and_true, Bool.and_self, m_okv_i, m_okv_l, m_okv_0, m_okv_t, m_okv_at h.1]) rfl) (T_m_needs h e126) hF rfl (fun w1 h hF => ?_) (by decide) (by decide)
            refine m_Rs.n0 b_307 (x_aload_n d_307_252 rfl) ?_
            refine m_Rs.n0 b_307 (x_getf d_307_253 rfl h.1 rfl) ?_
            refine m_Rs.n0 b_307 (x_iload d_307_256 rfl) ?_
            obtain ⟨v127, e128, h0⟩ := bS h0
            refine m_Rs.dget b_307 d_307_258 h 23 rfl e128 ?_
            refine m_Rs.n0 b_307 (x_iconst (z := (-1)) d_307_259 (by decide)) ?_
            refine m_Rs.n0 b_307 (x_ixor d_307_260 rfl) ?_
            refine m_Rs.n0 b_307 (x_iand d_307_261 rfl) ?_
            refine m_Rs.n0 b_307 (x_istore d_307_262 rfl (show m_put1 _ _ _ = [(5, _), (0, _), (1, _), (2, _), (4, _)] from rfl)) ?_
            refine m_Rs.n0 b_307 (x_aload_n d_307_264 rfl) ?_
            refine m_Rs.n0 b_307 (x_getf d_307_265 rfl h.1 rfl) ?_
            refine m_Rs.n0 b_307 (x_iload_n d_307_268 rfl) ?_
            refine m_Rs.n0 b_307 (x_iload d_307_269 rfl) ?_
            obtain ⟨v129, e130, h0⟩ := bS h0
            refine m_Rs.callS b_307 (y_cs d_307_271 rfl q_120 (show m_takeS _ _ = some (_, [_], [_, _]) from rfl) (by simp only [m_okf, List.all_cons, List.all_nil, Bool.and_true, Bool.and_self, m_okv_i, m_okv_l, m_okv_0, m_okv_t, m_okv_at h.1, m_okv_at (h.a 29 rfl)]) rfl) (T_ntz h e130) hF rfl (fun w1 h hF => ?_) (by decide) (by decide)
            obtain ⟨S131, e132, h0⟩ := bS h0
            refine m_Rs.dput b_307 d_307_274 h hF 29 rfl e132 (fun w1 h hF => ?_)
            refine m_Rs.n0 b_307 (x_aload_n d_307_275 rfl) ?_
            refine m_Rs.n0 b_307 (x_getf d_307_276 rfl h.1 rfl) ?_
            refine m_Rs.n0 b_307 (x_iload_n d_307_279 rfl) ?_
            refine m_Rs.n0 b_307 (x_bipush (z := 31) d_307_280 (by decide)) ?_
            refine m_Rs.n0 b_307 (x_iload d_307_282 rfl) ?_
            obtain ⟨v133, e134, h0⟩ := bS h0
            refine m_Rs.callS b_307 (y_cs d_307_284 rfl q_121 (show m_takeS _ _ = some (_, [_], [_, _, _]) from rfl) (by simp only [m_okf, List.all_cons, List.all_nil, Bool.and_true, Bool.and_self, m_okv_i, m_okv_l, m_okv_0, m_okv_t, m_okv_at h.1, m_okv_at (h.a 30 rfl)]) rfl) (T_nlz h e134) hF rfl (fun w1 h hF => ?_) (by decide) (by decide)
            refine m_Rs.n0 b_307 (x_isub d_307_287 rfl) ?_
            obtain ⟨S135, e136, h0⟩ := bS h0
            refine m_Rs.dput b_307 d_307_288 h hF 30 rfl e136 (fun w1 h hF => ?_)
            exact m_Rs.pick [1, 2, 3] rfl (T_m_fetch_289 h hF h0)
def D_m_fetch_109 (F : Nat) (x1 : Int32) (x2 : Int32) (x3 : Int32) (x4 : Int32) (S : mS) : Option (Int32 × mS) := (D_m_asks F x3 (4 : Int32) S).bind fun v68 => (cond (m_c2 .le v68 (255 : Int32)) ((D_m_asks F x3 (4 : Int32) S).bind fun v73 => some v73) (some (255 : Int32))).bind fun v75 => (aput 896 S 613 x2 (v75 / (16 : Int32))).bind fun S76 => (D_m_asks F x3 (3 : Int32) S76).bind fun v78 => (cond (m_c2 .eq v78 (2 : Int32)) (some (15 : Int32)) ((D_m_asks F x3 (5 : Int32) S76).bind fun v83 => cond (m_c2 .le v83 (255 : Int32)) ((D_m_asks F x3 (5 : Int32) S76).bind fun v86 => some (v86 / (16 : Int32))) (some (15 : Int32)))).bind fun v88 => (aput 896 S76 614 x2 v88).bind fun S89 => D_m_fetch_184 F x1 x2 x4 S89
theorem T_m_fetch_109 {l : Launch} {w0 : List mM} {F : Nat} {x1 : Int32} {x2 : Int32} {x3 : Int32} {x4 : Int32} {S : mS} {w : List mM} {r : Int32 × mS} (h : m_RM S w) (hF : m_Fq w0 w) (h0 : D_m_fetch_109 F x1 x2 x3 x4 S = some r) : m_Rs l M_307 (109, [(0, .ref 583), (1, .int x1), (2, .int x2), (3, .int x3), (4, .int x4)], [], w) (fun v w' => v = some (.int r.1) ∧ m_RM r.2 w' ∧ m_Fq w0 w') 0 0 6 600 := by
  rw [D_m_fetch_109] at h0
  refine m_Rs.n0 b_307 (x_aload_n d_307_109 rfl) ?_
  refine m_Rs.n0 b_307 (x_getf d_307_110 rfl h.1 rfl) ?_
  refine m_Rs.n0 b_307 (x_iload_n d_307_113 rfl) ?_
  refine m_Rs.n0 b_307 (x_aload_n d_307_114 rfl) ?_
  refine m_Rs.n0 b_307 (x_iload_n d_307_115 rfl) ?_
  refine m_Rs.n0 b_307 (x_iconst (z := 4) d_307_116 (by decide)) ?_
  obtain ⟨v68, e69, h0⟩ := bS h0
  refine m_Rs.callS b_307 (y_cv d_307_117 rfl q_282 (m_isRecv_of rfl h.1) (show m_takeI _ _ = some (_, [_, _, _], [_, _]) from rfl) (by simp only [m_okf, List.all_cons, List.all_nil, Bool.and_true, Bool.and_self, m_okv_i, m_okv_l, m_okv_0, m_okv_t, m_okv_at h.1, m_okv_at (h.a 29 rfl)]) rfl) (T_m_asks h e69) hF rfl (fun w1 h hF => ?_) (by decide) (by decide)
  refine m_Rs.n0 b_307 (x_sipush (z := 255) d_307_120 (by decide)) ?_
  obtain ⟨v75, e71, h0⟩ := bS h0
  have kk70 : ∀ (xz : Int32) (w1 : List mM), xz = v75 → m_RM S w1 → m_Fq w0 w1 → m_Rs l M_307 (138, [(0, .ref 583), (1, .int x1), (2, .int x2), (3, .int x3), (4, .int x4)], [.int xz, .int x2, .ref 613], w1) (fun v w' => v = some (.int r.1) ∧ m_RM r.2 w' ∧ m_Fq w0 w') 0 0 6 600 := by
    intro xz w ez h hF
    rw [ez]
    refine m_Rs.n0 b_307 (x_bipush (z := 16) d_307_138 (by decide)) ?_
    refine m_Rs.n0 b_307 (x_idiv d_307_140 (by decide) rfl) ?_
    obtain ⟨S76, e77, h0⟩ := bS h0
    refine m_Rs.dput b_307 d_307_141 h hF 29 rfl e77 (fun w1 h hF => ?_)
    refine m_Rs.n0 b_307 (x_aload_n d_307_142 rfl) ?_
    refine m_Rs.n0 b_307 (x_getf d_307_143 rfl h.1 rfl) ?_
    refine m_Rs.n0 b_307 (x_iload_n d_307_146 rfl) ?_
    refine m_Rs.n0 b_307 (x_aload_n d_307_147 rfl) ?_
    refine m_Rs.n0 b_307 (x_iload_n d_307_148 rfl) ?_
    refine m_Rs.n0 b_307 (x_iconst (z := 3) d_307_149 (by decide)) ?_
    obtain ⟨v78, e79, h0⟩ := bS h0
    refine m_Rs.callS b_307 (y_cv d_307_150 rfl q_282 (m_isRecv_of rfl h.1) (show m_takeI _ _ = some (_, [_, _, _], [_, _]) from rfl) (by simp only [m_okf, List.all_cons, List.all_nil, Bool.and_true, Bool.and_self, m_okv_i, m_okv_l, m_okv_0, m_okv_t, m_okv_at h.1, m_okv_at (h.a 30 rfl)]) rfl) (T_m_asks h e79) hF rfl (fun w1 h hF => ?_) (by decide) (by decide)
    refine m_Rs.n0 b_307 (x_iconst (z := 2) d_307_153 (by decide)) ?_
    obtain ⟨v88, e81, h0⟩ := bS h0
    have kk80 : ∀ (xz : Int32) (w1 : List mM), xz = v88 → m_RM S76 w1 → m_Fq w0 w1 → m_Rs l M_307 (183, [(0, .ref 583), (1, .int x1), (2, .int x2), (3, .int x3), (4, .int x4)], [.int xz, .int x2, .ref 614], w1) (fun v w' => v = some (.int r.1) ∧ m_RM r.2 w' ∧ m_Fq w0 w') 0 0 6 600 := by
      intro xz w ez h hF
      rw [ez]
      obtain ⟨S89, e90, h0⟩ := bS h0
      refine m_Rs.dput b_307 d_307_183 h hF 30 rfl e90 (fun w1 h hF => ?_)
      exact m_Rs.pick [0, 1, 2, 4] rfl (T_m_fetch_184 h hF h0)
    cases hc82 : m_c2 .eq v78 (2 : Int32) with
    | true =>
      have e81 := cT hc82 e81
      refine m_Rs.n0 b_307 (x_ict d_307_154 rfl hc82) ?_
      refine m_Rs.n0 b_307 (x_bipush (z := 15) d_307_169 (by decide)) ?_
      refine m_Rs.n0 b_307 (x_goto d_307_171 rfl) ?_
      exact kk80 _ _ (Option.some.inj e81) h hF
    | false =>
      have e81 := cF hc82 e81
      refine m_Rs.n0 b_307 (x_icf d_307_154 rfl hc82) ?_
      refine m_Rs.n0 b_307 (x_aload_n d_307_157 rfl) ?_
      refine m_Rs.n0 b_307 (x_iload_n d_307_158 rfl) ?_
      refine m_Rs.n0 b_307 (x_iconst (z := 5) d_307_159 (by decide)) ?_
      obtain ⟨v83, e84, e81⟩ := bS e81
      refine m_Rs.callS b_307 (y_cv d_307_160 rfl q_282 (m_isRecv_of rfl h.1) (show m_takeI _ _ = some (_, [_, _, _], [_, _]) from rfl) (by simp only [m_okf, List.all_cons, List.all_nil, Bool.and_true, Bool.and_self, m_okv_i, m_okv_l, m_okv_0, m_okv_t, m_okv_at h.1, m_okv_at (h.a 30 rfl)]) rfl) (T_m_asks h e84) hF rfl (fun w1 h hF => ?_) (by decide) (by decide)
      refine m_Rs.n0 b_307 (x_sipush (z := 255) d_307_163 (by decide)) ?_
      cases hc85 : m_c2 .le v83 (255 : Int32) with
      | true =>
        have e81 := cT hc85 e81
        refine m_Rs.n0 b_307 (x_ict d_307_166 rfl hc85) ?_
        refine m_Rs.n0 b_307 (x_aload_n d_307_174 rfl) ?_
        refine m_Rs.n0 b_307 (x_iload_n d_307_175 rfl) ?_
        refine m_Rs.n0 b_307 (x_iconst (z := 5) d_307_176 (by decide)) ?_
        obtain ⟨v86, e87, e81⟩ := bS e81
        refine m_Rs.callS b_307 (y_cv d_307_177 rfl q_282 (m_isRecv_of rfl h.1) (show m_takeI _ _ = some (_, [_, _, _], [_, _]) from rfl) (by simp only [m_okf, List.all_cons, List.all_nil, Bool.and_true, Bool.and_self, m_okv_i, m_okv_l, m_okv_0, m_okv_t, m_okv_at h.1, m_okv_at (h.a 30 rfl)]) rfl) (T_m_asks h e87) hF rfl (fun w1 h hF => ?_) (by decide) (by decide)
        refine m_Rs.n0 b_307 (x_bipush (z := 16) d_307_180 (by decide)) ?_
        refine m_Rs.n0 b_307 (x_idiv d_307_182 (by decide) rfl) ?_
        exact kk80 _ _ (Option.some.inj e81) h hF
      | false =>
        have e81 := cF hc85 e81
        refine m_Rs.n0 b_307 (x_icf d_307_166 rfl hc85) ?_
        refine m_Rs.n0 b_307 (x_bipush (z := 15) d_307_169 (by decide)) ?_
        refine m_Rs.n0 b_307 (x_goto d_307_171 rfl) ?_
        exact kk80 _ _ (Option.some.inj e81) h hF
  cases hc72 : m_c2 .le v68 (255 : Int32) with
  | true =>
    have e71 := cT hc72 e71
    refine m_Rs.n0 b_307 (x_ict d_307_123 rfl hc72) ?_
    refine m_Rs.n0 b_307 (x_aload_n d_307_132 rfl) ?_
    refine m_Rs.n0 b_307 (x_iload_n d_307_133 rfl) ?_
    refine m_Rs.n0 b_307 (x_iconst (z := 4) d_307_134 (by decide)) ?_
    obtain ⟨v73, e74, e71⟩ := bS e71
    refine m_Rs.callS b_307 (y_cv d_307_135 rfl q_282 (m_isRecv_of rfl h.1) (show m_takeI _ _ = some (_, [_, _, _], [_, _]) from rfl) (by simp only [m_okf, List.all_cons, List.all_nil, Bool.and_true, Bool.and_self, m_okv_i, m_okv_l, m_okv_0, m_okv_t, m_okv_at h.1, m_okv_at (h.a 29 rfl)]) rfl) (T_m_asks h e74) hF rfl (fun w1 h hF => ?_) (by decide) (by decide)
    exact kk70 _ _ (Option.some.inj e71) h hF
  | false =>
    have e71 := cF hc72 e71
    refine m_Rs.n0 b_307 (x_icf d_307_123 rfl hc72) ?_
    refine m_Rs.n0 b_307 (x_sipush (z := 255) d_307_126 (by decide)) ?_
    refine m_Rs.n0 b_307 (x_goto d_307_129 rfl) ?_
    exact kk70 _ _ (Option.some.inj e71) h hF
def D_m_fetch (F : Nat) (a0 : Int32) (a1 : Int32) (S : mS) : Option (Int32 × mS) := (aget 0 48000 S 622 (a0 + (2 : Int32))).bind fun v1 => (aget 0 48000 S 622 (a0 + (11 : Int32))).bind fun v3 => (D_m_suits F a1 v3 S).bind fun v5 => (cond (m_c2 .ne v1 ((-1) : Int32)) (some (0 : Int32)) ((aget 0 48000 S 622 (a0 + (5 : Int32))).bind fun v10 => some v10)).bind fun v12 => (aput 896 S 613 a1 v12).bind fun S13 => (cond (m_c2 .ne v1 ((-1) : Int32)) (some (15 : Int32)) ((aget 0 48000 S13 622 (a0 + (6 : Int32))).bind fun v18 => some v18)).bind fun v20 => (aput 896 S13 614 a1 v20).bind fun S21 => cond (m_c2 .eq v1 ((-1) : Int32)) (D_m_fetch_184 F a0 a1 v5 S21) ((D_m_asks F v1 (21 : Int32) S21).bind fun v27 => cond (m_c2 .ne v27 ((-1) : Int32)) (D_m_fetch_184 F a0 a1 v5 S21) ((D_m_asks F v1 (3 : Int32) S21).bind fun v33 => cond (m_c2 .eq v33 (1 : Int32)) (D_m_fetch_109 F a0 a1 v1 v5 S21) ((D_m_asks F v1 (3 : Int32) S21).bind fun v62 => cond (m_c2 .ne v62 (2 : Int32)) (D_m_fetch_184 F a0 a1 v5 S21) (D_m_fetch_109 F a0 a1 v1 v5 S21))))
theorem T_m_fetch {l : Launch} {w : List mM} {F : Nat} {a0 : Int32} {a1 : Int32} {S : mS} {r : Int32 × mS} (h : m_RM S w) (h0 : D_m_fetch F a0 a1 S = some r) : m_Rs l M_307 (m_ent M_307 [.ref 583, .int a0, .int a1] w) (fun v w' => v = some (.int r.1) ∧ m_RM r.2 w' ∧ m_Fq w w') 0 0 6 600 := by
  show m_Rs l M_307 (0, [(0, .ref 583), (1, .int a0), (2, .int a1)], [], w) _ 0 0 6 600
  generalize hw0 : w = w0 at h ⊢
  have hF : m_Fq w0 w0 := m_Fq.refl
  rw [D_m_fetch] at h0
  refine m_Rs.n0 b_307 (x_aload_n d_307_0 rfl) ?_
  refine m_Rs.n0 b_307 (x_getf d_307_1 rfl h.1 rfl) ?_
  refine m_Rs.n0 b_307 (x_iload_n d_307_4 rfl) ?_
  refine m_Rs.n0 b_307 (x_iconst (z := 2) d_307_5 (by decide)) ?_
  refine m_Rs.n0 b_307 (x_iadd d_307_6 rfl) ?_
  obtain ⟨v1, e2, h0⟩ := bS h0
  refine m_Rs.dget b_307 d_307_7 h 38 rfl e2 ?_
  refine m_Rs.n0 b_307 (x_istore_n d_307_8 rfl (show m_put1 _ _ _ = [(3, _), (0, _), (1, _), (2, _)] from rfl)) ?_
  refine m_Rs.n0 b_307 (x_aload_n d_307_9 rfl) ?_
  refine m_Rs.n0 b_307 (x_iload_n d_307_10 rfl) ?_
  refine m_Rs.n0 b_307 (x_aload_n d_307_11 rfl) ?_
  refine m_Rs.n0 b_307 (x_getf d_307_12 rfl h.1 rfl) ?_
  refine m_Rs.n0 b_307 (x_iload_n d_307_15 rfl) ?_
  refine m_Rs.n0 b_307 (x_bipush (z := 11) d_307_16 (by decide)) ?_
  refine m_Rs.n0 b_307 (x_iadd d_307_18 rfl) ?_
  obtain ⟨v3, e4, h0⟩ := bS h0
  refine m_Rs.dget b_307 d_307_19 h 38 rfl e4 ?_
  obtain ⟨v5, e6, h0⟩ := bS h0
  refine m_Rs.callS b_307 (y_cv d_307_20 rfl q_277 (m_isRecv_of rfl h.1) (show m_takeI _ _ = some (_, [_, _, _], []) from rfl) (by simp only [m_okf, List.all_cons, List.all_nil, Bool.and_true, Bool.and_self, m_okv_i, m_okv_l, m_okv_0, m_okv_t, m_okv_at h.1]) rfl) (T_m_suits h e6) hF rfl (fun w1 h hF => ?_) (by decide) (by decide)
  refine m_Rs.n0 b_307 (x_istore d_307_23 rfl (show m_put1 _ _ _ = [(4, _), (3, _), (0, _), (1, _), (2, _)] from rfl)) ?_
  refine m_Rs.n0 b_307 (x_aload_n d_307_25 rfl) ?_
  refine m_Rs.n0 b_307 (x_getf d_307_26 rfl h.1 rfl) ?_
  refine m_Rs.n0 b_307 (x_iload_n d_307_29 rfl) ?_
  refine m_Rs.n0 b_307 (x_iload_n d_307_30 rfl) ?_
  refine m_Rs.n0 b_307 (x_iconst (z := (-1)) d_307_31 (by decide)) ?_
  obtain ⟨v12, e8, h0⟩ := bS h0
  have kk7 : ∀ (xz : Int32) (w1 : List mM), xz = v12 → m_RM S w1 → m_Fq w0 w1 → m_Rs l M_307 (47, [(4, .int v5), (3, .int v1), (0, .ref 583), (1, .int a0), (2, .int a1)], [.int xz, .int a1, .ref 613], w1) (fun v w' => v = some (.int r.1) ∧ m_RM r.2 w' ∧ m_Fq w0 w') 0 0 6 600 := by
    intro xz w ez h hF
    rw [ez]
    obtain ⟨S13, e14, h0⟩ := bS h0
    refine m_Rs.dput b_307 d_307_47 h hF 29 rfl e14 (fun w1 h hF => ?_)
    refine m_Rs.n0 b_307 (x_aload_n d_307_48 rfl) ?_
    refine m_Rs.n0 b_307 (x_getf d_307_49 rfl h.1 rfl) ?_
    refine m_Rs.n0 b_307 (x_iload_n d_307_52 rfl) ?_
    refine m_Rs.n0 b_307 (x_iload_n d_307_53 rfl) ?_
    refine m_Rs.n0 b_307 (x_iconst (z := (-1)) d_307_54 (by decide)) ?_
    obtain ⟨v20, e16, h0⟩ := bS h0
    have kk15 : ∀ (xz : Int32) (w1 : List mM), xz = v20 → m_RM S13 w1 → m_Fq w0 w1 → m_Rs l M_307 (72, [(4, .int v5), (3, .int v1), (0, .ref 583), (1, .int a0), (2, .int a1)], [.int xz, .int a1, .ref 614], w1) (fun v w' => v = some (.int r.1) ∧ m_RM r.2 w' ∧ m_Fq w0 w') 0 0 6 600 := by
      intro xz w ez h hF
      rw [ez]
      obtain ⟨S21, e22, h0⟩ := bS h0
      refine m_Rs.dput b_307 d_307_72 h hF 30 rfl e22 (fun w1 h hF => ?_)
      refine m_Rs.n0 b_307 (x_iload_n d_307_73 rfl) ?_
      refine m_Rs.n0 b_307 (x_iconst (z := (-1)) d_307_74 (by decide)) ?_
      cases hc26 : m_c2 .eq v1 ((-1) : Int32) with
      | true =>
        have h0 := cT hc26 h0
        refine m_Rs.n0 b_307 (x_ict d_307_75 rfl hc26) ?_
        exact m_Rs.pick [2, 3, 4, 0] rfl (T_m_fetch_184 h hF h0)
      | false =>
        have h0 := cF hc26 h0
        refine m_Rs.n0 b_307 (x_icf d_307_75 rfl hc26) ?_
        refine m_Rs.n0 b_307 (x_aload_n d_307_78 rfl) ?_
        refine m_Rs.n0 b_307 (x_iload_n d_307_79 rfl) ?_
        refine m_Rs.n0 b_307 (x_bipush (z := 21) d_307_80 (by decide)) ?_
        obtain ⟨v27, e28, h0⟩ := bS h0
        refine m_Rs.callS b_307 (y_cv d_307_82 rfl q_282 (m_isRecv_of rfl h.1) (show m_takeI _ _ = some (_, [_, _, _], []) from rfl) (by simp only [m_okf, List.all_cons, List.all_nil, Bool.and_true, Bool.and_self, m_okv_i, m_okv_l, m_okv_0, m_okv_t, m_okv_at h.1]) rfl) (T_m_asks h e28) hF rfl (fun w1 h hF => ?_) (by decide) (by decide)
        refine m_Rs.n0 b_307 (x_iconst (z := (-1)) d_307_85 (by decide)) ?_
        cases hc32 : m_c2 .ne v27 ((-1) : Int32) with
        | true =>
          have h0 := cT hc32 h0
          refine m_Rs.n0 b_307 (x_ict d_307_86 rfl hc32) ?_
          exact m_Rs.pick [2, 3, 4, 0] rfl (T_m_fetch_184 h hF h0)
        | false =>
          have h0 := cF hc32 h0
          refine m_Rs.n0 b_307 (x_icf d_307_86 rfl hc32) ?_
          refine m_Rs.n0 b_307 (x_aload_n d_307_89 rfl) ?_
          refine m_Rs.n0 b_307 (x_iload_n d_307_90 rfl) ?_
          refine m_Rs.n0 b_307 (x_iconst (z := 3) d_307_91 (by decide)) ?_
          obtain ⟨v33, e34, h0⟩ := bS h0
          refine m_Rs.callS b_307 (y_cv d_307_92 rfl q_282 (m_isRecv_of rfl h.1) (show m_takeI _ _ = some (_, [_, _, _], []) from rfl) (by simp only [m_okf, List.all_cons, List.all_nil, Bool.and_true, Bool.and_self, m_okv_i, m_okv_l, m_okv_0, m_okv_t, m_okv_at h.1]) rfl) (T_m_asks h e34) hF rfl (fun w1 h hF => ?_) (by decide) (by decide)
          refine m_Rs.n0 b_307 (x_iconst (z := 1) d_307_95 (by decide)) ?_
          cases hc61 : m_c2 .eq v33 (1 : Int32) with
          | true =>
            have h0 := cT hc61 h0
            refine m_Rs.n0 b_307 (x_ict d_307_96 rfl hc61) ?_
            exact m_Rs.pick [2, 3, 4, 1, 0] rfl (T_m_fetch_109 h hF h0)
          | false =>
            have h0 := cF hc61 h0
            refine m_Rs.n0 b_307 (x_icf d_307_96 rfl hc61) ?_
            refine m_Rs.n0 b_307 (x_aload_n d_307_99 rfl) ?_
            refine m_Rs.n0 b_307 (x_iload_n d_307_100 rfl) ?_
            refine m_Rs.n0 b_307 (x_iconst (z := 3) d_307_101 (by decide)) ?_
            obtain ⟨v62, e63, h0⟩ := bS h0
            refine m_Rs.callS b_307 (y_cv d_307_102 rfl q_282 (m_isRecv_of rfl h.1) (show m_takeI _ _ = some (_, [_, _, _], []) from rfl) (by simp only [m_okf, List.all_cons, List.all_nil, Bool.and_true, Bool.and_self, m_okv_i, m_okv_l, m_okv_0, m_okv_t, m_okv_at h.1]) rfl) (T_m_asks h e63) hF rfl (fun w1 h hF => ?_) (by decide) (by decide)
            refine m_Rs.n0 b_307 (x_iconst (z := 2) d_307_105 (by decide)) ?_
            cases hc67 : m_c2 .ne v62 (2 : Int32) with
            | true =>
              have h0 := cT hc67 h0
              refine m_Rs.n0 b_307 (x_ict d_307_106 rfl hc67) ?_
              exact m_Rs.pick [2, 3, 4, 0] rfl (T_m_fetch_184 h hF h0)
            | false =>
              have h0 := cF hc67 h0
              refine m_Rs.n0 b_307 (x_icf d_307_106 rfl hc67) ?_
              exact m_Rs.pick [2, 3, 4, 1, 0] rfl (T_m_fetch_109 h hF h0)
    cases hc17 : m_c2 .ne v1 ((-1) : Int32) with
    | true =>
      have e16 := cT hc17 e16
      refine m_Rs.n0 b_307 (x_ict d_307_55 rfl hc17) ?_
      refine m_Rs.n0 b_307 (x_bipush (z := 15) d_307_70 (by decide)) ?_
      exact kk15 _ _ (Option.some.inj e16) h hF
    | false =>
      have e16 := cF hc17 e16
      refine m_Rs.n0 b_307 (x_icf d_307_55 rfl hc17) ?_
      refine m_Rs.n0 b_307 (x_aload_n d_307_58 rfl) ?_
      refine m_Rs.n0 b_307 (x_getf d_307_59 rfl h.1 rfl) ?_
      refine m_Rs.n0 b_307 (x_iload_n d_307_62 rfl) ?_
      refine m_Rs.n0 b_307 (x_bipush (z := 6) d_307_63 (by decide)) ?_
      refine m_Rs.n0 b_307 (x_iadd d_307_65 rfl) ?_
      obtain ⟨v18, e19, e16⟩ := bS e16
      refine m_Rs.dget b_307 d_307_66 h 38 rfl e19 ?_
      refine m_Rs.n0 b_307 (x_goto d_307_67 rfl) ?_
      exact kk15 _ _ (Option.some.inj e16) h hF
  cases hc9 : m_c2 .ne v1 ((-1) : Int32) with
  | true =>
    have e8 := cT hc9 e8
    refine m_Rs.n0 b_307 (x_ict d_307_32 rfl hc9) ?_
    refine m_Rs.n0 b_307 (x_iconst (z := 0) d_307_46 (by decide)) ?_
    exact kk7 _ _ (Option.some.inj e8) h hF
  | false =>
    have e8 := cF hc9 e8
    refine m_Rs.n0 b_307 (x_icf d_307_32 rfl hc9) ?_
    refine m_Rs.n0 b_307 (x_aload_n d_307_35 rfl) ?_
    refine m_Rs.n0 b_307 (x_getf d_307_36 rfl h.1 rfl) ?_
    refine m_Rs.n0 b_307 (x_iload_n d_307_39 rfl) ?_
    refine m_Rs.n0 b_307 (x_iconst (z := 5) d_307_40 (by decide)) ?_
    refine m_Rs.n0 b_307 (x_iadd d_307_41 rfl) ?_
    obtain ⟨v10, e11, e8⟩ := bS e8
    refine m_Rs.dget b_307 d_307_42 h 38 rfl e11 ?_
    refine m_Rs.n0 b_307 (x_goto d_307_43 rfl) ?_
    exact kk7 _ _ (Option.some.inj e8) h hF
def D_m_stay_2 (F : Nat) : Nat → Int32 → Int32 → mS → Option (mS)
  | 0, _, _, _ => none
  | n + 1, x1, x2, S => cond (m_c2 .ge x2 (12 : Int32)) ((fput S 74 ((S.1 74) + (1 : Int32))).bind fun S2 => some S2) ((aget 0 48000 S 622 (x1 + x2)).bind fun v4 => (aput 48000 S 622 (((12 : Int32) * (S.1 74)) + x2) v4).bind fun S6 => D_m_stay_2 F n x1 (x2 + Int32.ofInt 1) S6)
theorem T_m_stay_2 {l : Launch} {w0 : List mM} {F : Nat} : ∀ (n : Nat) {x1 : Int32} {x2 : Int32} {S : mS} {w : List mM} {r : mS}, m_RM S w → m_Fq w0 w → D_m_stay_2 F n x1 x2 S = some r → m_Rs l M_310 (2, [(0, .ref 583), (1, .int x1), (2, .int x2)], [], w) (fun v w' => v = none ∧ m_RM r w' ∧ m_Fq w0 w') 0 0 0 0 := by
  intro n
  induction n with
  | zero => intro x1 x2 S w r h hF h0; cases h0
  | succ n ih =>
    intro x1 x2 S w r h hF h0
    rw [D_m_stay_2] at h0
    refine m_Rs.n0 b_310 (x_iload_n d_310_2 rfl) ?_
    refine m_Rs.n0 b_310 (x_bipush (z := 12) d_310_3 (by decide)) ?_
    cases hc1 : m_c2 .ge x2 (12 : Int32) with
    | true =>
      have h0 := cT hc1 h0
      refine m_Rs.n0 b_310 (x_ict d_310_5 rfl hc1) ?_
      refine m_Rs.n0 b_310 (x_aload_n d_310_36 rfl) ?_
      refine m_Rs.n0 b_310 (x_dup d_310_37 rfl) ?_
      refine m_Rs.n0 b_310 (x_getf d_310_38 rfl h.1 rfl) ?_
      refine m_Rs.n0 b_310 (x_iconst (z := 1) d_310_41 (by decide)) ?_
      refine m_Rs.n0 b_310 (x_iadd d_310_42 rfl) ?_
      obtain ⟨S2, e3, h0⟩ := bS h0
      refine m_Rs.dfput b_310 d_310_43 h hF e3 rfl rfl rfl rfl rfl rfl (fun w1 h hF => ?_)
      exact m_Rs.ret b_310 (m_rt_vr d_310_46 rfl) (rV h0 h hF)
    | false =>
      have h0 := cF hc1 h0
      refine m_Rs.n0 b_310 (x_icf d_310_5 rfl hc1) ?_
      refine m_Rs.n0 b_310 (x_aload_n d_310_8 rfl) ?_
      refine m_Rs.n0 b_310 (x_getf d_310_9 rfl h.1 rfl) ?_
      refine m_Rs.n0 b_310 (x_bipush (z := 12) d_310_12 (by decide)) ?_
      refine m_Rs.n0 b_310 (x_aload_n d_310_14 rfl) ?_
      refine m_Rs.n0 b_310 (x_getf d_310_15 rfl h.1 rfl) ?_
      refine m_Rs.n0 b_310 (x_imul d_310_18 rfl) ?_
      refine m_Rs.n0 b_310 (x_iload_n d_310_19 rfl) ?_
      refine m_Rs.n0 b_310 (x_iadd d_310_20 rfl) ?_
      refine m_Rs.n0 b_310 (x_aload_n d_310_21 rfl) ?_
      refine m_Rs.n0 b_310 (x_getf d_310_22 rfl h.1 rfl) ?_
      refine m_Rs.n0 b_310 (x_iload_n d_310_25 rfl) ?_
      refine m_Rs.n0 b_310 (x_iload_n d_310_26 rfl) ?_
      refine m_Rs.n0 b_310 (x_iadd d_310_27 rfl) ?_
      obtain ⟨v4, e5, h0⟩ := bS h0
      refine m_Rs.dget b_310 d_310_28 h 38 rfl e5 ?_
      obtain ⟨S6, e7, h0⟩ := bS h0
      refine m_Rs.dput b_310 d_310_29 h hF 38 rfl e7 (fun w1 h hF => ?_)
      refine m_Rs.n0 b_310 (x_iinc d_310_30 rfl rfl rfl (show m_put1 _ _ _ = [(2, _), (0, _), (1, _)] from rfl)) ?_
      refine m_Rs.n0 b_310 (x_goto d_310_33 rfl) ?_
      exact m_Rs.pick [1, 2, 0] rfl (ih h hF h0)
def D_m_stay (F : Nat) (a0 : Int32) (S : mS) : Option (mS) := D_m_stay_2 F F a0 (0 : Int32) S
theorem T_m_stay {l : Launch} {w : List mM} {F : Nat} {a0 : Int32} {S : mS} {r : mS} (h : m_RM S w) (h0 : D_m_stay F a0 S = some r) : m_Rs l M_310 (m_ent M_310 [.ref 583, .int a0] w) (fun v w' => v = none ∧ m_RM r w' ∧ m_Fq w w') 0 0 0 0 := by
  show m_Rs l M_310 (0, [(0, .ref 583), (1, .int a0)], [], w) _ 0 0 0 0
  generalize hw0 : w = w0 at h ⊢
  have hF : m_Fq w0 w0 := m_Fq.refl
  rw [D_m_stay] at h0
  refine m_Rs.n0 b_310 (x_iconst (z := 0) d_310_0 (by decide)) ?_
  refine m_Rs.n0 b_310 (x_istore_n d_310_1 rfl (show m_put1 _ _ _ = [(2, _), (0, _), (1, _)] from rfl)) ?_
  exact m_Rs.pick [1, 2, 0] rfl (T_m_stay_2 F h hF h0)
def D_m_refuse (F : Nat) (a0 : Int32) (a1 : Int32) (S : mS) : Option (mS) := (aget 0 48000 S 622 (a0 + (2 : Int32))).bind fun v1 => cond (m_c2 .eq v1 ((-1) : Int32)) ((aget 0 48000 S 622 a0).bind fun v4 => (aget 0 48000 S 622 (a0 + (3 : Int32))).bind fun v6 => (aget 0 48000 S 622 (a0 + (4 : Int32))).bind fun v8 => (aget 0 48000 S 622 (a0 + (1 : Int32))).bind fun v10 => (D_m_blank F (1 : Int32) v4 v6 v8 v10 S).bind fun S12 => (aput 22 S12 625 (6 : Int32) a1).bind fun S14 => (D_m_post F S14).bind fun S16 => some S16) ((aget 0 48000 S 622 (a0 + (2 : Int32))).bind fun v18 => (D_m_close F v18 a1 ((-1) : Int32) (0 : Int32) S).bind fun S20 => some S20)
theorem T_m_refuse {l : Launch} {w : List mM} {F : Nat} {a0 : Int32} {a1 : Int32} {S : mS} {r : mS} (h : m_RM S w) (h0 : D_m_refuse F a0 a1 S = some r) : m_Rs l M_312 (m_ent M_312 [.ref 583, .int a0, .int a1] w) (fun v w' => v = none ∧ m_RM r w' ∧ m_Fq w w') 0 0 1 100 := by
  show m_Rs l M_312 (0, [(0, .ref 583), (1, .int a0), (2, .int a1)], [], w) _ 0 0 1 100
  generalize hw0 : w = w0 at h ⊢
  have hF : m_Fq w0 w0 := m_Fq.refl
  rw [D_m_refuse] at h0
  refine m_Rs.n0 b_312 (x_aload_n d_312_0 rfl) ?_
  refine m_Rs.n0 b_312 (x_getf d_312_1 rfl h.1 rfl) ?_
  refine m_Rs.n0 b_312 (x_iload_n d_312_4 rfl) ?_
  refine m_Rs.n0 b_312 (x_iconst (z := 2) d_312_5 (by decide)) ?_
  refine m_Rs.n0 b_312 (x_iadd d_312_6 rfl) ?_
  obtain ⟨v1, e2, h0⟩ := bS h0
  refine m_Rs.dget b_312 d_312_7 h 38 rfl e2 ?_
  refine m_Rs.n0 b_312 (x_iconst (z := (-1)) d_312_8 (by decide)) ?_
  cases hc3 : m_c2 .eq v1 ((-1) : Int32) with
  | true =>
    have h0 := cT hc3 h0
    refine m_Rs.n0 b_312 (x_ict d_312_9 rfl hc3) ?_
    refine m_Rs.n0 b_312 (x_aload_n d_312_28 rfl) ?_
    refine m_Rs.n0 b_312 (x_iconst (z := 1) d_312_29 (by decide)) ?_
    refine m_Rs.n0 b_312 (x_aload_n d_312_30 rfl) ?_
    refine m_Rs.n0 b_312 (x_getf d_312_31 rfl h.1 rfl) ?_
    refine m_Rs.n0 b_312 (x_iload_n d_312_34 rfl) ?_
    obtain ⟨v4, e5, h0⟩ := bS h0
    refine m_Rs.dget b_312 d_312_35 h 38 rfl e5 ?_
    refine m_Rs.n0 b_312 (x_aload_n d_312_36 rfl) ?_
    refine m_Rs.n0 b_312 (x_getf d_312_37 rfl h.1 rfl) ?_
    refine m_Rs.n0 b_312 (x_iload_n d_312_40 rfl) ?_
    refine m_Rs.n0 b_312 (x_iconst (z := 3) d_312_41 (by decide)) ?_
    refine m_Rs.n0 b_312 (x_iadd d_312_42 rfl) ?_
    obtain ⟨v6, e7, h0⟩ := bS h0
    refine m_Rs.dget b_312 d_312_43 h 38 rfl e7 ?_
    refine m_Rs.n0 b_312 (x_aload_n d_312_44 rfl) ?_
    refine m_Rs.n0 b_312 (x_getf d_312_45 rfl h.1 rfl) ?_
    refine m_Rs.n0 b_312 (x_iload_n d_312_48 rfl) ?_
    refine m_Rs.n0 b_312 (x_iconst (z := 4) d_312_49 (by decide)) ?_
    refine m_Rs.n0 b_312 (x_iadd d_312_50 rfl) ?_
    obtain ⟨v8, e9, h0⟩ := bS h0
    refine m_Rs.dget b_312 d_312_51 h 38 rfl e9 ?_
    refine m_Rs.n0 b_312 (x_aload_n d_312_52 rfl) ?_
    refine m_Rs.n0 b_312 (x_getf d_312_53 rfl h.1 rfl) ?_
    refine m_Rs.n0 b_312 (x_iload_n d_312_56 rfl) ?_
    refine m_Rs.n0 b_312 (x_iconst (z := 1) d_312_57 (by decide)) ?_
    refine m_Rs.n0 b_312 (x_iadd d_312_58 rfl) ?_
    obtain ⟨v10, e11, h0⟩ := bS h0
    refine m_Rs.dget b_312 d_312_59 h 38 rfl e11 ?_
    obtain ⟨S12, e13, h0⟩ := bS h0
    refine m_Rs.callSv b_312 (y_cv d_312_60 rfl q_304 (m_isRecv_of rfl h.1) (show m_takeI _ _ = some (_, [_, _, _, _, _, _], []) from rfl) (by simp only [m_okf, List.all_cons, List.all_nil, Bool.and_true, Bool.and_self, m_okv_i, m_okv_l, m_okv_0, m_okv_t, m_okv_at h.1]) rfl) (T_m_blank h e13) hF rfl (fun w1 h hF => ?_) (by decide) (by decide)
    refine m_Rs.n0 b_312 (x_aload_n d_312_63 rfl) ?_
    refine m_Rs.n0 b_312 (x_getf d_312_64 rfl h.1 rfl) ?_
    refine m_Rs.n0 b_312 (x_bipush (z := 6) d_312_67 (by decide)) ?_
    refine m_Rs.n0 b_312 (x_iload_n d_312_69 rfl) ?_
    obtain ⟨S14, e15, h0⟩ := bS h0
    refine m_Rs.dput b_312 d_312_70 h hF 41 rfl e15 (fun w1 h hF => ?_)
    refine m_Rs.n0 b_312 (x_aload_n d_312_71 rfl) ?_
    obtain ⟨S16, e17, h0⟩ := bS h0
    refine m_Rs.callSv b_312 (y_cv d_312_72 rfl q_305 (m_isRecv_of rfl h.1) (show m_takeI _ _ = some (_, [_], []) from rfl) (by simp only [m_okf, List.all_cons, List.all_nil, Bool.and_true, Bool.and_self, m_okv_i, m_okv_l, m_okv_0, m_okv_t, m_okv_at h.1]) rfl) (T_m_post h e17) hF rfl (fun w1 h hF => ?_) (by decide) (by decide)
    exact m_Rs.ret b_312 (m_rt_vr d_312_75 rfl) (rV h0 h hF)
  | false =>
    have h0 := cF hc3 h0
    refine m_Rs.n0 b_312 (x_icf d_312_9 rfl hc3) ?_
    refine m_Rs.n0 b_312 (x_aload_n d_312_12 rfl) ?_
    refine m_Rs.n0 b_312 (x_aload_n d_312_13 rfl) ?_
    refine m_Rs.n0 b_312 (x_getf d_312_14 rfl h.1 rfl) ?_
    refine m_Rs.n0 b_312 (x_iload_n d_312_17 rfl) ?_
    refine m_Rs.n0 b_312 (x_iconst (z := 2) d_312_18 (by decide)) ?_
    refine m_Rs.n0 b_312 (x_iadd d_312_19 rfl) ?_
    obtain ⟨v18, e19, h0⟩ := bS h0
    refine m_Rs.dget b_312 d_312_20 h 38 rfl e19 ?_
    refine m_Rs.n0 b_312 (x_iload_n d_312_21 rfl) ?_
    refine m_Rs.n0 b_312 (x_iconst (z := (-1)) d_312_22 (by decide)) ?_
    refine m_Rs.n0 b_312 (x_iconst (z := 0) d_312_23 (by decide)) ?_
    obtain ⟨S20, e21, h0⟩ := bS h0
    refine m_Rs.callSv b_312 (y_cv d_312_24 rfl q_270 (m_isRecv_of rfl h.1) (show m_takeI _ _ = some (_, [_, _, _, _, _], []) from rfl) (by simp only [m_okf, List.all_cons, List.all_nil, Bool.and_true, Bool.and_self, m_okv_i, m_okv_l, m_okv_0, m_okv_t, m_okv_at h.1]) rfl) (T_m_close h e21) hF rfl (fun w1 h hF => ?_) (by decide) (by decide)
    exact m_Rs.ret b_312 (m_rt_vr d_312_27 rfl) (rV h0 h hF)
def D_m_giveUp_81 (F : Nat) (x1 : Int32) (S : mS) : Option (mS) := (D_m_refuse F x1 (504 : Int32) S).bind fun S39 => some S39
theorem T_m_giveUp_81 {l : Launch} {w0 : List mM} {F : Nat} {x1 : Int32} {S : mS} {w : List mM} {r : mS} (h : m_RM S w) (hF : m_Fq w0 w) (h0 : D_m_giveUp_81 F x1 S = some r) : m_Rs l M_311 (81, [(0, .ref 583), (1, .int x1)], [], w) (fun v w' => v = none ∧ m_RM r w' ∧ m_Fq w0 w') 0 0 7 700 := by
  rw [D_m_giveUp_81] at h0
  refine m_Rs.n0 b_311 (x_aload_n d_311_81 rfl) ?_
  refine m_Rs.n0 b_311 (x_iload_n d_311_82 rfl) ?_
  refine m_Rs.n0 b_311 (x_sipush (z := 504) d_311_83 (by decide)) ?_
  obtain ⟨S39, e40, h0⟩ := bS h0
  refine m_Rs.callSv b_311 (y_cv d_311_86 rfl q_312 (m_isRecv_of rfl h.1) (show m_takeI _ _ = some (_, [_, _, _], []) from rfl) (by simp only [m_okf, List.all_cons, List.all_nil, Bool.and_true, Bool.and_self, m_okv_i, m_okv_l, m_okv_0, m_okv_t, m_okv_at h.1]) rfl) (T_m_refuse h e40) hF rfl (fun w1 h hF => ?_) (by decide) (by decide)
  exact m_Rs.ret b_311 (m_rt_vr d_311_89 rfl) (rV h0 h hF)
def D_m_giveUp (F : Nat) (a0 : Int32) (S : mS) : Option (mS) := (aget 0 48000 S 622 a0).bind fun v1 => (aget 0 48000 S 622 (a0 + (1 : Int32))).bind fun v3 => (aget 0 48000 S 622 (a0 + (11 : Int32))).bind fun v5 => (D_m_suits F (((128 : Int32) * v1) + v3) v5 S).bind fun v7 => (D_m_isMarked F a0 v7 S).bind fun v9 => cond (m_c1 .eq v9) (D_m_giveUp_81 F a0 S) ((D_m_isWhole F a0 v7 S).bind fun v17 => cond (m_c1 .eq v17) (D_m_giveUp_81 F a0 S) ((D_m_ageOf F v7 S).bind fun v25 => (D_m_lifeOf F v7 S).bind fun v27 => (D_m_told F v7 (3 : Int32) S).bind fun v29 => cond (m_c2 .ge v25 (v27 + v29)) (D_m_giveUp_81 F a0 S) ((D_m_serve F a0 v7 (2 : Int32) S).bind fun S37 => some S37)))
theorem T_m_giveUp {l : Launch} {w : List mM} {F : Nat} {a0 : Int32} {S : mS} {r : mS} (h : m_RM S w) (h0 : D_m_giveUp F a0 S = some r) : m_Rs l M_311 (m_ent M_311 [.ref 583, .int a0] w) (fun v w' => v = none ∧ m_RM r w' ∧ m_Fq w w') 0 0 7 700 := by
  show m_Rs l M_311 (0, [(0, .ref 583), (1, .int a0)], [], w) _ 0 0 7 700
  generalize hw0 : w = w0 at h ⊢
  have hF : m_Fq w0 w0 := m_Fq.refl
  rw [D_m_giveUp] at h0
  refine m_Rs.n0 b_311 (x_aload_n d_311_0 rfl) ?_
  refine m_Rs.n0 b_311 (x_sipush (z := 128) d_311_1 (by decide)) ?_
  refine m_Rs.n0 b_311 (x_aload_n d_311_4 rfl) ?_
  refine m_Rs.n0 b_311 (x_getf d_311_5 rfl h.1 rfl) ?_
  refine m_Rs.n0 b_311 (x_iload_n d_311_8 rfl) ?_
  obtain ⟨v1, e2, h0⟩ := bS h0
  refine m_Rs.dget b_311 d_311_9 h 38 rfl e2 ?_
  refine m_Rs.n0 b_311 (x_imul d_311_10 rfl) ?_
  refine m_Rs.n0 b_311 (x_aload_n d_311_11 rfl) ?_
  refine m_Rs.n0 b_311 (x_getf d_311_12 rfl h.1 rfl) ?_
  refine m_Rs.n0 b_311 (x_iload_n d_311_15 rfl) ?_
  refine m_Rs.n0 b_311 (x_iconst (z := 1) d_311_16 (by decide)) ?_
  refine m_Rs.n0 b_311 (x_iadd d_311_17 rfl) ?_
  obtain ⟨v3, e4, h0⟩ := bS h0
  refine m_Rs.dget b_311 d_311_18 h 38 rfl e4 ?_
  refine m_Rs.n0 b_311 (x_iadd d_311_19 rfl) ?_
  refine m_Rs.n0 b_311 (x_aload_n d_311_20 rfl) ?_
  refine m_Rs.n0 b_311 (x_getf d_311_21 rfl h.1 rfl) ?_
  refine m_Rs.n0 b_311 (x_iload_n d_311_24 rfl) ?_
  refine m_Rs.n0 b_311 (x_bipush (z := 11) d_311_25 (by decide)) ?_
  refine m_Rs.n0 b_311 (x_iadd d_311_27 rfl) ?_
  obtain ⟨v5, e6, h0⟩ := bS h0
  refine m_Rs.dget b_311 d_311_28 h 38 rfl e6 ?_
  obtain ⟨v7, e8, h0⟩ := bS h0
  refine m_Rs.callS b_311 (y_cv d_311_29 rfl q_277 (m_isRecv_of rfl h.1) (show m_takeI _ _ = some (_, [_, _, _], []) from rfl) (by simp only [m_okf, List.all_cons, List.all_nil, Bool.and_true, Bool.and_self, m_okv_i, m_okv_l, m_okv_0, m_okv_t, m_okv_at h.1]) rfl) (T_m_suits h e8) hF rfl (fun w1 h hF => ?_) (by decide) (by decide)
  refine m_Rs.n0 b_311 (x_istore_n d_311_32 rfl (show m_put1 _ _ _ = [(2, _), (0, _), (1, _)] from rfl)) ?_
  refine m_Rs.n0 b_311 (x_aload_n d_311_33 rfl) ?_
  refine m_Rs.n0 b_311 (x_iload_n d_311_34 rfl) ?_
  refine m_Rs.n0 b_311 (x_iload_n d_311_35 rfl) ?_
  obtain ⟨v9, e10, h0⟩ := bS h0
  refine m_Rs.callS b_311 (y_cv d_311_36 rfl q_280 (m_isRecv_of rfl h.1) (show m_takeI _ _ = some (_, [_, _, _], []) from rfl) (by simp only [m_okf, List.all_cons, List.all_nil, Bool.and_true, Bool.and_self, m_okv_i, m_okv_l, m_okv_0, m_okv_t, m_okv_at h.1]) rfl) (T_m_isMarked h e10) hF rfl (fun w1 h hF => ?_) (by decide) (by decide)
  cases hc16 : m_c1 .eq v9 with
  | true =>
    have h0 := cT hc16 h0
    refine m_Rs.n0 b_311 (x_ift d_311_39 rfl hc16) ?_
    exact m_Rs.pick [1, 2] rfl (T_m_giveUp_81 h hF h0)
  | false =>
    have h0 := cF hc16 h0
    refine m_Rs.n0 b_311 (x_iff d_311_39 rfl hc16) ?_
    refine m_Rs.n0 b_311 (x_aload_n d_311_42 rfl) ?_
    refine m_Rs.n0 b_311 (x_iload_n d_311_43 rfl) ?_
    refine m_Rs.n0 b_311 (x_iload_n d_311_44 rfl) ?_
    obtain ⟨v17, e18, h0⟩ := bS h0
    refine m_Rs.callS b_311 (y_cv d_311_45 rfl q_283 (m_isRecv_of rfl h.1) (show m_takeI _ _ = some (_, [_, _, _], []) from rfl) (by simp only [m_okf, List.all_cons, List.all_nil, Bool.and_true, Bool.and_self, m_okv_i, m_okv_l, m_okv_0, m_okv_t, m_okv_at h.1]) rfl) (T_m_isWhole h e18) hF rfl (fun w1 h hF => ?_) (by decide) (by decide)
    cases hc24 : m_c1 .eq v17 with
    | true =>
      have h0 := cT hc24 h0
      refine m_Rs.n0 b_311 (x_ift d_311_48 rfl hc24) ?_
      exact m_Rs.pick [1, 2] rfl (T_m_giveUp_81 h hF h0)
    | false =>
      have h0 := cF hc24 h0
      refine m_Rs.n0 b_311 (x_iff d_311_48 rfl hc24) ?_
      refine m_Rs.n0 b_311 (x_aload_n d_311_51 rfl) ?_
      refine m_Rs.n0 b_311 (x_iload_n d_311_52 rfl) ?_
      obtain ⟨v25, e26, h0⟩ := bS h0
      refine m_Rs.callS b_311 (y_cv d_311_53 rfl q_292 (m_isRecv_of rfl h.1) (show m_takeI _ _ = some (_, [_, _], []) from rfl) (by simp only [m_okf, List.all_cons, List.all_nil, Bool.and_true, Bool.and_self, m_okv_i, m_okv_l, m_okv_0, m_okv_t, m_okv_at h.1]) rfl) (T_m_ageOf h e26) hF rfl (fun w1 h hF => ?_) (by decide) (by decide)
      refine m_Rs.n0 b_311 (x_aload_n d_311_56 rfl) ?_
      refine m_Rs.n0 b_311 (x_iload_n d_311_57 rfl) ?_
      obtain ⟨v27, e28, h0⟩ := bS h0
      refine m_Rs.callS b_311 (y_cv d_311_58 rfl q_293 (m_isRecv_of rfl h.1) (show m_takeI _ _ = some (_, [_, _], [_]) from rfl) (by simp only [m_okf, List.all_cons, List.all_nil, Bool.and_true, Bool.and_self, m_okv_i, m_okv_l, m_okv_0, m_okv_t, m_okv_at h.1]) rfl) (T_m_lifeOf h e28) hF rfl (fun w1 h hF => ?_) (by decide) (by decide)
      refine m_Rs.n0 b_311 (x_aload_n d_311_61 rfl) ?_
      refine m_Rs.n0 b_311 (x_iload_n d_311_62 rfl) ?_
      refine m_Rs.n0 b_311 (x_iconst (z := 3) d_311_63 (by decide)) ?_
      obtain ⟨v29, e30, h0⟩ := bS h0
      refine m_Rs.callS b_311 (y_cv d_311_64 rfl q_278 (m_isRecv_of rfl h.1) (show m_takeI _ _ = some (_, [_, _, _], [_, _]) from rfl) (by simp only [m_okf, List.all_cons, List.all_nil, Bool.and_true, Bool.and_self, m_okv_i, m_okv_l, m_okv_0, m_okv_t, m_okv_at h.1]) rfl) (T_m_told h e30) hF rfl (fun w1 h hF => ?_) (by decide) (by decide)
      refine m_Rs.n0 b_311 (x_iadd d_311_67 rfl) ?_
      cases hc36 : m_c2 .ge v25 (v27 + v29) with
      | true =>
        have h0 := cT hc36 h0
        refine m_Rs.n0 b_311 (x_ict d_311_68 rfl hc36) ?_
        exact m_Rs.pick [1, 2] rfl (T_m_giveUp_81 h hF h0)
      | false =>
        have h0 := cF hc36 h0
        refine m_Rs.n0 b_311 (x_icf d_311_68 rfl hc36) ?_
        refine m_Rs.n0 b_311 (x_aload_n d_311_71 rfl) ?_
        refine m_Rs.n0 b_311 (x_iload_n d_311_72 rfl) ?_
        refine m_Rs.n0 b_311 (x_iload_n d_311_73 rfl) ?_
        refine m_Rs.n0 b_311 (x_iconst (z := 2) d_311_74 (by decide)) ?_
        obtain ⟨S37, e38, h0⟩ := bS h0
        refine m_Rs.callSv b_311 (y_cv d_311_75 rfl q_300 (m_isRecv_of rfl h.1) (show m_takeI _ _ = some (_, [_, _, _, _], []) from rfl) (by simp only [m_okf, List.all_cons, List.all_nil, Bool.and_true, Bool.and_self, m_okv_i, m_okv_l, m_okv_0, m_okv_t, m_okv_at h.1]) rfl) (T_m_serve h e38) hF rfl (fun w1 h hF => ?_) (by decide) (by decide)
        refine m_Rs.n0 b_311 (x_goto d_311_78 rfl) ?_
        exact m_Rs.ret b_311 (m_rt_vr d_311_89 rfl) (rV h0 h hF)
def D_m_look_200 (F : Nat) (x1 : Int32) (x2 : Int32) (x3 : Int32) (S : mS) : Option (mS) := (aget 4 896 S 609 x3).bind fun v151 => cond (m_c1 .eq v151) ((aget 0 7 S 595 x2).bind fun v166 => (aput 7 S 595 x2 (v166 + (1 : Int32))).bind fun S168 => (D_m_fetch F x1 x3 S168).bind fun q170 => cond (m_c1 .eq q170.1) ((D_m_giveUp F x1 q170.2).bind fun S178 => some S178) ((D_m_stay F x1 q170.2).bind fun S180 => some S180)) ((D_m_stay F x1 S).bind fun S182 => some S182)
theorem T_m_look_200 {l : Launch} {w0 : List mM} {F : Nat} {x1 : Int32} {x2 : Int32} {x3 : Int32} {S : mS} {w : List mM} {r : mS} (h : m_RM S w) (hF : m_Fq w0 w) (h0 : D_m_look_200 F x1 x2 x3 S = some r) : m_Rs l M_276 (200, [(0, .ref 583), (1, .int x1), (2, .int x2), (3, .int x3)], [], w) (fun v w' => v = none ∧ m_RM r w' ∧ m_Fq w0 w') 0 0 8 800 := by
  rw [D_m_look_200] at h0
  refine m_Rs.n0 b_276 (x_aload_n d_276_200 rfl) ?_
  refine m_Rs.n0 b_276 (x_getf d_276_201 rfl h.1 rfl) ?_
  refine m_Rs.n0 b_276 (x_iload_n d_276_204 rfl) ?_
  obtain ⟨v151, e152, h0⟩ := bS h0
  refine m_Rs.dgetb b_276 d_276_205 h 25 rfl e152 ?_
  cases hc165 : m_c1 .eq v151 with
  | true =>
    have h0 := cT hc165 h0
    refine m_Rs.n0 b_276 (x_ift d_276_206 rfl hc165) ?_
    refine m_Rs.n0 b_276 (x_aload_n d_276_217 rfl) ?_
    refine m_Rs.n0 b_276 (x_getf d_276_218 rfl h.1 rfl) ?_
    refine m_Rs.n0 b_276 (x_iload_n d_276_221 rfl) ?_
    refine m_Rs.n0 b_276 (x_dup2 d_276_222 rfl rfl) ?_
    obtain ⟨v166, e167, h0⟩ := bS h0
    refine m_Rs.dget b_276 d_276_223 h 11 rfl e167 ?_
    refine m_Rs.n0 b_276 (x_iconst (z := 1) d_276_224 (by decide)) ?_
    refine m_Rs.n0 b_276 (x_iadd d_276_225 rfl) ?_
    obtain ⟨S168, e169, h0⟩ := bS h0
    refine m_Rs.dput b_276 d_276_226 h hF 11 rfl e169 (fun w1 h hF => ?_)
    refine m_Rs.n0 b_276 (x_aload_n d_276_227 rfl) ?_
    refine m_Rs.n0 b_276 (x_iload_n d_276_228 rfl) ?_
    refine m_Rs.n0 b_276 (x_iload_n d_276_229 rfl) ?_
    obtain ⟨q170, e171, h0⟩ := bS h0
    refine m_Rs.callS b_276 (y_cv d_276_230 rfl q_307 (m_isRecv_of rfl h.1) (show m_takeI _ _ = some (_, [_, _, _], []) from rfl) (by simp only [m_okf, List.all_cons, List.all_nil, Bool.and_true, Bool.and_self, m_okv_i, m_okv_l, m_okv_0, m_okv_t, m_okv_at h.1]) rfl) (T_m_fetch h e171) hF rfl (fun w1 h hF => ?_) (by decide) (by decide)
    cases hc177 : m_c1 .eq q170.1 with
    | true =>
      have h0 := cT hc177 h0
      refine m_Rs.n0 b_276 (x_ift d_276_233 rfl hc177) ?_
      refine m_Rs.n0 b_276 (x_aload_n d_276_244 rfl) ?_
      refine m_Rs.n0 b_276 (x_iload_n d_276_245 rfl) ?_
      obtain ⟨S178, e179, h0⟩ := bS h0
      refine m_Rs.callSv b_276 (y_cv d_276_246 rfl q_311 (m_isRecv_of rfl h.1) (show m_takeI _ _ = some (_, [_, _], []) from rfl) (by simp only [m_okf, List.all_cons, List.all_nil, Bool.and_true, Bool.and_self, m_okv_i, m_okv_l, m_okv_0, m_okv_t, m_okv_at h.1]) rfl) (T_m_giveUp h e179) hF rfl (fun w1 h hF => ?_) (by decide) (by decide)
      exact m_Rs.ret b_276 (m_rt_vr d_276_249 rfl) (rV h0 h hF)
    | false =>
      have h0 := cF hc177 h0
      refine m_Rs.n0 b_276 (x_iff d_276_233 rfl hc177) ?_
      refine m_Rs.n0 b_276 (x_aload_n d_276_236 rfl) ?_
      refine m_Rs.n0 b_276 (x_iload_n d_276_237 rfl) ?_
      obtain ⟨S180, e181, h0⟩ := bS h0
      refine m_Rs.callSv b_276 (y_cv d_276_238 rfl q_310 (m_isRecv_of rfl h.1) (show m_takeI _ _ = some (_, [_, _], []) from rfl) (by simp only [m_okf, List.all_cons, List.all_nil, Bool.and_true, Bool.and_self, m_okv_i, m_okv_l, m_okv_0, m_okv_t, m_okv_at h.1]) rfl) (T_m_stay h e181) hF rfl (fun w1 h hF => ?_) (by decide) (by decide)
      refine m_Rs.n0 b_276 (x_goto d_276_241 rfl) ?_
      exact m_Rs.ret b_276 (m_rt_vr d_276_249 rfl) (rV h0 h hF)
  | false =>
    have h0 := cF hc165 h0
    refine m_Rs.n0 b_276 (x_iff d_276_206 rfl hc165) ?_
    refine m_Rs.n0 b_276 (x_aload_n d_276_209 rfl) ?_
    refine m_Rs.n0 b_276 (x_iload_n d_276_210 rfl) ?_
    obtain ⟨S182, e183, h0⟩ := bS h0
    refine m_Rs.callSv b_276 (y_cv d_276_211 rfl q_310 (m_isRecv_of rfl h.1) (show m_takeI _ _ = some (_, [_, _], []) from rfl) (by simp only [m_okf, List.all_cons, List.all_nil, Bool.and_true, Bool.and_self, m_okv_i, m_okv_l, m_okv_0, m_okv_t, m_okv_at h.1]) rfl) (T_m_stay h e183) hF rfl (fun w1 h hF => ?_) (by decide) (by decide)
    refine m_Rs.n0 b_276 (x_goto d_276_214 rfl) ?_
    exact m_Rs.ret b_276 (m_rt_vr d_276_249 rfl) (rV h0 h hF)
def D_m_look_168 (F : Nat) (x1 : Int32) (x2 : Int32) (x3 : Int32) (x5 : Int32) (S : mS) : Option (mS) := cond (m_c2 .eq x5 ((-1) : Int32)) (D_m_look_200 F x1 x2 x3 S) ((D_m_asks F x5 (17 : Int32) S).bind fun v131 => cond (m_c2 .ne v131 (1 : Int32)) (D_m_look_200 F x1 x2 x3 S) ((D_m_close F x5 (504 : Int32) ((-1) : Int32) (0 : Int32) S).bind fun S149 => some S149))
theorem T_m_look_168 {l : Launch} {w0 : List mM} {F : Nat} {x1 : Int32} {x2 : Int32} {x3 : Int32} {x5 : Int32} {S : mS} {w : List mM} {r : mS} (h : m_RM S w) (hF : m_Fq w0 w) (h0 : D_m_look_168 F x1 x2 x3 x5 S = some r) : m_Rs l M_276 (168, [(0, .ref 583), (1, .int x1), (2, .int x2), (3, .int x3), (5, .int x5)], [], w) (fun v w' => v = none ∧ m_RM r w' ∧ m_Fq w0 w') 0 0 8 800 := by
  rw [D_m_look_168] at h0
  refine m_Rs.n0 b_276 (x_iload d_276_168 rfl) ?_
  refine m_Rs.n0 b_276 (x_iconst (z := (-1)) d_276_170 (by decide)) ?_
  cases hc130 : m_c2 .eq x5 ((-1) : Int32) with
  | true =>
    have h0 := cT hc130 h0
    refine m_Rs.n0 b_276 (x_ict d_276_171 rfl hc130) ?_
    exact m_Rs.pick [0, 1, 2, 3] rfl (T_m_look_200 h hF h0)
  | false =>
    have h0 := cF hc130 h0
    refine m_Rs.n0 b_276 (x_icf d_276_171 rfl hc130) ?_
    refine m_Rs.n0 b_276 (x_aload_n d_276_174 rfl) ?_
    refine m_Rs.n0 b_276 (x_iload d_276_175 rfl) ?_
    refine m_Rs.n0 b_276 (x_bipush (z := 17) d_276_177 (by decide)) ?_
    obtain ⟨v131, e132, h0⟩ := bS h0
    refine m_Rs.callS b_276 (y_cv d_276_179 rfl q_282 (m_isRecv_of rfl h.1) (show m_takeI _ _ = some (_, [_, _, _], []) from rfl) (by simp only [m_okf, List.all_cons, List.all_nil, Bool.and_true, Bool.and_self, m_okv_i, m_okv_l, m_okv_0, m_okv_t, m_okv_at h.1]) rfl) (T_m_asks h e132) hF rfl (fun w1 h hF => ?_) (by decide) (by decide)
    refine m_Rs.n0 b_276 (x_iconst (z := 1) d_276_182 (by decide)) ?_
    cases hc148 : m_c2 .ne v131 (1 : Int32) with
    | true =>
      have h0 := cT hc148 h0
      refine m_Rs.n0 b_276 (x_ict d_276_183 rfl hc148) ?_
      exact m_Rs.pick [0, 1, 2, 3] rfl (T_m_look_200 h hF h0)
    | false =>
      have h0 := cF hc148 h0
      refine m_Rs.n0 b_276 (x_icf d_276_183 rfl hc148) ?_
      refine m_Rs.n0 b_276 (x_aload_n d_276_186 rfl) ?_
      refine m_Rs.n0 b_276 (x_iload d_276_187 rfl) ?_
      refine m_Rs.n0 b_276 (x_sipush (z := 504) d_276_189 (by decide)) ?_
      refine m_Rs.n0 b_276 (x_iconst (z := (-1)) d_276_192 (by decide)) ?_
      refine m_Rs.n0 b_276 (x_iconst (z := 0) d_276_193 (by decide)) ?_
      obtain ⟨S149, e150, h0⟩ := bS h0
      refine m_Rs.callSv b_276 (y_cv d_276_194 rfl q_270 (m_isRecv_of rfl h.1) (show m_takeI _ _ = some (_, [_, _, _, _, _], []) from rfl) (by simp only [m_okf, List.all_cons, List.all_nil, Bool.and_true, Bool.and_self, m_okv_i, m_okv_l, m_okv_0, m_okv_t, m_okv_at h.1]) rfl) (T_m_close h e150) hF rfl (fun w1 h hF => ?_) (by decide) (by decide)
      refine m_Rs.n0 b_276 (x_goto d_276_197 rfl) ?_
      exact m_Rs.ret b_276 (m_rt_vr d_276_249 rfl) (rV h0 h hF)
def D_m_look_126 (F : Nat) (x1 : Int32) (x2 : Int32) (x3 : Int32) (x4 : Int32) (x5 : Int32) (x6 : Int32) (S : mS) : Option (mS) := cond (m_c1 .eq x6) (D_m_look_168 F x1 x2 x3 x5 S) ((D_m_isStaleEnough F x1 x4 S).bind fun v86 => cond (m_c1 .eq v86) (D_m_look_168 F x1 x2 x3 x5 S) ((D_m_serve F x1 x4 (2 : Int32) S).bind fun S105 => (aget 4 896 S105 609 x3).bind fun v107 => cond (m_c1 .ne v107) (some S105) ((D_m_fetch F x1 x3 S105).bind fun q113 => some q113.2)))
theorem T_m_look_126 {l : Launch} {w0 : List mM} {F : Nat} {x1 : Int32} {x2 : Int32} {x3 : Int32} {x4 : Int32} {x5 : Int32} {x6 : Int32} {S : mS} {w : List mM} {r : mS} (h : m_RM S w) (hF : m_Fq w0 w) (h0 : D_m_look_126 F x1 x2 x3 x4 x5 x6 S = some r) : m_Rs l M_276 (126, [(0, .ref 583), (1, .int x1), (2, .int x2), (3, .int x3), (4, .int x4), (5, .int x5), (6, .int x6)], [], w) (fun v w' => v = none ∧ m_RM r w' ∧ m_Fq w0 w') 0 0 8 800 := by
  rw [D_m_look_126] at h0
  refine m_Rs.n0 b_276 (x_iload d_276_126 rfl) ?_
  cases hc85 : m_c1 .eq x6 with
  | true =>
    have h0 := cT hc85 h0
    refine m_Rs.n0 b_276 (x_ift d_276_128 rfl hc85) ?_
    exact m_Rs.pick [0, 1, 2, 3, 5] rfl (T_m_look_168 h hF h0)
  | false =>
    have h0 := cF hc85 h0
    refine m_Rs.n0 b_276 (x_iff d_276_128 rfl hc85) ?_
    refine m_Rs.n0 b_276 (x_aload_n d_276_131 rfl) ?_
    refine m_Rs.n0 b_276 (x_iload_n d_276_132 rfl) ?_
    refine m_Rs.n0 b_276 (x_iload d_276_133 rfl) ?_
    obtain ⟨v86, e87, h0⟩ := bS h0
    refine m_Rs.callS b_276 (y_cv d_276_135 rfl q_306 (m_isRecv_of rfl h.1) (show m_takeI _ _ = some (_, [_, _, _], []) from rfl) (by simp only [m_okf, List.all_cons, List.all_nil, Bool.and_true, Bool.and_self, m_okv_i, m_okv_l, m_okv_0, m_okv_t, m_okv_at h.1]) rfl) (T_m_isStaleEnough h e87) hF rfl (fun w1 h hF => ?_) (by decide) (by decide)
    cases hc104 : m_c1 .eq v86 with
    | true =>
      have h0 := cT hc104 h0
      refine m_Rs.n0 b_276 (x_ift d_276_138 rfl hc104) ?_
      exact m_Rs.pick [0, 1, 2, 3, 5] rfl (T_m_look_168 h hF h0)
    | false =>
      have h0 := cF hc104 h0
      refine m_Rs.n0 b_276 (x_iff d_276_138 rfl hc104) ?_
      refine m_Rs.n0 b_276 (x_aload_n d_276_141 rfl) ?_
      refine m_Rs.n0 b_276 (x_iload_n d_276_142 rfl) ?_
      refine m_Rs.n0 b_276 (x_iload d_276_143 rfl) ?_
      refine m_Rs.n0 b_276 (x_iconst (z := 2) d_276_145 (by decide)) ?_
      obtain ⟨S105, e106, h0⟩ := bS h0
      refine m_Rs.callSv b_276 (y_cv d_276_146 rfl q_300 (m_isRecv_of rfl h.1) (show m_takeI _ _ = some (_, [_, _, _, _], []) from rfl) (by simp only [m_okf, List.all_cons, List.all_nil, Bool.and_true, Bool.and_self, m_okv_i, m_okv_l, m_okv_0, m_okv_t, m_okv_at h.1]) rfl) (T_m_serve h e106) hF rfl (fun w1 h hF => ?_) (by decide) (by decide)
      refine m_Rs.n0 b_276 (x_aload_n d_276_149 rfl) ?_
      refine m_Rs.n0 b_276 (x_getf d_276_150 rfl h.1 rfl) ?_
      refine m_Rs.n0 b_276 (x_iload_n d_276_153 rfl) ?_
      obtain ⟨v107, e108, h0⟩ := bS h0
      refine m_Rs.dgetb b_276 d_276_154 h 25 rfl e108 ?_
      cases hc112 : m_c1 .ne v107 with
      | true =>
        have h0 := cT hc112 h0
        refine m_Rs.n0 b_276 (x_ift d_276_155 rfl hc112) ?_
        exact m_Rs.ret b_276 (m_rt_vr d_276_249 rfl) (rV h0 h hF)
      | false =>
        have h0 := cF hc112 h0
        refine m_Rs.n0 b_276 (x_iff d_276_155 rfl hc112) ?_
        refine m_Rs.n0 b_276 (x_aload_n d_276_158 rfl) ?_
        refine m_Rs.n0 b_276 (x_iload_n d_276_159 rfl) ?_
        refine m_Rs.n0 b_276 (x_iload_n d_276_160 rfl) ?_
        obtain ⟨q113, e114, h0⟩ := bS h0
        refine m_Rs.callS b_276 (y_cv d_276_161 rfl q_307 (m_isRecv_of rfl h.1) (show m_takeI _ _ = some (_, [_, _, _], []) from rfl) (by simp only [m_okf, List.all_cons, List.all_nil, Bool.and_true, Bool.and_self, m_okv_i, m_okv_l, m_okv_0, m_okv_t, m_okv_at h.1]) rfl) (T_m_fetch h e114) hF rfl (fun w1 h hF => ?_) (by decide) (by decide)
        refine m_Rs.n0 b_276 (x_pop d_276_164 rfl) ?_
        refine m_Rs.n0 b_276 (x_goto d_276_165 rfl) ?_
        exact m_Rs.ret b_276 (m_rt_vr d_276_249 rfl) (rV h0 h hF)
def D_m_look (F : Nat) (a0 : Int32) (S : mS) : Option (mS) := (aget 0 48000 S 622 a0).bind fun v1 => (aget 0 48000 S 622 (a0 + (1 : Int32))).bind fun v3 => (aget 0 48000 S 622 (a0 + (11 : Int32))).bind fun v5 => (D_m_suits F (((128 : Int32) * v1) + v3) v5 S).bind fun v7 => (aget 0 48000 S 622 (a0 + (2 : Int32))).bind fun v9 => (D_m_isMarked F a0 v7 S).bind fun v11 => (cond (m_c1 .eq v11) (some (0 : Int32)) ((D_m_isForced F a0 S).bind fun v16 => cond (m_c1 .ne v16) (some (0 : Int32)) ((D_m_isWhole F a0 v7 S).bind fun v19 => cond (m_c1 .eq v19) (some (0 : Int32)) (some (1 : Int32))))).bind fun v22 => cond (m_c1 .eq v22) (D_m_look_126 F a0 v1 (((128 : Int32) * v1) + v3) v7 v9 v22 S) ((D_m_isFresh F a0 v7 S).bind fun v41 => cond (m_c1 .eq v41) (D_m_look_126 F a0 v1 (((128 : Int32) * v1) + v3) v7 v9 v22 S) ((aget 0 7 S 594 v1).bind fun v61 => (aput 7 S 594 v1 (v61 + (1 : Int32))).bind fun S63 => (D_m_use F v1 v7 S63).bind fun S65 => (D_m_serve F a0 v7 (1 : Int32) S65).bind fun S67 => some S67))
theorem T_m_look {l : Launch} {w : List mM} {F : Nat} {a0 : Int32} {S : mS} {r : mS} (h : m_RM S w) (h0 : D_m_look F a0 S = some r) : m_Rs l M_276 (m_ent M_276 [.ref 583, .int a0] w) (fun v w' => v = none ∧ m_RM r w' ∧ m_Fq w w') 0 0 8 800 := by
  show m_Rs l M_276 (0, [(0, .ref 583), (1, .int a0)], [], w) _ 0 0 8 800
  generalize hw0 : w = w0 at h ⊢
  have hF : m_Fq w0 w0 := m_Fq.refl
  rw [D_m_look] at h0
  refine m_Rs.n0 b_276 (x_aload_n d_276_0 rfl) ?_
  refine m_Rs.n0 b_276 (x_getf d_276_1 rfl h.1 rfl) ?_
  refine m_Rs.n0 b_276 (x_iload_n d_276_4 rfl) ?_
  obtain ⟨v1, e2, h0⟩ := bS h0
  refine m_Rs.dget b_276 d_276_5 h 38 rfl e2 ?_
  refine m_Rs.n0 b_276 (x_istore_n d_276_6 rfl (show m_put1 _ _ _ = [(2, _), (0, _), (1, _)] from rfl)) ?_
  refine m_Rs.n0 b_276 (x_sipush (z := 128) d_276_7 (by decide)) ?_
  refine m_Rs.n0 b_276 (x_iload_n d_276_10 rfl) ?_
  refine m_Rs.n0 b_276 (x_imul d_276_11 rfl) ?_
  refine m_Rs.n0 b_276 (x_aload_n d_276_12 rfl) ?_
  refine m_Rs.n0 b_276 (x_getf d_276_13 rfl h.1 rfl) ?_
  refine m_Rs.n0 b_276 (x_iload_n d_276_16 rfl) ?_
  refine m_Rs.n0 b_276 (x_iconst (z := 1) d_276_17 (by decide)) ?_
  refine m_Rs.n0 b_276 (x_iadd d_276_18 rfl) ?_
  obtain ⟨v3, e4, h0⟩ := bS h0
  refine m_Rs.dget b_276 d_276_19 h 38 rfl e4 ?_
  refine m_Rs.n0 b_276 (x_iadd d_276_20 rfl) ?_
  refine m_Rs.n0 b_276 (x_istore_n d_276_21 rfl (show m_put1 _ _ _ = [(3, _), (2, _), (0, _), (1, _)] from rfl)) ?_
  refine m_Rs.n0 b_276 (x_aload_n d_276_22 rfl) ?_
  refine m_Rs.n0 b_276 (x_iload_n d_276_23 rfl) ?_
  refine m_Rs.n0 b_276 (x_aload_n d_276_24 rfl) ?_
  refine m_Rs.n0 b_276 (x_getf d_276_25 rfl h.1 rfl) ?_
  refine m_Rs.n0 b_276 (x_iload_n d_276_28 rfl) ?_
  refine m_Rs.n0 b_276 (x_bipush (z := 11) d_276_29 (by decide)) ?_
  refine m_Rs.n0 b_276 (x_iadd d_276_31 rfl) ?_
  obtain ⟨v5, e6, h0⟩ := bS h0
  refine m_Rs.dget b_276 d_276_32 h 38 rfl e6 ?_
  obtain ⟨v7, e8, h0⟩ := bS h0
  refine m_Rs.callS b_276 (y_cv d_276_33 rfl q_277 (m_isRecv_of rfl h.1) (show m_takeI _ _ = some (_, [_, _, _], []) from rfl) (by simp only [m_okf, List.all_cons, List.all_nil, Bool.and_true, Bool.and_self, m_okv_i, m_okv_l, m_okv_0, m_okv_t, m_okv_at h.1]) rfl) (T_m_suits h e8) hF rfl (fun w1 h hF => ?_) (by decide) (by decide)
  refine m_Rs.n0 b_276 (x_istore d_276_36 rfl (show m_put1 _ _ _ = [(4, _), (3, _), (2, _), (0, _), (1, _)] from rfl)) ?_
  refine m_Rs.n0 b_276 (x_aload_n d_276_38 rfl) ?_
  refine m_Rs.n0 b_276 (x_getf d_276_39 rfl h.1 rfl) ?_
  refine m_Rs.n0 b_276 (x_iload_n d_276_42 rfl) ?_
  refine m_Rs.n0 b_276 (x_iconst (z := 2) d_276_43 (by decide)) ?_
  refine m_Rs.n0 b_276 (x_iadd d_276_44 rfl) ?_
  obtain ⟨v9, e10, h0⟩ := bS h0
  refine m_Rs.dget b_276 d_276_45 h 38 rfl e10 ?_
  refine m_Rs.n0 b_276 (x_istore d_276_46 rfl (show m_put1 _ _ _ = [(5, _), (4, _), (3, _), (2, _), (0, _), (1, _)] from rfl)) ?_
  refine m_Rs.n0 b_276 (x_aload_n d_276_48 rfl) ?_
  refine m_Rs.n0 b_276 (x_iload_n d_276_49 rfl) ?_
  refine m_Rs.n0 b_276 (x_iload d_276_50 rfl) ?_
  obtain ⟨v11, e12, h0⟩ := bS h0
  refine m_Rs.callS b_276 (y_cv d_276_52 rfl q_280 (m_isRecv_of rfl h.1) (show m_takeI _ _ = some (_, [_, _, _], []) from rfl) (by simp only [m_okf, List.all_cons, List.all_nil, Bool.and_true, Bool.and_self, m_okv_i, m_okv_l, m_okv_0, m_okv_t, m_okv_at h.1]) rfl) (T_m_isMarked h e12) hF rfl (fun w1 h hF => ?_) (by decide) (by decide)
  obtain ⟨v22, e14, h0⟩ := bS h0
  have kk13 : ∀ (xz : Int32) (w1 : List mM), xz = v22 → m_RM S w1 → m_Fq w0 w1 → m_Rs l M_276 (81, [(5, .int v9), (4, .int v7), (3, .int (((128 : Int32) * v1) + v3)), (2, .int v1), (0, .ref 583), (1, .int a0)], [.int xz], w1) (fun v w' => v = none ∧ m_RM r w' ∧ m_Fq w0 w') 0 0 8 800 := by
    intro xz w ez h hF
    rw [ez]
    refine m_Rs.n0 b_276 (x_istore d_276_81 rfl (show m_put1 _ _ _ = [(6, _), (5, _), (4, _), (3, _), (2, _), (0, _), (1, _)] from rfl)) ?_
    refine m_Rs.n0 b_276 (x_iload d_276_83 rfl) ?_
    cases hc40 : m_c1 .eq v22 with
    | true =>
      have h0 := cT hc40 h0
      refine m_Rs.n0 b_276 (x_ift d_276_85 rfl hc40) ?_
      exact m_Rs.pick [5, 6, 4, 3, 2, 1, 0] rfl (T_m_look_126 h hF h0)
    | false =>
      have h0 := cF hc40 h0
      refine m_Rs.n0 b_276 (x_iff d_276_85 rfl hc40) ?_
      refine m_Rs.n0 b_276 (x_aload_n d_276_88 rfl) ?_
      refine m_Rs.n0 b_276 (x_iload_n d_276_89 rfl) ?_
      refine m_Rs.n0 b_276 (x_iload d_276_90 rfl) ?_
      obtain ⟨v41, e42, h0⟩ := bS h0
      refine m_Rs.callS b_276 (y_cv d_276_92 rfl q_291 (m_isRecv_of rfl h.1) (show m_takeI _ _ = some (_, [_, _, _], []) from rfl) (by simp only [m_okf, List.all_cons, List.all_nil, Bool.and_true, Bool.and_self, m_okv_i, m_okv_l, m_okv_0, m_okv_t, m_okv_at h.1]) rfl) (T_m_isFresh h e42) hF rfl (fun w1 h hF => ?_) (by decide) (by decide)
      cases hc60 : m_c1 .eq v41 with
      | true =>
        have h0 := cT hc60 h0
        refine m_Rs.n0 b_276 (x_ift d_276_95 rfl hc60) ?_
        exact m_Rs.pick [5, 6, 4, 3, 2, 1, 0] rfl (T_m_look_126 h hF h0)
      | false =>
        have h0 := cF hc60 h0
        refine m_Rs.n0 b_276 (x_iff d_276_95 rfl hc60) ?_
        refine m_Rs.n0 b_276 (x_aload_n d_276_98 rfl) ?_
        refine m_Rs.n0 b_276 (x_getf d_276_99 rfl h.1 rfl) ?_
        refine m_Rs.n0 b_276 (x_iload_n d_276_102 rfl) ?_
        refine m_Rs.n0 b_276 (x_dup2 d_276_103 rfl rfl) ?_
        obtain ⟨v61, e62, h0⟩ := bS h0
        refine m_Rs.dget b_276 d_276_104 h 10 rfl e62 ?_
        refine m_Rs.n0 b_276 (x_iconst (z := 1) d_276_105 (by decide)) ?_
        refine m_Rs.n0 b_276 (x_iadd d_276_106 rfl) ?_
        obtain ⟨S63, e64, h0⟩ := bS h0
        refine m_Rs.dput b_276 d_276_107 h hF 10 rfl e64 (fun w1 h hF => ?_)
        refine m_Rs.n0 b_276 (x_aload_n d_276_108 rfl) ?_
        refine m_Rs.n0 b_276 (x_iload_n d_276_109 rfl) ?_
        refine m_Rs.n0 b_276 (x_iload d_276_110 rfl) ?_
        obtain ⟨S65, e66, h0⟩ := bS h0
        refine m_Rs.callSv b_276 (y_cv d_276_112 rfl q_294 (m_isRecv_of rfl h.1) (show m_takeI _ _ = some (_, [_, _, _], []) from rfl) (by simp only [m_okf, List.all_cons, List.all_nil, Bool.and_true, Bool.and_self, m_okv_i, m_okv_l, m_okv_0, m_okv_t, m_okv_at h.1]) rfl) (T_m_use h e66) hF rfl (fun w1 h hF => ?_) (by decide) (by decide)
        refine m_Rs.n0 b_276 (x_aload_n d_276_115 rfl) ?_
        refine m_Rs.n0 b_276 (x_iload_n d_276_116 rfl) ?_
        refine m_Rs.n0 b_276 (x_iload d_276_117 rfl) ?_
        refine m_Rs.n0 b_276 (x_iconst (z := 1) d_276_119 (by decide)) ?_
        obtain ⟨S67, e68, h0⟩ := bS h0
        refine m_Rs.callSv b_276 (y_cv d_276_120 rfl q_300 (m_isRecv_of rfl h.1) (show m_takeI _ _ = some (_, [_, _, _, _], []) from rfl) (by simp only [m_okf, List.all_cons, List.all_nil, Bool.and_true, Bool.and_self, m_okv_i, m_okv_l, m_okv_0, m_okv_t, m_okv_at h.1]) rfl) (T_m_serve h e68) hF rfl (fun w1 h hF => ?_) (by decide) (by decide)
        refine m_Rs.n0 b_276 (x_goto d_276_123 rfl) ?_
        exact m_Rs.ret b_276 (m_rt_vr d_276_249 rfl) (rV h0 h hF)
  cases hc15 : m_c1 .eq v11 with
  | true =>
    have e14 := cT hc15 e14
    refine m_Rs.n0 b_276 (x_ift d_276_55 rfl hc15) ?_
    refine m_Rs.n0 b_276 (x_iconst (z := 0) d_276_80 (by decide)) ?_
    exact kk13 _ _ (Option.some.inj e14) h hF
  | false =>
    have e14 := cF hc15 e14
    refine m_Rs.n0 b_276 (x_iff d_276_55 rfl hc15) ?_
    refine m_Rs.n0 b_276 (x_aload_n d_276_58 rfl) ?_
    refine m_Rs.n0 b_276 (x_iload_n d_276_59 rfl) ?_
    obtain ⟨v16, e17, e14⟩ := bS e14
    refine m_Rs.callS b_276 (y_cv d_276_60 rfl q_281 (m_isRecv_of rfl h.1) (show m_takeI _ _ = some (_, [_, _], []) from rfl) (by simp only [m_okf, List.all_cons, List.all_nil, Bool.and_true, Bool.and_self, m_okv_i, m_okv_l, m_okv_0, m_okv_t, m_okv_at h.1]) rfl) (T_m_isForced h e17) hF rfl (fun w1 h hF => ?_) (by decide) (by decide)
    cases hc18 : m_c1 .ne v16 with
    | true =>
      have e14 := cT hc18 e14
      refine m_Rs.n0 b_276 (x_ift d_276_63 rfl hc18) ?_
      refine m_Rs.n0 b_276 (x_iconst (z := 0) d_276_80 (by decide)) ?_
      exact kk13 _ _ (Option.some.inj e14) h hF
    | false =>
      have e14 := cF hc18 e14
      refine m_Rs.n0 b_276 (x_iff d_276_63 rfl hc18) ?_
      refine m_Rs.n0 b_276 (x_aload_n d_276_66 rfl) ?_
      refine m_Rs.n0 b_276 (x_iload_n d_276_67 rfl) ?_
      refine m_Rs.n0 b_276 (x_iload d_276_68 rfl) ?_
      obtain ⟨v19, e20, e14⟩ := bS e14
      refine m_Rs.callS b_276 (y_cv d_276_70 rfl q_283 (m_isRecv_of rfl h.1) (show m_takeI _ _ = some (_, [_, _, _], []) from rfl) (by simp only [m_okf, List.all_cons, List.all_nil, Bool.and_true, Bool.and_self, m_okv_i, m_okv_l, m_okv_0, m_okv_t, m_okv_at h.1]) rfl) (T_m_isWhole h e20) hF rfl (fun w1 h hF => ?_) (by decide) (by decide)
      cases hc21 : m_c1 .eq v19 with
      | true =>
        have e14 := cT hc21 e14
        refine m_Rs.n0 b_276 (x_ift d_276_73 rfl hc21) ?_
        refine m_Rs.n0 b_276 (x_iconst (z := 0) d_276_80 (by decide)) ?_
        exact kk13 _ _ (Option.some.inj e14) h hF
      | false =>
        have e14 := cF hc21 e14
        refine m_Rs.n0 b_276 (x_iff d_276_73 rfl hc21) ?_
        refine m_Rs.n0 b_276 (x_iconst (z := 1) d_276_76 (by decide)) ?_
        refine m_Rs.n0 b_276 (x_goto d_276_77 rfl) ?_
        exact kk13 _ _ (Option.some.inj e14) h hF
def D_m_ask_378 (F : Nat) : Nat → Int32 → Int32 → Int32 → Int32 → Int32 → Int32 → mS → Option (Int32 × mS)
  | 0, _, _, _, _, _, _, _ => none
  | n + 1, x1, x2, x3, x4, x5, x6, S => cond (m_c2 .ge x6 (12 : Int32)) ((aput 48000 S 622 x5 x4).bind fun S76 => (aput 48000 S76 622 (x5 + (1 : Int32)) x3).bind fun S78 => (aput 48000 S78 622 (x5 + (2 : Int32)) x1).bind fun S80 => (aget 0 6900 S80 620 (x2 + (22 : Int32))).bind fun v82 => (aput 48000 S80 622 (x5 + (11 : Int32)) v82).bind fun S84 => (D_m_look F x5 S84).bind fun S86 => some (x1, S86)) ((aput 48000 S 622 (x5 + x6) (0 : Int32)).bind fun S88 => D_m_ask_378 F n x1 x2 x3 x4 x5 (x6 + Int32.ofInt 1) S88)
theorem T_m_ask_378 {l : Launch} {w0 : List mM} {F : Nat} : ∀ (n : Nat) {x1 : Int32} {x2 : Int32} {x3 : Int32} {x4 : Int32} {x5 : Int32} {x6 : Int32} {S : mS} {w : List mM} {r : Int32 × mS}, m_RM S w → m_Fq w0 w → D_m_ask_378 F n x1 x2 x3 x4 x5 x6 S = some r → m_Rs l M_269 (378, [(0, .ref 583), (1, .int x1), (2, .int x2), (3, .int x3), (4, .int x4), (5, .int x5), (6, .int x6)], [], w) (fun v w' => v = some (.int r.1) ∧ m_RM r.2 w' ∧ m_Fq w0 w') 0 0 9 900 := by
  intro n
  induction n with
  | zero => intro x1 x2 x3 x4 x5 x6 S w r h hF h0; cases h0
  | succ n ih =>
    intro x1 x2 x3 x4 x5 x6 S w r h hF h0
    rw [D_m_ask_378] at h0
    refine m_Rs.n0 b_269 (x_iload d_269_378 rfl) ?_
    refine m_Rs.n0 b_269 (x_bipush (z := 12) d_269_380 (by decide)) ?_
    cases hc75 : m_c2 .ge x6 (12 : Int32) with
    | true =>
      have h0 := cT hc75 h0
      refine m_Rs.n0 b_269 (x_ict d_269_382 rfl hc75) ?_
      refine m_Rs.n0 b_269 (x_aload_n d_269_402 rfl) ?_
      refine m_Rs.n0 b_269 (x_getf d_269_403 rfl h.1 rfl) ?_
      refine m_Rs.n0 b_269 (x_iload d_269_406 rfl) ?_
      refine m_Rs.n0 b_269 (x_iload d_269_408 rfl) ?_
      obtain ⟨S76, e77, h0⟩ := bS h0
      refine m_Rs.dput b_269 d_269_410 h hF 38 rfl e77 (fun w1 h hF => ?_)
      refine m_Rs.n0 b_269 (x_aload_n d_269_411 rfl) ?_
      refine m_Rs.n0 b_269 (x_getf d_269_412 rfl h.1 rfl) ?_
      refine m_Rs.n0 b_269 (x_iload d_269_415 rfl) ?_
      refine m_Rs.n0 b_269 (x_iconst (z := 1) d_269_417 (by decide)) ?_
      refine m_Rs.n0 b_269 (x_iadd d_269_418 rfl) ?_
      refine m_Rs.n0 b_269 (x_iload_n d_269_419 rfl) ?_
      obtain ⟨S78, e79, h0⟩ := bS h0
      refine m_Rs.dput b_269 d_269_420 h hF 38 rfl e79 (fun w1 h hF => ?_)
      refine m_Rs.n0 b_269 (x_aload_n d_269_421 rfl) ?_
      refine m_Rs.n0 b_269 (x_getf d_269_422 rfl h.1 rfl) ?_
      refine m_Rs.n0 b_269 (x_iload d_269_425 rfl) ?_
      refine m_Rs.n0 b_269 (x_iconst (z := 2) d_269_427 (by decide)) ?_
      refine m_Rs.n0 b_269 (x_iadd d_269_428 rfl) ?_
      refine m_Rs.n0 b_269 (x_iload_n d_269_429 rfl) ?_
      obtain ⟨S80, e81, h0⟩ := bS h0
      refine m_Rs.dput b_269 d_269_430 h hF 38 rfl e81 (fun w1 h hF => ?_)
      refine m_Rs.n0 b_269 (x_aload_n d_269_431 rfl) ?_
      refine m_Rs.n0 b_269 (x_getf d_269_432 rfl h.1 rfl) ?_
      refine m_Rs.n0 b_269 (x_iload d_269_435 rfl) ?_
      refine m_Rs.n0 b_269 (x_bipush (z := 11) d_269_437 (by decide)) ?_
      refine m_Rs.n0 b_269 (x_iadd d_269_439 rfl) ?_
      refine m_Rs.n0 b_269 (x_aload_n d_269_440 rfl) ?_
      refine m_Rs.n0 b_269 (x_getf d_269_441 rfl h.1 rfl) ?_
      refine m_Rs.n0 b_269 (x_iload_n d_269_444 rfl) ?_
      refine m_Rs.n0 b_269 (x_bipush (z := 22) d_269_445 (by decide)) ?_
      refine m_Rs.n0 b_269 (x_iadd d_269_447 rfl) ?_
      obtain ⟨v82, e83, h0⟩ := bS h0
      refine m_Rs.dget b_269 d_269_448 h 36 rfl e83 ?_
      obtain ⟨S84, e85, h0⟩ := bS h0
      refine m_Rs.dput b_269 d_269_449 h hF 38 rfl e85 (fun w1 h hF => ?_)
      refine m_Rs.n0 b_269 (x_aload_n d_269_450 rfl) ?_
      refine m_Rs.n0 b_269 (x_iload d_269_451 rfl) ?_
      obtain ⟨S86, e87, h0⟩ := bS h0
      refine m_Rs.callSv b_269 (y_cv d_269_453 rfl q_276 (m_isRecv_of rfl h.1) (show m_takeI _ _ = some (_, [_, _], []) from rfl) (by simp only [m_okf, List.all_cons, List.all_nil, Bool.and_true, Bool.and_self, m_okv_i, m_okv_l, m_okv_0, m_okv_t, m_okv_at h.1]) rfl) (T_m_look h e87) hF rfl (fun w1 h hF => ?_) (by decide) (by decide)
      refine m_Rs.n0 b_269 (x_iload_n d_269_456 rfl) ?_
      exact m_Rs.ret b_269 (m_rt_ir d_269_457 rfl rfl) (rP h0 h hF)
    | false =>
      have h0 := cF hc75 h0
      refine m_Rs.n0 b_269 (x_icf d_269_382 rfl hc75) ?_
      refine m_Rs.n0 b_269 (x_aload_n d_269_385 rfl) ?_
      refine m_Rs.n0 b_269 (x_getf d_269_386 rfl h.1 rfl) ?_
      refine m_Rs.n0 b_269 (x_iload d_269_389 rfl) ?_
      refine m_Rs.n0 b_269 (x_iload d_269_391 rfl) ?_
      refine m_Rs.n0 b_269 (x_iadd d_269_393 rfl) ?_
      refine m_Rs.n0 b_269 (x_iconst (z := 0) d_269_394 (by decide)) ?_
      obtain ⟨S88, e89, h0⟩ := bS h0
      refine m_Rs.dput b_269 d_269_395 h hF 38 rfl e89 (fun w1 h hF => ?_)
      refine m_Rs.n0 b_269 (x_iinc d_269_396 rfl rfl rfl (show m_put1 _ _ _ = [(6, _), (0, _), (1, _), (2, _), (3, _), (4, _), (5, _)] from rfl)) ?_
      refine m_Rs.n0 b_269 (x_goto d_269_399 rfl) ?_
      exact m_Rs.pick [1, 2, 3, 4, 5, 6, 0] rfl (ih h hF h0)
def D_m_ask_178 (F : Nat) : Nat → Int32 → Int32 → Int32 → mS → Option (Int32 × mS)
  | 0, _, _, _, _ => none
  | n + 1, x1, x2, x3, S => cond (m_c2 .ge x3 (8 : Int32)) ((cond (m_c1 .eq (S.1 18)) (some (0 : Int32)) (some (1 : Int32))).bind fun v41 => (aput 6900 S 620 (x2 + (16 : Int32)) v41).bind fun S42 => (cond (m_c1 .eq (S42.1 19)) (some (0 : Int32)) (some (1 : Int32))).bind fun v47 => (aput 6900 S42 620 (x2 + (17 : Int32)) v47).bind fun S48 => (aput 6900 S48 620 (x2 + (18 : Int32)) (S48.1 13)).bind fun S50 => (aput 6900 S50 620 (x2 + (19 : Int32)) (S50.1 14)).bind fun S52 => (aput 6900 S52 620 (x2 + (20 : Int32)) (S52.1 15)).bind fun S54 => (aput 6900 S54 620 (x2 + (21 : Int32)) (S54.1 20)).bind fun S56 => (D_m_wanted F S56).bind fun v58 => (aput 6900 S56 620 (x2 + (22 : Int32)) v58).bind fun S60 => (D_m_ring F (3 : Int32) (6 : Int32) (((4 : Int32) * (S60.1 7)) + (S60.1 8)) (0 : Int32) S60).bind fun v62 => cond (m_c2 .ne v62 ((-1) : Int32)) ((aput 2700 S60 627 (((9 : Int32) * x1) + (6 : Int32)) v62).bind fun S65 => (D_m_spare F S65).bind fun v67 => D_m_ask_378 F F x1 x2 (((4 : Int32) * (S60.1 7)) + (S60.1 8)) v62 v67 (0 : Int32) S65) ((D_m_close F x1 (503 : Int32) (0 : Int32) (0 : Int32) S60).bind fun S69 => some (x1, S69))) ((aget 0 8 S 586 x3).bind fun v71 => (aput 6900 S 620 ((x2 + (8 : Int32)) + x3) v71).bind fun S73 => D_m_ask_178 F n x1 x2 (x3 + Int32.ofInt 1) S73)
theorem T_m_ask_178 {l : Launch} {w0 : List mM} {F : Nat} : ∀ (n : Nat) {x1 : Int32} {x2 : Int32} {x3 : Int32} {S : mS} {w : List mM} {r : Int32 × mS}, m_RM S w → m_Fq w0 w → D_m_ask_178 F n x1 x2 x3 S = some r → m_Rs l M_269 (178, [(0, .ref 583), (1, .int x1), (2, .int x2), (3, .int x3)], [], w) (fun v w' => v = some (.int r.1) ∧ m_RM r.2 w' ∧ m_Fq w0 w') 0 0 9 900 := by
  intro n
  induction n with
  | zero => intro x1 x2 x3 S w r h hF h0; cases h0
  | succ n ih =>
    intro x1 x2 x3 S w r h hF h0
    rw [D_m_ask_178] at h0
    refine m_Rs.n0 b_269 (x_iload_n d_269_178 rfl) ?_
    refine m_Rs.n0 b_269 (x_bipush (z := 8) d_269_179 (by decide)) ?_
    cases hc37 : m_c2 .ge x3 (8 : Int32) with
    | true =>
      have h0 := cT hc37 h0
      refine m_Rs.n0 b_269 (x_ict d_269_181 rfl hc37) ?_
      refine m_Rs.n0 b_269 (x_aload_n d_269_207 rfl) ?_
      refine m_Rs.n0 b_269 (x_getf d_269_208 rfl h.1 rfl) ?_
      refine m_Rs.n0 b_269 (x_iload_n d_269_211 rfl) ?_
      refine m_Rs.n0 b_269 (x_bipush (z := 16) d_269_212 (by decide)) ?_
      refine m_Rs.n0 b_269 (x_iadd d_269_214 rfl) ?_
      refine m_Rs.n0 b_269 (x_aload_n d_269_215 rfl) ?_
      refine m_Rs.n0 b_269 (x_getf d_269_216 rfl h.1 rfl) ?_
      obtain ⟨v41, e39, h0⟩ := bS h0
      have kk38 : ∀ (xz : Int32) (w1 : List mM), xz = v41 → m_RM S w1 → m_Fq w0 w1 → m_Rs l M_269 (227, [(0, .ref 583), (1, .int x1), (2, .int x2), (3, .int x3)], [.int xz, .int (x2 + (16 : Int32)), .ref 620], w1) (fun v w' => v = some (.int r.1) ∧ m_RM r.2 w' ∧ m_Fq w0 w') 0 0 9 900 := by
        intro xz w ez h hF
        rw [ez]
        obtain ⟨S42, e43, h0⟩ := bS h0
        refine m_Rs.dput b_269 d_269_227 h hF 36 rfl e43 (fun w1 h hF => ?_)
        refine m_Rs.n0 b_269 (x_aload_n d_269_228 rfl) ?_
        refine m_Rs.n0 b_269 (x_getf d_269_229 rfl h.1 rfl) ?_
        refine m_Rs.n0 b_269 (x_iload_n d_269_232 rfl) ?_
        refine m_Rs.n0 b_269 (x_bipush (z := 17) d_269_233 (by decide)) ?_
        refine m_Rs.n0 b_269 (x_iadd d_269_235 rfl) ?_
        refine m_Rs.n0 b_269 (x_aload_n d_269_236 rfl) ?_
        refine m_Rs.n0 b_269 (x_getf d_269_237 rfl h.1 rfl) ?_
        obtain ⟨v47, e45, h0⟩ := bS h0
        have kk44 : ∀ (xz : Int32) (w1 : List mM), xz = v47 → m_RM S42 w1 → m_Fq w0 w1 → m_Rs l M_269 (248, [(0, .ref 583), (1, .int x1), (2, .int x2), (3, .int x3)], [.int xz, .int (x2 + (17 : Int32)), .ref 620], w1) (fun v w' => v = some (.int r.1) ∧ m_RM r.2 w' ∧ m_Fq w0 w') 0 0 9 900 := by
          intro xz w ez h hF
          rw [ez]
          obtain ⟨S48, e49, h0⟩ := bS h0
          refine m_Rs.dput b_269 d_269_248 h hF 36 rfl e49 (fun w1 h hF => ?_)
          refine m_Rs.n0 b_269 (x_aload_n d_269_249 rfl) ?_
          refine m_Rs.n0 b_269 (x_getf d_269_250 rfl h.1 rfl) ?_
          refine m_Rs.n0 b_269 (x_iload_n d_269_253 rfl) ?_
          refine m_Rs.n0 b_269 (x_bipush (z := 18) d_269_254 (by decide)) ?_
          refine m_Rs.n0 b_269 (x_iadd d_269_256 rfl) ?_
          refine m_Rs.n0 b_269 (x_aload_n d_269_257 rfl) ?_
          refine m_Rs.n0 b_269 (x_getf d_269_258 rfl h.1 rfl) ?_
          obtain ⟨S50, e51, h0⟩ := bS h0
          refine m_Rs.dput b_269 d_269_261 h hF 36 rfl e51 (fun w1 h hF => ?_)
          refine m_Rs.n0 b_269 (x_aload_n d_269_262 rfl) ?_
          refine m_Rs.n0 b_269 (x_getf d_269_263 rfl h.1 rfl) ?_
          refine m_Rs.n0 b_269 (x_iload_n d_269_266 rfl) ?_
          refine m_Rs.n0 b_269 (x_bipush (z := 19) d_269_267 (by decide)) ?_
          refine m_Rs.n0 b_269 (x_iadd d_269_269 rfl) ?_
          refine m_Rs.n0 b_269 (x_aload_n d_269_270 rfl) ?_
          refine m_Rs.n0 b_269 (x_getf d_269_271 rfl h.1 rfl) ?_
          obtain ⟨S52, e53, h0⟩ := bS h0
          refine m_Rs.dput b_269 d_269_274 h hF 36 rfl e53 (fun w1 h hF => ?_)
          refine m_Rs.n0 b_269 (x_aload_n d_269_275 rfl) ?_
          refine m_Rs.n0 b_269 (x_getf d_269_276 rfl h.1 rfl) ?_
          refine m_Rs.n0 b_269 (x_iload_n d_269_279 rfl) ?_
          refine m_Rs.n0 b_269 (x_bipush (z := 20) d_269_280 (by decide)) ?_
          refine m_Rs.n0 b_269 (x_iadd d_269_282 rfl) ?_
          refine m_Rs.n0 b_269 (x_aload_n d_269_283 rfl) ?_
          refine m_Rs.n0 b_269 (x_getf d_269_284 rfl h.1 rfl) ?_
          obtain ⟨S54, e55, h0⟩ := bS h0
          refine m_Rs.dput b_269 d_269_287 h hF 36 rfl e55 (fun w1 h hF => ?_)
          refine m_Rs.n0 b_269 (x_aload_n d_269_288 rfl) ?_
          refine m_Rs.n0 b_269 (x_getf d_269_289 rfl h.1 rfl) ?_
          refine m_Rs.n0 b_269 (x_iload_n d_269_292 rfl) ?_
          refine m_Rs.n0 b_269 (x_bipush (z := 21) d_269_293 (by decide)) ?_
          refine m_Rs.n0 b_269 (x_iadd d_269_295 rfl) ?_
          refine m_Rs.n0 b_269 (x_aload_n d_269_296 rfl) ?_
          refine m_Rs.n0 b_269 (x_getf d_269_297 rfl h.1 rfl) ?_
          obtain ⟨S56, e57, h0⟩ := bS h0
          refine m_Rs.dput b_269 d_269_300 h hF 36 rfl e57 (fun w1 h hF => ?_)
          refine m_Rs.n0 b_269 (x_aload_n d_269_301 rfl) ?_
          refine m_Rs.n0 b_269 (x_getf d_269_302 rfl h.1 rfl) ?_
          refine m_Rs.n0 b_269 (x_iload_n d_269_305 rfl) ?_
          refine m_Rs.n0 b_269 (x_bipush (z := 22) d_269_306 (by decide)) ?_
          refine m_Rs.n0 b_269 (x_iadd d_269_308 rfl) ?_
          refine m_Rs.n0 b_269 (x_aload_n d_269_309 rfl) ?_
          obtain ⟨v58, e59, h0⟩ := bS h0
          refine m_Rs.callS b_269 (y_cv d_269_310 rfl q_271 (m_isRecv_of rfl h.1) (show m_takeI _ _ = some (_, [_], [_, _]) from rfl) (by simp only [m_okf, List.all_cons, List.all_nil, Bool.and_true, Bool.and_self, m_okv_i, m_okv_l, m_okv_0, m_okv_t, m_okv_at h.1, m_okv_at (h.a 36 rfl)]) rfl) (T_m_wanted h e59) hF rfl (fun w1 h hF => ?_) (by decide) (by decide)
          obtain ⟨S60, e61, h0⟩ := bS h0
          refine m_Rs.dput b_269 d_269_313 h hF 36 rfl e61 (fun w1 h hF => ?_)
          refine m_Rs.n0 b_269 (x_iconst (z := 4) d_269_314 (by decide)) ?_
          refine m_Rs.n0 b_269 (x_aload_n d_269_315 rfl) ?_
          refine m_Rs.n0 b_269 (x_getf d_269_316 rfl h.1 rfl) ?_
          refine m_Rs.n0 b_269 (x_imul d_269_319 rfl) ?_
          refine m_Rs.n0 b_269 (x_aload_n d_269_320 rfl) ?_
          refine m_Rs.n0 b_269 (x_getf d_269_321 rfl h.1 rfl) ?_
          refine m_Rs.n0 b_269 (x_iadd d_269_324 rfl) ?_
          refine m_Rs.n0 b_269 (x_istore_n d_269_325 rfl (show m_put1 _ _ _ = [(3, _), (0, _), (1, _), (2, _)] from rfl)) ?_
          refine m_Rs.n0 b_269 (x_aload_n d_269_326 rfl) ?_
          refine m_Rs.n0 b_269 (x_iconst (z := 3) d_269_327 (by decide)) ?_
          refine m_Rs.n0 b_269 (x_bipush (z := 6) d_269_328 (by decide)) ?_
          refine m_Rs.n0 b_269 (x_iload_n d_269_330 rfl) ?_
          refine m_Rs.n0 b_269 (x_iconst (z := 0) d_269_331 (by decide)) ?_
          obtain ⟨v62, e63, h0⟩ := bS h0
          refine m_Rs.callS b_269 (y_cv d_269_332 rfl q_272 (m_isRecv_of rfl h.1) (show m_takeI _ _ = some (_, [_, _, _, _, _], []) from rfl) (by simp only [m_okf, List.all_cons, List.all_nil, Bool.and_true, Bool.and_self, m_okv_i, m_okv_l, m_okv_0, m_okv_t, m_okv_at h.1]) rfl) (T_m_ring h e63) hF rfl (fun w1 h hF => ?_) (by decide) (by decide)
          refine m_Rs.n0 b_269 (x_istore d_269_335 rfl (show m_put1 _ _ _ = [(4, _), (3, _), (0, _), (1, _), (2, _)] from rfl)) ?_
          refine m_Rs.n0 b_269 (x_iload d_269_337 rfl) ?_
          refine m_Rs.n0 b_269 (x_iconst (z := (-1)) d_269_339 (by decide)) ?_
          cases hc64 : m_c2 .ne v62 ((-1) : Int32) with
          | true =>
            have h0 := cT hc64 h0
            refine m_Rs.n0 b_269 (x_ict d_269_340 rfl hc64) ?_
            refine m_Rs.n0 b_269 (x_aload_n d_269_355 rfl) ?_
            refine m_Rs.n0 b_269 (x_getf d_269_356 rfl h.1 rfl) ?_
            refine m_Rs.n0 b_269 (x_bipush (z := 9) d_269_359 (by decide)) ?_
            refine m_Rs.n0 b_269 (x_iload_n d_269_361 rfl) ?_
            refine m_Rs.n0 b_269 (x_imul d_269_362 rfl) ?_
            refine m_Rs.n0 b_269 (x_bipush (z := 6) d_269_363 (by decide)) ?_
            refine m_Rs.n0 b_269 (x_iadd d_269_365 rfl) ?_
            refine m_Rs.n0 b_269 (x_iload d_269_366 rfl) ?_
            obtain ⟨S65, e66, h0⟩ := bS h0
            refine m_Rs.dput b_269 d_269_368 h hF 43 rfl e66 (fun w1 h hF => ?_)
            refine m_Rs.n0 b_269 (x_aload_n d_269_369 rfl) ?_
            obtain ⟨v67, e68, h0⟩ := bS h0
            refine m_Rs.callS b_269 (y_cv d_269_370 rfl q_275 (m_isRecv_of rfl h.1) (show m_takeI _ _ = some (_, [_], []) from rfl) (by simp only [m_okf, List.all_cons, List.all_nil, Bool.and_true, Bool.and_self, m_okv_i, m_okv_l, m_okv_0, m_okv_t, m_okv_at h.1]) rfl) (T_m_spare h e68) hF rfl (fun w1 h hF => ?_) (by decide) (by decide)
            refine m_Rs.n0 b_269 (x_istore d_269_373 rfl (show m_put1 _ _ _ = [(5, _), (4, _), (3, _), (0, _), (1, _), (2, _)] from rfl)) ?_
            refine m_Rs.n0 b_269 (x_iconst (z := 0) d_269_375 (by decide)) ?_
            refine m_Rs.n0 b_269 (x_istore d_269_376 rfl (show m_put1 _ _ _ = [(6, _), (5, _), (4, _), (3, _), (0, _), (1, _), (2, _)] from rfl)) ?_
            exact m_Rs.pick [4, 5, 6, 3, 2, 1, 0] rfl (T_m_ask_378 F h hF h0)
          | false =>
            have h0 := cF hc64 h0
            refine m_Rs.n0 b_269 (x_icf d_269_340 rfl hc64) ?_
            refine m_Rs.n0 b_269 (x_aload_n d_269_343 rfl) ?_
            refine m_Rs.n0 b_269 (x_iload_n d_269_344 rfl) ?_
            refine m_Rs.n0 b_269 (x_sipush (z := 503) d_269_345 (by decide)) ?_
            refine m_Rs.n0 b_269 (x_iconst (z := 0) d_269_348 (by decide)) ?_
            refine m_Rs.n0 b_269 (x_iconst (z := 0) d_269_349 (by decide)) ?_
            obtain ⟨S69, e70, h0⟩ := bS h0
            refine m_Rs.callSv b_269 (y_cv d_269_350 rfl q_270 (m_isRecv_of rfl h.1) (show m_takeI _ _ = some (_, [_, _, _, _, _], []) from rfl) (by simp only [m_okf, List.all_cons, List.all_nil, Bool.and_true, Bool.and_self, m_okv_i, m_okv_l, m_okv_0, m_okv_t, m_okv_at h.1]) rfl) (T_m_close h e70) hF rfl (fun w1 h hF => ?_) (by decide) (by decide)
            refine m_Rs.n0 b_269 (x_iload_n d_269_353 rfl) ?_
            exact m_Rs.ret b_269 (m_rt_ir d_269_354 rfl rfl) (rP h0 h hF)
        cases hc46 : m_c1 .eq (S42.1 19) with
        | true =>
          have e45 := cT hc46 e45
          refine m_Rs.n0 b_269 (x_ift d_269_240 rfl hc46) ?_
          refine m_Rs.n0 b_269 (x_iconst (z := 0) d_269_247 (by decide)) ?_
          exact kk44 _ _ (Option.some.inj e45) h hF
        | false =>
          have e45 := cF hc46 e45
          refine m_Rs.n0 b_269 (x_iff d_269_240 rfl hc46) ?_
          refine m_Rs.n0 b_269 (x_iconst (z := 1) d_269_243 (by decide)) ?_
          refine m_Rs.n0 b_269 (x_goto d_269_244 rfl) ?_
          exact kk44 _ _ (Option.some.inj e45) h hF
      cases hc40 : m_c1 .eq (S.1 18) with
      | true =>
        have e39 := cT hc40 e39
        refine m_Rs.n0 b_269 (x_ift d_269_219 rfl hc40) ?_
        refine m_Rs.n0 b_269 (x_iconst (z := 0) d_269_226 (by decide)) ?_
        exact kk38 _ _ (Option.some.inj e39) h hF
      | false =>
        have e39 := cF hc40 e39
        refine m_Rs.n0 b_269 (x_iff d_269_219 rfl hc40) ?_
        refine m_Rs.n0 b_269 (x_iconst (z := 1) d_269_222 (by decide)) ?_
        refine m_Rs.n0 b_269 (x_goto d_269_223 rfl) ?_
        exact kk38 _ _ (Option.some.inj e39) h hF
    | false =>
      have h0 := cF hc37 h0
      refine m_Rs.n0 b_269 (x_icf d_269_181 rfl hc37) ?_
      refine m_Rs.n0 b_269 (x_aload_n d_269_184 rfl) ?_
      refine m_Rs.n0 b_269 (x_getf d_269_185 rfl h.1 rfl) ?_
      refine m_Rs.n0 b_269 (x_iload_n d_269_188 rfl) ?_
      refine m_Rs.n0 b_269 (x_bipush (z := 8) d_269_189 (by decide)) ?_
      refine m_Rs.n0 b_269 (x_iadd d_269_191 rfl) ?_
      refine m_Rs.n0 b_269 (x_iload_n d_269_192 rfl) ?_
      refine m_Rs.n0 b_269 (x_iadd d_269_193 rfl) ?_
      refine m_Rs.n0 b_269 (x_aload_n d_269_194 rfl) ?_
      refine m_Rs.n0 b_269 (x_getf d_269_195 rfl h.1 rfl) ?_
      refine m_Rs.n0 b_269 (x_iload_n d_269_198 rfl) ?_
      obtain ⟨v71, e72, h0⟩ := bS h0
      refine m_Rs.dget b_269 d_269_199 h 2 rfl e72 ?_
      obtain ⟨S73, e74, h0⟩ := bS h0
      refine m_Rs.dput b_269 d_269_200 h hF 36 rfl e74 (fun w1 h hF => ?_)
      refine m_Rs.n0 b_269 (x_iinc d_269_201 rfl rfl rfl (show m_put1 _ _ _ = [(3, _), (0, _), (1, _), (2, _)] from rfl)) ?_
      refine m_Rs.n0 b_269 (x_goto d_269_204 rfl) ?_
      exact m_Rs.pick [1, 2, 3, 0] rfl (ih h hF h0)
def D_m_ask (F : Nat) (S : mS) : Option (Int32 × mS) := (fput S 0 (0 : Int32)).bind fun S1 => cond (m_c2 .ne (S1.1 70) (300 : Int32)) ((fput S1 70 ((S1.1 70) + (1 : Int32))).bind fun S4 => (bput 300 S4 621 (S1.1 70) (1 : Int32)).bind fun S6 => (D_m_readText F (1 : Int32) S6).bind fun q8 => cond (m_c1 .ne q8.1) ((aput 6900 q8.2 620 ((23 : Int32) * (S1.1 70)) (q8.2.1 7)).bind fun S11 => (aput 6900 S11 620 (((23 : Int32) * (S1.1 70)) + (1 : Int32)) (S11.1 8)).bind fun S13 => (cond (m_c1 .eq (S13.1 16)) (some (0 : Int32)) (some (1 : Int32))).bind fun v18 => (aput 6900 S13 620 (((23 : Int32) * (S1.1 70)) + (2 : Int32)) v18).bind fun S19 => (aput 6900 S19 620 (((23 : Int32) * (S1.1 70)) + (3 : Int32)) (S19.1 9)).bind fun S21 => (aput 6900 S21 620 (((23 : Int32) * (S1.1 70)) + (4 : Int32)) (S21.1 10)).bind fun S23 => (aput 6900 S23 620 (((23 : Int32) * (S1.1 70)) + (5 : Int32)) (S23.1 11)).bind fun S25 => (cond (m_c1 .eq (S25.1 17)) (some (0 : Int32)) (some (1 : Int32))).bind fun v30 => (aput 6900 S25 620 (((23 : Int32) * (S1.1 70)) + (6 : Int32)) v30).bind fun S31 => (aput 6900 S31 620 (((23 : Int32) * (S1.1 70)) + (7 : Int32)) (S31.1 12)).bind fun S33 => D_m_ask_178 F F (S1.1 70) ((23 : Int32) * (S1.1 70)) (0 : Int32) S33) ((D_m_close F (S1.1 70) (400 : Int32) (0 : Int32) (0 : Int32) q8.2).bind fun S35 => some ((S1.1 70), S35))) (some (((-1) : Int32), S1))
theorem T_m_ask {l : Launch} {w : List mM} {F : Nat} {S : mS} {r : Int32 × mS} (h : m_RM S w) (h0 : D_m_ask F S = some r) : m_Rs l M_269 (m_ent M_269 [.ref 583] w) (fun v w' => v = some (.int r.1) ∧ m_RM r.2 w' ∧ m_Fq w w') 0 0 9 900 := by
  show m_Rs l M_269 (0, [(0, .ref 583)], [], w) _ 0 0 9 900
  generalize hw0 : w = w0 at h ⊢
  have hF : m_Fq w0 w0 := m_Fq.refl
  rw [D_m_ask] at h0
  refine m_Rs.n0 b_269 (x_aload_n d_269_0 rfl) ?_
  refine m_Rs.n0 b_269 (x_iconst (z := 0) d_269_1 (by decide)) ?_
  obtain ⟨S1, e2, h0⟩ := bS h0
  refine m_Rs.dfput b_269 d_269_2 h hF e2 rfl rfl rfl rfl rfl rfl (fun w1 h hF => ?_)
  refine m_Rs.n0 b_269 (x_aload_n d_269_5 rfl) ?_
  refine m_Rs.n0 b_269 (x_getf d_269_6 rfl h.1 rfl) ?_
  refine m_Rs.n0 b_269 (x_sipush (z := 300) d_269_9 (by decide)) ?_
  cases hc3 : m_c2 .ne (S1.1 70) (300 : Int32) with
  | true =>
    have h0 := cT hc3 h0
    refine m_Rs.n0 b_269 (x_ict d_269_12 rfl hc3) ?_
    refine m_Rs.n0 b_269 (x_aload_n d_269_17 rfl) ?_
    refine m_Rs.n0 b_269 (x_getf d_269_18 rfl h.1 rfl) ?_
    refine m_Rs.n0 b_269 (x_istore_n d_269_21 rfl (show m_put1 _ _ _ = [(1, _), (0, _)] from rfl)) ?_
    refine m_Rs.n0 b_269 (x_aload_n d_269_22 rfl) ?_
    refine m_Rs.n0 b_269 (x_dup d_269_23 rfl) ?_
    refine m_Rs.n0 b_269 (x_getf d_269_24 rfl h.1 rfl) ?_
    refine m_Rs.n0 b_269 (x_iconst (z := 1) d_269_27 (by decide)) ?_
    refine m_Rs.n0 b_269 (x_iadd d_269_28 rfl) ?_
    obtain ⟨S4, e5, h0⟩ := bS h0
    refine m_Rs.dfput b_269 d_269_29 h hF e5 rfl rfl rfl rfl rfl rfl (fun w1 h hF => ?_)
    refine m_Rs.n0 b_269 (x_aload_n d_269_32 rfl) ?_
    refine m_Rs.n0 b_269 (x_getf d_269_33 rfl h.1 rfl) ?_
    refine m_Rs.n0 b_269 (x_iload_n d_269_36 rfl) ?_
    refine m_Rs.n0 b_269 (x_iconst (z := 1) d_269_37 (by decide)) ?_
    obtain ⟨S6, e7, h0⟩ := bS h0
    refine m_Rs.dputb b_269 d_269_38 h hF 37 rfl e7 (fun w1 h hF => ?_)
    refine m_Rs.n0 b_269 (x_aload_n d_269_39 rfl) ?_
    refine m_Rs.n0 b_269 (x_iconst (z := 1) d_269_40 (by decide)) ?_
    obtain ⟨q8, e9, h0⟩ := bS h0
    refine m_Rs.callS b_269 (y_cv d_269_41 rfl q_244 (m_isRecv_of rfl h.1) (show m_takeI _ _ = some (_, [_, _], []) from rfl) (by simp only [m_okf, List.all_cons, List.all_nil, Bool.and_true, Bool.and_self, m_okv_i, m_okv_l, m_okv_0, m_okv_t, m_okv_at h.1]) rfl) (T_m_readText h e9) hF rfl (fun w1 h hF => ?_) (by decide) (by decide)
    cases hc10 : m_c1 .ne q8.1 with
    | true =>
      have h0 := cT hc10 h0
      refine m_Rs.n0 b_269 (x_ift d_269_44 rfl hc10) ?_
      refine m_Rs.n0 b_269 (x_bipush (z := 23) d_269_59 (by decide)) ?_
      refine m_Rs.n0 b_269 (x_iload_n d_269_61 rfl) ?_
      refine m_Rs.n0 b_269 (x_imul d_269_62 rfl) ?_
      refine m_Rs.n0 b_269 (x_istore_n d_269_63 rfl (show m_put1 _ _ _ = [(2, _), (1, _), (0, _)] from rfl)) ?_
      refine m_Rs.n0 b_269 (x_aload_n d_269_64 rfl) ?_
      refine m_Rs.n0 b_269 (x_getf d_269_65 rfl h.1 rfl) ?_
      refine m_Rs.n0 b_269 (x_iload_n d_269_68 rfl) ?_
      refine m_Rs.n0 b_269 (x_aload_n d_269_69 rfl) ?_
      refine m_Rs.n0 b_269 (x_getf d_269_70 rfl h.1 rfl) ?_
      obtain ⟨S11, e12, h0⟩ := bS h0
      refine m_Rs.dput b_269 d_269_73 h hF 36 rfl e12 (fun w1 h hF => ?_)
      refine m_Rs.n0 b_269 (x_aload_n d_269_74 rfl) ?_
      refine m_Rs.n0 b_269 (x_getf d_269_75 rfl h.1 rfl) ?_
      refine m_Rs.n0 b_269 (x_iload_n d_269_78 rfl) ?_
      refine m_Rs.n0 b_269 (x_iconst (z := 1) d_269_79 (by decide)) ?_
      refine m_Rs.n0 b_269 (x_iadd d_269_80 rfl) ?_
      refine m_Rs.n0 b_269 (x_aload_n d_269_81 rfl) ?_
      refine m_Rs.n0 b_269 (x_getf d_269_82 rfl h.1 rfl) ?_
      obtain ⟨S13, e14, h0⟩ := bS h0
      refine m_Rs.dput b_269 d_269_85 h hF 36 rfl e14 (fun w1 h hF => ?_)
      refine m_Rs.n0 b_269 (x_aload_n d_269_86 rfl) ?_
      refine m_Rs.n0 b_269 (x_getf d_269_87 rfl h.1 rfl) ?_
      refine m_Rs.n0 b_269 (x_iload_n d_269_90 rfl) ?_
      refine m_Rs.n0 b_269 (x_iconst (z := 2) d_269_91 (by decide)) ?_
      refine m_Rs.n0 b_269 (x_iadd d_269_92 rfl) ?_
      refine m_Rs.n0 b_269 (x_aload_n d_269_93 rfl) ?_
      refine m_Rs.n0 b_269 (x_getf d_269_94 rfl h.1 rfl) ?_
      obtain ⟨v18, e16, h0⟩ := bS h0
      have kk15 : ∀ (xz : Int32) (w1 : List mM), xz = v18 → m_RM S13 w1 → m_Fq w0 w1 → m_Rs l M_269 (105, [(2, .int ((23 : Int32) * (S1.1 70))), (1, .int (S1.1 70)), (0, .ref 583)], [.int xz, .int (((23 : Int32) * (S1.1 70)) + (2 : Int32)), .ref 620], w1) (fun v w' => v = some (.int r.1) ∧ m_RM r.2 w' ∧ m_Fq w0 w') 0 0 9 900 := by
        intro xz w ez h hF
        rw [ez]
        obtain ⟨S19, e20, h0⟩ := bS h0
        refine m_Rs.dput b_269 d_269_105 h hF 36 rfl e20 (fun w1 h hF => ?_)
        refine m_Rs.n0 b_269 (x_aload_n d_269_106 rfl) ?_
        refine m_Rs.n0 b_269 (x_getf d_269_107 rfl h.1 rfl) ?_
        refine m_Rs.n0 b_269 (x_iload_n d_269_110 rfl) ?_
        refine m_Rs.n0 b_269 (x_iconst (z := 3) d_269_111 (by decide)) ?_
        refine m_Rs.n0 b_269 (x_iadd d_269_112 rfl) ?_
        refine m_Rs.n0 b_269 (x_aload_n d_269_113 rfl) ?_
        refine m_Rs.n0 b_269 (x_getf d_269_114 rfl h.1 rfl) ?_
        obtain ⟨S21, e22, h0⟩ := bS h0
        refine m_Rs.dput b_269 d_269_117 h hF 36 rfl e22 (fun w1 h hF => ?_)
        refine m_Rs.n0 b_269 (x_aload_n d_269_118 rfl) ?_
        refine m_Rs.n0 b_269 (x_getf d_269_119 rfl h.1 rfl) ?_
        refine m_Rs.n0 b_269 (x_iload_n d_269_122 rfl) ?_
        refine m_Rs.n0 b_269 (x_iconst (z := 4) d_269_123 (by decide)) ?_
        refine m_Rs.n0 b_269 (x_iadd d_269_124 rfl) ?_
        refine m_Rs.n0 b_269 (x_aload_n d_269_125 rfl) ?_
        refine m_Rs.n0 b_269 (x_getf d_269_126 rfl h.1 rfl) ?_
        obtain ⟨S23, e24, h0⟩ := bS h0
        refine m_Rs.dput b_269 d_269_129 h hF 36 rfl e24 (fun w1 h hF => ?_)
        refine m_Rs.n0 b_269 (x_aload_n d_269_130 rfl) ?_
        refine m_Rs.n0 b_269 (x_getf d_269_131 rfl h.1 rfl) ?_
        refine m_Rs.n0 b_269 (x_iload_n d_269_134 rfl) ?_
        refine m_Rs.n0 b_269 (x_iconst (z := 5) d_269_135 (by decide)) ?_
        refine m_Rs.n0 b_269 (x_iadd d_269_136 rfl) ?_
        refine m_Rs.n0 b_269 (x_aload_n d_269_137 rfl) ?_
        refine m_Rs.n0 b_269 (x_getf d_269_138 rfl h.1 rfl) ?_
        obtain ⟨S25, e26, h0⟩ := bS h0
        refine m_Rs.dput b_269 d_269_141 h hF 36 rfl e26 (fun w1 h hF => ?_)
        refine m_Rs.n0 b_269 (x_aload_n d_269_142 rfl) ?_
        refine m_Rs.n0 b_269 (x_getf d_269_143 rfl h.1 rfl) ?_
        refine m_Rs.n0 b_269 (x_iload_n d_269_146 rfl) ?_
        refine m_Rs.n0 b_269 (x_bipush (z := 6) d_269_147 (by decide)) ?_
        refine m_Rs.n0 b_269 (x_iadd d_269_149 rfl) ?_
        refine m_Rs.n0 b_269 (x_aload_n d_269_150 rfl) ?_
        refine m_Rs.n0 b_269 (x_getf d_269_151 rfl h.1 rfl) ?_
        obtain ⟨v30, e28, h0⟩ := bS h0
        have kk27 : ∀ (xz : Int32) (w1 : List mM), xz = v30 → m_RM S25 w1 → m_Fq w0 w1 → m_Rs l M_269 (162, [(2, .int ((23 : Int32) * (S1.1 70))), (1, .int (S1.1 70)), (0, .ref 583)], [.int xz, .int (((23 : Int32) * (S1.1 70)) + (6 : Int32)), .ref 620], w1) (fun v w' => v = some (.int r.1) ∧ m_RM r.2 w' ∧ m_Fq w0 w') 0 0 9 900 := by
          intro xz w ez h hF
          rw [ez]
          obtain ⟨S31, e32, h0⟩ := bS h0
          refine m_Rs.dput b_269 d_269_162 h hF 36 rfl e32 (fun w1 h hF => ?_)
          refine m_Rs.n0 b_269 (x_aload_n d_269_163 rfl) ?_
          refine m_Rs.n0 b_269 (x_getf d_269_164 rfl h.1 rfl) ?_
          refine m_Rs.n0 b_269 (x_iload_n d_269_167 rfl) ?_
          refine m_Rs.n0 b_269 (x_bipush (z := 7) d_269_168 (by decide)) ?_
          refine m_Rs.n0 b_269 (x_iadd d_269_170 rfl) ?_
          refine m_Rs.n0 b_269 (x_aload_n d_269_171 rfl) ?_
          refine m_Rs.n0 b_269 (x_getf d_269_172 rfl h.1 rfl) ?_
          obtain ⟨S33, e34, h0⟩ := bS h0
          refine m_Rs.dput b_269 d_269_175 h hF 36 rfl e34 (fun w1 h hF => ?_)
          refine m_Rs.n0 b_269 (x_iconst (z := 0) d_269_176 (by decide)) ?_
          refine m_Rs.n0 b_269 (x_istore_n d_269_177 rfl (show m_put1 _ _ _ = [(3, _), (2, _), (1, _), (0, _)] from rfl)) ?_
          exact m_Rs.pick [3, 2, 1, 0] rfl (T_m_ask_178 F h hF h0)
        cases hc29 : m_c1 .eq (S25.1 17) with
        | true =>
          have e28 := cT hc29 e28
          refine m_Rs.n0 b_269 (x_ift d_269_154 rfl hc29) ?_
          refine m_Rs.n0 b_269 (x_iconst (z := 0) d_269_161 (by decide)) ?_
          exact kk27 _ _ (Option.some.inj e28) h hF
        | false =>
          have e28 := cF hc29 e28
          refine m_Rs.n0 b_269 (x_iff d_269_154 rfl hc29) ?_
          refine m_Rs.n0 b_269 (x_iconst (z := 1) d_269_157 (by decide)) ?_
          refine m_Rs.n0 b_269 (x_goto d_269_158 rfl) ?_
          exact kk27 _ _ (Option.some.inj e28) h hF
      cases hc17 : m_c1 .eq (S13.1 16) with
      | true =>
        have e16 := cT hc17 e16
        refine m_Rs.n0 b_269 (x_ift d_269_97 rfl hc17) ?_
        refine m_Rs.n0 b_269 (x_iconst (z := 0) d_269_104 (by decide)) ?_
        exact kk15 _ _ (Option.some.inj e16) h hF
      | false =>
        have e16 := cF hc17 e16
        refine m_Rs.n0 b_269 (x_iff d_269_97 rfl hc17) ?_
        refine m_Rs.n0 b_269 (x_iconst (z := 1) d_269_100 (by decide)) ?_
        refine m_Rs.n0 b_269 (x_goto d_269_101 rfl) ?_
        exact kk15 _ _ (Option.some.inj e16) h hF
    | false =>
      have h0 := cF hc10 h0
      refine m_Rs.n0 b_269 (x_iff d_269_44 rfl hc10) ?_
      refine m_Rs.n0 b_269 (x_aload_n d_269_47 rfl) ?_
      refine m_Rs.n0 b_269 (x_iload_n d_269_48 rfl) ?_
      refine m_Rs.n0 b_269 (x_sipush (z := 400) d_269_49 (by decide)) ?_
      refine m_Rs.n0 b_269 (x_iconst (z := 0) d_269_52 (by decide)) ?_
      refine m_Rs.n0 b_269 (x_iconst (z := 0) d_269_53 (by decide)) ?_
      obtain ⟨S35, e36, h0⟩ := bS h0
      refine m_Rs.callSv b_269 (y_cv d_269_54 rfl q_270 (m_isRecv_of rfl h.1) (show m_takeI _ _ = some (_, [_, _, _, _, _], []) from rfl) (by simp only [m_okf, List.all_cons, List.all_nil, Bool.and_true, Bool.and_self, m_okv_i, m_okv_l, m_okv_0, m_okv_t, m_okv_at h.1]) rfl) (T_m_close h e36) hF rfl (fun w1 h hF => ?_) (by decide) (by decide)
      refine m_Rs.n0 b_269 (x_iload_n d_269_57 rfl) ?_
      exact m_Rs.ret b_269 (m_rt_ir d_269_58 rfl rfl) (rP h0 h hF)
  | false =>
    have h0 := cF hc3 h0
    refine m_Rs.n0 b_269 (x_icf d_269_12 rfl hc3) ?_
    refine m_Rs.n0 b_269 (x_iconst (z := (-1)) d_269_15 (by decide)) ?_
    exact m_Rs.ret b_269 (m_rt_ir d_269_16 rfl rfl) (rP h0 h hF)
