/-! The reference's methods as guarded functions. Written by wip/tool/dec2.py. -/
theorem q_313 : m_mt[313]? = some M_313 := by rfl
theorem q_316 : m_mt[316]? = some M_316 := by rfl
theorem q_317 : m_mt[317]? = some M_317 := by rfl
theorem q_319 : m_mt[319]? = some M_319 := by rfl
theorem q_320 : m_mt[320]? = some M_320 := by rfl
theorem q_321 : m_mt[321]? = some M_321 := by rfl
theorem q_322 : m_mt[322]? = some M_322 := by rfl
theorem q_323 : m_mt[323]? = some M_323 := by rfl
theorem q_324 : m_mt[324]? = some M_324 := by rfl
theorem q_318 : m_mt[318]? = some M_318 := by rfl
theorem q_325 : m_mt[325]? = some M_325 := by rfl
theorem q_315 : m_mt[315]? = some M_315 := by rfl
theorem q_314 : m_mt[314]? = some M_314 := by rfl
theorem q_326 : m_mt[326]? = some M_326 := by rfl
theorem q_327 : m_mt[327]? = some M_327 := by rfl
theorem q_328 : m_mt[328]? = some M_328 := by rfl
theorem q_331 : m_mt[331]? = some M_331 := by rfl
theorem q_330 : m_mt[330]? = some M_330 := by rfl
theorem q_329 : m_mt[329]? = some M_329 := by rfl
theorem q_333 : m_mt[333]? = some M_333 := by rfl
theorem q_332 : m_mt[332]? = some M_332 := by rfl
theorem q_334 : m_mt[334]? = some M_334 := by rfl
theorem q_335 : m_mt[335]? = some M_335 := by rfl
theorem q_338 : m_mt[338]? = some M_338 := by rfl
theorem q_337 : m_mt[337]? = some M_337 := by rfl
theorem q_341 : m_mt[341]? = some M_341 := by rfl
theorem q_342 : m_mt[342]? = some M_342 := by rfl
theorem b_313 : m_bOk M_313 := (m_mt_ok M_313 (List.mem_of_getElem? q_313)).body
theorem b_316 : m_bOk M_316 := (m_mt_ok M_316 (List.mem_of_getElem? q_316)).body
theorem b_317 : m_bOk M_317 := (m_mt_ok M_317 (List.mem_of_getElem? q_317)).body
theorem b_319 : m_bOk M_319 := (m_mt_ok M_319 (List.mem_of_getElem? q_319)).body
theorem b_320 : m_bOk M_320 := (m_mt_ok M_320 (List.mem_of_getElem? q_320)).body
theorem b_321 : m_bOk M_321 := (m_mt_ok M_321 (List.mem_of_getElem? q_321)).body
theorem b_322 : m_bOk M_322 := (m_mt_ok M_322 (List.mem_of_getElem? q_322)).body
theorem b_323 : m_bOk M_323 := (m_mt_ok M_323 (List.mem_of_getElem? q_323)).body
theorem b_324 : m_bOk M_324 := (m_mt_ok M_324 (List.mem_of_getElem? q_324)).body
theorem b_318 : m_bOk M_318 := (m_mt_ok M_318 (List.mem_of_getElem? q_318)).body
theorem b_325 : m_bOk M_325 := (m_mt_ok M_325 (List.mem_of_getElem? q_325)).body
theorem b_315 : m_bOk M_315 := (m_mt_ok M_315 (List.mem_of_getElem? q_315)).body
theorem b_314 : m_bOk M_314 := (m_mt_ok M_314 (List.mem_of_getElem? q_314)).body
theorem b_326 : m_bOk M_326 := (m_mt_ok M_326 (List.mem_of_getElem? q_326)).body
theorem b_327 : m_bOk M_327 := (m_mt_ok M_327 (List.mem_of_getElem? q_327)).body
theorem b_328 : m_bOk M_328 := (m_mt_ok M_328 (List.mem_of_getElem? q_328)).body
theorem b_331 : m_bOk M_331 := (m_mt_ok M_331 (List.mem_of_getElem? q_331)).body
theorem b_330 : m_bOk M_330 := (m_mt_ok M_330 (List.mem_of_getElem? q_330)).body
theorem b_329 : m_bOk M_329 := (m_mt_ok M_329 (List.mem_of_getElem? q_329)).body
theorem b_333 : m_bOk M_333 := (m_mt_ok M_333 (List.mem_of_getElem? q_333)).body
theorem b_332 : m_bOk M_332 := (m_mt_ok M_332 (List.mem_of_getElem? q_332)).body
theorem b_334 : m_bOk M_334 := (m_mt_ok M_334 (List.mem_of_getElem? q_334)).body
theorem b_335 : m_bOk M_335 := (m_mt_ok M_335 (List.mem_of_getElem? q_335)).body
theorem b_338 : m_bOk M_338 := (m_mt_ok M_338 (List.mem_of_getElem? q_338)).body
theorem b_337 : m_bOk M_337 := (m_mt_ok M_337 (List.mem_of_getElem? q_337)).body
theorem b_341 : m_bOk M_341 := (m_mt_ok M_341 (List.mem_of_getElem? q_341)).body
theorem b_342 : m_bOk M_342 := (m_mt_ok M_342 (List.mem_of_getElem? q_342)).body
theorem d_313_0 : m_dn M_313 0 (.aload_n 0) 1 1 := by decide +kernel
theorem d_313_1 : m_dn M_313 1 (.iconst 0) 1 2 := by decide +kernel
theorem d_313_2 : m_dn M_313 2 (.putfield 155) 3 5 := by decide +kernel
theorem d_313_5 : m_dn M_313 5 (.aload_n 0) 1 6 := by decide +kernel
theorem d_313_6 : m_dn M_313 6 (.getfield 13) 3 9 := by decide +kernel
theorem d_313_9 : m_dn M_313 9 (.ireturn) 1 10 := by decide +kernel
theorem d_314_0 : m_dn M_314 0 (.aload_n 0) 1 1 := by decide +kernel
theorem d_314_1 : m_dn M_314 1 (.iconst 0) 1 2 := by decide +kernel
theorem d_314_10 : m_dn M_314 10 (.aload_n 0) 1 11 := by decide +kernel
theorem d_314_11 : m_dn M_314 11 (.getfield 533) 3 14 := by decide +kernel
theorem d_314_14 : m_dn M_314 14 (.if_icmp .lt 5) 3 17 := by decide +kernel
theorem d_314_17 : m_dn M_314 17 (.iconst 0) 1 18 := by decide +kernel
theorem d_314_18 : m_dn M_314 18 (.ireturn) 1 19 := by decide +kernel
theorem d_314_19 : m_dn M_314 19 (.aload_n 0) 1 20 := by decide +kernel
theorem d_314_2 : m_dn M_314 2 (.putfield 155) 3 5 := by decide +kernel
theorem d_314_20 : m_dn M_314 20 (.iload_n 1) 1 21 := by decide +kernel
theorem d_314_21 : m_dn M_314 21 (.invokevirtual 618) 3 24 := by decide +kernel
theorem d_314_24 : m_dn M_314 24 (.iconst 1) 1 25 := by decide +kernel
theorem d_314_25 : m_dn M_314 25 (.ireturn) 1 26 := by decide +kernel
theorem d_314_5 : m_dn M_314 5 (.iload_n 1) 1 6 := by decide +kernel
theorem d_314_6 : m_dn M_314 6 (.ifCond .lt 11) 3 9 := by decide +kernel
theorem d_314_9 : m_dn M_314 9 (.iload_n 1) 1 10 := by decide +kernel
theorem d_315_0 : m_dn M_315 0 (.iconst 0) 1 1 := by decide +kernel
theorem d_315_1 : m_dn M_315 1 (.istore_n 2) 1 2 := by decide +kernel
theorem d_315_101 : m_dn M_315 101 (.goto 38) 3 104 := by decide +kernel
theorem d_315_104 : m_dn M_315 104 (.aload_n 0) 1 105 := by decide +kernel
theorem d_315_105 : m_dn M_315 105 (.iload_n 2) 1 106 := by decide +kernel
theorem d_315_106 : m_dn M_315 106 (.invokevirtual 575) 3 109 := by decide +kernel
theorem d_315_109 : m_dn M_315 109 (.goto 30) 3 112 := by decide +kernel
theorem d_315_112 : m_dn M_315 112 (.aload_n 0) 1 113 := by decide +kernel
theorem d_315_113 : m_dn M_315 113 (.dup) 1 114 := by decide +kernel
theorem d_315_114 : m_dn M_315 114 (.getfield 578) 3 117 := by decide +kernel
theorem d_315_117 : m_dn M_315 117 (.aload_n 0) 1 118 := by decide +kernel
theorem d_315_118 : m_dn M_315 118 (.getfield 149) 3 121 := by decide +kernel
theorem d_315_12 : m_dn M_315 12 (.iload_n 2) 1 13 := by decide +kernel
theorem d_315_121 : m_dn M_315 121 (.iconst 3) 1 122 := by decide +kernel
theorem d_315_122 : m_dn M_315 122 (.iaload) 1 123 := by decide +kernel
theorem d_315_123 : m_dn M_315 123 (.aload_n 0) 1 124 := by decide +kernel
theorem d_315_124 : m_dn M_315 124 (.getfield 581) 3 127 := by decide +kernel
theorem d_315_127 : m_dn M_315 127 (.if_icmp .ne 7) 3 130 := by decide +kernel
theorem d_315_13 : m_dn M_315 13 (.aload_n 0) 1 14 := by decide +kernel
theorem d_315_130 : m_dn M_315 130 (.iconst 1) 1 131 := by decide +kernel
theorem d_315_131 : m_dn M_315 131 (.goto 4) 3 134 := by decide +kernel
theorem d_315_134 : m_dn M_315 134 (.iconst 0) 1 135 := by decide +kernel
theorem d_315_135 : m_dn M_315 135 (.iadd) 1 136 := by decide +kernel
theorem d_315_136 : m_dn M_315 136 (.putfield 578) 3 139 := by decide +kernel
theorem d_315_139 : m_dn M_315 139 (.return_) 1 140 := by decide +kernel
theorem d_315_14 : m_dn M_315 14 (.getfield 137) 3 17 := by decide +kernel
theorem d_315_17 : m_dn M_315 17 (.bipush 22) 2 19 := by decide +kernel
theorem d_315_19 : m_dn M_315 19 (.iload_n 1) 1 20 := by decide +kernel
theorem d_315_2 : m_dn M_315 2 (.iload_n 2) 1 3 := by decide +kernel
theorem d_315_20 : m_dn M_315 20 (.imul) 1 21 := by decide +kernel
theorem d_315_21 : m_dn M_315 21 (.iload_n 2) 1 22 := by decide +kernel
theorem d_315_22 : m_dn M_315 22 (.iadd) 1 23 := by decide +kernel
theorem d_315_23 : m_dn M_315 23 (.iaload) 1 24 := by decide +kernel
theorem d_315_24 : m_dn M_315 24 (.iastore) 1 25 := by decide +kernel
theorem d_315_25 : m_dn M_315 25 (.iinc 2 1) 3 28 := by decide +kernel
theorem d_315_28 : m_dn M_315 28 (.goto (-26)) 3 31 := by decide +kernel
theorem d_315_3 : m_dn M_315 3 (.bipush 22) 2 5 := by decide +kernel
theorem d_315_31 : m_dn M_315 31 (.aload_n 0) 1 32 := by decide +kernel
theorem d_315_32 : m_dn M_315 32 (.iload_n 1) 1 33 := by decide +kernel
theorem d_315_33 : m_dn M_315 33 (.invokevirtual 566) 3 36 := by decide +kernel
theorem d_315_36 : m_dn M_315 36 (.aload_n 0) 1 37 := by decide +kernel
theorem d_315_37 : m_dn M_315 37 (.getfield 149) 3 40 := by decide +kernel
theorem d_315_40 : m_dn M_315 40 (.iconst 2) 1 41 := by decide +kernel
theorem d_315_41 : m_dn M_315 41 (.iaload) 1 42 := by decide +kernel
theorem d_315_42 : m_dn M_315 42 (.istore_n 2) 1 43 := by decide +kernel
theorem d_315_43 : m_dn M_315 43 (.iload_n 2) 1 44 := by decide +kernel
theorem d_315_44 : m_dn M_315 44 (.ifCond .le 13) 3 47 := by decide +kernel
theorem d_315_47 : m_dn M_315 47 (.aload_n 0) 1 48 := by decide +kernel
theorem d_315_48 : m_dn M_315 48 (.getfield 35) 3 51 := by decide +kernel
theorem d_315_5 : m_dn M_315 5 (.if_icmp .ge 26) 3 8 := by decide +kernel
theorem d_315_51 : m_dn M_315 51 (.iload_n 2) 1 52 := by decide +kernel
theorem d_315_52 : m_dn M_315 52 (.baload) 1 53 := by decide +kernel
theorem d_315_53 : m_dn M_315 53 (.ifCond .ne 4) 3 56 := by decide +kernel
theorem d_315_56 : m_dn M_315 56 (.return_) 1 57 := by decide +kernel
theorem d_315_57 : m_dn M_315 57 (.aload_n 0) 1 58 := by decide +kernel
theorem d_315_58 : m_dn M_315 58 (.getfield 149) 3 61 := by decide +kernel
theorem d_315_61 : m_dn M_315 61 (.iconst 0) 1 62 := by decide +kernel
theorem d_315_62 : m_dn M_315 62 (.iaload) 1 63 := by decide +kernel
theorem d_315_63 : m_dn M_315 63 (.tableswitch 49 0 2 #[25, 33, 41]) 25 88 := by decide +kernel
theorem d_315_8 : m_dn M_315 8 (.aload_n 0) 1 9 := by decide +kernel
theorem d_315_88 : m_dn M_315 88 (.aload_n 0) 1 89 := by decide +kernel
theorem d_315_89 : m_dn M_315 89 (.iload_n 2) 1 90 := by decide +kernel
theorem d_315_9 : m_dn M_315 9 (.getfield 149) 3 12 := by decide +kernel
theorem d_315_90 : m_dn M_315 90 (.invokevirtual 569) 3 93 := by decide +kernel
theorem d_315_93 : m_dn M_315 93 (.goto 46) 3 96 := by decide +kernel
theorem d_315_96 : m_dn M_315 96 (.aload_n 0) 1 97 := by decide +kernel
theorem d_315_97 : m_dn M_315 97 (.iload_n 2) 1 98 := by decide +kernel
theorem d_315_98 : m_dn M_315 98 (.invokevirtual 572) 3 101 := by decide +kernel
theorem d_316_0 : m_dn M_316 0 (.bipush 22) 2 2 := by decide +kernel
theorem d_316_12 : m_dn M_316 12 (.iconst 1) 1 13 := by decide +kernel
theorem d_316_13 : m_dn M_316 13 (.isub) 1 14 := by decide +kernel
theorem d_316_14 : m_dn M_316 14 (.imul) 1 15 := by decide +kernel
theorem d_316_15 : m_dn M_316 15 (.if_icmp .ge 24) 3 18 := by decide +kernel
theorem d_316_18 : m_dn M_316 18 (.aload_n 0) 1 19 := by decide +kernel
theorem d_316_19 : m_dn M_316 19 (.getfield 137) 3 22 := by decide +kernel
theorem d_316_2 : m_dn M_316 2 (.iload_n 1) 1 3 := by decide +kernel
theorem d_316_22 : m_dn M_316 22 (.iload_n 2) 1 23 := by decide +kernel
theorem d_316_23 : m_dn M_316 23 (.aload_n 0) 1 24 := by decide +kernel
theorem d_316_24 : m_dn M_316 24 (.getfield 137) 3 27 := by decide +kernel
theorem d_316_27 : m_dn M_316 27 (.iload_n 2) 1 28 := by decide +kernel
theorem d_316_28 : m_dn M_316 28 (.bipush 22) 2 30 := by decide +kernel
theorem d_316_3 : m_dn M_316 3 (.imul) 1 4 := by decide +kernel
theorem d_316_30 : m_dn M_316 30 (.iadd) 1 31 := by decide +kernel
theorem d_316_31 : m_dn M_316 31 (.iaload) 1 32 := by decide +kernel
theorem d_316_32 : m_dn M_316 32 (.iastore) 1 33 := by decide +kernel
theorem d_316_33 : m_dn M_316 33 (.iinc 2 1) 3 36 := by decide +kernel
theorem d_316_36 : m_dn M_316 36 (.goto (-31)) 3 39 := by decide +kernel
theorem d_316_39 : m_dn M_316 39 (.aload_n 0) 1 40 := by decide +kernel
theorem d_316_4 : m_dn M_316 4 (.istore_n 2) 1 5 := by decide +kernel
theorem d_316_40 : m_dn M_316 40 (.dup) 1 41 := by decide +kernel
theorem d_316_41 : m_dn M_316 41 (.getfield 533) 3 44 := by decide +kernel
theorem d_316_44 : m_dn M_316 44 (.iconst 1) 1 45 := by decide +kernel
theorem d_316_45 : m_dn M_316 45 (.isub) 1 46 := by decide +kernel
theorem d_316_46 : m_dn M_316 46 (.putfield 533) 3 49 := by decide +kernel
theorem d_316_49 : m_dn M_316 49 (.return_) 1 50 := by decide +kernel
theorem d_316_5 : m_dn M_316 5 (.iload_n 2) 1 6 := by decide +kernel
theorem d_316_6 : m_dn M_316 6 (.bipush 22) 2 8 := by decide +kernel
theorem d_316_8 : m_dn M_316 8 (.aload_n 0) 1 9 := by decide +kernel
theorem d_316_9 : m_dn M_316 9 (.getfield 533) 3 12 := by decide +kernel
theorem d_317_0 : m_dn M_317 0 (.iconst 4) 1 1 := by decide +kernel
theorem d_317_1 : m_dn M_317 1 (.aload_n 0) 1 2 := by decide +kernel
theorem d_317_100 : m_dn M_317 100 (.iadd) 1 101 := by decide +kernel
theorem d_317_101 : m_dn M_317 101 (.aload_n 0) 1 102 := by decide +kernel
theorem d_317_102 : m_dn M_317 102 (.getfield 149) 3 105 := by decide +kernel
theorem d_317_105 : m_dn M_317 105 (.bipush 7) 2 107 := by decide +kernel
theorem d_317_107 : m_dn M_317 107 (.iaload) 1 108 := by decide +kernel
theorem d_317_108 : m_dn M_317 108 (.iastore) 1 109 := by decide +kernel
theorem d_317_109 : m_dn M_317 109 (.aload_n 0) 1 110 := by decide +kernel
theorem d_317_110 : m_dn M_317 110 (.getfield 131) 3 113 := by decide +kernel
theorem d_317_113 : m_dn M_317 113 (.iload_n 3) 1 114 := by decide +kernel
theorem d_317_114 : m_dn M_317 114 (.bipush 7) 2 116 := by decide +kernel
theorem d_317_116 : m_dn M_317 116 (.iadd) 1 117 := by decide +kernel
theorem d_317_117 : m_dn M_317 117 (.aload_n 0) 1 118 := by decide +kernel
theorem d_317_118 : m_dn M_317 118 (.getfield 149) 3 121 := by decide +kernel
theorem d_317_12 : m_dn M_317 12 (.iconst 5) 1 13 := by decide +kernel
theorem d_317_121 : m_dn M_317 121 (.bipush 8) 2 123 := by decide +kernel
theorem d_317_123 : m_dn M_317 123 (.iaload) 1 124 := by decide +kernel
theorem d_317_124 : m_dn M_317 124 (.iastore) 1 125 := by decide +kernel
theorem d_317_125 : m_dn M_317 125 (.aload_n 0) 1 126 := by decide +kernel
theorem d_317_126 : m_dn M_317 126 (.getfield 131) 3 129 := by decide +kernel
theorem d_317_129 : m_dn M_317 129 (.iload_n 3) 1 130 := by decide +kernel
theorem d_317_13 : m_dn M_317 13 (.iaload) 1 14 := by decide +kernel
theorem d_317_130 : m_dn M_317 130 (.bipush 8) 2 132 := by decide +kernel
theorem d_317_132 : m_dn M_317 132 (.iadd) 1 133 := by decide +kernel
theorem d_317_133 : m_dn M_317 133 (.aload_n 0) 1 134 := by decide +kernel
theorem d_317_134 : m_dn M_317 134 (.getfield 149) 3 137 := by decide +kernel
theorem d_317_137 : m_dn M_317 137 (.bipush 9) 2 139 := by decide +kernel
theorem d_317_139 : m_dn M_317 139 (.iaload) 1 140 := by decide +kernel
theorem d_317_14 : m_dn M_317 14 (.iadd) 1 15 := by decide +kernel
theorem d_317_140 : m_dn M_317 140 (.iastore) 1 141 := by decide +kernel
theorem d_317_141 : m_dn M_317 141 (.aload_n 0) 1 142 := by decide +kernel
theorem d_317_142 : m_dn M_317 142 (.getfield 131) 3 145 := by decide +kernel
theorem d_317_145 : m_dn M_317 145 (.iload_n 3) 1 146 := by decide +kernel
theorem d_317_146 : m_dn M_317 146 (.bipush 9) 2 148 := by decide +kernel
theorem d_317_148 : m_dn M_317 148 (.iadd) 1 149 := by decide +kernel
theorem d_317_149 : m_dn M_317 149 (.aload_n 0) 1 150 := by decide +kernel
theorem d_317_15 : m_dn M_317 15 (.istore_n 2) 1 16 := by decide +kernel
theorem d_317_150 : m_dn M_317 150 (.getfield 149) 3 153 := by decide +kernel
theorem d_317_153 : m_dn M_317 153 (.bipush 10) 2 155 := by decide +kernel
theorem d_317_155 : m_dn M_317 155 (.iaload) 1 156 := by decide +kernel
theorem d_317_156 : m_dn M_317 156 (.iastore) 1 157 := by decide +kernel
theorem d_317_157 : m_dn M_317 157 (.aload_n 0) 1 158 := by decide +kernel
theorem d_317_158 : m_dn M_317 158 (.getfield 131) 3 161 := by decide +kernel
theorem d_317_16 : m_dn M_317 16 (.iload_n 1) 1 17 := by decide +kernel
theorem d_317_161 : m_dn M_317 161 (.iload_n 3) 1 162 := by decide +kernel
theorem d_317_162 : m_dn M_317 162 (.bipush 10) 2 164 := by decide +kernel
theorem d_317_164 : m_dn M_317 164 (.iadd) 1 165 := by decide +kernel
theorem d_317_165 : m_dn M_317 165 (.iconst 0) 1 166 := by decide +kernel
theorem d_317_166 : m_dn M_317 166 (.iastore) 1 167 := by decide +kernel
theorem d_317_167 : m_dn M_317 167 (.aload_n 0) 1 168 := by decide +kernel
theorem d_317_168 : m_dn M_317 168 (.getfield 131) 3 171 := by decide +kernel
theorem d_317_17 : m_dn M_317 17 (.ifCond .le 172) 3 20 := by decide +kernel
theorem d_317_171 : m_dn M_317 171 (.iload_n 3) 1 172 := by decide +kernel
theorem d_317_172 : m_dn M_317 172 (.bipush 11) 2 174 := by decide +kernel
theorem d_317_174 : m_dn M_317 174 (.iadd) 1 175 := by decide +kernel
theorem d_317_175 : m_dn M_317 175 (.aload_n 0) 1 176 := by decide +kernel
theorem d_317_176 : m_dn M_317 176 (.getfield 149) 3 179 := by decide +kernel
theorem d_317_179 : m_dn M_317 179 (.bipush 21) 2 181 := by decide +kernel
theorem d_317_181 : m_dn M_317 181 (.iaload) 1 182 := by decide +kernel
theorem d_317_182 : m_dn M_317 182 (.iastore) 1 183 := by decide +kernel
theorem d_317_183 : m_dn M_317 183 (.aload_n 0) 1 184 := by decide +kernel
theorem d_317_184 : m_dn M_317 184 (.iload_n 3) 1 185 := by decide +kernel
theorem d_317_185 : m_dn M_317 185 (.invokevirtual 587) 3 188 := by decide +kernel
theorem d_317_188 : m_dn M_317 188 (.return_) 1 189 := by decide +kernel
theorem d_317_189 : m_dn M_317 189 (.bipush 9) 2 191 := by decide +kernel
theorem d_317_191 : m_dn M_317 191 (.aload_n 0) 1 192 := by decide +kernel
theorem d_317_192 : m_dn M_317 192 (.getfield 149) 3 195 := by decide +kernel
theorem d_317_195 : m_dn M_317 195 (.iconst 4) 1 196 := by decide +kernel
theorem d_317_196 : m_dn M_317 196 (.iaload) 1 197 := by decide +kernel
theorem d_317_197 : m_dn M_317 197 (.imul) 1 198 := by decide +kernel
theorem d_317_198 : m_dn M_317 198 (.istore_n 3) 1 199 := by decide +kernel
theorem d_317_199 : m_dn M_317 199 (.aload_n 0) 1 200 := by decide +kernel
theorem d_317_2 : m_dn M_317 2 (.getfield 149) 3 5 := by decide +kernel
theorem d_317_20 : m_dn M_317 20 (.aload_n 0) 1 21 := by decide +kernel
theorem d_317_200 : m_dn M_317 200 (.getfield 149) 3 203 := by decide +kernel
theorem d_317_203 : m_dn M_317 203 (.bipush 6) 2 205 := by decide +kernel
theorem d_317_205 : m_dn M_317 205 (.iaload) 1 206 := by decide +kernel
theorem d_317_206 : m_dn M_317 206 (.istore 4) 2 208 := by decide +kernel
theorem d_317_208 : m_dn M_317 208 (.aload_n 0) 1 209 := by decide +kernel
theorem d_317_209 : m_dn M_317 209 (.getfield 149) 3 212 := by decide +kernel
theorem d_317_21 : m_dn M_317 21 (.invokevirtual 584) 3 24 := by decide +kernel
theorem d_317_212 : m_dn M_317 212 (.bipush 7) 2 214 := by decide +kernel
theorem d_317_214 : m_dn M_317 214 (.iaload) 1 215 := by decide +kernel
theorem d_317_215 : m_dn M_317 215 (.istore 5) 2 217 := by decide +kernel
theorem d_317_217 : m_dn M_317 217 (.aload_n 0) 1 218 := by decide +kernel
theorem d_317_218 : m_dn M_317 218 (.iconst 1) 1 219 := by decide +kernel
theorem d_317_219 : m_dn M_317 219 (.iconst 0) 1 220 := by decide +kernel
theorem d_317_220 : m_dn M_317 220 (.aload_n 0) 1 221 := by decide +kernel
theorem d_317_221 : m_dn M_317 221 (.getfield 149) 3 224 := by decide +kernel
theorem d_317_224 : m_dn M_317 224 (.iconst 1) 1 225 := by decide +kernel
theorem d_317_225 : m_dn M_317 225 (.iaload) 1 226 := by decide +kernel
theorem d_317_226 : m_dn M_317 226 (.aload_n 0) 1 227 := by decide +kernel
theorem d_317_227 : m_dn M_317 227 (.getfield 149) 3 230 := by decide +kernel
theorem d_317_230 : m_dn M_317 230 (.iconst 3) 1 231 := by decide +kernel
theorem d_317_231 : m_dn M_317 231 (.iaload) 1 232 := by decide +kernel
theorem d_317_232 : m_dn M_317 232 (.iload_n 2) 1 233 := by decide +kernel
theorem d_317_233 : m_dn M_317 233 (.invokevirtual 526) 3 236 := by decide +kernel
theorem d_317_236 : m_dn M_317 236 (.aload_n 0) 1 237 := by decide +kernel
theorem d_317_237 : m_dn M_317 237 (.getfield 29) 3 240 := by decide +kernel
theorem d_317_24 : m_dn M_317 24 (.istore_n 3) 1 25 := by decide +kernel
theorem d_317_240 : m_dn M_317 240 (.iload_n 3) 1 241 := by decide +kernel
theorem d_317_241 : m_dn M_317 241 (.iaload) 1 242 := by decide +kernel
theorem d_317_242 : m_dn M_317 242 (.ifCond .le 23) 3 245 := by decide +kernel
theorem d_317_245 : m_dn M_317 245 (.aload_n 0) 1 246 := by decide +kernel
theorem d_317_246 : m_dn M_317 246 (.getfield 149) 3 249 := by decide +kernel
theorem d_317_249 : m_dn M_317 249 (.bipush 10) 2 251 := by decide +kernel
theorem d_317_25 : m_dn M_317 25 (.aload_n 0) 1 26 := by decide +kernel
theorem d_317_251 : m_dn M_317 251 (.iaload) 1 252 := by decide +kernel
theorem d_317_252 : m_dn M_317 252 (.aload_n 0) 1 253 := by decide +kernel
theorem d_317_253 : m_dn M_317 253 (.getfield 29) 3 256 := by decide +kernel
theorem d_317_256 : m_dn M_317 256 (.iload_n 3) 1 257 := by decide +kernel
theorem d_317_257 : m_dn M_317 257 (.iaload) 1 258 := by decide +kernel
theorem d_317_258 : m_dn M_317 258 (.if_icmp .ne 7) 3 261 := by decide +kernel
theorem d_317_26 : m_dn M_317 26 (.getfield 131) 3 29 := by decide +kernel
theorem d_317_261 : m_dn M_317 261 (.iconst 1) 1 262 := by decide +kernel
theorem d_317_262 : m_dn M_317 262 (.goto 4) 3 265 := by decide +kernel
theorem d_317_265 : m_dn M_317 265 (.iconst 0) 1 266 := by decide +kernel
theorem d_317_266 : m_dn M_317 266 (.istore 6) 2 268 := by decide +kernel
theorem d_317_268 : m_dn M_317 268 (.aload_n 0) 1 269 := by decide +kernel
theorem d_317_269 : m_dn M_317 269 (.getfield 140) 3 272 := by decide +kernel
theorem d_317_272 : m_dn M_317 272 (.bipush 6) 2 274 := by decide +kernel
theorem d_317_274 : m_dn M_317 274 (.aload_n 0) 1 275 := by decide +kernel
theorem d_317_275 : m_dn M_317 275 (.getfield 29) 3 278 := by decide +kernel
theorem d_317_278 : m_dn M_317 278 (.iload_n 3) 1 279 := by decide +kernel
theorem d_317_279 : m_dn M_317 279 (.iaload) 1 280 := by decide +kernel
theorem d_317_280 : m_dn M_317 280 (.ifCond .ne 9) 3 283 := by decide +kernel
theorem d_317_283 : m_dn M_317 283 (.sipush 404) 3 286 := by decide +kernel
theorem d_317_286 : m_dn M_317 286 (.goto 17) 3 289 := by decide +kernel
theorem d_317_289 : m_dn M_317 289 (.iload 6) 2 291 := by decide +kernel
theorem d_317_29 : m_dn M_317 29 (.iload_n 3) 1 30 := by decide +kernel
theorem d_317_291 : m_dn M_317 291 (.ifCond .eq 9) 3 294 := by decide +kernel
theorem d_317_294 : m_dn M_317 294 (.sipush 304) 3 297 := by decide +kernel
theorem d_317_297 : m_dn M_317 297 (.goto 6) 3 300 := by decide +kernel
theorem d_317_30 : m_dn M_317 30 (.iload_n 1) 1 31 := by decide +kernel
theorem d_317_300 : m_dn M_317 300 (.sipush 200) 3 303 := by decide +kernel
theorem d_317_303 : m_dn M_317 303 (.iastore) 1 304 := by decide +kernel
theorem d_317_304 : m_dn M_317 304 (.aload_n 0) 1 305 := by decide +kernel
theorem d_317_305 : m_dn M_317 305 (.getfield 29) 3 308 := by decide +kernel
theorem d_317_308 : m_dn M_317 308 (.iload_n 3) 1 309 := by decide +kernel
theorem d_317_309 : m_dn M_317 309 (.iaload) 1 310 := by decide +kernel
theorem d_317_31 : m_dn M_317 31 (.iastore) 1 32 := by decide +kernel
theorem d_317_310 : m_dn M_317 310 (.ifCond .le 131) 3 313 := by decide +kernel
theorem d_317_313 : m_dn M_317 313 (.aload_n 0) 1 314 := by decide +kernel
theorem d_317_314 : m_dn M_317 314 (.getfield 140) 3 317 := by decide +kernel
theorem d_317_317 : m_dn M_317 317 (.bipush 7) 2 319 := by decide +kernel
theorem d_317_319 : m_dn M_317 319 (.aload_n 0) 1 320 := by decide +kernel
theorem d_317_32 : m_dn M_317 32 (.aload_n 0) 1 33 := by decide +kernel
theorem d_317_320 : m_dn M_317 320 (.getfield 29) 3 323 := by decide +kernel
theorem d_317_323 : m_dn M_317 323 (.iload_n 3) 1 324 := by decide +kernel
theorem d_317_324 : m_dn M_317 324 (.iaload) 1 325 := by decide +kernel
theorem d_317_325 : m_dn M_317 325 (.iastore) 1 326 := by decide +kernel
theorem d_317_326 : m_dn M_317 326 (.aload_n 0) 1 327 := by decide +kernel
theorem d_317_327 : m_dn M_317 327 (.getfield 140) 3 330 := by decide +kernel
theorem d_317_33 : m_dn M_317 33 (.getfield 131) 3 36 := by decide +kernel
theorem d_317_330 : m_dn M_317 330 (.bipush 8) 2 332 := by decide +kernel
theorem d_317_332 : m_dn M_317 332 (.aload_n 0) 1 333 := by decide +kernel
theorem d_317_333 : m_dn M_317 333 (.getfield 581) 3 336 := by decide +kernel
theorem d_317_336 : m_dn M_317 336 (.iastore) 1 337 := by decide +kernel
theorem d_317_337 : m_dn M_317 337 (.aload_n 0) 1 338 := by decide +kernel
theorem d_317_338 : m_dn M_317 338 (.getfield 140) 3 341 := by decide +kernel
theorem d_317_341 : m_dn M_317 341 (.bipush 10) 2 343 := by decide +kernel
theorem d_317_343 : m_dn M_317 343 (.aload_n 0) 1 344 := by decide +kernel
theorem d_317_344 : m_dn M_317 344 (.getfield 390) 3 347 := by decide +kernel
theorem d_317_347 : m_dn M_317 347 (.ineg) 1 348 := by decide +kernel
theorem d_317_348 : m_dn M_317 348 (.iastore) 1 349 := by decide +kernel
theorem d_317_349 : m_dn M_317 349 (.aload_n 0) 1 350 := by decide +kernel
theorem d_317_350 : m_dn M_317 350 (.getfield 140) 3 353 := by decide +kernel
theorem d_317_353 : m_dn M_317 353 (.bipush 11) 2 355 := by decide +kernel
theorem d_317_355 : m_dn M_317 355 (.iload 6) 2 357 := by decide +kernel
theorem d_317_357 : m_dn M_317 357 (.ifCond .eq 7) 3 360 := by decide +kernel
theorem d_317_36 : m_dn M_317 36 (.iload_n 3) 1 37 := by decide +kernel
theorem d_317_360 : m_dn M_317 360 (.iconst 0) 1 361 := by decide +kernel
theorem d_317_361 : m_dn M_317 361 (.goto 18) 3 364 := by decide +kernel
theorem d_317_364 : m_dn M_317 364 (.iload 4) 2 366 := by decide +kernel
theorem d_317_366 : m_dn M_317 366 (.iload 5) 2 368 := by decide +kernel
theorem d_317_368 : m_dn M_317 368 (.aload_n 0) 1 369 := by decide +kernel
theorem d_317_369 : m_dn M_317 369 (.getfield 29) 3 372 := by decide +kernel
theorem d_317_37 : m_dn M_317 37 (.iconst 1) 1 38 := by decide +kernel
theorem d_317_372 : m_dn M_317 372 (.iload_n 3) 1 373 := by decide +kernel
theorem d_317_373 : m_dn M_317 373 (.iconst 1) 1 374 := by decide +kernel
theorem d_317_374 : m_dn M_317 374 (.iadd) 1 375 := by decide +kernel
theorem d_317_375 : m_dn M_317 375 (.iaload) 1 376 := by decide +kernel
theorem d_317_376 : m_dn M_317 376 (.invokestatic 449) 3 379 := by decide +kernel
theorem d_317_379 : m_dn M_317 379 (.iastore) 1 380 := by decide +kernel
theorem d_317_38 : m_dn M_317 38 (.iadd) 1 39 := by decide +kernel
theorem d_317_380 : m_dn M_317 380 (.aload_n 0) 1 381 := by decide +kernel
theorem d_317_381 : m_dn M_317 381 (.getfield 140) 3 384 := by decide +kernel
theorem d_317_384 : m_dn M_317 384 (.bipush 21) 2 386 := by decide +kernel
theorem d_317_386 : m_dn M_317 386 (.aload_n 0) 1 387 := by decide +kernel
theorem d_317_387 : m_dn M_317 387 (.getfield 29) 3 390 := by decide +kernel
theorem d_317_39 : m_dn M_317 39 (.iload_n 2) 1 40 := by decide +kernel
theorem d_317_390 : m_dn M_317 390 (.iload_n 3) 1 391 := by decide +kernel
theorem d_317_391 : m_dn M_317 391 (.bipush 8) 2 393 := by decide +kernel
theorem d_317_393 : m_dn M_317 393 (.iadd) 1 394 := by decide +kernel
theorem d_317_394 : m_dn M_317 394 (.iaload) 1 395 := by decide +kernel
theorem d_317_395 : m_dn M_317 395 (.aload_n 0) 1 396 := by decide +kernel
theorem d_317_396 : m_dn M_317 396 (.getfield 149) 3 399 := by decide +kernel
theorem d_317_399 : m_dn M_317 399 (.bipush 21) 2 401 := by decide +kernel
theorem d_317_40 : m_dn M_317 40 (.iastore) 1 41 := by decide +kernel
theorem d_317_401 : m_dn M_317 401 (.iaload) 1 402 := by decide +kernel
theorem d_317_402 : m_dn M_317 402 (.invokestatic 433) 3 405 := by decide +kernel
theorem d_317_405 : m_dn M_317 405 (.iastore) 1 406 := by decide +kernel
theorem d_317_406 : m_dn M_317 406 (.iconst 0) 1 407 := by decide +kernel
theorem d_317_407 : m_dn M_317 407 (.istore 7) 2 409 := by decide +kernel
theorem d_317_409 : m_dn M_317 409 (.iload 7) 2 411 := by decide +kernel
theorem d_317_41 : m_dn M_317 41 (.aload_n 0) 1 42 := by decide +kernel
theorem d_317_411 : m_dn M_317 411 (.bipush 9) 2 413 := by decide +kernel
theorem d_317_413 : m_dn M_317 413 (.if_icmp .ge 28) 3 416 := by decide +kernel
theorem d_317_416 : m_dn M_317 416 (.aload_n 0) 1 417 := by decide +kernel
theorem d_317_417 : m_dn M_317 417 (.getfield 140) 3 420 := by decide +kernel
theorem d_317_42 : m_dn M_317 42 (.getfield 131) 3 45 := by decide +kernel
theorem d_317_420 : m_dn M_317 420 (.bipush 12) 2 422 := by decide +kernel
theorem d_317_422 : m_dn M_317 422 (.iload 7) 2 424 := by decide +kernel
theorem d_317_424 : m_dn M_317 424 (.iadd) 1 425 := by decide +kernel
theorem d_317_425 : m_dn M_317 425 (.aload_n 0) 1 426 := by decide +kernel
theorem d_317_426 : m_dn M_317 426 (.getfield 29) 3 429 := by decide +kernel
theorem d_317_429 : m_dn M_317 429 (.iload_n 3) 1 430 := by decide +kernel
theorem d_317_430 : m_dn M_317 430 (.iload 7) 2 432 := by decide +kernel
theorem d_317_432 : m_dn M_317 432 (.iadd) 1 433 := by decide +kernel
theorem d_317_433 : m_dn M_317 433 (.iaload) 1 434 := by decide +kernel
theorem d_317_434 : m_dn M_317 434 (.iastore) 1 435 := by decide +kernel
theorem d_317_435 : m_dn M_317 435 (.iinc 7 1) 3 438 := by decide +kernel
theorem d_317_438 : m_dn M_317 438 (.goto (-29)) 3 441 := by decide +kernel
theorem d_317_441 : m_dn M_317 441 (.aload_n 0) 1 442 := by decide +kernel
theorem d_317_442 : m_dn M_317 442 (.invokevirtual 530) 3 445 := by decide +kernel
theorem d_317_445 : m_dn M_317 445 (.return_) 1 446 := by decide +kernel
theorem d_317_45 : m_dn M_317 45 (.iload_n 3) 1 46 := by decide +kernel
theorem d_317_46 : m_dn M_317 46 (.iconst 2) 1 47 := by decide +kernel
theorem d_317_47 : m_dn M_317 47 (.iadd) 1 48 := by decide +kernel
theorem d_317_48 : m_dn M_317 48 (.iconst (-1)) 1 49 := by decide +kernel
theorem d_317_49 : m_dn M_317 49 (.iastore) 1 50 := by decide +kernel
theorem d_317_5 : m_dn M_317 5 (.iconst 4) 1 6 := by decide +kernel
theorem d_317_50 : m_dn M_317 50 (.aload_n 0) 1 51 := by decide +kernel
theorem d_317_51 : m_dn M_317 51 (.getfield 131) 3 54 := by decide +kernel
theorem d_317_54 : m_dn M_317 54 (.iload_n 3) 1 55 := by decide +kernel
theorem d_317_55 : m_dn M_317 55 (.iconst 3) 1 56 := by decide +kernel
theorem d_317_56 : m_dn M_317 56 (.iadd) 1 57 := by decide +kernel
theorem d_317_57 : m_dn M_317 57 (.aload_n 0) 1 58 := by decide +kernel
theorem d_317_58 : m_dn M_317 58 (.getfield 149) 3 61 := by decide +kernel
theorem d_317_6 : m_dn M_317 6 (.iaload) 1 7 := by decide +kernel
theorem d_317_61 : m_dn M_317 61 (.iconst 1) 1 62 := by decide +kernel
theorem d_317_62 : m_dn M_317 62 (.iaload) 1 63 := by decide +kernel
theorem d_317_63 : m_dn M_317 63 (.iastore) 1 64 := by decide +kernel
theorem d_317_64 : m_dn M_317 64 (.aload_n 0) 1 65 := by decide +kernel
theorem d_317_65 : m_dn M_317 65 (.getfield 131) 3 68 := by decide +kernel
theorem d_317_68 : m_dn M_317 68 (.iload_n 3) 1 69 := by decide +kernel
theorem d_317_69 : m_dn M_317 69 (.iconst 4) 1 70 := by decide +kernel
theorem d_317_7 : m_dn M_317 7 (.imul) 1 8 := by decide +kernel
theorem d_317_70 : m_dn M_317 70 (.iadd) 1 71 := by decide +kernel
theorem d_317_71 : m_dn M_317 71 (.aload_n 0) 1 72 := by decide +kernel
theorem d_317_72 : m_dn M_317 72 (.getfield 149) 3 75 := by decide +kernel
theorem d_317_75 : m_dn M_317 75 (.iconst 3) 1 76 := by decide +kernel
theorem d_317_76 : m_dn M_317 76 (.iaload) 1 77 := by decide +kernel
theorem d_317_77 : m_dn M_317 77 (.iastore) 1 78 := by decide +kernel
theorem d_317_78 : m_dn M_317 78 (.aload_n 0) 1 79 := by decide +kernel
theorem d_317_79 : m_dn M_317 79 (.getfield 131) 3 82 := by decide +kernel
theorem d_317_8 : m_dn M_317 8 (.aload_n 0) 1 9 := by decide +kernel
theorem d_317_82 : m_dn M_317 82 (.iload_n 3) 1 83 := by decide +kernel
theorem d_317_83 : m_dn M_317 83 (.iconst 5) 1 84 := by decide +kernel
theorem d_317_84 : m_dn M_317 84 (.iadd) 1 85 := by decide +kernel
theorem d_317_85 : m_dn M_317 85 (.aload_n 0) 1 86 := by decide +kernel
theorem d_317_86 : m_dn M_317 86 (.getfield 149) 3 89 := by decide +kernel
theorem d_317_89 : m_dn M_317 89 (.bipush 6) 2 91 := by decide +kernel
theorem d_317_9 : m_dn M_317 9 (.getfield 149) 3 12 := by decide +kernel
theorem d_317_91 : m_dn M_317 91 (.iaload) 1 92 := by decide +kernel
theorem d_317_92 : m_dn M_317 92 (.iastore) 1 93 := by decide +kernel
theorem d_317_93 : m_dn M_317 93 (.aload_n 0) 1 94 := by decide +kernel
theorem d_317_94 : m_dn M_317 94 (.getfield 131) 3 97 := by decide +kernel
theorem d_317_97 : m_dn M_317 97 (.iload_n 3) 1 98 := by decide +kernel
theorem d_317_98 : m_dn M_317 98 (.bipush 6) 2 100 := by decide +kernel
theorem d_318_0 : m_dn M_318 0 (.iconst 4) 1 1 := by decide +kernel
theorem d_318_1 : m_dn M_318 1 (.aload_n 0) 1 2 := by decide +kernel
theorem d_318_101 : m_dn M_318 101 (.aload_n 0) 1 102 := by decide +kernel
theorem d_318_102 : m_dn M_318 102 (.getfield 149) 3 105 := by decide +kernel
theorem d_318_105 : m_dn M_318 105 (.bipush 6) 2 107 := by decide +kernel
theorem d_318_107 : m_dn M_318 107 (.iaload) 1 108 := by decide +kernel
theorem d_318_108 : m_dn M_318 108 (.sipush 404) 3 111 := by decide +kernel
theorem d_318_111 : m_dn M_318 111 (.if_icmp .ne 79) 3 114 := by decide +kernel
theorem d_318_114 : m_dn M_318 114 (.aload_n 0) 1 115 := by decide +kernel
theorem d_318_115 : m_dn M_318 115 (.getfield 91) 3 118 := by decide +kernel
theorem d_318_118 : m_dn M_318 118 (.iload_n 3) 1 119 := by decide +kernel
theorem d_318_119 : m_dn M_318 119 (.iconst 0) 1 120 := by decide +kernel
theorem d_318_12 : m_dn M_318 12 (.iconst 5) 1 13 := by decide +kernel
theorem d_318_120 : m_dn M_318 120 (.bastore) 1 121 := by decide +kernel
theorem d_318_121 : m_dn M_318 121 (.iconst 0) 1 122 := by decide +kernel
theorem d_318_122 : m_dn M_318 122 (.istore 5) 2 124 := by decide +kernel
theorem d_318_124 : m_dn M_318 124 (.iload 5) 2 126 := by decide +kernel
theorem d_318_126 : m_dn M_318 126 (.bipush 8) 2 128 := by decide +kernel
theorem d_318_128 : m_dn M_318 128 (.if_icmp .ge 22) 3 131 := by decide +kernel
theorem d_318_13 : m_dn M_318 13 (.iaload) 1 14 := by decide +kernel
theorem d_318_131 : m_dn M_318 131 (.aload_n 0) 1 132 := by decide +kernel
theorem d_318_132 : m_dn M_318 132 (.getfield 66) 3 135 := by decide +kernel
theorem d_318_135 : m_dn M_318 135 (.bipush 8) 2 137 := by decide +kernel
theorem d_318_137 : m_dn M_318 137 (.iload_n 3) 1 138 := by decide +kernel
theorem d_318_138 : m_dn M_318 138 (.imul) 1 139 := by decide +kernel
theorem d_318_139 : m_dn M_318 139 (.iload 5) 2 141 := by decide +kernel
theorem d_318_14 : m_dn M_318 14 (.iadd) 1 15 := by decide +kernel
theorem d_318_141 : m_dn M_318 141 (.iadd) 1 142 := by decide +kernel
theorem d_318_142 : m_dn M_318 142 (.iconst 0) 1 143 := by decide +kernel
theorem d_318_143 : m_dn M_318 143 (.bastore) 1 144 := by decide +kernel
theorem d_318_144 : m_dn M_318 144 (.iinc 5 1) 3 147 := by decide +kernel
theorem d_318_147 : m_dn M_318 147 (.goto (-23)) 3 150 := by decide +kernel
theorem d_318_15 : m_dn M_318 15 (.istore_n 2) 1 16 := by decide +kernel
theorem d_318_150 : m_dn M_318 150 (.aload_n 0) 1 151 := by decide +kernel
theorem d_318_151 : m_dn M_318 151 (.iload_n 1) 1 152 := by decide +kernel
theorem d_318_152 : m_dn M_318 152 (.iload_n 2) 1 153 := by decide +kernel
theorem d_318_153 : m_dn M_318 153 (.invokevirtual 590) 3 156 := by decide +kernel
theorem d_318_156 : m_dn M_318 156 (.istore 5) 2 158 := by decide +kernel
theorem d_318_158 : m_dn M_318 158 (.iconst 0) 1 159 := by decide +kernel
theorem d_318_159 : m_dn M_318 159 (.istore 6) 2 161 := by decide +kernel
theorem d_318_16 : m_dn M_318 16 (.sipush 128) 3 19 := by decide +kernel
theorem d_318_161 : m_dn M_318 161 (.iload 6) 2 163 := by decide +kernel
theorem d_318_163 : m_dn M_318 163 (.iload 5) 2 165 := by decide +kernel
theorem d_318_165 : m_dn M_318 165 (.if_icmp .ge 22) 3 168 := by decide +kernel
theorem d_318_168 : m_dn M_318 168 (.aload_n 0) 1 169 := by decide +kernel
theorem d_318_169 : m_dn M_318 169 (.aload_n 0) 1 170 := by decide +kernel
theorem d_318_170 : m_dn M_318 170 (.iload 6) 2 172 := by decide +kernel
theorem d_318_172 : m_dn M_318 172 (.invokevirtual 593) 3 175 := by decide +kernel
theorem d_318_175 : m_dn M_318 175 (.sipush 404) 3 178 := by decide +kernel
theorem d_318_178 : m_dn M_318 178 (.invokevirtual 539) 3 181 := by decide +kernel
theorem d_318_181 : m_dn M_318 181 (.iinc 6 1) 3 184 := by decide +kernel
theorem d_318_184 : m_dn M_318 184 (.goto (-23)) 3 187 := by decide +kernel
theorem d_318_187 : m_dn M_318 187 (.goto 114) 3 190 := by decide +kernel
theorem d_318_19 : m_dn M_318 19 (.iload_n 1) 1 20 := by decide +kernel
theorem d_318_190 : m_dn M_318 190 (.aload_n 0) 1 191 := by decide +kernel
theorem d_318_191 : m_dn M_318 191 (.getfield 149) 3 194 := by decide +kernel
theorem d_318_194 : m_dn M_318 194 (.bipush 6) 2 196 := by decide +kernel
theorem d_318_196 : m_dn M_318 196 (.iaload) 1 197 := by decide +kernel
theorem d_318_197 : m_dn M_318 197 (.sipush 504) 3 200 := by decide +kernel
theorem d_318_2 : m_dn M_318 2 (.getfield 149) 3 5 := by decide +kernel
theorem d_318_20 : m_dn M_318 20 (.imul) 1 21 := by decide +kernel
theorem d_318_200 : m_dn M_318 200 (.if_icmp .ne 12) 3 203 := by decide +kernel
theorem d_318_203 : m_dn M_318 203 (.aload_n 0) 1 204 := by decide +kernel
theorem d_318_204 : m_dn M_318 204 (.iload_n 1) 1 205 := by decide +kernel
theorem d_318_205 : m_dn M_318 205 (.iload_n 2) 1 206 := by decide +kernel
theorem d_318_206 : m_dn M_318 206 (.invokevirtual 599) 3 209 := by decide +kernel
theorem d_318_209 : m_dn M_318 209 (.goto 92) 3 212 := by decide +kernel
theorem d_318_21 : m_dn M_318 21 (.iload_n 2) 1 22 := by decide +kernel
theorem d_318_212 : m_dn M_318 212 (.aload_n 0) 1 213 := by decide +kernel
theorem d_318_213 : m_dn M_318 213 (.getfield 149) 3 216 := by decide +kernel
theorem d_318_216 : m_dn M_318 216 (.bipush 8) 2 218 := by decide +kernel
theorem d_318_218 : m_dn M_318 218 (.iaload) 1 219 := by decide +kernel
theorem d_318_219 : m_dn M_318 219 (.aload_n 0) 1 220 := by decide +kernel
theorem d_318_22 : m_dn M_318 22 (.iadd) 1 23 := by decide +kernel
theorem d_318_220 : m_dn M_318 220 (.getfield 109) 3 223 := by decide +kernel
theorem d_318_223 : m_dn M_318 223 (.iload_n 3) 1 224 := by decide +kernel
theorem d_318_224 : m_dn M_318 224 (.iaload) 1 225 := by decide +kernel
theorem d_318_225 : m_dn M_318 225 (.if_icmp .lt 51) 3 228 := by decide +kernel
theorem d_318_228 : m_dn M_318 228 (.aload_n 0) 1 229 := by decide +kernel
theorem d_318_229 : m_dn M_318 229 (.iload_n 1) 1 230 := by decide +kernel
theorem d_318_23 : m_dn M_318 23 (.istore_n 3) 1 24 := by decide +kernel
theorem d_318_230 : m_dn M_318 230 (.invokevirtual 602) 3 233 := by decide +kernel
theorem d_318_233 : m_dn M_318 233 (.ifCond .ne 43) 3 236 := by decide +kernel
theorem d_318_236 : m_dn M_318 236 (.aload_n 0) 1 237 := by decide +kernel
theorem d_318_237 : m_dn M_318 237 (.getfield 149) 3 240 := by decide +kernel
theorem d_318_24 : m_dn M_318 24 (.aload_n 0) 1 25 := by decide +kernel
theorem d_318_240 : m_dn M_318 240 (.bipush 6) 2 242 := by decide +kernel
theorem d_318_242 : m_dn M_318 242 (.iaload) 1 243 := by decide +kernel
theorem d_318_243 : m_dn M_318 243 (.sipush 304) 3 246 := by decide +kernel
theorem d_318_246 : m_dn M_318 246 (.if_icmp .ne 47) 3 249 := by decide +kernel
theorem d_318_249 : m_dn M_318 249 (.aload_n 0) 1 250 := by decide +kernel
theorem d_318_25 : m_dn M_318 25 (.getfield 91) 3 28 := by decide +kernel
theorem d_318_250 : m_dn M_318 250 (.getfield 66) 3 253 := by decide +kernel
theorem d_318_253 : m_dn M_318 253 (.iload 4) 2 255 := by decide +kernel
theorem d_318_255 : m_dn M_318 255 (.baload) 1 256 := by decide +kernel
theorem d_318_256 : m_dn M_318 256 (.ifCond .eq 20) 3 259 := by decide +kernel
theorem d_318_259 : m_dn M_318 259 (.aload_n 0) 1 260 := by decide +kernel
theorem d_318_260 : m_dn M_318 260 (.iload 4) 2 262 := by decide +kernel
theorem d_318_262 : m_dn M_318 262 (.iconst 0) 1 263 := by decide +kernel
theorem d_318_263 : m_dn M_318 263 (.invokevirtual 431) 3 266 := by decide +kernel
theorem d_318_266 : m_dn M_318 266 (.aload_n 0) 1 267 := by decide +kernel
theorem d_318_267 : m_dn M_318 267 (.getfield 149) 3 270 := by decide +kernel
theorem d_318_270 : m_dn M_318 270 (.bipush 12) 2 272 := by decide +kernel
theorem d_318_272 : m_dn M_318 272 (.iaload) 1 273 := by decide +kernel
theorem d_318_273 : m_dn M_318 273 (.if_icmp .eq 20) 3 276 := by decide +kernel
theorem d_318_276 : m_dn M_318 276 (.aload_n 0) 1 277 := by decide +kernel
theorem d_318_277 : m_dn M_318 277 (.iload_n 3) 1 278 := by decide +kernel
theorem d_318_278 : m_dn M_318 278 (.invokevirtual 520) 3 281 := by decide +kernel
theorem d_318_28 : m_dn M_318 28 (.iload_n 3) 1 29 := by decide +kernel
theorem d_318_281 : m_dn M_318 281 (.ifCond .ne 20) 3 284 := by decide +kernel
theorem d_318_284 : m_dn M_318 284 (.aload_n 0) 1 285 := by decide +kernel
theorem d_318_285 : m_dn M_318 285 (.iload_n 1) 1 286 := by decide +kernel
theorem d_318_286 : m_dn M_318 286 (.iload_n 2) 1 287 := by decide +kernel
theorem d_318_287 : m_dn M_318 287 (.invokevirtual 599) 3 290 := by decide +kernel
theorem d_318_29 : m_dn M_318 29 (.baload) 1 30 := by decide +kernel
theorem d_318_290 : m_dn M_318 290 (.goto 11) 3 293 := by decide +kernel
theorem d_318_293 : m_dn M_318 293 (.aload_n 0) 1 294 := by decide +kernel
theorem d_318_294 : m_dn M_318 294 (.iload_n 1) 1 295 := by decide +kernel
theorem d_318_295 : m_dn M_318 295 (.iload_n 3) 1 296 := by decide +kernel
theorem d_318_296 : m_dn M_318 296 (.iload 4) 2 298 := by decide +kernel
theorem d_318_298 : m_dn M_318 298 (.invokevirtual 605) 3 301 := by decide +kernel
theorem d_318_30 : m_dn M_318 30 (.ifCond .eq 18) 3 33 := by decide +kernel
theorem d_318_301 : m_dn M_318 301 (.return_) 1 302 := by decide +kernel
theorem d_318_33 : m_dn M_318 33 (.aload_n 0) 1 34 := by decide +kernel
theorem d_318_34 : m_dn M_318 34 (.getfield 97) 3 37 := by decide +kernel
theorem d_318_37 : m_dn M_318 37 (.iload_n 3) 1 38 := by decide +kernel
theorem d_318_38 : m_dn M_318 38 (.iaload) 1 39 := by decide +kernel
theorem d_318_39 : m_dn M_318 39 (.aload_n 0) 1 40 := by decide +kernel
theorem d_318_40 : m_dn M_318 40 (.getfield 149) 3 43 := by decide +kernel
theorem d_318_43 : m_dn M_318 43 (.iconst 3) 1 44 := by decide +kernel
theorem d_318_44 : m_dn M_318 44 (.iaload) 1 45 := by decide +kernel
theorem d_318_45 : m_dn M_318 45 (.if_icmp .eq 4) 3 48 := by decide +kernel
theorem d_318_48 : m_dn M_318 48 (.return_) 1 49 := by decide +kernel
theorem d_318_49 : m_dn M_318 49 (.aload_n 0) 1 50 := by decide +kernel
theorem d_318_5 : m_dn M_318 5 (.iconst 4) 1 6 := by decide +kernel
theorem d_318_50 : m_dn M_318 50 (.getfield 149) 3 53 := by decide +kernel
theorem d_318_53 : m_dn M_318 53 (.bipush 6) 2 55 := by decide +kernel
theorem d_318_55 : m_dn M_318 55 (.iaload) 1 56 := by decide +kernel
theorem d_318_56 : m_dn M_318 56 (.sipush 504) 3 59 := by decide +kernel
theorem d_318_59 : m_dn M_318 59 (.if_icmp .eq 19) 3 62 := by decide +kernel
theorem d_318_6 : m_dn M_318 6 (.iaload) 1 7 := by decide +kernel
theorem d_318_62 : m_dn M_318 62 (.iload_n 1) 1 63 := by decide +kernel
theorem d_318_63 : m_dn M_318 63 (.iconst 2) 1 64 := by decide +kernel
theorem d_318_64 : m_dn M_318 64 (.if_icmp .le 14) 3 67 := by decide +kernel
theorem d_318_67 : m_dn M_318 67 (.aload_n 0) 1 68 := by decide +kernel
theorem d_318_68 : m_dn M_318 68 (.iload_n 1) 1 69 := by decide +kernel
theorem d_318_69 : m_dn M_318 69 (.aload_n 0) 1 70 := by decide +kernel
theorem d_318_7 : m_dn M_318 7 (.imul) 1 8 := by decide +kernel
theorem d_318_70 : m_dn M_318 70 (.getfield 149) 3 73 := by decide +kernel
theorem d_318_73 : m_dn M_318 73 (.iconst 1) 1 74 := by decide +kernel
theorem d_318_74 : m_dn M_318 74 (.iaload) 1 75 := by decide +kernel
theorem d_318_75 : m_dn M_318 75 (.invokevirtual 596) 3 78 := by decide +kernel
theorem d_318_78 : m_dn M_318 78 (.bipush 8) 2 80 := by decide +kernel
theorem d_318_8 : m_dn M_318 8 (.aload_n 0) 1 9 := by decide +kernel
theorem d_318_80 : m_dn M_318 80 (.iload_n 3) 1 81 := by decide +kernel
theorem d_318_81 : m_dn M_318 81 (.imul) 1 82 := by decide +kernel
theorem d_318_82 : m_dn M_318 82 (.aload_n 0) 1 83 := by decide +kernel
theorem d_318_83 : m_dn M_318 83 (.getfield 149) 3 86 := by decide +kernel
theorem d_318_86 : m_dn M_318 86 (.bipush 20) 2 88 := by decide +kernel
theorem d_318_88 : m_dn M_318 88 (.iaload) 1 89 := by decide +kernel
theorem d_318_89 : m_dn M_318 89 (.aload_n 0) 1 90 := by decide +kernel
theorem d_318_9 : m_dn M_318 9 (.getfield 149) 3 12 := by decide +kernel
theorem d_318_90 : m_dn M_318 90 (.getfield 112) 3 93 := by decide +kernel
theorem d_318_93 : m_dn M_318 93 (.iload_n 3) 1 94 := by decide +kernel
theorem d_318_94 : m_dn M_318 94 (.iaload) 1 95 := by decide +kernel
theorem d_318_95 : m_dn M_318 95 (.invokestatic 433) 3 98 := by decide +kernel
theorem d_318_98 : m_dn M_318 98 (.iadd) 1 99 := by decide +kernel
theorem d_318_99 : m_dn M_318 99 (.istore 4) 2 101 := by decide +kernel
theorem d_319_0 : m_dn M_319 0 (.aload_n 0) 1 1 := by decide +kernel
theorem d_319_1 : m_dn M_319 1 (.getfield 118) 3 4 := by decide +kernel
theorem d_319_10 : m_dn M_319 10 (.isub) 1 11 := by decide +kernel
theorem d_319_11 : m_dn M_319 11 (.iconst 0) 1 12 := by decide +kernel
theorem d_319_12 : m_dn M_319 12 (.iastore) 1 13 := by decide +kernel
theorem d_319_13 : m_dn M_319 13 (.aload_n 0) 1 14 := by decide +kernel
theorem d_319_14 : m_dn M_319 14 (.getfield 121) 3 17 := by decide +kernel
theorem d_319_17 : m_dn M_319 17 (.iconst 2) 1 18 := by decide +kernel
theorem d_319_18 : m_dn M_319 18 (.iload_n 1) 1 19 := by decide +kernel
theorem d_319_19 : m_dn M_319 19 (.imul) 1 20 := by decide +kernel
theorem d_319_20 : m_dn M_319 20 (.iload_n 2) 1 21 := by decide +kernel
theorem d_319_21 : m_dn M_319 21 (.iadd) 1 22 := by decide +kernel
theorem d_319_22 : m_dn M_319 22 (.iconst 1) 1 23 := by decide +kernel
theorem d_319_23 : m_dn M_319 23 (.isub) 1 24 := by decide +kernel
theorem d_319_24 : m_dn M_319 24 (.iconst 0) 1 25 := by decide +kernel
theorem d_319_25 : m_dn M_319 25 (.iastore) 1 26 := by decide +kernel
theorem d_319_26 : m_dn M_319 26 (.return_) 1 27 := by decide +kernel
theorem d_319_4 : m_dn M_319 4 (.iconst 2) 1 5 := by decide +kernel
theorem d_319_5 : m_dn M_319 5 (.iload_n 1) 1 6 := by decide +kernel
theorem d_319_6 : m_dn M_319 6 (.imul) 1 7 := by decide +kernel
theorem d_319_7 : m_dn M_319 7 (.iload_n 2) 1 8 := by decide +kernel
theorem d_319_8 : m_dn M_319 8 (.iadd) 1 9 := by decide +kernel
theorem d_319_9 : m_dn M_319 9 (.iconst 1) 1 10 := by decide +kernel
theorem d_320_0 : m_dn M_320 0 (.iconst 0) 1 1 := by decide +kernel
theorem d_320_1 : m_dn M_320 1 (.istore_n 3) 1 2 := by decide +kernel
theorem d_320_10 : m_dn M_320 10 (.aload_n 0) 1 11 := by decide +kernel
theorem d_320_102 : m_dn M_320 102 (.aload_n 0) 1 103 := by decide +kernel
theorem d_320_103 : m_dn M_320 103 (.getfield 131) 3 106 := by decide +kernel
theorem d_320_106 : m_dn M_320 106 (.bipush 12) 2 108 := by decide +kernel
theorem d_320_108 : m_dn M_320 108 (.iload 4) 2 110 := by decide +kernel
theorem d_320_11 : m_dn M_320 11 (.getfield 507) 3 14 := by decide +kernel
theorem d_320_110 : m_dn M_320 110 (.imul) 1 111 := by decide +kernel
theorem d_320_111 : m_dn M_320 111 (.iload 7) 2 113 := by decide +kernel
theorem d_320_113 : m_dn M_320 113 (.iadd) 1 114 := by decide +kernel
theorem d_320_114 : m_dn M_320 114 (.aload_n 0) 1 115 := by decide +kernel
theorem d_320_115 : m_dn M_320 115 (.getfield 131) 3 118 := by decide +kernel
theorem d_320_118 : m_dn M_320 118 (.bipush 12) 2 120 := by decide +kernel
theorem d_320_120 : m_dn M_320 120 (.iload 5) 2 122 := by decide +kernel
theorem d_320_122 : m_dn M_320 122 (.imul) 1 123 := by decide +kernel
theorem d_320_123 : m_dn M_320 123 (.iload 7) 2 125 := by decide +kernel
theorem d_320_125 : m_dn M_320 125 (.iadd) 1 126 := by decide +kernel
theorem d_320_126 : m_dn M_320 126 (.iaload) 1 127 := by decide +kernel
theorem d_320_127 : m_dn M_320 127 (.iastore) 1 128 := by decide +kernel
theorem d_320_128 : m_dn M_320 128 (.iinc 7 1) 3 131 := by decide +kernel
theorem d_320_131 : m_dn M_320 131 (.goto (-69)) 3 134 := by decide +kernel
theorem d_320_134 : m_dn M_320 134 (.iload_n 3) 1 135 := by decide +kernel
theorem d_320_135 : m_dn M_320 135 (.iload 6) 2 137 := by decide +kernel
theorem d_320_137 : m_dn M_320 137 (.ifCond .eq 7) 3 140 := by decide +kernel
theorem d_320_14 : m_dn M_320 14 (.if_icmp .ge 154) 3 17 := by decide +kernel
theorem d_320_140 : m_dn M_320 140 (.iconst 1) 1 141 := by decide +kernel
theorem d_320_141 : m_dn M_320 141 (.goto 4) 3 144 := by decide +kernel
theorem d_320_144 : m_dn M_320 144 (.iconst 0) 1 145 := by decide +kernel
theorem d_320_145 : m_dn M_320 145 (.iadd) 1 146 := by decide +kernel
theorem d_320_146 : m_dn M_320 146 (.istore_n 3) 1 147 := by decide +kernel
theorem d_320_147 : m_dn M_320 147 (.iload 4) 2 149 := by decide +kernel
theorem d_320_149 : m_dn M_320 149 (.iload 6) 2 151 := by decide +kernel
theorem d_320_151 : m_dn M_320 151 (.ifCond .eq 7) 3 154 := by decide +kernel
theorem d_320_154 : m_dn M_320 154 (.iconst 0) 1 155 := by decide +kernel
theorem d_320_155 : m_dn M_320 155 (.goto 4) 3 158 := by decide +kernel
theorem d_320_158 : m_dn M_320 158 (.iconst 1) 1 159 := by decide +kernel
theorem d_320_159 : m_dn M_320 159 (.iadd) 1 160 := by decide +kernel
theorem d_320_160 : m_dn M_320 160 (.istore 4) 2 162 := by decide +kernel
theorem d_320_162 : m_dn M_320 162 (.iinc 5 1) 3 165 := by decide +kernel
theorem d_320_165 : m_dn M_320 165 (.goto (-157)) 3 168 := by decide +kernel
theorem d_320_168 : m_dn M_320 168 (.aload_n 0) 1 169 := by decide +kernel
theorem d_320_169 : m_dn M_320 169 (.iload 4) 2 171 := by decide +kernel
theorem d_320_17 : m_dn M_320 17 (.aload_n 0) 1 18 := by decide +kernel
theorem d_320_171 : m_dn M_320 171 (.putfield 507) 3 174 := by decide +kernel
theorem d_320_174 : m_dn M_320 174 (.iload_n 3) 1 175 := by decide +kernel
theorem d_320_175 : m_dn M_320 175 (.ireturn) 1 176 := by decide +kernel
theorem d_320_18 : m_dn M_320 18 (.getfield 131) 3 21 := by decide +kernel
theorem d_320_2 : m_dn M_320 2 (.iconst 0) 1 3 := by decide +kernel
theorem d_320_21 : m_dn M_320 21 (.bipush 12) 2 23 := by decide +kernel
theorem d_320_23 : m_dn M_320 23 (.iload 5) 2 25 := by decide +kernel
theorem d_320_25 : m_dn M_320 25 (.imul) 1 26 := by decide +kernel
theorem d_320_26 : m_dn M_320 26 (.iaload) 1 27 := by decide +kernel
theorem d_320_27 : m_dn M_320 27 (.iload_n 1) 1 28 := by decide +kernel
theorem d_320_28 : m_dn M_320 28 (.if_icmp .ne 28) 3 31 := by decide +kernel
theorem d_320_3 : m_dn M_320 3 (.istore 4) 2 5 := by decide +kernel
theorem d_320_31 : m_dn M_320 31 (.iload_n 2) 1 32 := by decide +kernel
theorem d_320_32 : m_dn M_320 32 (.iconst (-1)) 1 33 := by decide +kernel
theorem d_320_33 : m_dn M_320 33 (.if_icmp .eq 19) 3 36 := by decide +kernel
theorem d_320_36 : m_dn M_320 36 (.aload_n 0) 1 37 := by decide +kernel
theorem d_320_37 : m_dn M_320 37 (.getfield 131) 3 40 := by decide +kernel
theorem d_320_40 : m_dn M_320 40 (.bipush 12) 2 42 := by decide +kernel
theorem d_320_42 : m_dn M_320 42 (.iload 5) 2 44 := by decide +kernel
theorem d_320_44 : m_dn M_320 44 (.imul) 1 45 := by decide +kernel
theorem d_320_45 : m_dn M_320 45 (.iconst 1) 1 46 := by decide +kernel
theorem d_320_46 : m_dn M_320 46 (.iadd) 1 47 := by decide +kernel
theorem d_320_47 : m_dn M_320 47 (.iaload) 1 48 := by decide +kernel
theorem d_320_48 : m_dn M_320 48 (.iload_n 2) 1 49 := by decide +kernel
theorem d_320_49 : m_dn M_320 49 (.if_icmp .ne 7) 3 52 := by decide +kernel
theorem d_320_5 : m_dn M_320 5 (.iconst 0) 1 6 := by decide +kernel
theorem d_320_52 : m_dn M_320 52 (.iconst 1) 1 53 := by decide +kernel
theorem d_320_53 : m_dn M_320 53 (.goto 4) 3 56 := by decide +kernel
theorem d_320_56 : m_dn M_320 56 (.iconst 0) 1 57 := by decide +kernel
theorem d_320_57 : m_dn M_320 57 (.istore 6) 2 59 := by decide +kernel
theorem d_320_59 : m_dn M_320 59 (.iconst 0) 1 60 := by decide +kernel
theorem d_320_6 : m_dn M_320 6 (.istore 5) 2 8 := by decide +kernel
theorem d_320_60 : m_dn M_320 60 (.istore 7) 2 62 := by decide +kernel
theorem d_320_62 : m_dn M_320 62 (.iload 7) 2 64 := by decide +kernel
theorem d_320_64 : m_dn M_320 64 (.bipush 12) 2 66 := by decide +kernel
theorem d_320_66 : m_dn M_320 66 (.if_icmp .ge 68) 3 69 := by decide +kernel
theorem d_320_69 : m_dn M_320 69 (.iload 6) 2 71 := by decide +kernel
theorem d_320_71 : m_dn M_320 71 (.ifCond .eq 31) 3 74 := by decide +kernel
theorem d_320_74 : m_dn M_320 74 (.aload_n 0) 1 75 := by decide +kernel
theorem d_320_75 : m_dn M_320 75 (.getfield 134) 3 78 := by decide +kernel
theorem d_320_78 : m_dn M_320 78 (.bipush 12) 2 80 := by decide +kernel
theorem d_320_8 : m_dn M_320 8 (.iload 5) 2 10 := by decide +kernel
theorem d_320_80 : m_dn M_320 80 (.iload_n 3) 1 81 := by decide +kernel
theorem d_320_81 : m_dn M_320 81 (.imul) 1 82 := by decide +kernel
theorem d_320_82 : m_dn M_320 82 (.iload 7) 2 84 := by decide +kernel
theorem d_320_84 : m_dn M_320 84 (.iadd) 1 85 := by decide +kernel
theorem d_320_85 : m_dn M_320 85 (.aload_n 0) 1 86 := by decide +kernel
theorem d_320_86 : m_dn M_320 86 (.getfield 131) 3 89 := by decide +kernel
theorem d_320_89 : m_dn M_320 89 (.bipush 12) 2 91 := by decide +kernel
theorem d_320_91 : m_dn M_320 91 (.iload 5) 2 93 := by decide +kernel
theorem d_320_93 : m_dn M_320 93 (.imul) 1 94 := by decide +kernel
theorem d_320_94 : m_dn M_320 94 (.iload 7) 2 96 := by decide +kernel
theorem d_320_96 : m_dn M_320 96 (.iadd) 1 97 := by decide +kernel
theorem d_320_97 : m_dn M_320 97 (.iaload) 1 98 := by decide +kernel
theorem d_320_98 : m_dn M_320 98 (.iastore) 1 99 := by decide +kernel
theorem d_320_99 : m_dn M_320 99 (.goto 29) 3 102 := by decide +kernel
theorem d_321_0 : m_dn M_321 0 (.aload_n 0) 1 1 := by decide +kernel
theorem d_321_1 : m_dn M_321 1 (.invokevirtual 584) 3 4 := by decide +kernel
theorem d_321_10 : m_dn M_321 10 (.if_icmp .ge 28) 3 13 := by decide +kernel
theorem d_321_13 : m_dn M_321 13 (.aload_n 0) 1 14 := by decide +kernel
theorem d_321_14 : m_dn M_321 14 (.getfield 131) 3 17 := by decide +kernel
theorem d_321_17 : m_dn M_321 17 (.iload_n 2) 1 18 := by decide +kernel
theorem d_321_18 : m_dn M_321 18 (.iload_n 3) 1 19 := by decide +kernel
theorem d_321_19 : m_dn M_321 19 (.iadd) 1 20 := by decide +kernel
theorem d_321_20 : m_dn M_321 20 (.aload_n 0) 1 21 := by decide +kernel
theorem d_321_21 : m_dn M_321 21 (.getfield 134) 3 24 := by decide +kernel
theorem d_321_24 : m_dn M_321 24 (.bipush 12) 2 26 := by decide +kernel
theorem d_321_26 : m_dn M_321 26 (.iload_n 1) 1 27 := by decide +kernel
theorem d_321_27 : m_dn M_321 27 (.imul) 1 28 := by decide +kernel
theorem d_321_28 : m_dn M_321 28 (.iload_n 3) 1 29 := by decide +kernel
theorem d_321_29 : m_dn M_321 29 (.iadd) 1 30 := by decide +kernel
theorem d_321_30 : m_dn M_321 30 (.iaload) 1 31 := by decide +kernel
theorem d_321_31 : m_dn M_321 31 (.iastore) 1 32 := by decide +kernel
theorem d_321_32 : m_dn M_321 32 (.iinc 3 1) 3 35 := by decide +kernel
theorem d_321_35 : m_dn M_321 35 (.goto (-28)) 3 38 := by decide +kernel
theorem d_321_38 : m_dn M_321 38 (.iload_n 2) 1 39 := by decide +kernel
theorem d_321_39 : m_dn M_321 39 (.ireturn) 1 40 := by decide +kernel
theorem d_321_4 : m_dn M_321 4 (.istore_n 2) 1 5 := by decide +kernel
theorem d_321_5 : m_dn M_321 5 (.iconst 0) 1 6 := by decide +kernel
theorem d_321_6 : m_dn M_321 6 (.istore_n 3) 1 7 := by decide +kernel
theorem d_321_7 : m_dn M_321 7 (.iload_n 3) 1 8 := by decide +kernel
theorem d_321_8 : m_dn M_321 8 (.bipush 12) 2 10 := by decide +kernel
theorem d_322_0 : m_dn M_322 0 (.aload_n 0) 1 1 := by decide +kernel
theorem d_322_1 : m_dn M_322 1 (.getfield 91) 3 4 := by decide +kernel
theorem d_322_10 : m_dn M_322 10 (.iadd) 1 11 := by decide +kernel
theorem d_322_11 : m_dn M_322 11 (.iconst 0) 1 12 := by decide +kernel
theorem d_322_12 : m_dn M_322 12 (.bastore) 1 13 := by decide +kernel
theorem d_322_13 : m_dn M_322 13 (.aload_n 0) 1 14 := by decide +kernel
theorem d_322_14 : m_dn M_322 14 (.iload_n 1) 1 15 := by decide +kernel
theorem d_322_15 : m_dn M_322 15 (.iload_n 2) 1 16 := by decide +kernel
theorem d_322_16 : m_dn M_322 16 (.invokevirtual 590) 3 19 := by decide +kernel
theorem d_322_19 : m_dn M_322 19 (.istore_n 3) 1 20 := by decide +kernel
theorem d_322_20 : m_dn M_322 20 (.iconst 0) 1 21 := by decide +kernel
theorem d_322_21 : m_dn M_322 21 (.istore 4) 2 23 := by decide +kernel
theorem d_322_23 : m_dn M_322 23 (.iload 4) 2 25 := by decide +kernel
theorem d_322_25 : m_dn M_322 25 (.iload_n 3) 1 26 := by decide +kernel
theorem d_322_26 : m_dn M_322 26 (.if_icmp .ge 19) 3 29 := by decide +kernel
theorem d_322_29 : m_dn M_322 29 (.aload_n 0) 1 30 := by decide +kernel
theorem d_322_30 : m_dn M_322 30 (.aload_n 0) 1 31 := by decide +kernel
theorem d_322_31 : m_dn M_322 31 (.iload 4) 2 33 := by decide +kernel
theorem d_322_33 : m_dn M_322 33 (.invokevirtual 593) 3 36 := by decide +kernel
theorem d_322_36 : m_dn M_322 36 (.invokevirtual 504) 3 39 := by decide +kernel
theorem d_322_39 : m_dn M_322 39 (.iinc 4 1) 3 42 := by decide +kernel
theorem d_322_4 : m_dn M_322 4 (.sipush 128) 3 7 := by decide +kernel
theorem d_322_42 : m_dn M_322 42 (.goto (-19)) 3 45 := by decide +kernel
theorem d_322_45 : m_dn M_322 45 (.return_) 1 46 := by decide +kernel
theorem d_322_7 : m_dn M_322 7 (.iload_n 1) 1 8 := by decide +kernel
theorem d_322_8 : m_dn M_322 8 (.imul) 1 9 := by decide +kernel
theorem d_322_9 : m_dn M_322 9 (.iload_n 2) 1 10 := by decide +kernel
theorem d_323_0 : m_dn M_323 0 (.iconst 0) 1 1 := by decide +kernel
theorem d_323_1 : m_dn M_323 1 (.istore_n 2) 1 2 := by decide +kernel
theorem d_323_100 : m_dn M_323 100 (.ireturn) 1 101 := by decide +kernel
theorem d_323_101 : m_dn M_323 101 (.iinc 2 1) 3 104 := by decide +kernel
theorem d_323_104 : m_dn M_323 104 (.goto (-102)) 3 107 := by decide +kernel
theorem d_323_107 : m_dn M_323 107 (.iconst 0) 1 108 := by decide +kernel
theorem d_323_108 : m_dn M_323 108 (.ireturn) 1 109 := by decide +kernel
theorem d_323_12 : m_dn M_323 12 (.bipush 64) 2 14 := by decide +kernel
theorem d_323_14 : m_dn M_323 14 (.iload_n 1) 1 15 := by decide +kernel
theorem d_323_15 : m_dn M_323 15 (.imul) 1 16 := by decide +kernel
theorem d_323_16 : m_dn M_323 16 (.iload_n 2) 1 17 := by decide +kernel
theorem d_323_17 : m_dn M_323 17 (.iadd) 1 18 := by decide +kernel
theorem d_323_18 : m_dn M_323 18 (.istore_n 3) 1 19 := by decide +kernel
theorem d_323_19 : m_dn M_323 19 (.aload_n 0) 1 20 := by decide +kernel
theorem d_323_2 : m_dn M_323 2 (.iload_n 2) 1 3 := by decide +kernel
theorem d_323_20 : m_dn M_323 20 (.getfield 60) 3 23 := by decide +kernel
theorem d_323_23 : m_dn M_323 23 (.iload_n 3) 1 24 := by decide +kernel
theorem d_323_24 : m_dn M_323 24 (.iaload) 1 25 := by decide +kernel
theorem d_323_25 : m_dn M_323 25 (.ifCond .ne 26) 3 28 := by decide +kernel
theorem d_323_28 : m_dn M_323 28 (.aload_n 0) 1 29 := by decide +kernel
theorem d_323_29 : m_dn M_323 29 (.getfield 63) 3 32 := by decide +kernel
theorem d_323_3 : m_dn M_323 3 (.aload_n 0) 1 4 := by decide +kernel
theorem d_323_32 : m_dn M_323 32 (.iload_n 3) 1 33 := by decide +kernel
theorem d_323_33 : m_dn M_323 33 (.iaload) 1 34 := by decide +kernel
theorem d_323_34 : m_dn M_323 34 (.aload_n 0) 1 35 := by decide +kernel
theorem d_323_35 : m_dn M_323 35 (.getfield 149) 3 38 := by decide +kernel
theorem d_323_38 : m_dn M_323 38 (.iconst 4) 1 39 := by decide +kernel
theorem d_323_39 : m_dn M_323 39 (.iaload) 1 40 := by decide +kernel
theorem d_323_4 : m_dn M_323 4 (.getfield 54) 3 7 := by decide +kernel
theorem d_323_40 : m_dn M_323 40 (.if_icmp .ne 7) 3 43 := by decide +kernel
theorem d_323_43 : m_dn M_323 43 (.iconst 1) 1 44 := by decide +kernel
theorem d_323_44 : m_dn M_323 44 (.goto 32) 3 47 := by decide +kernel
theorem d_323_47 : m_dn M_323 47 (.iconst 0) 1 48 := by decide +kernel
theorem d_323_48 : m_dn M_323 48 (.goto 28) 3 51 := by decide +kernel
theorem d_323_51 : m_dn M_323 51 (.aload_n 0) 1 52 := by decide +kernel
theorem d_323_52 : m_dn M_323 52 (.getfield 149) 3 55 := by decide +kernel
theorem d_323_55 : m_dn M_323 55 (.bipush 19) 2 57 := by decide +kernel
theorem d_323_57 : m_dn M_323 57 (.iaload) 1 58 := by decide +kernel
theorem d_323_58 : m_dn M_323 58 (.aload_n 0) 1 59 := by decide +kernel
theorem d_323_59 : m_dn M_323 59 (.getfield 63) 3 62 := by decide +kernel
theorem d_323_62 : m_dn M_323 62 (.iload_n 3) 1 63 := by decide +kernel
theorem d_323_63 : m_dn M_323 63 (.iaload) 1 64 := by decide +kernel
theorem d_323_64 : m_dn M_323 64 (.ishr) 1 65 := by decide +kernel
theorem d_323_65 : m_dn M_323 65 (.iconst 1) 1 66 := by decide +kernel
theorem d_323_66 : m_dn M_323 66 (.iand) 1 67 := by decide +kernel
theorem d_323_67 : m_dn M_323 67 (.iconst 1) 1 68 := by decide +kernel
theorem d_323_68 : m_dn M_323 68 (.if_icmp .ne 7) 3 71 := by decide +kernel
theorem d_323_7 : m_dn M_323 7 (.iload_n 1) 1 8 := by decide +kernel
theorem d_323_71 : m_dn M_323 71 (.iconst 1) 1 72 := by decide +kernel
theorem d_323_72 : m_dn M_323 72 (.goto 4) 3 75 := by decide +kernel
theorem d_323_75 : m_dn M_323 75 (.iconst 0) 1 76 := by decide +kernel
theorem d_323_76 : m_dn M_323 76 (.istore 4) 2 78 := by decide +kernel
theorem d_323_78 : m_dn M_323 78 (.iload 4) 2 80 := by decide +kernel
theorem d_323_8 : m_dn M_323 8 (.iaload) 1 9 := by decide +kernel
theorem d_323_80 : m_dn M_323 80 (.ifCond .eq 21) 3 83 := by decide +kernel
theorem d_323_83 : m_dn M_323 83 (.aload_n 0) 1 84 := by decide +kernel
theorem d_323_84 : m_dn M_323 84 (.getfield 57) 3 87 := by decide +kernel
theorem d_323_87 : m_dn M_323 87 (.iload_n 3) 1 88 := by decide +kernel
theorem d_323_88 : m_dn M_323 88 (.iaload) 1 89 := by decide +kernel
theorem d_323_89 : m_dn M_323 89 (.aload_n 0) 1 90 := by decide +kernel
theorem d_323_9 : m_dn M_323 9 (.if_icmp .ge 98) 3 12 := by decide +kernel
theorem d_323_90 : m_dn M_323 90 (.getfield 149) 3 93 := by decide +kernel
theorem d_323_93 : m_dn M_323 93 (.bipush 8) 2 95 := by decide +kernel
theorem d_323_95 : m_dn M_323 95 (.iaload) 1 96 := by decide +kernel
theorem d_323_96 : m_dn M_323 96 (.if_icmp .le 5) 3 99 := by decide +kernel
theorem d_323_99 : m_dn M_323 99 (.iconst 1) 1 100 := by decide +kernel
theorem d_324_0 : m_dn M_324 0 (.aload_n 0) 1 1 := by decide +kernel
theorem d_324_1 : m_dn M_324 1 (.getfield 91) 3 4 := by decide +kernel
theorem d_324_10 : m_dn M_324 10 (.imul) 1 11 := by decide +kernel
theorem d_324_100 : m_dn M_324 100 (.if_icmp .ne 12) 3 103 := by decide +kernel
theorem d_324_103 : m_dn M_324 103 (.aload_n 0) 1 104 := by decide +kernel
theorem d_324_104 : m_dn M_324 104 (.getfield 85) 3 107 := by decide +kernel
theorem d_324_107 : m_dn M_324 107 (.iload_n 3) 1 108 := by decide +kernel
theorem d_324_108 : m_dn M_324 108 (.iaload) 1 109 := by decide +kernel
theorem d_324_109 : m_dn M_324 109 (.goto 4) 3 112 := by decide +kernel
theorem d_324_11 : m_dn M_324 11 (.istore 4) 2 13 := by decide +kernel
theorem d_324_112 : m_dn M_324 112 (.iconst 0) 1 113 := by decide +kernel
theorem d_324_113 : m_dn M_324 113 (.ior) 1 114 := by decide +kernel
theorem d_324_114 : m_dn M_324 114 (.istore 4) 2 116 := by decide +kernel
theorem d_324_116 : m_dn M_324 116 (.aload_n 0) 1 117 := by decide +kernel
theorem d_324_117 : m_dn M_324 117 (.getfield 149) 3 120 := by decide +kernel
theorem d_324_120 : m_dn M_324 120 (.bipush 17) 2 122 := by decide +kernel
theorem d_324_122 : m_dn M_324 122 (.iaload) 1 123 := by decide +kernel
theorem d_324_123 : m_dn M_324 123 (.iconst 1) 1 124 := by decide +kernel
theorem d_324_124 : m_dn M_324 124 (.if_icmp .ne 13) 3 127 := by decide +kernel
theorem d_324_127 : m_dn M_324 127 (.aload_n 0) 1 128 := by decide +kernel
theorem d_324_128 : m_dn M_324 128 (.getfield 66) 3 131 := by decide +kernel
theorem d_324_13 : m_dn M_324 13 (.iload 4) 2 15 := by decide +kernel
theorem d_324_131 : m_dn M_324 131 (.iload_n 3) 1 132 := by decide +kernel
theorem d_324_132 : m_dn M_324 132 (.iconst 0) 1 133 := by decide +kernel
theorem d_324_133 : m_dn M_324 133 (.bastore) 1 134 := by decide +kernel
theorem d_324_134 : m_dn M_324 134 (.goto 136) 3 137 := by decide +kernel
theorem d_324_137 : m_dn M_324 137 (.aload_n 0) 1 138 := by decide +kernel
theorem d_324_138 : m_dn M_324 138 (.getfield 69) 3 141 := by decide +kernel
theorem d_324_141 : m_dn M_324 141 (.iload_n 3) 1 142 := by decide +kernel
theorem d_324_142 : m_dn M_324 142 (.aload_n 0) 1 143 := by decide +kernel
theorem d_324_143 : m_dn M_324 143 (.getfield 66) 3 146 := by decide +kernel
theorem d_324_146 : m_dn M_324 146 (.iload_n 3) 1 147 := by decide +kernel
theorem d_324_147 : m_dn M_324 147 (.baload) 1 148 := by decide +kernel
theorem d_324_148 : m_dn M_324 148 (.ifCond .eq 16) 3 151 := by decide +kernel
theorem d_324_15 : m_dn M_324 15 (.bipush 8) 2 17 := by decide +kernel
theorem d_324_151 : m_dn M_324 151 (.aload_n 0) 1 152 := by decide +kernel
theorem d_324_152 : m_dn M_324 152 (.getfield 69) 3 155 := by decide +kernel
theorem d_324_155 : m_dn M_324 155 (.iload_n 3) 1 156 := by decide +kernel
theorem d_324_156 : m_dn M_324 156 (.baload) 1 157 := by decide +kernel
theorem d_324_157 : m_dn M_324 157 (.ifCond .eq 7) 3 160 := by decide +kernel
theorem d_324_160 : m_dn M_324 160 (.iconst 1) 1 161 := by decide +kernel
theorem d_324_161 : m_dn M_324 161 (.goto 4) 3 164 := by decide +kernel
theorem d_324_164 : m_dn M_324 164 (.iconst 0) 1 165 := by decide +kernel
theorem d_324_165 : m_dn M_324 165 (.bastore) 1 166 := by decide +kernel
theorem d_324_166 : m_dn M_324 166 (.aload_n 0) 1 167 := by decide +kernel
theorem d_324_167 : m_dn M_324 167 (.getfield 66) 3 170 := by decide +kernel
theorem d_324_17 : m_dn M_324 17 (.iload_n 2) 1 18 := by decide +kernel
theorem d_324_170 : m_dn M_324 170 (.iload_n 3) 1 171 := by decide +kernel
theorem d_324_171 : m_dn M_324 171 (.iconst 1) 1 172 := by decide +kernel
theorem d_324_172 : m_dn M_324 172 (.bastore) 1 173 := by decide +kernel
theorem d_324_173 : m_dn M_324 173 (.iconst 0) 1 174 := by decide +kernel
theorem d_324_174 : m_dn M_324 174 (.istore 5) 2 176 := by decide +kernel
theorem d_324_176 : m_dn M_324 176 (.iload 5) 2 178 := by decide +kernel
theorem d_324_178 : m_dn M_324 178 (.bipush 9) 2 180 := by decide +kernel
theorem d_324_18 : m_dn M_324 18 (.imul) 1 19 := by decide +kernel
theorem d_324_180 : m_dn M_324 180 (.if_icmp .ge 31) 3 183 := by decide +kernel
theorem d_324_183 : m_dn M_324 183 (.aload_n 0) 1 184 := by decide +kernel
theorem d_324_184 : m_dn M_324 184 (.getfield 73) 3 187 := by decide +kernel
theorem d_324_187 : m_dn M_324 187 (.bipush 9) 2 189 := by decide +kernel
theorem d_324_189 : m_dn M_324 189 (.iload_n 3) 1 190 := by decide +kernel
theorem d_324_19 : m_dn M_324 19 (.bipush 8) 2 21 := by decide +kernel
theorem d_324_190 : m_dn M_324 190 (.imul) 1 191 := by decide +kernel
theorem d_324_191 : m_dn M_324 191 (.iload 5) 2 193 := by decide +kernel
theorem d_324_193 : m_dn M_324 193 (.iadd) 1 194 := by decide +kernel
theorem d_324_194 : m_dn M_324 194 (.aload_n 0) 1 195 := by decide +kernel
theorem d_324_195 : m_dn M_324 195 (.getfield 149) 3 198 := by decide +kernel
theorem d_324_198 : m_dn M_324 198 (.bipush 12) 2 200 := by decide +kernel
theorem d_324_200 : m_dn M_324 200 (.iload 5) 2 202 := by decide +kernel
theorem d_324_202 : m_dn M_324 202 (.iadd) 1 203 := by decide +kernel
theorem d_324_203 : m_dn M_324 203 (.iaload) 1 204 := by decide +kernel
theorem d_324_204 : m_dn M_324 204 (.iastore) 1 205 := by decide +kernel
theorem d_324_205 : m_dn M_324 205 (.iinc 5 1) 3 208 := by decide +kernel
theorem d_324_208 : m_dn M_324 208 (.goto (-32)) 3 211 := by decide +kernel
theorem d_324_21 : m_dn M_324 21 (.iadd) 1 22 := by decide +kernel
theorem d_324_211 : m_dn M_324 211 (.aload_n 0) 1 212 := by decide +kernel
theorem d_324_212 : m_dn M_324 212 (.getfield 76) 3 215 := by decide +kernel
theorem d_324_215 : m_dn M_324 215 (.iload_n 3) 1 216 := by decide +kernel
theorem d_324_216 : m_dn M_324 216 (.aload_n 0) 1 217 := by decide +kernel
theorem d_324_217 : m_dn M_324 217 (.getfield 149) 3 220 := by decide +kernel
theorem d_324_22 : m_dn M_324 22 (.if_icmp .ge 49) 3 25 := by decide +kernel
theorem d_324_220 : m_dn M_324 220 (.bipush 8) 2 222 := by decide +kernel
theorem d_324_222 : m_dn M_324 222 (.iaload) 1 223 := by decide +kernel
theorem d_324_223 : m_dn M_324 223 (.iastore) 1 224 := by decide +kernel
theorem d_324_224 : m_dn M_324 224 (.aload_n 0) 1 225 := by decide +kernel
theorem d_324_225 : m_dn M_324 225 (.getfield 79) 3 228 := by decide +kernel
theorem d_324_228 : m_dn M_324 228 (.iload_n 3) 1 229 := by decide +kernel
theorem d_324_229 : m_dn M_324 229 (.aload_n 0) 1 230 := by decide +kernel
theorem d_324_230 : m_dn M_324 230 (.getfield 149) 3 233 := by decide +kernel
theorem d_324_233 : m_dn M_324 233 (.bipush 10) 2 235 := by decide +kernel
theorem d_324_235 : m_dn M_324 235 (.iaload) 1 236 := by decide +kernel
theorem d_324_236 : m_dn M_324 236 (.aload_n 0) 1 237 := by decide +kernel
theorem d_324_237 : m_dn M_324 237 (.getfield 390) 3 240 := by decide +kernel
theorem d_324_240 : m_dn M_324 240 (.iadd) 1 241 := by decide +kernel
theorem d_324_241 : m_dn M_324 241 (.iastore) 1 242 := by decide +kernel
theorem d_324_242 : m_dn M_324 242 (.aload_n 0) 1 243 := by decide +kernel
theorem d_324_243 : m_dn M_324 243 (.getfield 82) 3 246 := by decide +kernel
theorem d_324_246 : m_dn M_324 246 (.iload_n 3) 1 247 := by decide +kernel
theorem d_324_247 : m_dn M_324 247 (.aload_n 0) 1 248 := by decide +kernel
theorem d_324_248 : m_dn M_324 248 (.getfield 390) 3 251 := by decide +kernel
theorem d_324_25 : m_dn M_324 25 (.aload_n 0) 1 26 := by decide +kernel
theorem d_324_251 : m_dn M_324 251 (.iastore) 1 252 := by decide +kernel
theorem d_324_252 : m_dn M_324 252 (.aload_n 0) 1 253 := by decide +kernel
theorem d_324_253 : m_dn M_324 253 (.getfield 85) 3 256 := by decide +kernel
theorem d_324_256 : m_dn M_324 256 (.iload_n 3) 1 257 := by decide +kernel
theorem d_324_257 : m_dn M_324 257 (.iload 4) 2 259 := by decide +kernel
theorem d_324_259 : m_dn M_324 259 (.iastore) 1 260 := by decide +kernel
theorem d_324_26 : m_dn M_324 26 (.getfield 66) 3 29 := by decide +kernel
theorem d_324_260 : m_dn M_324 260 (.aload_n 0) 1 261 := by decide +kernel
theorem d_324_261 : m_dn M_324 261 (.iload_n 3) 1 262 := by decide +kernel
theorem d_324_262 : m_dn M_324 262 (.invokevirtual 425) 3 265 := by decide +kernel
theorem d_324_265 : m_dn M_324 265 (.aload_n 0) 1 266 := by decide +kernel
theorem d_324_266 : m_dn M_324 266 (.iload_n 1) 1 267 := by decide +kernel
theorem d_324_267 : m_dn M_324 267 (.invokevirtual 428) 3 270 := by decide +kernel
theorem d_324_270 : m_dn M_324 270 (.aload_n 0) 1 271 := by decide +kernel
theorem d_324_271 : m_dn M_324 271 (.iload_n 1) 1 272 := by decide +kernel
theorem d_324_272 : m_dn M_324 272 (.iload_n 2) 1 273 := by decide +kernel
theorem d_324_273 : m_dn M_324 273 (.sipush 128) 3 276 := by decide +kernel
theorem d_324_276 : m_dn M_324 276 (.irem) 1 277 := by decide +kernel
theorem d_324_277 : m_dn M_324 277 (.invokevirtual 590) 3 280 := by decide +kernel
theorem d_324_280 : m_dn M_324 280 (.istore 5) 2 282 := by decide +kernel
theorem d_324_282 : m_dn M_324 282 (.iconst 0) 1 283 := by decide +kernel
theorem d_324_283 : m_dn M_324 283 (.istore 6) 2 285 := by decide +kernel
theorem d_324_285 : m_dn M_324 285 (.iload 6) 2 287 := by decide +kernel
theorem d_324_287 : m_dn M_324 287 (.bipush 9) 2 289 := by decide +kernel
theorem d_324_289 : m_dn M_324 289 (.if_icmp .ge 26) 3 292 := by decide +kernel
theorem d_324_29 : m_dn M_324 29 (.iload 4) 2 31 := by decide +kernel
theorem d_324_292 : m_dn M_324 292 (.aload_n 0) 1 293 := by decide +kernel
theorem d_324_293 : m_dn M_324 293 (.getfield 143) 3 296 := by decide +kernel
theorem d_324_296 : m_dn M_324 296 (.iload 6) 2 298 := by decide +kernel
theorem d_324_298 : m_dn M_324 298 (.aload_n 0) 1 299 := by decide +kernel
theorem d_324_299 : m_dn M_324 299 (.getfield 149) 3 302 := by decide +kernel
theorem d_324_302 : m_dn M_324 302 (.bipush 12) 2 304 := by decide +kernel
theorem d_324_304 : m_dn M_324 304 (.iload 6) 2 306 := by decide +kernel
theorem d_324_306 : m_dn M_324 306 (.iadd) 1 307 := by decide +kernel
theorem d_324_307 : m_dn M_324 307 (.iaload) 1 308 := by decide +kernel
theorem d_324_308 : m_dn M_324 308 (.iastore) 1 309 := by decide +kernel
theorem d_324_309 : m_dn M_324 309 (.iinc 6 1) 3 312 := by decide +kernel
theorem d_324_31 : m_dn M_324 31 (.aload_n 0) 1 32 := by decide +kernel
theorem d_324_312 : m_dn M_324 312 (.goto (-27)) 3 315 := by decide +kernel
theorem d_324_315 : m_dn M_324 315 (.aload_n 0) 1 316 := by decide +kernel
theorem d_324_316 : m_dn M_324 316 (.iload_n 3) 1 317 := by decide +kernel
theorem d_324_317 : m_dn M_324 317 (.bipush 8) 2 319 := by decide +kernel
theorem d_324_319 : m_dn M_324 319 (.irem) 1 320 := by decide +kernel
theorem d_324_32 : m_dn M_324 32 (.getfield 66) 3 35 := by decide +kernel
theorem d_324_320 : m_dn M_324 320 (.putfield 542) 3 323 := by decide +kernel
theorem d_324_323 : m_dn M_324 323 (.aload_n 0) 1 324 := by decide +kernel
theorem d_324_324 : m_dn M_324 324 (.aload_n 0) 1 325 := by decide +kernel
theorem d_324_325 : m_dn M_324 325 (.getfield 149) 3 328 := by decide +kernel
theorem d_324_328 : m_dn M_324 328 (.bipush 8) 2 330 := by decide +kernel
theorem d_324_330 : m_dn M_324 330 (.iaload) 1 331 := by decide +kernel
theorem d_324_331 : m_dn M_324 331 (.putfield 545) 3 334 := by decide +kernel
theorem d_324_334 : m_dn M_324 334 (.aload_n 0) 1 335 := by decide +kernel
theorem d_324_335 : m_dn M_324 335 (.aload_n 0) 1 336 := by decide +kernel
theorem d_324_336 : m_dn M_324 336 (.getfield 149) 3 339 := by decide +kernel
theorem d_324_339 : m_dn M_324 339 (.bipush 10) 2 341 := by decide +kernel
theorem d_324_341 : m_dn M_324 341 (.iaload) 1 342 := by decide +kernel
theorem d_324_342 : m_dn M_324 342 (.aload_n 0) 1 343 := by decide +kernel
theorem d_324_343 : m_dn M_324 343 (.getfield 390) 3 346 := by decide +kernel
theorem d_324_346 : m_dn M_324 346 (.iadd) 1 347 := by decide +kernel
theorem d_324_347 : m_dn M_324 347 (.putfield 548) 3 350 := by decide +kernel
theorem d_324_35 : m_dn M_324 35 (.iload 4) 2 37 := by decide +kernel
theorem d_324_350 : m_dn M_324 350 (.aload_n 0) 1 351 := by decide +kernel
theorem d_324_351 : m_dn M_324 351 (.iload 4) 2 353 := by decide +kernel
theorem d_324_353 : m_dn M_324 353 (.putfield 551) 3 356 := by decide +kernel
theorem d_324_356 : m_dn M_324 356 (.iconst 0) 1 357 := by decide +kernel
theorem d_324_357 : m_dn M_324 357 (.istore 6) 2 359 := by decide +kernel
theorem d_324_359 : m_dn M_324 359 (.iload 6) 2 361 := by decide +kernel
theorem d_324_361 : m_dn M_324 361 (.iload 5) 2 363 := by decide +kernel
theorem d_324_363 : m_dn M_324 363 (.if_icmp .ge 136) 3 366 := by decide +kernel
theorem d_324_366 : m_dn M_324 366 (.aload_n 0) 1 367 := by decide +kernel
theorem d_324_367 : m_dn M_324 367 (.iload 6) 2 369 := by decide +kernel
theorem d_324_369 : m_dn M_324 369 (.invokevirtual 593) 3 372 := by decide +kernel
theorem d_324_37 : m_dn M_324 37 (.baload) 1 38 := by decide +kernel
theorem d_324_372 : m_dn M_324 372 (.istore 7) 2 374 := by decide +kernel
theorem d_324_374 : m_dn M_324 374 (.aload_n 0) 1 375 := by decide +kernel
theorem d_324_375 : m_dn M_324 375 (.iload 7) 2 377 := by decide +kernel
theorem d_324_377 : m_dn M_324 377 (.aload_n 0) 1 378 := by decide +kernel
theorem d_324_378 : m_dn M_324 378 (.getfield 143) 3 381 := by decide +kernel
theorem d_324_38 : m_dn M_324 38 (.ifCond .eq 25) 3 41 := by decide +kernel
theorem d_324_381 : m_dn M_324 381 (.iconst 1) 1 382 := by decide +kernel
theorem d_324_382 : m_dn M_324 382 (.iaload) 1 383 := by decide +kernel
theorem d_324_383 : m_dn M_324 383 (.aload_n 0) 1 384 := by decide +kernel
theorem d_324_384 : m_dn M_324 384 (.invokevirtual 560) 3 387 := by decide +kernel
theorem d_324_387 : m_dn M_324 387 (.invokevirtual 459) 3 390 := by decide +kernel
theorem d_324_390 : m_dn M_324 390 (.istore 8) 2 392 := by decide +kernel
theorem d_324_392 : m_dn M_324 392 (.iload 6) 2 394 := by decide +kernel
theorem d_324_394 : m_dn M_324 394 (.ifCond .ne 64) 3 397 := by decide +kernel
theorem d_324_397 : m_dn M_324 397 (.aload_n 0) 1 398 := by decide +kernel
theorem d_324_398 : m_dn M_324 398 (.getfield 143) 3 401 := by decide +kernel
theorem d_324_4 : m_dn M_324 4 (.iload_n 2) 1 5 := by decide +kernel
theorem d_324_401 : m_dn M_324 401 (.bipush 8) 2 403 := by decide +kernel
theorem d_324_403 : m_dn M_324 403 (.iaload) 1 404 := by decide +kernel
theorem d_324_404 : m_dn M_324 404 (.aload_n 0) 1 405 := by decide +kernel
theorem d_324_405 : m_dn M_324 405 (.getfield 131) 3 408 := by decide +kernel
theorem d_324_408 : m_dn M_324 408 (.iload 7) 2 410 := by decide +kernel
theorem d_324_41 : m_dn M_324 41 (.aload_n 0) 1 42 := by decide +kernel
theorem d_324_410 : m_dn M_324 410 (.bipush 11) 2 412 := by decide +kernel
theorem d_324_412 : m_dn M_324 412 (.iadd) 1 413 := by decide +kernel
theorem d_324_413 : m_dn M_324 413 (.iaload) 1 414 := by decide +kernel
theorem d_324_414 : m_dn M_324 414 (.invokestatic 433) 3 417 := by decide +kernel
theorem d_324_417 : m_dn M_324 417 (.aload_n 0) 1 418 := by decide +kernel
theorem d_324_418 : m_dn M_324 418 (.getfield 542) 3 421 := by decide +kernel
theorem d_324_42 : m_dn M_324 42 (.iload 4) 2 44 := by decide +kernel
theorem d_324_421 : m_dn M_324 421 (.if_icmp .ne 37) 3 424 := by decide +kernel
theorem d_324_424 : m_dn M_324 424 (.iload 4) 2 426 := by decide +kernel
theorem d_324_426 : m_dn M_324 426 (.iload 8) 2 428 := by decide +kernel
theorem d_324_428 : m_dn M_324 428 (.iand) 1 429 := by decide +kernel
theorem d_324_429 : m_dn M_324 429 (.iload 8) 2 431 := by decide +kernel
theorem d_324_431 : m_dn M_324 431 (.if_icmp .ne 27) 3 434 := by decide +kernel
theorem d_324_434 : m_dn M_324 434 (.aload_n 0) 1 435 := by decide +kernel
theorem d_324_435 : m_dn M_324 435 (.getfield 149) 3 438 := by decide +kernel
theorem d_324_438 : m_dn M_324 438 (.bipush 8) 2 440 := by decide +kernel
theorem d_324_44 : m_dn M_324 44 (.bipush 8) 2 46 := by decide +kernel
theorem d_324_440 : m_dn M_324 440 (.iaload) 1 441 := by decide +kernel
theorem d_324_441 : m_dn M_324 441 (.aload_n 0) 1 442 := by decide +kernel
theorem d_324_442 : m_dn M_324 442 (.getfield 131) 3 445 := by decide +kernel
theorem d_324_445 : m_dn M_324 445 (.iload 7) 2 447 := by decide +kernel
theorem d_324_447 : m_dn M_324 447 (.bipush 7) 2 449 := by decide +kernel
theorem d_324_449 : m_dn M_324 449 (.iadd) 1 450 := by decide +kernel
theorem d_324_450 : m_dn M_324 450 (.iaload) 1 451 := by decide +kernel
theorem d_324_451 : m_dn M_324 451 (.if_icmp .lt 7) 3 454 := by decide +kernel
theorem d_324_454 : m_dn M_324 454 (.iconst 1) 1 455 := by decide +kernel
theorem d_324_455 : m_dn M_324 455 (.goto 4) 3 458 := by decide +kernel
theorem d_324_458 : m_dn M_324 458 (.iconst 0) 1 459 := by decide +kernel
theorem d_324_459 : m_dn M_324 459 (.istore 9) 2 461 := by decide +kernel
theorem d_324_46 : m_dn M_324 46 (.invokevirtual 431) 3 49 := by decide +kernel
theorem d_324_461 : m_dn M_324 461 (.aload_n 0) 1 462 := by decide +kernel
theorem d_324_462 : m_dn M_324 462 (.getfield 131) 3 465 := by decide +kernel
theorem d_324_465 : m_dn M_324 465 (.iload 7) 2 467 := by decide +kernel
theorem d_324_467 : m_dn M_324 467 (.bipush 10) 2 469 := by decide +kernel
theorem d_324_469 : m_dn M_324 469 (.iadd) 1 470 := by decide +kernel
theorem d_324_470 : m_dn M_324 470 (.iconst 1) 1 471 := by decide +kernel
theorem d_324_471 : m_dn M_324 471 (.iastore) 1 472 := by decide +kernel
theorem d_324_472 : m_dn M_324 472 (.iload 9) 2 474 := by decide +kernel
theorem d_324_474 : m_dn M_324 474 (.ifCond .eq 13) 3 477 := by decide +kernel
theorem d_324_477 : m_dn M_324 477 (.aload_n 0) 1 478 := by decide +kernel
theorem d_324_478 : m_dn M_324 478 (.iload 7) 2 480 := by decide +kernel
theorem d_324_480 : m_dn M_324 480 (.iconst 0) 1 481 := by decide +kernel
theorem d_324_481 : m_dn M_324 481 (.invokevirtual 554) 3 484 := by decide +kernel
theorem d_324_484 : m_dn M_324 484 (.goto 9) 3 487 := by decide +kernel
theorem d_324_487 : m_dn M_324 487 (.aload_n 0) 1 488 := by decide +kernel
theorem d_324_488 : m_dn M_324 488 (.iload 7) 2 490 := by decide +kernel
theorem d_324_49 : m_dn M_324 49 (.aload_n 0) 1 50 := by decide +kernel
theorem d_324_490 : m_dn M_324 490 (.invokevirtual 587) 3 493 := by decide +kernel
theorem d_324_493 : m_dn M_324 493 (.iinc 6 1) 3 496 := by decide +kernel
theorem d_324_496 : m_dn M_324 496 (.goto (-137)) 3 499 := by decide +kernel
theorem d_324_499 : m_dn M_324 499 (.return_) 1 500 := by decide +kernel
theorem d_324_5 : m_dn M_324 5 (.iconst 0) 1 6 := by decide +kernel
theorem d_324_50 : m_dn M_324 50 (.getfield 149) 3 53 := by decide +kernel
theorem d_324_53 : m_dn M_324 53 (.bipush 20) 2 55 := by decide +kernel
theorem d_324_55 : m_dn M_324 55 (.iaload) 1 56 := by decide +kernel
theorem d_324_56 : m_dn M_324 56 (.if_icmp .ne 7) 3 59 := by decide +kernel
theorem d_324_59 : m_dn M_324 59 (.iconst 1) 1 60 := by decide +kernel
theorem d_324_6 : m_dn M_324 6 (.bastore) 1 7 := by decide +kernel
theorem d_324_60 : m_dn M_324 60 (.goto 4) 3 63 := by decide +kernel
theorem d_324_63 : m_dn M_324 63 (.iconst 0) 1 64 := by decide +kernel
theorem d_324_64 : m_dn M_324 64 (.bastore) 1 65 := by decide +kernel
theorem d_324_65 : m_dn M_324 65 (.iinc 4 1) 3 68 := by decide +kernel
theorem d_324_68 : m_dn M_324 68 (.goto (-55)) 3 71 := by decide +kernel
theorem d_324_7 : m_dn M_324 7 (.bipush 8) 2 9 := by decide +kernel
theorem d_324_71 : m_dn M_324 71 (.aload_n 0) 1 72 := by decide +kernel
theorem d_324_72 : m_dn M_324 72 (.getfield 149) 3 75 := by decide +kernel
theorem d_324_75 : m_dn M_324 75 (.bipush 11) 2 77 := by decide +kernel
theorem d_324_77 : m_dn M_324 77 (.iaload) 1 78 := by decide +kernel
theorem d_324_78 : m_dn M_324 78 (.aload_n 0) 1 79 := by decide +kernel
theorem d_324_79 : m_dn M_324 79 (.getfield 66) 3 82 := by decide +kernel
theorem d_324_82 : m_dn M_324 82 (.iload_n 3) 1 83 := by decide +kernel
theorem d_324_83 : m_dn M_324 83 (.baload) 1 84 := by decide +kernel
theorem d_324_84 : m_dn M_324 84 (.ifCond .eq 28) 3 87 := by decide +kernel
theorem d_324_87 : m_dn M_324 87 (.aload_n 0) 1 88 := by decide +kernel
theorem d_324_88 : m_dn M_324 88 (.iload_n 3) 1 89 := by decide +kernel
theorem d_324_89 : m_dn M_324 89 (.iconst 0) 1 90 := by decide +kernel
theorem d_324_9 : m_dn M_324 9 (.iload_n 2) 1 10 := by decide +kernel
theorem d_324_90 : m_dn M_324 90 (.invokevirtual 431) 3 93 := by decide +kernel
theorem d_324_93 : m_dn M_324 93 (.aload_n 0) 1 94 := by decide +kernel
theorem d_324_94 : m_dn M_324 94 (.getfield 149) 3 97 := by decide +kernel
theorem d_324_97 : m_dn M_324 97 (.bipush 12) 2 99 := by decide +kernel
theorem d_324_99 : m_dn M_324 99 (.iaload) 1 100 := by decide +kernel
theorem d_325_0 : m_dn M_325 0 (.bipush 64) 2 2 := by decide +kernel
theorem d_325_10 : m_dn M_325 10 (.iadd) 1 11 := by decide +kernel
theorem d_325_100 : m_dn M_325 100 (.iconst 1) 1 101 := by decide +kernel
theorem d_325_101 : m_dn M_325 101 (.goto 33) 3 104 := by decide +kernel
theorem d_325_104 : m_dn M_325 104 (.iconst 0) 1 105 := by decide +kernel
theorem d_325_105 : m_dn M_325 105 (.goto 29) 3 108 := by decide +kernel
theorem d_325_108 : m_dn M_325 108 (.aload_n 0) 1 109 := by decide +kernel
theorem d_325_109 : m_dn M_325 109 (.iload 4) 2 111 := by decide +kernel
theorem d_325_11 : m_dn M_325 11 (.istore_n 2) 1 12 := by decide +kernel
theorem d_325_111 : m_dn M_325 111 (.bipush 7) 2 113 := by decide +kernel
theorem d_325_113 : m_dn M_325 113 (.invokevirtual 431) 3 116 := by decide +kernel
theorem d_325_116 : m_dn M_325 116 (.aload_n 0) 1 117 := by decide +kernel
theorem d_325_117 : m_dn M_325 117 (.getfield 149) 3 120 := by decide +kernel
theorem d_325_12 : m_dn M_325 12 (.aload_n 0) 1 13 := by decide +kernel
theorem d_325_120 : m_dn M_325 120 (.iconst 4) 1 121 := by decide +kernel
theorem d_325_121 : m_dn M_325 121 (.iaload) 1 122 := by decide +kernel
theorem d_325_122 : m_dn M_325 122 (.ishr) 1 123 := by decide +kernel
theorem d_325_123 : m_dn M_325 123 (.iconst 1) 1 124 := by decide +kernel
theorem d_325_124 : m_dn M_325 124 (.iand) 1 125 := by decide +kernel
theorem d_325_125 : m_dn M_325 125 (.iconst 1) 1 126 := by decide +kernel
theorem d_325_126 : m_dn M_325 126 (.if_icmp .ne 7) 3 129 := by decide +kernel
theorem d_325_129 : m_dn M_325 129 (.iconst 1) 1 130 := by decide +kernel
theorem d_325_13 : m_dn M_325 13 (.getfield 54) 3 16 := by decide +kernel
theorem d_325_130 : m_dn M_325 130 (.goto 4) 3 133 := by decide +kernel
theorem d_325_133 : m_dn M_325 133 (.iconst 0) 1 134 := by decide +kernel
theorem d_325_134 : m_dn M_325 134 (.istore 5) 2 136 := by decide +kernel
theorem d_325_136 : m_dn M_325 136 (.aload_n 0) 1 137 := by decide +kernel
theorem d_325_137 : m_dn M_325 137 (.getfield 66) 3 140 := by decide +kernel
theorem d_325_140 : m_dn M_325 140 (.iload 4) 2 142 := by decide +kernel
theorem d_325_142 : m_dn M_325 142 (.aload_n 0) 1 143 := by decide +kernel
theorem d_325_143 : m_dn M_325 143 (.getfield 66) 3 146 := by decide +kernel
theorem d_325_146 : m_dn M_325 146 (.iload 4) 2 148 := by decide +kernel
theorem d_325_148 : m_dn M_325 148 (.baload) 1 149 := by decide +kernel
theorem d_325_149 : m_dn M_325 149 (.ifCond .eq 12) 3 152 := by decide +kernel
theorem d_325_152 : m_dn M_325 152 (.iload 5) 2 154 := by decide +kernel
theorem d_325_154 : m_dn M_325 154 (.ifCond .ne 7) 3 157 := by decide +kernel
theorem d_325_157 : m_dn M_325 157 (.iconst 1) 1 158 := by decide +kernel
theorem d_325_158 : m_dn M_325 158 (.goto 4) 3 161 := by decide +kernel
theorem d_325_16 : m_dn M_325 16 (.iload_n 1) 1 17 := by decide +kernel
theorem d_325_161 : m_dn M_325 161 (.iconst 0) 1 162 := by decide +kernel
theorem d_325_162 : m_dn M_325 162 (.bastore) 1 163 := by decide +kernel
theorem d_325_163 : m_dn M_325 163 (.iinc 3 1) 3 166 := by decide +kernel
theorem d_325_166 : m_dn M_325 166 (.goto (-106)) 3 169 := by decide +kernel
theorem d_325_169 : m_dn M_325 169 (.aload_n 0) 1 170 := by decide +kernel
theorem d_325_17 : m_dn M_325 17 (.dup2) 1 18 := by decide +kernel
theorem d_325_170 : m_dn M_325 170 (.getfield 42) 3 173 := by decide +kernel
theorem d_325_173 : m_dn M_325 173 (.iload_n 1) 1 174 := by decide +kernel
theorem d_325_174 : m_dn M_325 174 (.aload_n 0) 1 175 := by decide +kernel
theorem d_325_175 : m_dn M_325 175 (.getfield 149) 3 178 := by decide +kernel
theorem d_325_178 : m_dn M_325 178 (.iconst 3) 1 179 := by decide +kernel
theorem d_325_179 : m_dn M_325 179 (.iaload) 1 180 := by decide +kernel
theorem d_325_18 : m_dn M_325 18 (.iaload) 1 19 := by decide +kernel
theorem d_325_180 : m_dn M_325 180 (.aload_n 0) 1 181 := by decide +kernel
theorem d_325_181 : m_dn M_325 181 (.getfield 42) 3 184 := by decide +kernel
theorem d_325_184 : m_dn M_325 184 (.iload_n 1) 1 185 := by decide +kernel
theorem d_325_185 : m_dn M_325 185 (.iaload) 1 186 := by decide +kernel
theorem d_325_186 : m_dn M_325 186 (.if_icmp .le 12) 3 189 := by decide +kernel
theorem d_325_189 : m_dn M_325 189 (.aload_n 0) 1 190 := by decide +kernel
theorem d_325_19 : m_dn M_325 19 (.iconst 1) 1 20 := by decide +kernel
theorem d_325_190 : m_dn M_325 190 (.getfield 149) 3 193 := by decide +kernel
theorem d_325_193 : m_dn M_325 193 (.iconst 3) 1 194 := by decide +kernel
theorem d_325_194 : m_dn M_325 194 (.iaload) 1 195 := by decide +kernel
theorem d_325_195 : m_dn M_325 195 (.goto 9) 3 198 := by decide +kernel
theorem d_325_198 : m_dn M_325 198 (.aload_n 0) 1 199 := by decide +kernel
theorem d_325_199 : m_dn M_325 199 (.getfield 42) 3 202 := by decide +kernel
theorem d_325_2 : m_dn M_325 2 (.iload_n 1) 1 3 := by decide +kernel
theorem d_325_20 : m_dn M_325 20 (.iadd) 1 21 := by decide +kernel
theorem d_325_202 : m_dn M_325 202 (.iload_n 1) 1 203 := by decide +kernel
theorem d_325_203 : m_dn M_325 203 (.iaload) 1 204 := by decide +kernel
theorem d_325_204 : m_dn M_325 204 (.iastore) 1 205 := by decide +kernel
theorem d_325_205 : m_dn M_325 205 (.aload_n 0) 1 206 := by decide +kernel
theorem d_325_206 : m_dn M_325 206 (.iconst 3) 1 207 := by decide +kernel
theorem d_325_207 : m_dn M_325 207 (.iload_n 1) 1 208 := by decide +kernel
theorem d_325_208 : m_dn M_325 208 (.iconst 0) 1 209 := by decide +kernel
theorem d_325_209 : m_dn M_325 209 (.aload_n 0) 1 210 := by decide +kernel
theorem d_325_21 : m_dn M_325 21 (.iastore) 1 22 := by decide +kernel
theorem d_325_210 : m_dn M_325 210 (.getfield 149) 3 213 := by decide +kernel
theorem d_325_213 : m_dn M_325 213 (.iconst 3) 1 214 := by decide +kernel
theorem d_325_214 : m_dn M_325 214 (.iaload) 1 215 := by decide +kernel
theorem d_325_215 : m_dn M_325 215 (.iconst 0) 1 216 := by decide +kernel
theorem d_325_216 : m_dn M_325 216 (.invokevirtual 526) 3 219 := by decide +kernel
theorem d_325_219 : m_dn M_325 219 (.aload_n 0) 1 220 := by decide +kernel
theorem d_325_22 : m_dn M_325 22 (.aload_n 0) 1 23 := by decide +kernel
theorem d_325_220 : m_dn M_325 220 (.invokevirtual 530) 3 223 := by decide +kernel
theorem d_325_223 : m_dn M_325 223 (.return_) 1 224 := by decide +kernel
theorem d_325_23 : m_dn M_325 23 (.getfield 57) 3 26 := by decide +kernel
theorem d_325_26 : m_dn M_325 26 (.iload_n 2) 1 27 := by decide +kernel
theorem d_325_27 : m_dn M_325 27 (.aload_n 0) 1 28 := by decide +kernel
theorem d_325_28 : m_dn M_325 28 (.getfield 149) 3 31 := by decide +kernel
theorem d_325_3 : m_dn M_325 3 (.imul) 1 4 := by decide +kernel
theorem d_325_31 : m_dn M_325 31 (.iconst 3) 1 32 := by decide +kernel
theorem d_325_32 : m_dn M_325 32 (.iaload) 1 33 := by decide +kernel
theorem d_325_33 : m_dn M_325 33 (.iastore) 1 34 := by decide +kernel
theorem d_325_34 : m_dn M_325 34 (.aload_n 0) 1 35 := by decide +kernel
theorem d_325_35 : m_dn M_325 35 (.getfield 60) 3 38 := by decide +kernel
theorem d_325_38 : m_dn M_325 38 (.iload_n 2) 1 39 := by decide +kernel
theorem d_325_39 : m_dn M_325 39 (.aload_n 0) 1 40 := by decide +kernel
theorem d_325_4 : m_dn M_325 4 (.aload_n 0) 1 5 := by decide +kernel
theorem d_325_40 : m_dn M_325 40 (.getfield 149) 3 43 := by decide +kernel
theorem d_325_43 : m_dn M_325 43 (.iconst 5) 1 44 := by decide +kernel
theorem d_325_44 : m_dn M_325 44 (.iaload) 1 45 := by decide +kernel
theorem d_325_45 : m_dn M_325 45 (.iastore) 1 46 := by decide +kernel
theorem d_325_46 : m_dn M_325 46 (.aload_n 0) 1 47 := by decide +kernel
theorem d_325_47 : m_dn M_325 47 (.getfield 63) 3 50 := by decide +kernel
theorem d_325_5 : m_dn M_325 5 (.getfield 54) 3 8 := by decide +kernel
theorem d_325_50 : m_dn M_325 50 (.iload_n 2) 1 51 := by decide +kernel
theorem d_325_51 : m_dn M_325 51 (.aload_n 0) 1 52 := by decide +kernel
theorem d_325_52 : m_dn M_325 52 (.getfield 149) 3 55 := by decide +kernel
theorem d_325_55 : m_dn M_325 55 (.iconst 4) 1 56 := by decide +kernel
theorem d_325_56 : m_dn M_325 56 (.iaload) 1 57 := by decide +kernel
theorem d_325_57 : m_dn M_325 57 (.iastore) 1 58 := by decide +kernel
theorem d_325_58 : m_dn M_325 58 (.iconst 0) 1 59 := by decide +kernel
theorem d_325_59 : m_dn M_325 59 (.istore_n 3) 1 60 := by decide +kernel
theorem d_325_60 : m_dn M_325 60 (.iload_n 3) 1 61 := by decide +kernel
theorem d_325_61 : m_dn M_325 61 (.sipush 1024) 3 64 := by decide +kernel
theorem d_325_64 : m_dn M_325 64 (.if_icmp .ge 105) 3 67 := by decide +kernel
theorem d_325_67 : m_dn M_325 67 (.sipush 1024) 3 70 := by decide +kernel
theorem d_325_70 : m_dn M_325 70 (.iload_n 1) 1 71 := by decide +kernel
theorem d_325_71 : m_dn M_325 71 (.imul) 1 72 := by decide +kernel
theorem d_325_72 : m_dn M_325 72 (.iload_n 3) 1 73 := by decide +kernel
theorem d_325_73 : m_dn M_325 73 (.iadd) 1 74 := by decide +kernel
theorem d_325_74 : m_dn M_325 74 (.istore 4) 2 76 := by decide +kernel
theorem d_325_76 : m_dn M_325 76 (.aload_n 0) 1 77 := by decide +kernel
theorem d_325_77 : m_dn M_325 77 (.getfield 149) 3 80 := by decide +kernel
theorem d_325_8 : m_dn M_325 8 (.iload_n 1) 1 9 := by decide +kernel
theorem d_325_80 : m_dn M_325 80 (.iconst 5) 1 81 := by decide +kernel
theorem d_325_81 : m_dn M_325 81 (.iaload) 1 82 := by decide +kernel
theorem d_325_82 : m_dn M_325 82 (.ifCond .ne 26) 3 85 := by decide +kernel
theorem d_325_85 : m_dn M_325 85 (.iload_n 3) 1 86 := by decide +kernel
theorem d_325_86 : m_dn M_325 86 (.bipush 8) 2 88 := by decide +kernel
theorem d_325_88 : m_dn M_325 88 (.idiv) 1 89 := by decide +kernel
theorem d_325_89 : m_dn M_325 89 (.iconst 4) 1 90 := by decide +kernel
theorem d_325_9 : m_dn M_325 9 (.iaload) 1 10 := by decide +kernel
theorem d_325_90 : m_dn M_325 90 (.idiv) 1 91 := by decide +kernel
theorem d_325_91 : m_dn M_325 91 (.aload_n 0) 1 92 := by decide +kernel
theorem d_325_92 : m_dn M_325 92 (.getfield 149) 3 95 := by decide +kernel
theorem d_325_95 : m_dn M_325 95 (.iconst 4) 1 96 := by decide +kernel
theorem d_325_96 : m_dn M_325 96 (.iaload) 1 97 := by decide +kernel
theorem d_325_97 : m_dn M_325 97 (.if_icmp .ne 7) 3 100 := by decide +kernel
theorem d_326_0 : m_dn M_326 0 (.aload_n 0) 1 1 := by decide +kernel
theorem d_326_1 : m_dn M_326 1 (.iconst 0) 1 2 := by decide +kernel
theorem d_326_10 : m_dn M_326 10 (.aload_n 0) 1 11 := by decide +kernel
theorem d_326_11 : m_dn M_326 11 (.getfield 533) 3 14 := by decide +kernel
theorem d_326_14 : m_dn M_326 14 (.if_icmp .lt 5) 3 17 := by decide +kernel
theorem d_326_17 : m_dn M_326 17 (.iconst 0) 1 18 := by decide +kernel
theorem d_326_18 : m_dn M_326 18 (.ireturn) 1 19 := by decide +kernel
theorem d_326_19 : m_dn M_326 19 (.aload_n 0) 1 20 := by decide +kernel
theorem d_326_2 : m_dn M_326 2 (.putfield 155) 3 5 := by decide +kernel
theorem d_326_20 : m_dn M_326 20 (.iload_n 1) 1 21 := by decide +kernel
theorem d_326_21 : m_dn M_326 21 (.invokevirtual 566) 3 24 := by decide +kernel
theorem d_326_24 : m_dn M_326 24 (.aload_n 0) 1 25 := by decide +kernel
theorem d_326_25 : m_dn M_326 25 (.dup) 1 26 := by decide +kernel
theorem d_326_26 : m_dn M_326 26 (.getfield 536) 3 29 := by decide +kernel
theorem d_326_29 : m_dn M_326 29 (.iconst 1) 1 30 := by decide +kernel
theorem d_326_30 : m_dn M_326 30 (.iadd) 1 31 := by decide +kernel
theorem d_326_31 : m_dn M_326 31 (.putfield 536) 3 34 := by decide +kernel
theorem d_326_34 : m_dn M_326 34 (.iconst 1) 1 35 := by decide +kernel
theorem d_326_35 : m_dn M_326 35 (.ireturn) 1 36 := by decide +kernel
theorem d_326_5 : m_dn M_326 5 (.iload_n 1) 1 6 := by decide +kernel
theorem d_326_6 : m_dn M_326 6 (.ifCond .lt 11) 3 9 := by decide +kernel
theorem d_326_9 : m_dn M_326 9 (.iload_n 1) 1 10 := by decide +kernel
theorem d_327_0 : m_dn M_327 0 (.aload_n 0) 1 1 := by decide +kernel
theorem d_327_1 : m_dn M_327 1 (.iconst 0) 1 2 := by decide +kernel
theorem d_327_11 : m_dn M_327 11 (.ifCond .le 21) 3 14 := by decide +kernel
theorem d_327_14 : m_dn M_327 14 (.iload_n 1) 1 15 := by decide +kernel
theorem d_327_15 : m_dn M_327 15 (.sipush 500) 3 18 := by decide +kernel
theorem d_327_18 : m_dn M_327 18 (.if_icmp .ge 14) 3 21 := by decide +kernel
theorem d_327_2 : m_dn M_327 2 (.putfield 155) 3 5 := by decide +kernel
theorem d_327_21 : m_dn M_327 21 (.aload_n 0) 1 22 := by decide +kernel
theorem d_327_22 : m_dn M_327 22 (.iconst 0) 1 23 := by decide +kernel
theorem d_327_23 : m_dn M_327 23 (.invokevirtual 618) 3 26 := by decide +kernel
theorem d_327_26 : m_dn M_327 26 (.iinc 1 1) 3 29 := by decide +kernel
theorem d_327_29 : m_dn M_327 29 (.goto (-22)) 3 32 := by decide +kernel
theorem d_327_32 : m_dn M_327 32 (.iload_n 1) 1 33 := by decide +kernel
theorem d_327_33 : m_dn M_327 33 (.ireturn) 1 34 := by decide +kernel
theorem d_327_5 : m_dn M_327 5 (.iconst 0) 1 6 := by decide +kernel
theorem d_327_6 : m_dn M_327 6 (.istore_n 1) 1 7 := by decide +kernel
theorem d_327_7 : m_dn M_327 7 (.aload_n 0) 1 8 := by decide +kernel
theorem d_327_8 : m_dn M_327 8 (.getfield 533) 3 11 := by decide +kernel
theorem d_328_0 : m_dn M_328 0 (.aload_n 0) 1 1 := by decide +kernel
theorem d_328_1 : m_dn M_328 1 (.iconst 0) 1 2 := by decide +kernel
theorem d_328_10 : m_dn M_328 10 (.iconst 1) 1 11 := by decide +kernel
theorem d_328_102 : m_dn M_328 102 (.iconst 5) 1 103 := by decide +kernel
theorem d_328_103 : m_dn M_328 103 (.iload_n 1) 1 104 := by decide +kernel
theorem d_328_104 : m_dn M_328 104 (.iastore) 1 105 := by decide +kernel
theorem d_328_105 : m_dn M_328 105 (.aload_n 0) 1 106 := by decide +kernel
theorem d_328_106 : m_dn M_328 106 (.invokevirtual 530) 3 109 := by decide +kernel
theorem d_328_109 : m_dn M_328 109 (.iinc 3 1) 3 112 := by decide +kernel
theorem d_328_11 : m_dn M_328 11 (.if_icmp .gt 31) 3 14 := by decide +kernel
theorem d_328_112 : m_dn M_328 112 (.goto (-51)) 3 115 := by decide +kernel
theorem d_328_115 : m_dn M_328 115 (.aload_n 0) 1 116 := by decide +kernel
theorem d_328_116 : m_dn M_328 116 (.getfield 581) 3 119 := by decide +kernel
theorem d_328_119 : m_dn M_328 119 (.ireturn) 1 120 := by decide +kernel
theorem d_328_14 : m_dn M_328 14 (.iload_n 2) 1 15 := by decide +kernel
theorem d_328_15 : m_dn M_328 15 (.ifCond .lt 27) 3 18 := by decide +kernel
theorem d_328_18 : m_dn M_328 18 (.iload_n 2) 1 19 := by decide +kernel
theorem d_328_19 : m_dn M_328 19 (.iload_n 1) 1 20 := by decide +kernel
theorem d_328_2 : m_dn M_328 2 (.putfield 155) 3 5 := by decide +kernel
theorem d_328_20 : m_dn M_328 20 (.ifCond .ne 8) 3 23 := by decide +kernel
theorem d_328_23 : m_dn M_328 23 (.bipush 31) 2 25 := by decide +kernel
theorem d_328_25 : m_dn M_328 25 (.goto 5) 3 28 := by decide +kernel
theorem d_328_28 : m_dn M_328 28 (.bipush 7) 2 30 := by decide +kernel
theorem d_328_30 : m_dn M_328 30 (.if_icmp .gt 12) 3 33 := by decide +kernel
theorem d_328_33 : m_dn M_328 33 (.aload_n 0) 1 34 := by decide +kernel
theorem d_328_34 : m_dn M_328 34 (.getfield 581) 3 37 := by decide +kernel
theorem d_328_37 : m_dn M_328 37 (.bipush 60) 2 39 := by decide +kernel
theorem d_328_39 : m_dn M_328 39 (.if_icmp .ne 5) 3 42 := by decide +kernel
theorem d_328_42 : m_dn M_328 42 (.iconst (-1)) 1 43 := by decide +kernel
theorem d_328_43 : m_dn M_328 43 (.ireturn) 1 44 := by decide +kernel
theorem d_328_44 : m_dn M_328 44 (.aload_n 0) 1 45 := by decide +kernel
theorem d_328_45 : m_dn M_328 45 (.dup) 1 46 := by decide +kernel
theorem d_328_46 : m_dn M_328 46 (.getfield 581) 3 49 := by decide +kernel
theorem d_328_49 : m_dn M_328 49 (.iconst 1) 1 50 := by decide +kernel
theorem d_328_5 : m_dn M_328 5 (.iload_n 1) 1 6 := by decide +kernel
theorem d_328_50 : m_dn M_328 50 (.iadd) 1 51 := by decide +kernel
theorem d_328_51 : m_dn M_328 51 (.putfield 581) 3 54 := by decide +kernel
theorem d_328_54 : m_dn M_328 54 (.aload_n 0) 1 55 := by decide +kernel
theorem d_328_55 : m_dn M_328 55 (.iconst 0) 1 56 := by decide +kernel
theorem d_328_56 : m_dn M_328 56 (.putfield 578) 3 59 := by decide +kernel
theorem d_328_59 : m_dn M_328 59 (.iconst 1) 1 60 := by decide +kernel
theorem d_328_6 : m_dn M_328 6 (.ifCond .lt 36) 3 9 := by decide +kernel
theorem d_328_60 : m_dn M_328 60 (.istore_n 3) 1 61 := by decide +kernel
theorem d_328_61 : m_dn M_328 61 (.iload_n 3) 1 62 := by decide +kernel
theorem d_328_62 : m_dn M_328 62 (.bipush 7) 2 64 := by decide +kernel
theorem d_328_64 : m_dn M_328 64 (.if_icmp .ge 51) 3 67 := by decide +kernel
theorem d_328_67 : m_dn M_328 67 (.aload_n 0) 1 68 := by decide +kernel
theorem d_328_68 : m_dn M_328 68 (.getfield 35) 3 71 := by decide +kernel
theorem d_328_71 : m_dn M_328 71 (.iload_n 3) 1 72 := by decide +kernel
theorem d_328_72 : m_dn M_328 72 (.baload) 1 73 := by decide +kernel
theorem d_328_73 : m_dn M_328 73 (.ifCond .ne 6) 3 76 := by decide +kernel
theorem d_328_76 : m_dn M_328 76 (.goto 33) 3 79 := by decide +kernel
theorem d_328_79 : m_dn M_328 79 (.aload_n 0) 1 80 := by decide +kernel
theorem d_328_80 : m_dn M_328 80 (.iconst 2) 1 81 := by decide +kernel
theorem d_328_81 : m_dn M_328 81 (.iconst 0) 1 82 := by decide +kernel
theorem d_328_82 : m_dn M_328 82 (.iload_n 3) 1 83 := by decide +kernel
theorem d_328_83 : m_dn M_328 83 (.aload_n 0) 1 84 := by decide +kernel
theorem d_328_84 : m_dn M_328 84 (.getfield 581) 3 87 := by decide +kernel
theorem d_328_87 : m_dn M_328 87 (.iconst 0) 1 88 := by decide +kernel
theorem d_328_88 : m_dn M_328 88 (.invokevirtual 526) 3 91 := by decide +kernel
theorem d_328_9 : m_dn M_328 9 (.iload_n 1) 1 10 := by decide +kernel
theorem d_328_91 : m_dn M_328 91 (.aload_n 0) 1 92 := by decide +kernel
theorem d_328_92 : m_dn M_328 92 (.getfield 140) 3 95 := by decide +kernel
theorem d_328_95 : m_dn M_328 95 (.iconst 4) 1 96 := by decide +kernel
theorem d_328_96 : m_dn M_328 96 (.iload_n 2) 1 97 := by decide +kernel
theorem d_328_97 : m_dn M_328 97 (.iastore) 1 98 := by decide +kernel
theorem d_328_98 : m_dn M_328 98 (.aload_n 0) 1 99 := by decide +kernel
theorem d_328_99 : m_dn M_328 99 (.getfield 140) 3 102 := by decide +kernel
theorem d_329_0 : m_dn M_329 0 (.aload_n 0) 1 1 := by decide +kernel
theorem d_329_1 : m_dn M_329 1 (.iload_n 1) 1 2 := by decide +kernel
theorem d_329_12 : m_dn M_329 12 (.iconst 1) 1 13 := by decide +kernel
theorem d_329_13 : m_dn M_329 13 (.goto 4) 3 16 := by decide +kernel
theorem d_329_16 : m_dn M_329 16 (.iconst 0) 1 17 := by decide +kernel
theorem d_329_17 : m_dn M_329 17 (.putfield 155) 3 20 := by decide +kernel
theorem d_329_2 : m_dn M_329 2 (.iconst 1) 1 3 := by decide +kernel
theorem d_329_20 : m_dn M_329 20 (.aload_n 0) 1 21 := by decide +kernel
theorem d_329_21 : m_dn M_329 21 (.getfield 155) 3 24 := by decide +kernel
theorem d_329_24 : m_dn M_329 24 (.ifCond .eq 5) 3 27 := by decide +kernel
theorem d_329_27 : m_dn M_329 27 (.iconst 0) 1 28 := by decide +kernel
theorem d_329_28 : m_dn M_329 28 (.ireturn) 1 29 := by decide +kernel
theorem d_329_29 : m_dn M_329 29 (.iconst 0) 1 30 := by decide +kernel
theorem d_329_3 : m_dn M_329 3 (.if_icmp .lt 9) 3 6 := by decide +kernel
theorem d_329_30 : m_dn M_329 30 (.istore_n 2) 1 31 := by decide +kernel
theorem d_329_31 : m_dn M_329 31 (.iload_n 2) 1 32 := by decide +kernel
theorem d_329_32 : m_dn M_329 32 (.iload_n 1) 1 33 := by decide +kernel
theorem d_329_33 : m_dn M_329 33 (.if_icmp .ge 38) 3 36 := by decide +kernel
theorem d_329_36 : m_dn M_329 36 (.aload_n 0) 1 37 := by decide +kernel
theorem d_329_37 : m_dn M_329 37 (.dup) 1 38 := by decide +kernel
theorem d_329_38 : m_dn M_329 38 (.getfield 390) 3 41 := by decide +kernel
theorem d_329_41 : m_dn M_329 41 (.iconst 1) 1 42 := by decide +kernel
theorem d_329_42 : m_dn M_329 42 (.iadd) 1 43 := by decide +kernel
theorem d_329_43 : m_dn M_329 43 (.putfield 390) 3 46 := by decide +kernel
theorem d_329_46 : m_dn M_329 46 (.iconst 1) 1 47 := by decide +kernel
theorem d_329_47 : m_dn M_329 47 (.istore_n 3) 1 48 := by decide +kernel
theorem d_329_48 : m_dn M_329 48 (.iload_n 3) 1 49 := by decide +kernel
theorem d_329_49 : m_dn M_329 49 (.bipush 7) 2 51 := by decide +kernel
theorem d_329_51 : m_dn M_329 51 (.if_icmp .ge 14) 3 54 := by decide +kernel
theorem d_329_54 : m_dn M_329 54 (.aload_n 0) 1 55 := by decide +kernel
theorem d_329_55 : m_dn M_329 55 (.iload_n 3) 1 56 := by decide +kernel
theorem d_329_56 : m_dn M_329 56 (.invokevirtual 624) 3 59 := by decide +kernel
theorem d_329_59 : m_dn M_329 59 (.iinc 3 1) 3 62 := by decide +kernel
theorem d_329_6 : m_dn M_329 6 (.iload_n 1) 1 7 := by decide +kernel
theorem d_329_62 : m_dn M_329 62 (.goto (-14)) 3 65 := by decide +kernel
theorem d_329_65 : m_dn M_329 65 (.iinc 2 1) 3 68 := by decide +kernel
theorem d_329_68 : m_dn M_329 68 (.goto (-37)) 3 71 := by decide +kernel
theorem d_329_7 : m_dn M_329 7 (.bipush 100) 2 9 := by decide +kernel
theorem d_329_71 : m_dn M_329 71 (.aload_n 0) 1 72 := by decide +kernel
theorem d_329_72 : m_dn M_329 72 (.getfield 390) 3 75 := by decide +kernel
theorem d_329_75 : m_dn M_329 75 (.ireturn) 1 76 := by decide +kernel
theorem d_329_9 : m_dn M_329 9 (.if_icmp .le 7) 3 12 := by decide +kernel
theorem d_330_0 : m_dn M_330 0 (.iconst 0) 1 1 := by decide +kernel
theorem d_330_1 : m_dn M_330 1 (.istore_n 2) 1 2 := by decide +kernel
theorem d_330_100 : m_dn M_330 100 (.iload_n 2) 1 101 := by decide +kernel
theorem d_330_101 : m_dn M_330 101 (.iaload) 1 102 := by decide +kernel
theorem d_330_102 : m_dn M_330 102 (.invokevirtual 621) 3 105 := by decide +kernel
theorem d_330_105 : m_dn M_330 105 (.aload_n 0) 1 106 := by decide +kernel
theorem d_330_106 : m_dn M_330 106 (.iload_n 1) 1 107 := by decide +kernel
theorem d_330_107 : m_dn M_330 107 (.iload_n 2) 1 108 := by decide +kernel
theorem d_330_108 : m_dn M_330 108 (.sipush 128) 3 111 := by decide +kernel
theorem d_330_111 : m_dn M_330 111 (.irem) 1 112 := by decide +kernel
theorem d_330_112 : m_dn M_330 112 (.invokevirtual 599) 3 115 := by decide +kernel
theorem d_330_115 : m_dn M_330 115 (.goto (-113)) 3 118 := by decide +kernel
theorem d_330_118 : m_dn M_330 118 (.return_) 1 119 := by decide +kernel
theorem d_330_12 : m_dn M_330 12 (.iload_n 1) 1 13 := by decide +kernel
theorem d_330_13 : m_dn M_330 13 (.imul) 1 14 := by decide +kernel
theorem d_330_14 : m_dn M_330 14 (.istore_n 3) 1 15 := by decide +kernel
theorem d_330_15 : m_dn M_330 15 (.iload_n 3) 1 16 := by decide +kernel
theorem d_330_16 : m_dn M_330 16 (.sipush 128) 3 19 := by decide +kernel
theorem d_330_19 : m_dn M_330 19 (.iload_n 1) 1 20 := by decide +kernel
theorem d_330_2 : m_dn M_330 2 (.iload_n 2) 1 3 := by decide +kernel
theorem d_330_20 : m_dn M_330 20 (.imul) 1 21 := by decide +kernel
theorem d_330_21 : m_dn M_330 21 (.sipush 128) 3 24 := by decide +kernel
theorem d_330_24 : m_dn M_330 24 (.iadd) 1 25 := by decide +kernel
theorem d_330_25 : m_dn M_330 25 (.if_icmp .ge 56) 3 28 := by decide +kernel
theorem d_330_28 : m_dn M_330 28 (.aload_n 0) 1 29 := by decide +kernel
theorem d_330_29 : m_dn M_330 29 (.getfield 91) 3 32 := by decide +kernel
theorem d_330_3 : m_dn M_330 3 (.iconst (-1)) 1 4 := by decide +kernel
theorem d_330_32 : m_dn M_330 32 (.iload_n 3) 1 33 := by decide +kernel
theorem d_330_33 : m_dn M_330 33 (.baload) 1 34 := by decide +kernel
theorem d_330_34 : m_dn M_330 34 (.ifCond .eq 41) 3 37 := by decide +kernel
theorem d_330_37 : m_dn M_330 37 (.aload_n 0) 1 38 := by decide +kernel
theorem d_330_38 : m_dn M_330 38 (.getfield 390) 3 41 := by decide +kernel
theorem d_330_4 : m_dn M_330 4 (.if_icmp .eq 114) 3 7 := by decide +kernel
theorem d_330_41 : m_dn M_330 41 (.aload_n 0) 1 42 := by decide +kernel
theorem d_330_42 : m_dn M_330 42 (.getfield 100) 3 45 := by decide +kernel
theorem d_330_45 : m_dn M_330 45 (.iload_n 3) 1 46 := by decide +kernel
theorem d_330_46 : m_dn M_330 46 (.iaload) 1 47 := by decide +kernel
theorem d_330_47 : m_dn M_330 47 (.isub) 1 48 := by decide +kernel
theorem d_330_48 : m_dn M_330 48 (.bipush 10) 2 50 := by decide +kernel
theorem d_330_50 : m_dn M_330 50 (.if_icmp .lt 25) 3 53 := by decide +kernel
theorem d_330_53 : m_dn M_330 53 (.iload_n 2) 1 54 := by decide +kernel
theorem d_330_54 : m_dn M_330 54 (.iconst (-1)) 1 55 := by decide +kernel
theorem d_330_55 : m_dn M_330 55 (.if_icmp .eq 18) 3 58 := by decide +kernel
theorem d_330_58 : m_dn M_330 58 (.aload_n 0) 1 59 := by decide +kernel
theorem d_330_59 : m_dn M_330 59 (.getfield 97) 3 62 := by decide +kernel
theorem d_330_62 : m_dn M_330 62 (.iload_n 3) 1 63 := by decide +kernel
theorem d_330_63 : m_dn M_330 63 (.iaload) 1 64 := by decide +kernel
theorem d_330_64 : m_dn M_330 64 (.aload_n 0) 1 65 := by decide +kernel
theorem d_330_65 : m_dn M_330 65 (.getfield 97) 3 68 := by decide +kernel
theorem d_330_68 : m_dn M_330 68 (.iload_n 2) 1 69 := by decide +kernel
theorem d_330_69 : m_dn M_330 69 (.iaload) 1 70 := by decide +kernel
theorem d_330_7 : m_dn M_330 7 (.iconst (-1)) 1 8 := by decide +kernel
theorem d_330_70 : m_dn M_330 70 (.if_icmp .ge 5) 3 73 := by decide +kernel
theorem d_330_73 : m_dn M_330 73 (.iload_n 3) 1 74 := by decide +kernel
theorem d_330_74 : m_dn M_330 74 (.istore_n 2) 1 75 := by decide +kernel
theorem d_330_75 : m_dn M_330 75 (.iinc 3 1) 3 78 := by decide +kernel
theorem d_330_78 : m_dn M_330 78 (.goto (-63)) 3 81 := by decide +kernel
theorem d_330_8 : m_dn M_330 8 (.istore_n 2) 1 9 := by decide +kernel
theorem d_330_81 : m_dn M_330 81 (.iload_n 2) 1 82 := by decide +kernel
theorem d_330_82 : m_dn M_330 82 (.iconst (-1)) 1 83 := by decide +kernel
theorem d_330_83 : m_dn M_330 83 (.if_icmp .ne 6) 3 86 := by decide +kernel
theorem d_330_86 : m_dn M_330 86 (.goto (-84)) 3 89 := by decide +kernel
theorem d_330_89 : m_dn M_330 89 (.iload_n 1) 1 90 := by decide +kernel
theorem d_330_9 : m_dn M_330 9 (.sipush 128) 3 12 := by decide +kernel
theorem d_330_90 : m_dn M_330 90 (.iconst 2) 1 91 := by decide +kernel
theorem d_330_91 : m_dn M_330 91 (.if_icmp .le 14) 3 94 := by decide +kernel
theorem d_330_94 : m_dn M_330 94 (.aload_n 0) 1 95 := by decide +kernel
theorem d_330_95 : m_dn M_330 95 (.iload_n 1) 1 96 := by decide +kernel
theorem d_330_96 : m_dn M_330 96 (.aload_n 0) 1 97 := by decide +kernel
theorem d_330_97 : m_dn M_330 97 (.getfield 115) 3 100 := by decide +kernel
theorem d_331_0 : m_dn M_331 0 (.iconst 2) 1 1 := by decide +kernel
theorem d_331_1 : m_dn M_331 1 (.iload_n 1) 1 2 := by decide +kernel
theorem d_331_12 : m_dn M_331 12 (.iload_n 3) 1 13 := by decide +kernel
theorem d_331_13 : m_dn M_331 13 (.dup2) 1 14 := by decide +kernel
theorem d_331_14 : m_dn M_331 14 (.iaload) 1 15 := by decide +kernel
theorem d_331_15 : m_dn M_331 15 (.iconst 1) 1 16 := by decide +kernel
theorem d_331_16 : m_dn M_331 16 (.iadd) 1 17 := by decide +kernel
theorem d_331_17 : m_dn M_331 17 (.iastore) 1 18 := by decide +kernel
theorem d_331_18 : m_dn M_331 18 (.aload_n 0) 1 19 := by decide +kernel
theorem d_331_19 : m_dn M_331 19 (.getfield 118) 3 22 := by decide +kernel
theorem d_331_2 : m_dn M_331 2 (.imul) 1 3 := by decide +kernel
theorem d_331_22 : m_dn M_331 22 (.iload_n 3) 1 23 := by decide +kernel
theorem d_331_23 : m_dn M_331 23 (.iaload) 1 24 := by decide +kernel
theorem d_331_24 : m_dn M_331 24 (.iconst 2) 1 25 := by decide +kernel
theorem d_331_25 : m_dn M_331 25 (.if_icmp .ge 4) 3 28 := by decide +kernel
theorem d_331_28 : m_dn M_331 28 (.return_) 1 29 := by decide +kernel
theorem d_331_29 : m_dn M_331 29 (.aload_n 0) 1 30 := by decide +kernel
theorem d_331_3 : m_dn M_331 3 (.iload_n 2) 1 4 := by decide +kernel
theorem d_331_30 : m_dn M_331 30 (.getfield 118) 3 33 := by decide +kernel
theorem d_331_33 : m_dn M_331 33 (.iload_n 3) 1 34 := by decide +kernel
theorem d_331_34 : m_dn M_331 34 (.iconst 0) 1 35 := by decide +kernel
theorem d_331_35 : m_dn M_331 35 (.iastore) 1 36 := by decide +kernel
theorem d_331_36 : m_dn M_331 36 (.aload_n 0) 1 37 := by decide +kernel
theorem d_331_37 : m_dn M_331 37 (.getfield 121) 3 40 := by decide +kernel
theorem d_331_4 : m_dn M_331 4 (.iadd) 1 5 := by decide +kernel
theorem d_331_40 : m_dn M_331 40 (.iload_n 3) 1 41 := by decide +kernel
theorem d_331_41 : m_dn M_331 41 (.aload_n 0) 1 42 := by decide +kernel
theorem d_331_42 : m_dn M_331 42 (.getfield 390) 3 45 := by decide +kernel
theorem d_331_45 : m_dn M_331 45 (.bipush 20) 2 47 := by decide +kernel
theorem d_331_47 : m_dn M_331 47 (.iadd) 1 48 := by decide +kernel
theorem d_331_48 : m_dn M_331 48 (.iastore) 1 49 := by decide +kernel
theorem d_331_49 : m_dn M_331 49 (.return_) 1 50 := by decide +kernel
theorem d_331_5 : m_dn M_331 5 (.iconst 1) 1 6 := by decide +kernel
theorem d_331_6 : m_dn M_331 6 (.isub) 1 7 := by decide +kernel
theorem d_331_7 : m_dn M_331 7 (.istore_n 3) 1 8 := by decide +kernel
theorem d_331_8 : m_dn M_331 8 (.aload_n 0) 1 9 := by decide +kernel
theorem d_331_9 : m_dn M_331 9 (.getfield 118) 3 12 := by decide +kernel
theorem d_332_0 : m_dn M_332 0 (.aload_n 0) 1 1 := by decide +kernel
theorem d_332_1 : m_dn M_332 1 (.iconst 0) 1 2 := by decide +kernel
theorem d_332_101 : m_dn M_332 101 (.iload_n 1) 1 102 := by decide +kernel
theorem d_332_102 : m_dn M_332 102 (.iconst 2) 1 103 := by decide +kernel
theorem d_332_103 : m_dn M_332 103 (.if_icmp .le 15) 3 106 := by decide +kernel
theorem d_332_106 : m_dn M_332 106 (.aload_n 0) 1 107 := by decide +kernel
theorem d_332_107 : m_dn M_332 107 (.iload_n 1) 1 108 := by decide +kernel
theorem d_332_108 : m_dn M_332 108 (.iload_n 2) 1 109 := by decide +kernel
theorem d_332_109 : m_dn M_332 109 (.invokevirtual 596) 3 112 := by decide +kernel
theorem d_332_112 : m_dn M_332 112 (.iinc 2 1) 3 115 := by decide +kernel
theorem d_332_115 : m_dn M_332 115 (.goto (-19)) 3 118 := by decide +kernel
theorem d_332_118 : m_dn M_332 118 (.aload_n 0) 1 119 := by decide +kernel
theorem d_332_119 : m_dn M_332 119 (.getfield 54) 3 122 := by decide +kernel
theorem d_332_12 : m_dn M_332 12 (.aload_n 0) 1 13 := by decide +kernel
theorem d_332_122 : m_dn M_332 122 (.iload_n 1) 1 123 := by decide +kernel
theorem d_332_123 : m_dn M_332 123 (.iconst 0) 1 124 := by decide +kernel
theorem d_332_124 : m_dn M_332 124 (.iastore) 1 125 := by decide +kernel
theorem d_332_125 : m_dn M_332 125 (.aload_n 0) 1 126 := by decide +kernel
theorem d_332_126 : m_dn M_332 126 (.getfield 42) 3 129 := by decide +kernel
theorem d_332_129 : m_dn M_332 129 (.iload_n 1) 1 130 := by decide +kernel
theorem d_332_13 : m_dn M_332 13 (.getfield 35) 3 16 := by decide +kernel
theorem d_332_130 : m_dn M_332 130 (.iconst 0) 1 131 := by decide +kernel
theorem d_332_131 : m_dn M_332 131 (.iastore) 1 132 := by decide +kernel
theorem d_332_132 : m_dn M_332 132 (.aload_n 0) 1 133 := by decide +kernel
theorem d_332_133 : m_dn M_332 133 (.iload_n 1) 1 134 := by decide +kernel
theorem d_332_134 : m_dn M_332 134 (.iconst (-1)) 1 135 := by decide +kernel
theorem d_332_135 : m_dn M_332 135 (.invokevirtual 590) 3 138 := by decide +kernel
theorem d_332_138 : m_dn M_332 138 (.istore_n 2) 1 139 := by decide +kernel
theorem d_332_139 : m_dn M_332 139 (.iconst 0) 1 140 := by decide +kernel
theorem d_332_140 : m_dn M_332 140 (.istore_n 3) 1 141 := by decide +kernel
theorem d_332_141 : m_dn M_332 141 (.iload_n 3) 1 142 := by decide +kernel
theorem d_332_142 : m_dn M_332 142 (.iload_n 2) 1 143 := by decide +kernel
theorem d_332_143 : m_dn M_332 143 (.if_icmp .ge 44) 3 146 := by decide +kernel
theorem d_332_146 : m_dn M_332 146 (.aload_n 0) 1 147 := by decide +kernel
theorem d_332_147 : m_dn M_332 147 (.getfield 134) 3 150 := by decide +kernel
theorem d_332_150 : m_dn M_332 150 (.bipush 12) 2 152 := by decide +kernel
theorem d_332_152 : m_dn M_332 152 (.iload_n 3) 1 153 := by decide +kernel
theorem d_332_153 : m_dn M_332 153 (.imul) 1 154 := by decide +kernel
theorem d_332_154 : m_dn M_332 154 (.iconst 2) 1 155 := by decide +kernel
theorem d_332_155 : m_dn M_332 155 (.iadd) 1 156 := by decide +kernel
theorem d_332_156 : m_dn M_332 156 (.iaload) 1 157 := by decide +kernel
theorem d_332_157 : m_dn M_332 157 (.iconst (-1)) 1 158 := by decide +kernel
theorem d_332_158 : m_dn M_332 158 (.if_icmp .eq 23) 3 161 := by decide +kernel
theorem d_332_16 : m_dn M_332 16 (.iload_n 1) 1 17 := by decide +kernel
theorem d_332_161 : m_dn M_332 161 (.aload_n 0) 1 162 := by decide +kernel
theorem d_332_162 : m_dn M_332 162 (.aload_n 0) 1 163 := by decide +kernel
theorem d_332_163 : m_dn M_332 163 (.getfield 134) 3 166 := by decide +kernel
theorem d_332_166 : m_dn M_332 166 (.bipush 12) 2 168 := by decide +kernel
theorem d_332_168 : m_dn M_332 168 (.iload_n 3) 1 169 := by decide +kernel
theorem d_332_169 : m_dn M_332 169 (.imul) 1 170 := by decide +kernel
theorem d_332_17 : m_dn M_332 17 (.baload) 1 18 := by decide +kernel
theorem d_332_170 : m_dn M_332 170 (.iconst 2) 1 171 := by decide +kernel
theorem d_332_171 : m_dn M_332 171 (.iadd) 1 172 := by decide +kernel
theorem d_332_172 : m_dn M_332 172 (.iaload) 1 173 := by decide +kernel
theorem d_332_173 : m_dn M_332 173 (.sipush 502) 3 176 := by decide +kernel
theorem d_332_176 : m_dn M_332 176 (.iconst 0) 1 177 := by decide +kernel
theorem d_332_177 : m_dn M_332 177 (.iconst 0) 1 178 := by decide +kernel
theorem d_332_178 : m_dn M_332 178 (.invokevirtual 497) 3 181 := by decide +kernel
theorem d_332_18 : m_dn M_332 18 (.ifCond .ne 5) 3 21 := by decide +kernel
theorem d_332_181 : m_dn M_332 181 (.iinc 3 1) 3 184 := by decide +kernel
theorem d_332_184 : m_dn M_332 184 (.goto (-43)) 3 187 := by decide +kernel
theorem d_332_187 : m_dn M_332 187 (.iconst 1) 1 188 := by decide +kernel
theorem d_332_188 : m_dn M_332 188 (.ireturn) 1 189 := by decide +kernel
theorem d_332_2 : m_dn M_332 2 (.putfield 155) 3 5 := by decide +kernel
theorem d_332_21 : m_dn M_332 21 (.iconst 0) 1 22 := by decide +kernel
theorem d_332_22 : m_dn M_332 22 (.ireturn) 1 23 := by decide +kernel
theorem d_332_23 : m_dn M_332 23 (.aload_n 0) 1 24 := by decide +kernel
theorem d_332_24 : m_dn M_332 24 (.getfield 35) 3 27 := by decide +kernel
theorem d_332_27 : m_dn M_332 27 (.iload_n 1) 1 28 := by decide +kernel
theorem d_332_28 : m_dn M_332 28 (.iconst 0) 1 29 := by decide +kernel
theorem d_332_29 : m_dn M_332 29 (.bastore) 1 30 := by decide +kernel
theorem d_332_30 : m_dn M_332 30 (.sipush 1024) 3 33 := by decide +kernel
theorem d_332_33 : m_dn M_332 33 (.iload_n 1) 1 34 := by decide +kernel
theorem d_332_34 : m_dn M_332 34 (.imul) 1 35 := by decide +kernel
theorem d_332_35 : m_dn M_332 35 (.istore_n 2) 1 36 := by decide +kernel
theorem d_332_36 : m_dn M_332 36 (.iload_n 2) 1 37 := by decide +kernel
theorem d_332_37 : m_dn M_332 37 (.sipush 1024) 3 40 := by decide +kernel
theorem d_332_40 : m_dn M_332 40 (.iload_n 1) 1 41 := by decide +kernel
theorem d_332_41 : m_dn M_332 41 (.imul) 1 42 := by decide +kernel
theorem d_332_42 : m_dn M_332 42 (.sipush 1024) 3 45 := by decide +kernel
theorem d_332_45 : m_dn M_332 45 (.iadd) 1 46 := by decide +kernel
theorem d_332_46 : m_dn M_332 46 (.if_icmp .ge 16) 3 49 := by decide +kernel
theorem d_332_49 : m_dn M_332 49 (.aload_n 0) 1 50 := by decide +kernel
theorem d_332_5 : m_dn M_332 5 (.iload_n 1) 1 6 := by decide +kernel
theorem d_332_50 : m_dn M_332 50 (.getfield 66) 3 53 := by decide +kernel
theorem d_332_53 : m_dn M_332 53 (.iload_n 2) 1 54 := by decide +kernel
theorem d_332_54 : m_dn M_332 54 (.iconst 0) 1 55 := by decide +kernel
theorem d_332_55 : m_dn M_332 55 (.bastore) 1 56 := by decide +kernel
theorem d_332_56 : m_dn M_332 56 (.iinc 2 1) 3 59 := by decide +kernel
theorem d_332_59 : m_dn M_332 59 (.goto (-23)) 3 62 := by decide +kernel
theorem d_332_6 : m_dn M_332 6 (.invokestatic 627) 3 9 := by decide +kernel
theorem d_332_62 : m_dn M_332 62 (.sipush 128) 3 65 := by decide +kernel
theorem d_332_65 : m_dn M_332 65 (.iload_n 1) 1 66 := by decide +kernel
theorem d_332_66 : m_dn M_332 66 (.imul) 1 67 := by decide +kernel
theorem d_332_67 : m_dn M_332 67 (.istore_n 2) 1 68 := by decide +kernel
theorem d_332_68 : m_dn M_332 68 (.iload_n 2) 1 69 := by decide +kernel
theorem d_332_69 : m_dn M_332 69 (.sipush 128) 3 72 := by decide +kernel
theorem d_332_72 : m_dn M_332 72 (.iload_n 1) 1 73 := by decide +kernel
theorem d_332_73 : m_dn M_332 73 (.imul) 1 74 := by decide +kernel
theorem d_332_74 : m_dn M_332 74 (.sipush 128) 3 77 := by decide +kernel
theorem d_332_77 : m_dn M_332 77 (.iadd) 1 78 := by decide +kernel
theorem d_332_78 : m_dn M_332 78 (.if_icmp .ge 16) 3 81 := by decide +kernel
theorem d_332_81 : m_dn M_332 81 (.aload_n 0) 1 82 := by decide +kernel
theorem d_332_82 : m_dn M_332 82 (.getfield 91) 3 85 := by decide +kernel
theorem d_332_85 : m_dn M_332 85 (.iload_n 2) 1 86 := by decide +kernel
theorem d_332_86 : m_dn M_332 86 (.iconst 0) 1 87 := by decide +kernel
theorem d_332_87 : m_dn M_332 87 (.bastore) 1 88 := by decide +kernel
theorem d_332_88 : m_dn M_332 88 (.iinc 2 1) 3 91 := by decide +kernel
theorem d_332_9 : m_dn M_332 9 (.ifCond .eq 12) 3 12 := by decide +kernel
theorem d_332_91 : m_dn M_332 91 (.goto (-23)) 3 94 := by decide +kernel
theorem d_332_94 : m_dn M_332 94 (.iconst 1) 1 95 := by decide +kernel
theorem d_332_95 : m_dn M_332 95 (.istore_n 2) 1 96 := by decide +kernel
theorem d_332_96 : m_dn M_332 96 (.iload_n 2) 1 97 := by decide +kernel
theorem d_332_97 : m_dn M_332 97 (.iconst 3) 1 98 := by decide +kernel
theorem d_332_98 : m_dn M_332 98 (.if_icmp .ge 20) 3 101 := by decide +kernel
theorem d_333_0 : m_dn M_333 0 (.iload_n 0) 1 1 := by decide +kernel
theorem d_333_1 : m_dn M_333 1 (.ifCond .le 13) 3 4 := by decide +kernel
theorem d_333_10 : m_dn M_333 10 (.iconst 1) 1 11 := by decide +kernel
theorem d_333_11 : m_dn M_333 11 (.goto 4) 3 14 := by decide +kernel
theorem d_333_14 : m_dn M_333 14 (.iconst 0) 1 15 := by decide +kernel
theorem d_333_15 : m_dn M_333 15 (.ireturn) 1 16 := by decide +kernel
theorem d_333_4 : m_dn M_333 4 (.iload_n 0) 1 5 := by decide +kernel
theorem d_333_5 : m_dn M_333 5 (.bipush 7) 2 7 := by decide +kernel
theorem d_333_7 : m_dn M_333 7 (.if_icmp .ge 7) 3 10 := by decide +kernel
theorem d_334_0 : m_dn M_334 0 (.aload_n 0) 1 1 := by decide +kernel
theorem d_334_1 : m_dn M_334 1 (.iconst 0) 1 2 := by decide +kernel
theorem d_334_12 : m_dn M_334 12 (.aload_n 0) 1 13 := by decide +kernel
theorem d_334_13 : m_dn M_334 13 (.getfield 35) 3 16 := by decide +kernel
theorem d_334_16 : m_dn M_334 16 (.iload_n 1) 1 17 := by decide +kernel
theorem d_334_17 : m_dn M_334 17 (.baload) 1 18 := by decide +kernel
theorem d_334_18 : m_dn M_334 18 (.ifCond .eq 5) 3 21 := by decide +kernel
theorem d_334_2 : m_dn M_334 2 (.putfield 155) 3 5 := by decide +kernel
theorem d_334_21 : m_dn M_334 21 (.iconst 0) 1 22 := by decide +kernel
theorem d_334_22 : m_dn M_334 22 (.ireturn) 1 23 := by decide +kernel
theorem d_334_23 : m_dn M_334 23 (.aload_n 0) 1 24 := by decide +kernel
theorem d_334_24 : m_dn M_334 24 (.getfield 35) 3 27 := by decide +kernel
theorem d_334_27 : m_dn M_334 27 (.iload_n 1) 1 28 := by decide +kernel
theorem d_334_28 : m_dn M_334 28 (.iconst 1) 1 29 := by decide +kernel
theorem d_334_29 : m_dn M_334 29 (.bastore) 1 30 := by decide +kernel
theorem d_334_30 : m_dn M_334 30 (.aload_n 0) 1 31 := by decide +kernel
theorem d_334_31 : m_dn M_334 31 (.getfield 42) 3 34 := by decide +kernel
theorem d_334_34 : m_dn M_334 34 (.iload_n 1) 1 35 := by decide +kernel
theorem d_334_35 : m_dn M_334 35 (.aload_n 0) 1 36 := by decide +kernel
theorem d_334_36 : m_dn M_334 36 (.getfield 581) 3 39 := by decide +kernel
theorem d_334_39 : m_dn M_334 39 (.iastore) 1 40 := by decide +kernel
theorem d_334_40 : m_dn M_334 40 (.iconst 3) 1 41 := by decide +kernel
theorem d_334_41 : m_dn M_334 41 (.istore_n 2) 1 42 := by decide +kernel
theorem d_334_42 : m_dn M_334 42 (.iload_n 2) 1 43 := by decide +kernel
theorem d_334_43 : m_dn M_334 43 (.bipush 7) 2 45 := by decide +kernel
theorem d_334_45 : m_dn M_334 45 (.if_icmp .ge 20) 3 48 := by decide +kernel
theorem d_334_48 : m_dn M_334 48 (.iload_n 1) 1 49 := by decide +kernel
theorem d_334_49 : m_dn M_334 49 (.iconst 3) 1 50 := by decide +kernel
theorem d_334_5 : m_dn M_334 5 (.iload_n 1) 1 6 := by decide +kernel
theorem d_334_50 : m_dn M_334 50 (.if_icmp .ge 15) 3 53 := by decide +kernel
theorem d_334_53 : m_dn M_334 53 (.aload_n 0) 1 54 := by decide +kernel
theorem d_334_54 : m_dn M_334 54 (.iload_n 2) 1 55 := by decide +kernel
theorem d_334_55 : m_dn M_334 55 (.iload_n 1) 1 56 := by decide +kernel
theorem d_334_56 : m_dn M_334 56 (.invokevirtual 596) 3 59 := by decide +kernel
theorem d_334_59 : m_dn M_334 59 (.iinc 2 1) 3 62 := by decide +kernel
theorem d_334_6 : m_dn M_334 6 (.invokestatic 627) 3 9 := by decide +kernel
theorem d_334_62 : m_dn M_334 62 (.goto (-20)) 3 65 := by decide +kernel
theorem d_334_65 : m_dn M_334 65 (.iconst 1) 1 66 := by decide +kernel
theorem d_334_66 : m_dn M_334 66 (.ireturn) 1 67 := by decide +kernel
theorem d_334_9 : m_dn M_334 9 (.ifCond .eq 12) 3 12 := by decide +kernel
theorem d_335_0 : m_dn M_335 0 (.aload_n 0) 1 1 := by decide +kernel
theorem d_335_1 : m_dn M_335 1 (.iconst 0) 1 2 := by decide +kernel
theorem d_335_12 : m_dn M_335 12 (.iload_n 2) 1 13 := by decide +kernel
theorem d_335_13 : m_dn M_335 13 (.bipush 32) 2 15 := by decide +kernel
theorem d_335_15 : m_dn M_335 15 (.if_icmp .lt 10) 3 18 := by decide +kernel
theorem d_335_18 : m_dn M_335 18 (.iload_n 2) 1 19 := by decide +kernel
theorem d_335_19 : m_dn M_335 19 (.sipush 2000) 3 22 := by decide +kernel
theorem d_335_2 : m_dn M_335 2 (.putfield 155) 3 5 := by decide +kernel
theorem d_335_22 : m_dn M_335 22 (.if_icmp .le 5) 3 25 := by decide +kernel
theorem d_335_25 : m_dn M_335 25 (.iconst 0) 1 26 := by decide +kernel
theorem d_335_26 : m_dn M_335 26 (.ireturn) 1 27 := by decide +kernel
theorem d_335_27 : m_dn M_335 27 (.aload_n 0) 1 28 := by decide +kernel
theorem d_335_28 : m_dn M_335 28 (.getfield 39) 3 31 := by decide +kernel
theorem d_335_31 : m_dn M_335 31 (.iload_n 1) 1 32 := by decide +kernel
theorem d_335_32 : m_dn M_335 32 (.iload_n 2) 1 33 := by decide +kernel
theorem d_335_33 : m_dn M_335 33 (.iastore) 1 34 := by decide +kernel
theorem d_335_34 : m_dn M_335 34 (.aload_n 0) 1 35 := by decide +kernel
theorem d_335_35 : m_dn M_335 35 (.iload_n 1) 1 36 := by decide +kernel
theorem d_335_36 : m_dn M_335 36 (.invokevirtual 428) 3 39 := by decide +kernel
theorem d_335_39 : m_dn M_335 39 (.iconst 1) 1 40 := by decide +kernel
theorem d_335_40 : m_dn M_335 40 (.ireturn) 1 41 := by decide +kernel
theorem d_335_5 : m_dn M_335 5 (.iload_n 1) 1 6 := by decide +kernel
theorem d_335_6 : m_dn M_335 6 (.invokestatic 627) 3 9 := by decide +kernel
theorem d_335_9 : m_dn M_335 9 (.ifCond .eq 16) 3 12 := by decide +kernel
theorem d_337_0 : m_dn M_337 0 (.aload_n 0) 1 1 := by decide +kernel
theorem d_337_1 : m_dn M_337 1 (.getfield 146) 3 4 := by decide +kernel
theorem d_337_10 : m_dn M_337 10 (.aload_n 0) 1 11 := by decide +kernel
theorem d_337_11 : m_dn M_337 11 (.getfield 146) 3 14 := by decide +kernel
theorem d_337_14 : m_dn M_337 14 (.bipush 9) 2 16 := by decide +kernel
theorem d_337_16 : m_dn M_337 16 (.iload_n 1) 1 17 := by decide +kernel
theorem d_337_17 : m_dn M_337 17 (.imul) 1 18 := by decide +kernel
theorem d_337_18 : m_dn M_337 18 (.iconst 3) 1 19 := by decide +kernel
theorem d_337_19 : m_dn M_337 19 (.iadd) 1 20 := by decide +kernel
theorem d_337_20 : m_dn M_337 20 (.iaload) 1 21 := by decide +kernel
theorem d_337_21 : m_dn M_337 21 (.istore_n 3) 1 22 := by decide +kernel
theorem d_337_22 : m_dn M_337 22 (.iload_n 2) 1 23 := by decide +kernel
theorem d_337_23 : m_dn M_337 23 (.sipush 200) 3 26 := by decide +kernel
theorem d_337_26 : m_dn M_337 26 (.if_icmp .ne 7) 3 29 := by decide +kernel
theorem d_337_29 : m_dn M_337 29 (.iload_n 3) 1 30 := by decide +kernel
theorem d_337_30 : m_dn M_337 30 (.goto 37) 3 33 := by decide +kernel
theorem d_337_33 : m_dn M_337 33 (.iload_n 2) 1 34 := by decide +kernel
theorem d_337_34 : m_dn M_337 34 (.sipush 206) 3 37 := by decide +kernel
theorem d_337_37 : m_dn M_337 37 (.if_icmp .ne 29) 3 40 := by decide +kernel
theorem d_337_4 : m_dn M_337 4 (.bipush 9) 2 6 := by decide +kernel
theorem d_337_40 : m_dn M_337 40 (.aload_n 0) 1 41 := by decide +kernel
theorem d_337_41 : m_dn M_337 41 (.iload_n 1) 1 42 := by decide +kernel
theorem d_337_42 : m_dn M_337 42 (.iload_n 3) 1 43 := by decide +kernel
theorem d_337_43 : m_dn M_337 43 (.aload_n 0) 1 44 := by decide +kernel
theorem d_337_44 : m_dn M_337 44 (.iload_n 1) 1 45 := by decide +kernel
theorem d_337_45 : m_dn M_337 45 (.invokevirtual 660) 3 48 := by decide +kernel
theorem d_337_48 : m_dn M_337 48 (.invokevirtual 446) 3 51 := by decide +kernel
theorem d_337_51 : m_dn M_337 51 (.aload_n 0) 1 52 := by decide +kernel
theorem d_337_52 : m_dn M_337 52 (.iload_n 1) 1 53 := by decide +kernel
theorem d_337_53 : m_dn M_337 53 (.iload_n 3) 1 54 := by decide +kernel
theorem d_337_54 : m_dn M_337 54 (.aload_n 0) 1 55 := by decide +kernel
theorem d_337_55 : m_dn M_337 55 (.iload_n 1) 1 56 := by decide +kernel
theorem d_337_56 : m_dn M_337 56 (.invokevirtual 660) 3 59 := by decide +kernel
theorem d_337_59 : m_dn M_337 59 (.invokevirtual 442) 3 62 := by decide +kernel
theorem d_337_6 : m_dn M_337 6 (.iload_n 1) 1 7 := by decide +kernel
theorem d_337_62 : m_dn M_337 62 (.isub) 1 63 := by decide +kernel
theorem d_337_63 : m_dn M_337 63 (.goto 4) 3 66 := by decide +kernel
theorem d_337_66 : m_dn M_337 66 (.iconst 0) 1 67 := by decide +kernel
theorem d_337_67 : m_dn M_337 67 (.ireturn) 1 68 := by decide +kernel
theorem d_337_7 : m_dn M_337 7 (.imul) 1 8 := by decide +kernel
theorem d_337_8 : m_dn M_337 8 (.iaload) 1 9 := by decide +kernel
theorem d_337_9 : m_dn M_337 9 (.istore_n 2) 1 10 := by decide +kernel
theorem d_338_0 : m_dn M_338 0 (.bipush 8) 2 2 := by decide +kernel
theorem d_338_10 : m_dn M_338 10 (.iconst 1) 1 11 := by decide +kernel
theorem d_338_11 : m_dn M_338 11 (.iadd) 1 12 := by decide +kernel
theorem d_338_12 : m_dn M_338 12 (.iaload) 1 13 := by decide +kernel
theorem d_338_13 : m_dn M_338 13 (.imul) 1 14 := by decide +kernel
theorem d_338_14 : m_dn M_338 14 (.aload_n 0) 1 15 := by decide +kernel
theorem d_338_15 : m_dn M_338 15 (.getfield 146) 3 18 := by decide +kernel
theorem d_338_18 : m_dn M_338 18 (.bipush 9) 2 20 := by decide +kernel
theorem d_338_2 : m_dn M_338 2 (.aload_n 0) 1 3 := by decide +kernel
theorem d_338_20 : m_dn M_338 20 (.iload_n 1) 1 21 := by decide +kernel
theorem d_338_21 : m_dn M_338 21 (.imul) 1 22 := by decide +kernel
theorem d_338_22 : m_dn M_338 22 (.bipush 7) 2 24 := by decide +kernel
theorem d_338_24 : m_dn M_338 24 (.iadd) 1 25 := by decide +kernel
theorem d_338_25 : m_dn M_338 25 (.iaload) 1 26 := by decide +kernel
theorem d_338_26 : m_dn M_338 26 (.iadd) 1 27 := by decide +kernel
theorem d_338_27 : m_dn M_338 27 (.ireturn) 1 28 := by decide +kernel
theorem d_338_3 : m_dn M_338 3 (.getfield 146) 3 6 := by decide +kernel
theorem d_338_6 : m_dn M_338 6 (.bipush 9) 2 8 := by decide +kernel
theorem d_338_8 : m_dn M_338 8 (.iload_n 1) 1 9 := by decide +kernel
theorem d_338_9 : m_dn M_338 9 (.imul) 1 10 := by decide +kernel
theorem d_341_0 : m_dn M_341 0 (.iconst 1) 1 1 := by decide +kernel
theorem d_341_1 : m_dn M_341 1 (.istore_n 2) 1 2 := by decide +kernel
theorem d_341_10 : m_dn M_341 10 (.iload_n 2) 1 11 := by decide +kernel
theorem d_341_11 : m_dn M_341 11 (.bipush 10) 2 13 := by decide +kernel
theorem d_341_13 : m_dn M_341 13 (.imul) 1 14 := by decide +kernel
theorem d_341_14 : m_dn M_341 14 (.istore_n 2) 1 15 := by decide +kernel
theorem d_341_15 : m_dn M_341 15 (.goto (-13)) 3 18 := by decide +kernel
theorem d_341_18 : m_dn M_341 18 (.iload_n 2) 1 19 := by decide +kernel
theorem d_341_19 : m_dn M_341 19 (.ifCond .le 39) 3 22 := by decide +kernel
theorem d_341_2 : m_dn M_341 2 (.iload_n 1) 1 3 := by decide +kernel
theorem d_341_22 : m_dn M_341 22 (.aload_n 0) 1 23 := by decide +kernel
theorem d_341_23 : m_dn M_341 23 (.getfield 152) 3 26 := by decide +kernel
theorem d_341_26 : m_dn M_341 26 (.aload_n 0) 1 27 := by decide +kernel
theorem d_341_27 : m_dn M_341 27 (.getfield 630) 3 30 := by decide +kernel
theorem d_341_3 : m_dn M_341 3 (.iload_n 2) 1 4 := by decide +kernel
theorem d_341_30 : m_dn M_341 30 (.bipush 48) 2 32 := by decide +kernel
theorem d_341_32 : m_dn M_341 32 (.iload_n 1) 1 33 := by decide +kernel
theorem d_341_33 : m_dn M_341 33 (.iload_n 2) 1 34 := by decide +kernel
theorem d_341_34 : m_dn M_341 34 (.idiv) 1 35 := by decide +kernel
theorem d_341_35 : m_dn M_341 35 (.bipush 10) 2 37 := by decide +kernel
theorem d_341_37 : m_dn M_341 37 (.irem) 1 38 := by decide +kernel
theorem d_341_38 : m_dn M_341 38 (.iadd) 1 39 := by decide +kernel
theorem d_341_39 : m_dn M_341 39 (.iastore) 1 40 := by decide +kernel
theorem d_341_4 : m_dn M_341 4 (.idiv) 1 5 := by decide +kernel
theorem d_341_40 : m_dn M_341 40 (.aload_n 0) 1 41 := by decide +kernel
theorem d_341_41 : m_dn M_341 41 (.dup) 1 42 := by decide +kernel
theorem d_341_42 : m_dn M_341 42 (.getfield 630) 3 45 := by decide +kernel
theorem d_341_45 : m_dn M_341 45 (.iconst 1) 1 46 := by decide +kernel
theorem d_341_46 : m_dn M_341 46 (.iadd) 1 47 := by decide +kernel
theorem d_341_47 : m_dn M_341 47 (.putfield 630) 3 50 := by decide +kernel
theorem d_341_5 : m_dn M_341 5 (.bipush 9) 2 7 := by decide +kernel
theorem d_341_50 : m_dn M_341 50 (.iload_n 2) 1 51 := by decide +kernel
theorem d_341_51 : m_dn M_341 51 (.bipush 10) 2 53 := by decide +kernel
theorem d_341_53 : m_dn M_341 53 (.idiv) 1 54 := by decide +kernel
theorem d_341_54 : m_dn M_341 54 (.istore_n 2) 1 55 := by decide +kernel
theorem d_341_55 : m_dn M_341 55 (.goto (-37)) 3 58 := by decide +kernel
theorem d_341_58 : m_dn M_341 58 (.return_) 1 59 := by decide +kernel
theorem d_341_7 : m_dn M_341 7 (.if_icmp .le 11) 3 10 := by decide +kernel
theorem d_342_0 : m_dn M_342 0 (.iconst 0) 1 1 := by decide +kernel
theorem d_342_1 : m_dn M_342 1 (.istore_n 2) 1 2 := by decide +kernel
theorem d_342_10 : m_dn M_342 10 (.aload_n 0) 1 11 := by decide +kernel
theorem d_342_11 : m_dn M_342 11 (.getfield 152) 3 14 := by decide +kernel
theorem d_342_14 : m_dn M_342 14 (.aload_n 0) 1 15 := by decide +kernel
theorem d_342_15 : m_dn M_342 15 (.getfield 630) 3 18 := by decide +kernel
theorem d_342_18 : m_dn M_342 18 (.aload_n 1) 1 19 := by decide +kernel
theorem d_342_19 : m_dn M_342 19 (.iload_n 2) 1 20 := by decide +kernel
theorem d_342_2 : m_dn M_342 2 (.iload_n 2) 1 3 := by decide +kernel
theorem d_342_20 : m_dn M_342 20 (.invokevirtual 186) 3 23 := by decide +kernel
theorem d_342_23 : m_dn M_342 23 (.iastore) 1 24 := by decide +kernel
theorem d_342_24 : m_dn M_342 24 (.aload_n 0) 1 25 := by decide +kernel
theorem d_342_25 : m_dn M_342 25 (.dup) 1 26 := by decide +kernel
theorem d_342_26 : m_dn M_342 26 (.getfield 630) 3 29 := by decide +kernel
theorem d_342_29 : m_dn M_342 29 (.iconst 1) 1 30 := by decide +kernel
theorem d_342_3 : m_dn M_342 3 (.aload_n 1) 1 4 := by decide +kernel
theorem d_342_30 : m_dn M_342 30 (.iadd) 1 31 := by decide +kernel
theorem d_342_31 : m_dn M_342 31 (.putfield 630) 3 34 := by decide +kernel
theorem d_342_34 : m_dn M_342 34 (.iinc 2 1) 3 37 := by decide +kernel
theorem d_342_37 : m_dn M_342 37 (.goto (-35)) 3 40 := by decide +kernel
theorem d_342_4 : m_dn M_342 4 (.invokevirtual 181) 3 7 := by decide +kernel
theorem d_342_40 : m_dn M_342 40 (.return_) 1 41 := by decide +kernel
theorem d_342_7 : m_dn M_342 7 (.if_icmp .ge 33) 3 10 := by decide +kernel
def D_m_fault (F : Nat) (S : mS) : Option (Int32 × mS) := (fput S 0 (0 : Int32)).bind fun S1 => some ((S1.1 3), S1)
theorem T_m_fault {l : Launch} {w : List mM} {F : Nat} {S : mS} {r : Int32 × mS} (h : m_RM S w) (h0 : D_m_fault F S = some r) : m_Rs l M_313 (m_ent M_313 [.ref 583] w) (fun v w' => v = some (.int r.1) ∧ m_RM r.2 w' ∧ m_Fq w w') 0 0 0 0 := by
  show m_Rs l M_313 (0, [(0, .ref 583)], [], w) _ 0 0 0 0
  generalize hw0 : w = w0 at h ⊢
  have hF : m_Fq w0 w0 := m_Fq.refl
  rw [D_m_fault] at h0
  refine m_Rs.n0 b_313 (x_aload_n d_313_0 rfl) ?_
  refine m_Rs.n0 b_313 (x_iconst (z := 0) d_313_1 (by decide)) ?_
  obtain ⟨S1, e2, h0⟩ := bS h0
  refine m_Rs.dfput b_313 d_313_2 h hF e2 rfl rfl rfl rfl rfl rfl (fun w1 h hF => ?_)
  refine m_Rs.n0 b_313 (x_aload_n d_313_5 rfl) ?_
  refine m_Rs.n0 b_313 (x_getf d_313_6 rfl h.1 rfl) ?_
  exact m_Rs.ret b_313 (m_rt_ir d_313_9 rfl rfl) (rP h0 h hF)
def D_m_remove_5 (F : Nat) : Nat → Int32 → mS → Option (mS)
  | 0, _, _ => none
  | n + 1, x2, S => cond (m_c2 .ge x2 ((22 : Int32) * ((S.1 77) - (1 : Int32)))) ((fput S 77 ((S.1 77) - (1 : Int32))).bind fun S2 => some S2) ((aget 0 2200 S 624 (x2 + (22 : Int32))).bind fun v4 => (aput 2200 S 624 x2 v4).bind fun S6 => D_m_remove_5 F n (x2 + Int32.ofInt 1) S6)
theorem T_m_remove_5 {l : Launch} {w0 : List mM} {F : Nat} : ∀ (n : Nat) {x2 : Int32} {S : mS} {w : List mM} {r : mS}, m_RM S w → m_Fq w0 w → D_m_remove_5 F n x2 S = some r → m_Rs l M_316 (5, [(0, .ref 583), (2, .int x2)], [], w) (fun v w' => v = none ∧ m_RM r w' ∧ m_Fq w0 w') 0 0 0 0 := by
  intro n
  induction n with
  | zero => intro x2 S w r h hF h0; cases h0
  | succ n ih =>
    intro x2 S w r h hF h0
    rw [D_m_remove_5] at h0
    refine m_Rs.n0 b_316 (x_iload_n d_316_5 rfl) ?_
    refine m_Rs.n0 b_316 (x_bipush (z := 22) d_316_6 (by decide)) ?_
    refine m_Rs.n0 b_316 (x_aload_n d_316_8 rfl) ?_
    refine m_Rs.n0 b_316 (x_getf d_316_9 rfl h.1 rfl) ?_
    refine m_Rs.n0 b_316 (x_iconst (z := 1) d_316_12 (by decide)) ?_
    refine m_Rs.n0 b_316 (x_isub d_316_13 rfl) ?_
    refine m_Rs.n0 b_316 (x_imul d_316_14 rfl) ?_
    cases hc1 : m_c2 .ge x2 ((22 : Int32) * ((S.1 77) - (1 : Int32))) with
    | true =>
      have h0 := cT hc1 h0
      refine m_Rs.n0 b_316 (x_ict d_316_15 rfl hc1) ?_
      refine m_Rs.n0 b_316 (x_aload_n d_316_39 rfl) ?_
      refine m_Rs.n0 b_316 (x_dup d_316_40 rfl) ?_
      refine m_Rs.n0 b_316 (x_getf d_316_41 rfl h.1 rfl) ?_
      refine m_Rs.n0 b_316 (x_iconst (z := 1) d_316_44 (by decide)) ?_
      refine m_Rs.n0 b_316 (x_isub d_316_45 rfl) ?_
      obtain ⟨S2, e3, h0⟩ := bS h0
      refine m_Rs.dfput b_316 d_316_46 h hF e3 rfl rfl rfl rfl rfl rfl (fun w1 h hF => ?_)
      exact m_Rs.ret b_316 (m_rt_vr d_316_49 rfl) (rV h0 h hF)
    | false =>
      have h0 := cF hc1 h0
      refine m_Rs.n0 b_316 (x_icf d_316_15 rfl hc1) ?_
      refine m_Rs.n0 b_316 (x_aload_n d_316_18 rfl) ?_
      refine m_Rs.n0 b_316 (x_getf d_316_19 rfl h.1 rfl) ?_
      refine m_Rs.n0 b_316 (x_iload_n d_316_22 rfl) ?_
      refine m_Rs.n0 b_316 (x_aload_n d_316_23 rfl) ?_
      refine m_Rs.n0 b_316 (x_getf d_316_24 rfl h.1 rfl) ?_
      refine m_Rs.n0 b_316 (x_iload_n d_316_27 rfl) ?_
      refine m_Rs.n0 b_316 (x_bipush (z := 22) d_316_28 (by decide)) ?_
      refine m_Rs.n0 b_316 (x_iadd d_316_30 rfl) ?_
      obtain ⟨v4, e5, h0⟩ := bS h0
      refine m_Rs.dget b_316 d_316_31 h 40 rfl e5 ?_
      obtain ⟨S6, e7, h0⟩ := bS h0
      refine m_Rs.dput b_316 d_316_32 h hF 40 rfl e7 (fun w1 h hF => ?_)
      refine m_Rs.n0 b_316 (x_iinc d_316_33 rfl rfl rfl (show m_put1 _ _ _ = [(2, _), (0, _)] from rfl)) ?_
      refine m_Rs.n0 b_316 (x_goto d_316_36 rfl) ?_
      exact m_Rs.pick [1, 0] rfl (ih h hF h0)
def D_m_remove (F : Nat) (a0 : Int32) (S : mS) : Option (mS) := D_m_remove_5 F F ((22 : Int32) * a0) S
theorem T_m_remove {l : Launch} {w : List mM} {F : Nat} {a0 : Int32} {S : mS} {r : mS} (h : m_RM S w) (h0 : D_m_remove F a0 S = some r) : m_Rs l M_316 (m_ent M_316 [.ref 583, .int a0] w) (fun v w' => v = none ∧ m_RM r w' ∧ m_Fq w w') 0 0 0 0 := by
  show m_Rs l M_316 (0, [(0, .ref 583), (1, .int a0)], [], w) _ 0 0 0 0
  generalize hw0 : w = w0 at h ⊢
  have hF : m_Fq w0 w0 := m_Fq.refl
  rw [D_m_remove] at h0
  refine m_Rs.n0 b_316 (x_bipush (z := 22) d_316_0 (by decide)) ?_
  refine m_Rs.n0 b_316 (x_iload_n d_316_2 rfl) ?_
  refine m_Rs.n0 b_316 (x_imul d_316_3 rfl) ?_
  refine m_Rs.n0 b_316 (x_istore_n d_316_4 rfl (show m_put1 _ _ _ = [(2, _), (0, _), (1, _)] from rfl)) ?_
  exact m_Rs.pick [1, 0] rfl (T_m_remove_5 F h hF h0)
def D_m_bringFetch_441 (F : Nat) (S : mS) : Option (mS) := (D_m_post F S).bind fun S116 => some S116
theorem T_m_bringFetch_441 {l : Launch} {w0 : List mM} {F : Nat} {S : mS} {w : List mM} {r : mS} (h : m_RM S w) (hF : m_Fq w0 w) (h0 : D_m_bringFetch_441 F S = some r) : m_Rs l M_317 (441, [(0, .ref 583)], [], w) (fun v w' => v = none ∧ m_RM r w' ∧ m_Fq w0 w') 0 0 9 900 := by
  rw [D_m_bringFetch_441] at h0
  refine m_Rs.n0 b_317 (x_aload_n d_317_441 rfl) ?_
  obtain ⟨S116, e117, h0⟩ := bS h0
  refine m_Rs.callSv b_317 (y_cv d_317_442 rfl q_305 (m_isRecv_of rfl h.1) (show m_takeI _ _ = some (_, [_], []) from rfl) (by simp only [m_okf, List.all_cons, List.all_nil, Bool.and_true, Bool.and_self, m_okv_i, m_okv_l, m_okv_0, m_okv_t, m_okv_at h.1]) rfl) (T_m_post h e117) hF rfl (fun w1 h hF => ?_) (by decide) (by decide)
  exact m_Rs.ret b_317 (m_rt_vr d_317_445 rfl) (rV h0 h hF)
def D_m_bringFetch_409 (F : Nat) : Nat → Int32 → Int32 → mS → Option (mS)
  | 0, _, _, _ => none
  | n + 1, x3, x7, S => cond (m_c2 .ge x7 (9 : Int32)) (D_m_bringFetch_441 F S) ((aget 0 288 S 589 (x3 + x7)).bind fun v112 => (aput 22 S 625 ((12 : Int32) + x7) v112).bind fun S114 => D_m_bringFetch_409 F n x3 (x7 + Int32.ofInt 1) S114)
theorem T_m_bringFetch_409 {l : Launch} {w0 : List mM} {F : Nat} : ∀ (n : Nat) {x3 : Int32} {x7 : Int32} {S : mS} {w : List mM} {r : mS}, m_RM S w → m_Fq w0 w → D_m_bringFetch_409 F n x3 x7 S = some r → m_Rs l M_317 (409, [(0, .ref 583), (3, .int x3), (7, .int x7)], [], w) (fun v w' => v = none ∧ m_RM r w' ∧ m_Fq w0 w') 0 0 9 900 := by
  intro n
  induction n with
  | zero => intro x3 x7 S w r h hF h0; cases h0
  | succ n ih =>
    intro x3 x7 S w r h hF h0
    rw [D_m_bringFetch_409] at h0
    refine m_Rs.n0 b_317 (x_iload d_317_409 rfl) ?_
    refine m_Rs.n0 b_317 (x_bipush (z := 9) d_317_411 (by decide)) ?_
    cases hc111 : m_c2 .ge x7 (9 : Int32) with
    | true =>
      have h0 := cT hc111 h0
      refine m_Rs.n0 b_317 (x_ict d_317_413 rfl hc111) ?_
      exact m_Rs.pick [0] rfl (T_m_bringFetch_441 h hF h0)
    | false =>
      have h0 := cF hc111 h0
      refine m_Rs.n0 b_317 (x_icf d_317_413 rfl hc111) ?_
      refine m_Rs.n0 b_317 (x_aload_n d_317_416 rfl) ?_
      refine m_Rs.n0 b_317 (x_getf d_317_417 rfl h.1 rfl) ?_
      refine m_Rs.n0 b_317 (x_bipush (z := 12) d_317_420 (by decide)) ?_
      refine m_Rs.n0 b_317 (x_iload d_317_422 rfl) ?_
      refine m_Rs.n0 b_317 (x_iadd d_317_424 rfl) ?_
      refine m_Rs.n0 b_317 (x_aload_n d_317_425 rfl) ?_
      refine m_Rs.n0 b_317 (x_getf d_317_426 rfl h.1 rfl) ?_
      refine m_Rs.n0 b_317 (x_iload_n d_317_429 rfl) ?_
      refine m_Rs.n0 b_317 (x_iload d_317_430 rfl) ?_
      refine m_Rs.n0 b_317 (x_iadd d_317_432 rfl) ?_
      obtain ⟨v112, e113, h0⟩ := bS h0
      refine m_Rs.dget b_317 d_317_433 h 5 rfl e113 ?_
      obtain ⟨S114, e115, h0⟩ := bS h0
      refine m_Rs.dput b_317 d_317_434 h hF 41 rfl e115 (fun w1 h hF => ?_)
      refine m_Rs.n0 b_317 (x_iinc d_317_435 rfl rfl rfl (show m_put1 _ _ _ = [(7, _), (0, _), (3, _)] from rfl)) ?_
      refine m_Rs.n0 b_317 (x_goto d_317_438 rfl) ?_
      exact m_Rs.pick [1, 2, 0] rfl (ih h hF h0)
def D_m_bringFetch (F : Nat) (a0 : Int32) (S : mS) : Option (mS) := (aget 0 22 S 628 (4 : Int32)).bind fun v1 => (aget 0 22 S 628 (5 : Int32)).bind fun v3 => cond (m_c1 .le a0) ((aget 0 22 S 628 (4 : Int32)).bind fun v6 => (aget 0 22 S 628 (6 : Int32)).bind fun v8 => (aget 0 22 S 628 (7 : Int32)).bind fun v10 => (aget 0 22 S 628 (1 : Int32)).bind fun v12 => (aget 0 22 S 628 (3 : Int32)).bind fun v14 => (D_m_blank F (1 : Int32) (0 : Int32) v12 v14 (((4 : Int32) * v1) + v3) S).bind fun S16 => (aget 0 288 S16 589 ((9 : Int32) * v6)).bind fun v18 => (cond (m_c1 .le v18) (some (0 : Int32)) ((aget 0 22 S16 628 (10 : Int32)).bind fun v23 => (aget 0 288 S16 589 ((9 : Int32) * v6)).bind fun v25 => cond (m_c2 .ne v23 v25) (some (0 : Int32)) (some (1 : Int32)))).bind fun v28 => (aget 0 288 S16 589 ((9 : Int32) * v6)).bind fun v29 => (cond (m_c1 .ne v29) (cond (m_c1 .eq v28) (some (200 : Int32)) (some (304 : Int32))) (some (404 : Int32))).bind fun v35 => (aput 22 S16 625 (6 : Int32) v35).bind fun S36 => (aget 0 288 S36 589 ((9 : Int32) * v6)).bind fun v38 => cond (m_c1 .le v38) (D_m_bringFetch_441 F S36) ((aget 0 288 S36 589 ((9 : Int32) * v6)).bind fun v41 => (aput 22 S36 625 (7 : Int32) v41).bind fun S43 => (aput 22 S43 625 (8 : Int32) (S43.1 37)).bind fun S45 => (aput 22 S45 625 (10 : Int32) (-(S45.1 36))).bind fun S47 => (cond (m_c1 .eq v28) ((aget 0 288 S47 589 (((9 : Int32) * v6) + (1 : Int32))).bind fun v52 => (D_m_span F v8 v10 v52 S47).bind fun v54 => some v54) (some (0 : Int32))).bind fun v56 => (aput 22 S47 625 (11 : Int32) v56).bind fun S57 => (aget 0 288 S57 589 (((9 : Int32) * v6) + (8 : Int32))).bind fun v59 => (aget 0 22 S57 628 (21 : Int32)).bind fun v61 => (D_m_whichOf F v59 v61 S57).bind fun v63 => (aput 22 S57 625 (21 : Int32) v63).bind fun S65 => D_m_bringFetch_409 F F ((9 : Int32) * v6) (0 : Int32) S65)) ((D_m_spare F S).bind fun v67 => (aput 48000 S 622 v67 a0).bind fun S69 => (aput 48000 S69 622 (v67 + (1 : Int32)) (((4 : Int32) * v1) + v3)).bind fun S71 => (aput 48000 S71 622 (v67 + (2 : Int32)) ((-1) : Int32)).bind fun S73 => (aget 0 22 S73 628 (1 : Int32)).bind fun v75 => (aput 48000 S73 622 (v67 + (3 : Int32)) v75).bind fun S77 => (aget 0 22 S77 628 (3 : Int32)).bind fun v79 => (aput 48000 S77 622 (v67 + (4 : Int32)) v79).bind fun S81 => (aget 0 22 S81 628 (6 : Int32)).bind fun v83 => (aput 48000 S81 622 (v67 + (5 : Int32)) v83).bind fun S85 => (aget 0 22 S85 628 (7 : Int32)).bind fun v87 => (aput 48000 S85 622 (v67 + (6 : Int32)) v87).bind fun S89 => (aget 0 22 S89 628 (8 : Int32)).bind fun v91 => (aput 48000 S89 622 (v67 + (7 : Int32)) v91).bind fun S93 => (aget 0 22 S93 628 (9 : Int32)).bind fun v95 => (aput 48000 S93 622 (v67 + (8 : Int32)) v95).bind fun S97 => (aget 0 22 S97 628 (10 : Int32)).bind fun v99 => (aput 48000 S97 622 (v67 + (9 : Int32)) v99).bind fun S101 => (aput 48000 S101 622 (v67 + (10 : Int32)) (0 : Int32)).bind fun S103 => (aget 0 22 S103 628 (21 : Int32)).bind fun v105 => (aput 48000 S103 622 (v67 + (11 : Int32)) v105).bind fun S107 => (D_m_look F v67 S107).bind fun S109 => some S109)
theorem T_m_bringFetch {l : Launch} {w : List mM} {F : Nat} {a0 : Int32} {S : mS} {r : mS} (h : m_RM S w) (h0 : D_m_bringFetch F a0 S = some r) : m_Rs l M_317 (m_ent M_317 [.ref 583, .int a0] w) (fun v w' => v = none ∧ m_RM r w' ∧ m_Fq w w') 0 0 9 900 := by
  show m_Rs l M_317 (0, [(0, .ref 583), (1, .int a0)], [], w) _ 0 0 9 900
  generalize hw0 : w = w0 at h ⊢
  have hF : m_Fq w0 w0 := m_Fq.refl
  rw [D_m_bringFetch] at h0
  refine m_Rs.n0 b_317 (x_iconst (z := 4) d_317_0 (by decide)) ?_
  refine m_Rs.n0 b_317 (x_aload_n d_317_1 rfl) ?_
  refine m_Rs.n0 b_317 (x_getf d_317_2 rfl h.1 rfl) ?_
  refine m_Rs.n0 b_317 (x_iconst (z := 4) d_317_5 (by decide)) ?_
  obtain ⟨v1, e2, h0⟩ := bS h0
  refine m_Rs.dget b_317 d_317_6 h 44 rfl e2 ?_
  refine m_Rs.n0 b_317 (x_imul d_317_7 rfl) ?_
  refine m_Rs.n0 b_317 (x_aload_n d_317_8 rfl) ?_
  refine m_Rs.n0 b_317 (x_getf d_317_9 rfl h.1 rfl) ?_
  refine m_Rs.n0 b_317 (x_iconst (z := 5) d_317_12 (by decide)) ?_
  obtain ⟨v3, e4, h0⟩ := bS h0
  refine m_Rs.dget b_317 d_317_13 h 44 rfl e4 ?_
  refine m_Rs.n0 b_317 (x_iadd d_317_14 rfl) ?_
  refine m_Rs.n0 b_317 (x_istore_n d_317_15 rfl (show m_put1 _ _ _ = [(2, _), (0, _), (1, _)] from rfl)) ?_
  refine m_Rs.n0 b_317 (x_iload_n d_317_16 rfl) ?_
  cases hc5 : m_c1 .le a0 with
  | true =>
    have h0 := cT hc5 h0
    refine m_Rs.n0 b_317 (x_ift d_317_17 rfl hc5) ?_
    refine m_Rs.n0 b_317 (x_bipush (z := 9) d_317_189 (by decide)) ?_
    refine m_Rs.n0 b_317 (x_aload_n d_317_191 rfl) ?_
    refine m_Rs.n0 b_317 (x_getf d_317_192 rfl h.1 rfl) ?_
    refine m_Rs.n0 b_317 (x_iconst (z := 4) d_317_195 (by decide)) ?_
    obtain ⟨v6, e7, h0⟩ := bS h0
    refine m_Rs.dget b_317 d_317_196 h 44 rfl e7 ?_
    refine m_Rs.n0 b_317 (x_imul d_317_197 rfl) ?_
    refine m_Rs.n0 b_317 (x_istore_n d_317_198 rfl (show m_put1 _ _ _ = [(3, _), (2, _), (0, _), (1, _)] from rfl)) ?_
    refine m_Rs.n0 b_317 (x_aload_n d_317_199 rfl) ?_
    refine m_Rs.n0 b_317 (x_getf d_317_200 rfl h.1 rfl) ?_
    refine m_Rs.n0 b_317 (x_bipush (z := 6) d_317_203 (by decide)) ?_
    obtain ⟨v8, e9, h0⟩ := bS h0
    refine m_Rs.dget b_317 d_317_205 h 44 rfl e9 ?_
    refine m_Rs.n0 b_317 (x_istore d_317_206 rfl (show m_put1 _ _ _ = [(4, _), (3, _), (2, _), (0, _), (1, _)] from rfl)) ?_
    refine m_Rs.n0 b_317 (x_aload_n d_317_208 rfl) ?_
    refine m_Rs.n0 b_317 (x_getf d_317_209 rfl h.1 rfl) ?_
    refine m_Rs.n0 b_317 (x_bipush (z := 7) d_317_212 (by decide)) ?_
    obtain ⟨v10, e11, h0⟩ := bS h0
    refine m_Rs.dget b_317 d_317_214 h 44 rfl e11 ?_
    refine m_Rs.n0 b_317 (x_istore d_317_215 rfl (show m_put1 _ _ _ = [(5, _), (4, _), (3, _), (2, _), (0, _), (1, _)] from rfl)) ?_
    refine m_Rs.n0 b_317 (x_aload_n d_317_217 rfl) ?_
    refine m_Rs.n0 b_317 (x_iconst (z := 1) d_317_218 (by decide)) ?_
    refine m_Rs.n0 b_317 (x_iconst (z := 0) d_317_219 (by decide)) ?_
    refine m_Rs.n0 b_317 (x_aload_n d_317_220 rfl) ?_
    refine m_Rs.n0 b_317 (x_getf d_317_221 rfl h.1 rfl) ?_
    refine m_Rs.n0 b_317 (x_iconst (z := 1) d_317_224 (by decide)) ?_
    obtain ⟨v12, e13, h0⟩ := bS h0
    refine m_Rs.dget b_317 d_317_225 h 44 rfl e13 ?_
    refine m_Rs.n0 b_317 (x_aload_n d_317_226 rfl) ?_
    refine m_Rs.n0 b_317 (x_getf d_317_227 rfl h.1 rfl) ?_
    refine m_Rs.n0 b_317 (x_iconst (z := 3) d_317_230 (by decide)) ?_
    obtain ⟨v14, e15, h0⟩ := bS h0
    refine m_Rs.dget b_317 d_317_231 h 44 rfl e15 ?_
    refine m_Rs.n0 b_317 (x_iload_n d_317_232 rfl) ?_
    obtain ⟨S16, e17, h0⟩ := bS h0
    refine m_Rs.callSv b_317 (y_cv d_317_233 rfl q_304 (m_isRecv_of rfl h.1) (show m_takeI _ _ = some (_, [_, _, _, _, _, _], []) from rfl) (by simp only [m_okf, List.all_cons, List.all_nil, Bool.and_true, Bool.and_self, m_okv_i, m_okv_l, m_okv_0, m_okv_t, m_okv_at h.1]) rfl) (T_m_blank h e17) hF rfl (fun w1 h hF => ?_) (by decide) (by decide)
    refine m_Rs.n0 b_317 (x_aload_n d_317_236 rfl) ?_
    refine m_Rs.n0 b_317 (x_getf d_317_237 rfl h.1 rfl) ?_
    refine m_Rs.n0 b_317 (x_iload_n d_317_240 rfl) ?_
    obtain ⟨v18, e19, h0⟩ := bS h0
    refine m_Rs.dget b_317 d_317_241 h 5 rfl e19 ?_
    obtain ⟨v28, e21, h0⟩ := bS h0
    have kk20 : ∀ (xz : Int32) (w1 : List mM), xz = v28 → m_RM S16 w1 → m_Fq w0 w1 → m_Rs l M_317 (266, [(5, .int v10), (4, .int v8), (3, .int ((9 : Int32) * v6)), (2, .int (((4 : Int32) * v1) + v3)), (0, .ref 583), (1, .int a0)], [.int xz], w1) (fun v w' => v = none ∧ m_RM r w' ∧ m_Fq w0 w') 0 0 9 900 := by
      intro xz w ez h hF
      rw [ez]
      refine m_Rs.n0 b_317 (x_istore d_317_266 rfl (show m_put1 _ _ _ = [(6, _), (5, _), (4, _), (3, _), (2, _), (0, _), (1, _)] from rfl)) ?_
      refine m_Rs.n0 b_317 (x_aload_n d_317_268 rfl) ?_
      refine m_Rs.n0 b_317 (x_getf d_317_269 rfl h.1 rfl) ?_
      refine m_Rs.n0 b_317 (x_bipush (z := 6) d_317_272 (by decide)) ?_
      refine m_Rs.n0 b_317 (x_aload_n d_317_274 rfl) ?_
      refine m_Rs.n0 b_317 (x_getf d_317_275 rfl h.1 rfl) ?_
      refine m_Rs.n0 b_317 (x_iload_n d_317_278 rfl) ?_
      obtain ⟨v29, e30, h0⟩ := bS h0
      refine m_Rs.dget b_317 d_317_279 h 5 rfl e30 ?_
      obtain ⟨v35, e32, h0⟩ := bS h0
      have kk31 : ∀ (xz : Int32) (w1 : List mM), xz = v35 → m_RM S16 w1 → m_Fq w0 w1 → m_Rs l M_317 (303, [(6, .int v28), (5, .int v10), (4, .int v8), (3, .int ((9 : Int32) * v6)), (2, .int (((4 : Int32) * v1) + v3)), (0, .ref 583), (1, .int a0)], [.int xz, .int (6 : Int32), .ref 625], w1) (fun v w' => v = none ∧ m_RM r w' ∧ m_Fq w0 w') 0 0 9 900 := by
        intro xz w ez h hF
        rw [ez]
        obtain ⟨S36, e37, h0⟩ := bS h0
        refine m_Rs.dput b_317 d_317_303 h hF 41 rfl e37 (fun w1 h hF => ?_)
        refine m_Rs.n0 b_317 (x_aload_n d_317_304 rfl) ?_
        refine m_Rs.n0 b_317 (x_getf d_317_305 rfl h.1 rfl) ?_
        refine m_Rs.n0 b_317 (x_iload_n d_317_308 rfl) ?_
        obtain ⟨v38, e39, h0⟩ := bS h0
        refine m_Rs.dget b_317 d_317_309 h 5 rfl e39 ?_
        cases hc40 : m_c1 .le v38 with
        | true =>
          have h0 := cT hc40 h0
          refine m_Rs.n0 b_317 (x_ift d_317_310 rfl hc40) ?_
          exact m_Rs.pick [5] rfl (T_m_bringFetch_441 h hF h0)
        | false =>
          have h0 := cF hc40 h0
          refine m_Rs.n0 b_317 (x_iff d_317_310 rfl hc40) ?_
          refine m_Rs.n0 b_317 (x_aload_n d_317_313 rfl) ?_
          refine m_Rs.n0 b_317 (x_getf d_317_314 rfl h.1 rfl) ?_
          refine m_Rs.n0 b_317 (x_bipush (z := 7) d_317_317 (by decide)) ?_
          refine m_Rs.n0 b_317 (x_aload_n d_317_319 rfl) ?_
          refine m_Rs.n0 b_317 (x_getf d_317_320 rfl h.1 rfl) ?_
          refine m_Rs.n0 b_317 (x_iload_n d_317_323 rfl) ?_
          obtain ⟨v41, e42, h0⟩ := bS h0
          refine m_Rs.dget b_317 d_317_324 h 5 rfl e42 ?_
          obtain ⟨S43, e44, h0⟩ := bS h0
          refine m_Rs.dput b_317 d_317_325 h hF 41 rfl e44 (fun w1 h hF => ?_)
          refine m_Rs.n0 b_317 (x_aload_n d_317_326 rfl) ?_
          refine m_Rs.n0 b_317 (x_getf d_317_327 rfl h.1 rfl) ?_
          refine m_Rs.n0 b_317 (x_bipush (z := 8) d_317_330 (by decide)) ?_
          refine m_Rs.n0 b_317 (x_aload_n d_317_332 rfl) ?_
          refine m_Rs.n0 b_317 (x_getf d_317_333 rfl h.1 rfl) ?_
          obtain ⟨S45, e46, h0⟩ := bS h0
          refine m_Rs.dput b_317 d_317_336 h hF 41 rfl e46 (fun w1 h hF => ?_)
          refine m_Rs.n0 b_317 (x_aload_n d_317_337 rfl) ?_
          refine m_Rs.n0 b_317 (x_getf d_317_338 rfl h.1 rfl) ?_
          refine m_Rs.n0 b_317 (x_bipush (z := 10) d_317_341 (by decide)) ?_
          refine m_Rs.n0 b_317 (x_aload_n d_317_343 rfl) ?_
          refine m_Rs.n0 b_317 (x_getf d_317_344 rfl h.1 rfl) ?_
          refine m_Rs.n0 b_317 (x_ineg d_317_347 rfl) ?_
          obtain ⟨S47, e48, h0⟩ := bS h0
          refine m_Rs.dput b_317 d_317_348 h hF 41 rfl e48 (fun w1 h hF => ?_)
          refine m_Rs.n0 b_317 (x_aload_n d_317_349 rfl) ?_
          refine m_Rs.n0 b_317 (x_getf d_317_350 rfl h.1 rfl) ?_
          refine m_Rs.n0 b_317 (x_bipush (z := 11) d_317_353 (by decide)) ?_
          refine m_Rs.n0 b_317 (x_iload d_317_355 rfl) ?_
          obtain ⟨v56, e50, h0⟩ := bS h0
          have kk49 : ∀ (xz : Int32) (w1 : List mM), xz = v56 → m_RM S47 w1 → m_Fq w0 w1 → m_Rs l M_317 (379, [(6, .int v28), (5, .int v10), (4, .int v8), (3, .int ((9 : Int32) * v6)), (2, .int (((4 : Int32) * v1) + v3)), (0, .ref 583), (1, .int a0)], [.int xz, .int (11 : Int32), .ref 625], w1) (fun v w' => v = none ∧ m_RM r w' ∧ m_Fq w0 w') 0 0 9 900 := by
            intro xz w ez h hF
            rw [ez]
            obtain ⟨S57, e58, h0⟩ := bS h0
            refine m_Rs.dput b_317 d_317_379 h hF 41 rfl e58 (fun w1 h hF => ?_)
            refine m_Rs.n0 b_317 (x_aload_n d_317_380 rfl) ?_
            refine m_Rs.n0 b_317 (x_getf d_317_381 rfl h.1 rfl) ?_
            refine m_Rs.n0 b_317 (x_bipush (z := 21) d_317_384 (by decide)) ?_
            refine m_Rs.n0 b_317 (x_aload_n d_317_386 rfl) ?_
            refine m_Rs.n0 b_317 (x_getf d_317_387 rfl h.1 rfl) ?_
            refine m_Rs.n0 b_317 (x_iload_n d_317_390 rfl) ?_
            refine m_Rs.n0 b_317 (x_bipush (z := 8) d_317_391 (by decide)) ?_
            refine m_Rs.n0 b_317 (x_iadd d_317_393 rfl) ?_
            obtain ⟨v59, e60, h0⟩ := bS h0
            refine m_Rs.dget b_317 d_317_394 h 5 rfl e60 ?_
            refine m_Rs.n0 b_317 (x_aload_n d_317_395 rfl) ?_
            refine m_Rs.n0 b_317 (x_getf d_317_396 rfl h.1 rfl) ?_
            refine m_Rs.n0 b_317 (x_bipush (z := 21) d_317_399 (by decide)) ?_
            obtain ⟨v61, e62, h0⟩ := bS h0
            refine m_Rs.dget b_317 d_317_401 h 44 rfl e62 ?_
            obtain ⟨v63, e64, h0⟩ := bS h0
            refine m_Rs.callS b_317 (y_cs d_317_402 rfl q_279 (show m_takeS _ _ = some (_, [_, _], [_, _]) from rfl) (by simp only [m_okf, List.all_cons, List.all_nil, Bool.and_true, Bool.and_self, m_okv_i, m_okv_l, m_okv_0, m_okv_t, m_okv_at h.1, m_okv_at (h.a 41 rfl)]) rfl) (T_m_whichOf h e64) hF rfl (fun w1 h hF => ?_) (by decide) (by decide)
            obtain ⟨S65, e66, h0⟩ := bS h0
            refine m_Rs.dput b_317 d_317_405 h hF 41 rfl e66 (fun w1 h hF => ?_)
            refine m_Rs.n0 b_317 (x_iconst (z := 0) d_317_406 (by decide)) ?_
            refine m_Rs.n0 b_317 (x_istore d_317_407 rfl (show m_put1 _ _ _ = [(7, _), (6, _), (5, _), (4, _), (3, _), (2, _), (0, _), (1, _)] from rfl)) ?_
            exact m_Rs.pick [6, 4, 0] rfl (T_m_bringFetch_409 F h hF h0)
          cases hc51 : m_c1 .eq v28 with
          | true =>
            have e50 := cT hc51 e50
            refine m_Rs.n0 b_317 (x_ift d_317_357 rfl hc51) ?_
            refine m_Rs.n0 b_317 (x_iload d_317_364 rfl) ?_
            refine m_Rs.n0 b_317 (x_iload d_317_366 rfl) ?_
            refine m_Rs.n0 b_317 (x_aload_n d_317_368 rfl) ?_
            refine m_Rs.n0 b_317 (x_getf d_317_369 rfl h.1 rfl) ?_
            refine m_Rs.n0 b_317 (x_iload_n d_317_372 rfl) ?_
            refine m_Rs.n0 b_317 (x_iconst (z := 1) d_317_373 (by decide)) ?_
            refine m_Rs.n0 b_317 (x_iadd d_317_374 rfl) ?_
            obtain ⟨v52, e53, e50⟩ := bS e50
            refine m_Rs.dget b_317 d_317_375 h 5 rfl e53 ?_
            obtain ⟨v54, e55, e50⟩ := bS e50
            refine m_Rs.callS b_317 (y_cs d_317_376 rfl q_286 (show m_takeS _ _ = some (_, [_, _, _], [_, _]) from rfl) (by simp only [m_okf, List.all_cons, List.all_nil, Bool.and_true, Bool.and_self, m_okv_i, m_okv_l, m_okv_0, m_okv_t, m_okv_at h.1, m_okv_at (h.a 41 rfl)]) rfl) (T_m_span h e55) hF rfl (fun w1 h hF => ?_) (by decide) (by decide)
            exact kk49 _ _ (Option.some.inj e50) h hF
          | false =>
            have e50 := cF hc51 e50
            refine m_Rs.n0 b_317 (x_iff d_317_357 rfl hc51) ?_
            refine m_Rs.n0 b_317 (x_iconst (z := 0) d_317_360 (by decide)) ?_
            refine m_Rs.n0 b_317 (x_goto d_317_361 rfl) ?_
            exact kk49 _ _ (Option.some.inj e50) h hF
      cases hc33 : m_c1 .ne v29 with
      | true =>
        have e32 := cT hc33 e32
        refine m_Rs.n0 b_317 (x_ift d_317_280 rfl hc33) ?_
        refine m_Rs.n0 b_317 (x_iload d_317_289 rfl) ?_
        cases hc34 : m_c1 .eq v28 with
        | true =>
          have e32 := cT hc34 e32
          refine m_Rs.n0 b_317 (x_ift d_317_291 rfl hc34) ?_
          refine m_Rs.n0 b_317 (x_sipush (z := 200) d_317_300 (by decide)) ?_
          exact kk31 _ _ (Option.some.inj e32) h hF
        | false =>
          have e32 := cF hc34 e32
          refine m_Rs.n0 b_317 (x_iff d_317_291 rfl hc34) ?_
          refine m_Rs.n0 b_317 (x_sipush (z := 304) d_317_294 (by decide)) ?_
          refine m_Rs.n0 b_317 (x_goto d_317_297 rfl) ?_
          exact kk31 _ _ (Option.some.inj e32) h hF
      | false =>
        have e32 := cF hc33 e32
        refine m_Rs.n0 b_317 (x_iff d_317_280 rfl hc33) ?_
        refine m_Rs.n0 b_317 (x_sipush (z := 404) d_317_283 (by decide)) ?_
        refine m_Rs.n0 b_317 (x_goto d_317_286 rfl) ?_
        exact kk31 _ _ (Option.some.inj e32) h hF
    cases hc22 : m_c1 .le v18 with
    | true =>
      have e21 := cT hc22 e21
      refine m_Rs.n0 b_317 (x_ift d_317_242 rfl hc22) ?_
      refine m_Rs.n0 b_317 (x_iconst (z := 0) d_317_265 (by decide)) ?_
      exact kk20 _ _ (Option.some.inj e21) h hF
    | false =>
      have e21 := cF hc22 e21
      refine m_Rs.n0 b_317 (x_iff d_317_242 rfl hc22) ?_
      refine m_Rs.n0 b_317 (x_aload_n d_317_245 rfl) ?_
      refine m_Rs.n0 b_317 (x_getf d_317_246 rfl h.1 rfl) ?_
      refine m_Rs.n0 b_317 (x_bipush (z := 10) d_317_249 (by decide)) ?_
      obtain ⟨v23, e24, e21⟩ := bS e21
      refine m_Rs.dget b_317 d_317_251 h 44 rfl e24 ?_
      refine m_Rs.n0 b_317 (x_aload_n d_317_252 rfl) ?_
      refine m_Rs.n0 b_317 (x_getf d_317_253 rfl h.1 rfl) ?_
      refine m_Rs.n0 b_317 (x_iload_n d_317_256 rfl) ?_
      obtain ⟨v25, e26, e21⟩ := bS e21
      refine m_Rs.dget b_317 d_317_257 h 5 rfl e26 ?_
      cases hc27 : m_c2 .ne v23 v25 with
      | true =>
        have e21 := cT hc27 e21
        refine m_Rs.n0 b_317 (x_ict d_317_258 rfl hc27) ?_
        refine m_Rs.n0 b_317 (x_iconst (z := 0) d_317_265 (by decide)) ?_
        exact kk20 _ _ (Option.some.inj e21) h hF
      | false =>
        have e21 := cF hc27 e21
        refine m_Rs.n0 b_317 (x_icf d_317_258 rfl hc27) ?_
        refine m_Rs.n0 b_317 (x_iconst (z := 1) d_317_261 (by decide)) ?_
        refine m_Rs.n0 b_317 (x_goto d_317_262 rfl) ?_
        exact kk20 _ _ (Option.some.inj e21) h hF
  | false =>
    have h0 := cF hc5 h0
    refine m_Rs.n0 b_317 (x_iff d_317_17 rfl hc5) ?_
    refine m_Rs.n0 b_317 (x_aload_n d_317_20 rfl) ?_
    obtain ⟨v67, e68, h0⟩ := bS h0
    refine m_Rs.callS b_317 (y_cv d_317_21 rfl q_275 (m_isRecv_of rfl h.1) (show m_takeI _ _ = some (_, [_], []) from rfl) (by simp only [m_okf, List.all_cons, List.all_nil, Bool.and_true, Bool.and_self, m_okv_i, m_okv_l, m_okv_0, m_okv_t, m_okv_at h.1]) rfl) (T_m_spare h e68) hF rfl (fun w1 h hF => ?_) (by decide) (by decide)
    refine m_Rs.n0 b_317 (x_istore_n d_317_24 rfl (show m_put1 _ _ _ = [(3, _), (2, _), (0, _), (1, _)] from rfl)) ?_
    refine m_Rs.n0 b_317 (x_aload_n d_317_25 rfl) ?_
    refine m_Rs.n0 b_317 (x_getf d_317_26 rfl h.1 rfl) ?_
    refine m_Rs.n0 b_317 (x_iload_n d_317_29 rfl) ?_
    refine m_Rs.n0 b_317 (x_iload_n d_317_30 rfl) ?_
    obtain ⟨S69, e70, h0⟩ := bS h0
    refine m_Rs.dput b_317 d_317_31 h hF 38 rfl e70 (fun w1 h hF => ?_)
    refine m_Rs.n0 b_317 (x_aload_n d_317_32 rfl) ?_
    refine m_Rs.n0 b_317 (x_getf d_317_33 rfl h.1 rfl) ?_
    refine m_Rs.n0 b_317 (x_iload_n d_317_36 rfl) ?_
    refine m_Rs.n0 b_317 (x_iconst (z := 1) d_317_37 (by decide)) ?_
    refine m_Rs.n0 b_317 (x_iadd d_317_38 rfl) ?_
    refine m_Rs.n0 b_317 (x_iload_n d_317_39 rfl) ?_
    obtain ⟨S71, e72, h0⟩ := bS h0
    refine m_Rs.dput b_317 d_317_40 h hF 38 rfl e72 (fun w1 h hF => ?_)
    refine m_Rs.n0 b_317 (x_aload_n d_317_41 rfl) ?_
    refine m_Rs.n0 b_317 (x_getf d_317_42 rfl h.1 rfl) ?_
    refine m_Rs.n0 b_317 (x_iload_n d_317_45 rfl) ?_
    refine m_Rs.n0 b_317 (x_iconst (z := 2) d_317_46 (by decide)) ?_
    refine m_Rs.n0 b_317 (x_iadd d_317_47 rfl) ?_
    refine m_Rs.n0 b_317 (x_iconst (z := (-1)) d_317_48 (by decide)) ?_
    obtain ⟨S73, e74, h0⟩ := bS h0
    refine m_Rs.dput b_317 d_317_49 h hF 38 rfl e74 (fun w1 h hF => ?_)
    refine m_Rs.n0 b_317 (x_aload_n d_317_50 rfl) ?_
    refine m_Rs.n0 b_317 (x_getf d_317_51 rfl h.1 rfl) ?_
    refine m_Rs.n0 b_317 (x_iload_n d_317_54 rfl) ?_
    refine m_Rs.n0 b_317 (x_iconst (z := 3) d_317_55 (by decide)) ?_
    refine m_Rs.n0 b_317 (x_iadd d_317_56 rfl) ?_
    refine m_Rs.n0 b_317 (x_aload_n d_317_57 rfl) ?_
    refine m_Rs.n0 b_317 (x_getf d_317_58 rfl h.1 rfl) ?_
    refine m_Rs.n0 b_317 (x_iconst (z := 1) d_317_61 (by decide)) ?_
    obtain ⟨v75, e76, h0⟩ := bS h0
    refine m_Rs.dget b_317 d_317_62 h 44 rfl e76 ?_
    obtain ⟨S77, e78, h0⟩ := bS h0
    refine m_Rs.dput b_317 d_317_63 h hF 38 rfl e78 (fun w1 h hF => ?_)
    refine m_Rs.n0 b_317 (x_aload_n d_317_64 rfl) ?_
    refine m_Rs.n0 b_317 (x_getf d_317_65 rfl h.1 rfl) ?_
    refine m_Rs.n0 b_317 (x_iload_n d_317_68 rfl) ?_
    refine m_Rs.n0 b_317 (x_iconst (z := 4) d_317_69 (by decide)) ?_
    refine m_Rs.n0 b_317 (x_iadd d_317_70 rfl) ?_
    refine m_Rs.n0 b_317 (x_aload_n d_317_71 rfl) ?_
    refine m_Rs.n0 b_317 (x_getf d_317_72 rfl h.1 rfl) ?_
    refine m_Rs.n0 b_317 (x_iconst (z := 3) d_317_75 (by decide)) ?_
    obtain ⟨v79, e80, h0⟩ := bS h0
    refine m_Rs.dget b_317 d_317_76 h 44 rfl e80 ?_
    obtain ⟨S81, e82, h0⟩ := bS h0
    refine m_Rs.dput b_317 d_317_77 h hF 38 rfl e82 (fun w1 h hF => ?_)
    refine m_Rs.n0 b_317 (x_aload_n d_317_78 rfl) ?_
    refine m_Rs.n0 b_317 (x_getf d_317_79 rfl h.1 rfl) ?_
    refine m_Rs.n0 b_317 (x_iload_n d_317_82 rfl) ?_
    refine m_Rs.n0 b_317 (x_iconst (z := 5) d_317_83 (by decide)) ?_
    refine m_Rs.n0 b_317 (x_iadd d_317_84 rfl) ?_
    refine m_Rs.n0 b_317 (x_aload_n d_317_85 rfl) ?_
    refine m_Rs.n0 b_317 (x_getf d_317_86 rfl h.1 rfl) ?_
    refine m_Rs.n0 b_317 (x_bipush (z := 6) d_317_89 (by decide)) ?_
    obtain ⟨v83, e84, h0⟩ := bS h0
    refine m_Rs.dget b_317 d_317_91 h 44 rfl e84 ?_
    obtain ⟨S85, e86, h0⟩ := bS h0
    refine m_Rs.dput b_317 d_317_92 h hF 38 rfl e86 (fun w1 h hF => ?_)
    refine m_Rs.n0 b_317 (x_aload_n d_317_93 rfl) ?_
    refine m_Rs.n0 b_317 (x_getf d_317_94 rfl h.1 rfl) ?_
    refine m_Rs.n0 b_317 (x_iload_n d_317_97 rfl) ?_
    refine m_Rs.n0 b_317 (x_bipush (z := 6) d_317_98 (by decide)) ?_
    refine m_Rs.n0 b_317 (x_iadd d_317_100 rfl) ?_
    refine m_Rs.n0 b_317 (x_aload_n d_317_101 rfl) ?_
    refine m_Rs.n0 b_317 (x_getf d_317_102 rfl h.1 rfl) ?_
    refine m_Rs.n0 b_317 (x_bipush (z := 7) d_317_105 (by decide)) ?_
    obtain ⟨v87, e88, h0⟩ := bS h0
    refine m_Rs.dget b_317 d_317_107 h 44 rfl e88 ?_
    obtain ⟨S89, e90, h0⟩ := bS h0
    refine m_Rs.dput b_317 d_317_108 h hF 38 rfl e90 (fun w1 h hF => ?_)
    refine m_Rs.n0 b_317 (x_aload_n d_317_109 rfl) ?_
    refine m_Rs.n0 b_317 (x_getf d_317_110 rfl h.1 rfl) ?_
    refine m_Rs.n0 b_317 (x_iload_n d_317_113 rfl) ?_
    refine m_Rs.n0 b_317 (x_bipush (z := 7) d_317_114 (by decide)) ?_
    refine m_Rs.n0 b_317 (x_iadd d_317_116 rfl) ?_
    refine m_Rs.n0 b_317 (x_aload_n d_317_117 rfl) ?_
    refine m_Rs.n0 b_317 (x_getf d_317_118 rfl h.1 rfl) ?_
    refine m_Rs.n0 b_317 (x_bipush (z := 8) d_317_121 (by decide)) ?_
    obtain ⟨v91, e92, h0⟩ := bS h0
    refine m_Rs.dget b_317 d_317_123 h 44 rfl e92 ?_
    obtain ⟨S93, e94, h0⟩ := bS h0
    refine m_Rs.dput b_317 d_317_124 h hF 38 rfl e94 (fun w1 h hF => ?_)
    refine m_Rs.n0 b_317 (x_aload_n d_317_125 rfl) ?_
    refine m_Rs.n0 b_317 (x_getf d_317_126 rfl h.1 rfl) ?_
    refine m_Rs.n0 b_317 (x_iload_n d_317_129 rfl) ?_
    refine m_Rs.n0 b_317 (x_bipush (z := 8) d_317_130 (by decide)) ?_
    refine m_Rs.n0 b_317 (x_iadd d_317_132 rfl) ?_
    refine m_Rs.n0 b_317 (x_aload_n d_317_133 rfl) ?_
    refine m_Rs.n0 b_317 (x_getf d_317_134 rfl h.1 rfl) ?_
    refine m_Rs.n0 b_317 (x_bipush (z := 9) d_317_137 (by decide)) ?_
    obtain ⟨v95, e96, h0⟩ := bS h0
    refine m_Rs.dget b_317 d_317_139 h 44 rfl e96 ?_
    obtain ⟨S97, e98, h0⟩ := bS h0
    refine m_Rs.dput b_317 d_317_140 h hF 38 rfl e98 (fun w1 h hF => ?_)
    refine m_Rs.n0 b_317 (x_aload_n d_317_141 rfl) ?_
    refine m_Rs.n0 b_317 (x_getf d_317_142 rfl h.1 rfl) ?_
    refine m_Rs.n0 b_317 (x_iload_n d_317_145 rfl) ?_
    refine m_Rs.n0 b_317 (x_bipush (z := 9) d_317_146 (by decide)) ?_
    refine m_Rs.n0 b_317 (x_iadd d_317_148 rfl) ?_
    refine m_Rs.n0 b_317 (x_aload_n d_317_149 rfl) ?_
    refine m_Rs.n0 b_317 (x_getf d_317_150 rfl h.1 rfl) ?_
    refine m_Rs.n0 b_317 (x_bipush (z := 10) d_317_153 (by decide)) ?_
    obtain ⟨v99, e100, h0⟩ := bS h0
    refine m_Rs.dget b_317 d_317_155 h 44 rfl e100 ?_
    obtain ⟨S101, e102, h0⟩ := bS h0
    refine m_Rs.dput b_317 d_317_156 h hF 38 rfl e102 (fun w1 h hF => ?_)
    refine m_Rs.n0 b_317 (x_aload_n d_317_157 rfl) ?_
    refine m_Rs.n0 b_317 (x_getf d_317_158 rfl h.1 rfl) ?_
    refine m_Rs.n0 b_317 (x_iload_n d_317_161 rfl) ?_
    refine m_Rs.n0 b_317 (x_bipush (z := 10) d_317_162 (by decide)) ?_
    refine m_Rs.n0 b_317 (x_iadd d_317_164 rfl) ?_
    refine m_Rs.n0 b_317 (x_iconst (z := 0) d_317_165 (by decide)) ?_
    obtain ⟨S103, e104, h0⟩ := bS h0
    refine m_Rs.dput b_317 d_317_166 h hF 38 rfl e104 (fun w1 h hF => ?_)
    refine m_Rs.n0 b_317 (x_aload_n d_317_167 rfl) ?_
    refine m_Rs.n0 b_317 (x_getf d_317_168 rfl h.1 rfl) ?_
    refine m_Rs.n0 b_317 (x_iload_n d_317_171 rfl) ?_
    refine m_Rs.n0 b_317 (x_bipush (z := 11) d_317_172 (by decide)) ?_
    refine m_Rs.n0 b_317 (x_iadd d_317_174 rfl) ?_
    refine m_Rs.n0 b_317 (x_aload_n d_317_175 rfl) ?_
    refine m_Rs.n0 b_317 (x_getf d_317_176 rfl h.1 rfl) ?_
    refine m_Rs.n0 b_317 (x_bipush (z := 21) d_317_179 (by decide)) ?_
    obtain ⟨v105, e106, h0⟩ := bS h0
    refine m_Rs.dget b_317 d_317_181 h 44 rfl e106 ?_
    obtain ⟨S107, e108, h0⟩ := bS h0
    refine m_Rs.dput b_317 d_317_182 h hF 38 rfl e108 (fun w1 h hF => ?_)
    refine m_Rs.n0 b_317 (x_aload_n d_317_183 rfl) ?_
    refine m_Rs.n0 b_317 (x_iload_n d_317_184 rfl) ?_
    obtain ⟨S109, e110, h0⟩ := bS h0
    refine m_Rs.callSv b_317 (y_cv d_317_185 rfl q_276 (m_isRecv_of rfl h.1) (show m_takeI _ _ = some (_, [_, _], []) from rfl) (by simp only [m_okf, List.all_cons, List.all_nil, Bool.and_true, Bool.and_self, m_okv_i, m_okv_l, m_okv_0, m_okv_t, m_okv_at h.1]) rfl) (T_m_look h e110) hF rfl (fun w1 h hF => ?_) (by decide) (by decide)
    exact m_Rs.ret b_317 (m_rt_vr d_317_188 rfl) (rV h0 h hF)
def D_m_forgive (F : Nat) (a0 : Int32) (a1 : Int32) (S : mS) : Option (mS) := (aput 14 S 618 ((((2 : Int32) * a0) + a1) - (1 : Int32)) (0 : Int32)).bind fun S1 => (aput 14 S1 619 ((((2 : Int32) * a0) + a1) - (1 : Int32)) (0 : Int32)).bind fun S3 => some S3
theorem T_m_forgive {l : Launch} {w : List mM} {F : Nat} {a0 : Int32} {a1 : Int32} {S : mS} {r : mS} (h : m_RM S w) (h0 : D_m_forgive F a0 a1 S = some r) : m_Rs l M_319 (m_ent M_319 [.ref 583, .int a0, .int a1] w) (fun v w' => v = none ∧ m_RM r w' ∧ m_Fq w w') 0 0 0 0 := by
  show m_Rs l M_319 (0, [(0, .ref 583), (1, .int a0), (2, .int a1)], [], w) _ 0 0 0 0
  generalize hw0 : w = w0 at h ⊢
  have hF : m_Fq w0 w0 := m_Fq.refl
  rw [D_m_forgive] at h0
  refine m_Rs.n0 b_319 (x_aload_n d_319_0 rfl) ?_
  refine m_Rs.n0 b_319 (x_getf d_319_1 rfl h.1 rfl) ?_
  refine m_Rs.n0 b_319 (x_iconst (z := 2) d_319_4 (by decide)) ?_
  refine m_Rs.n0 b_319 (x_iload_n d_319_5 rfl) ?_
  refine m_Rs.n0 b_319 (x_imul d_319_6 rfl) ?_
  refine m_Rs.n0 b_319 (x_iload_n d_319_7 rfl) ?_
  refine m_Rs.n0 b_319 (x_iadd d_319_8 rfl) ?_
  refine m_Rs.n0 b_319 (x_iconst (z := 1) d_319_9 (by decide)) ?_
  refine m_Rs.n0 b_319 (x_isub d_319_10 rfl) ?_
  refine m_Rs.n0 b_319 (x_iconst (z := 0) d_319_11 (by decide)) ?_
  obtain ⟨S1, e2, h0⟩ := bS h0
  refine m_Rs.dput b_319 d_319_12 h hF 34 rfl e2 (fun w1 h hF => ?_)
  refine m_Rs.n0 b_319 (x_aload_n d_319_13 rfl) ?_
  refine m_Rs.n0 b_319 (x_getf d_319_14 rfl h.1 rfl) ?_
  refine m_Rs.n0 b_319 (x_iconst (z := 2) d_319_17 (by decide)) ?_
  refine m_Rs.n0 b_319 (x_iload_n d_319_18 rfl) ?_
  refine m_Rs.n0 b_319 (x_imul d_319_19 rfl) ?_
  refine m_Rs.n0 b_319 (x_iload_n d_319_20 rfl) ?_
  refine m_Rs.n0 b_319 (x_iadd d_319_21 rfl) ?_
  refine m_Rs.n0 b_319 (x_iconst (z := 1) d_319_22 (by decide)) ?_
  refine m_Rs.n0 b_319 (x_isub d_319_23 rfl) ?_
  refine m_Rs.n0 b_319 (x_iconst (z := 0) d_319_24 (by decide)) ?_
  obtain ⟨S3, e4, h0⟩ := bS h0
  refine m_Rs.dput b_319 d_319_25 h hF 35 rfl e4 (fun w1 h hF => ?_)
  exact m_Rs.ret b_319 (m_rt_vr d_319_26 rfl) (rV h0 h hF)
def D_m_take_128 (F : Nat) (rec8 : Int32 → Int32 → Int32 → Int32 → Int32 → mS → Option (Int32 × mS)) (rec62 : Int32 → Int32 → Int32 → Int32 → Int32 → Int32 → Int32 → mS → Option (Int32 × mS)) (x1 : Int32) (x2 : Int32) (x3 : Int32) (x4 : Int32) (x5 : Int32) (x6 : Int32) (x7 : Int32) (S : mS) : Option (Int32 × mS) := rec62 x1 x2 x3 x4 x5 x6 (x7 + Int32.ofInt 1) S
theorem T_m_take_128 {l : Launch} {w0 : List mM} {F : Nat} {rec8 : Int32 → Int32 → Int32 → Int32 → Int32 → mS → Option (Int32 × mS)} {rec62 : Int32 → Int32 → Int32 → Int32 → Int32 → Int32 → Int32 → mS → Option (Int32 × mS)} (hr8 : ∀ {x1 : Int32} {x2 : Int32} {x3 : Int32} {x4 : Int32} {x5 : Int32} {S : mS} {w : List mM} {r : Int32 × mS}, m_RM S w → m_Fq w0 w → rec8 x1 x2 x3 x4 x5 S = some r → m_Rs l M_320 (8, [(0, .ref 583), (1, .int x1), (2, .int x2), (3, .int x3), (4, .int x4), (5, .int x5)], [], w) (fun v w' => v = some (.int r.1) ∧ m_RM r.2 w' ∧ m_Fq w0 w') 0 0 0 0) (hr62 : ∀ {x1 : Int32} {x2 : Int32} {x3 : Int32} {x4 : Int32} {x5 : Int32} {x6 : Int32} {x7 : Int32} {S : mS} {w : List mM} {r : Int32 × mS}, m_RM S w → m_Fq w0 w → rec62 x1 x2 x3 x4 x5 x6 x7 S = some r → m_Rs l M_320 (62, [(0, .ref 583), (1, .int x1), (2, .int x2), (3, .int x3), (4, .int x4), (5, .int x5), (6, .int x6), (7, .int x7)], [], w) (fun v w' => v = some (.int r.1) ∧ m_RM r.2 w' ∧ m_Fq w0 w') 0 0 0 0) {x1 : Int32} {x2 : Int32} {x3 : Int32} {x4 : Int32} {x5 : Int32} {x6 : Int32} {x7 : Int32} {S : mS} {w : List mM} {r : Int32 × mS} (h : m_RM S w) (hF : m_Fq w0 w) (h0 : D_m_take_128 F rec8 rec62 x1 x2 x3 x4 x5 x6 x7 S = some r) : m_Rs l M_320 (128, [(0, .ref 583), (1, .int x1), (2, .int x2), (3, .int x3), (4, .int x4), (5, .int x5), (6, .int x6), (7, .int x7)], [], w) (fun v w' => v = some (.int r.1) ∧ m_RM r.2 w' ∧ m_Fq w0 w') 0 0 0 0 := by
  rw [D_m_take_128] at h0
  refine m_Rs.n0 b_320 (x_iinc d_320_128 rfl rfl rfl (show m_put1 _ _ _ = [(7, _), (0, _), (1, _), (2, _), (3, _), (4, _), (5, _), (6, _)] from rfl)) ?_
  refine m_Rs.n0 b_320 (x_goto d_320_131 rfl) ?_
  exact m_Rs.pick [1, 2, 3, 4, 5, 6, 7, 0] rfl (hr62 h hF h0)
def D_m_take_62 (F : Nat) (rec8 : Int32 → Int32 → Int32 → Int32 → Int32 → mS → Option (Int32 × mS)) : Nat → Int32 → Int32 → Int32 → Int32 → Int32 → Int32 → Int32 → mS → Option (Int32 × mS)
  | 0, _, _, _, _, _, _, _, _ => none
  | n + 1, x1, x2, x3, x4, x5, x6, x7, S => cond (m_c2 .ge x7 (12 : Int32)) ((cond (m_c1 .eq x6) (some (0 : Int32)) (some (1 : Int32))).bind fun v18 => (cond (m_c1 .eq x6) (some (1 : Int32)) (some (0 : Int32))).bind fun v22 => rec8 x1 x2 (x3 + v18) (x4 + v22) (x5 + Int32.ofInt 1) S) (cond (m_c1 .eq x6) ((aget 0 48000 S 622 (((12 : Int32) * x5) + x7)).bind fun v31 => (aput 48000 S 622 (((12 : Int32) * x4) + x7) v31).bind fun S33 => D_m_take_128 F rec8 (D_m_take_62 F rec8 n) x1 x2 x3 x4 x5 x6 x7 S33) ((aget 0 48000 S 622 (((12 : Int32) * x5) + x7)).bind fun v35 => (aput 48000 S 623 (((12 : Int32) * x3) + x7) v35).bind fun S37 => D_m_take_128 F rec8 (D_m_take_62 F rec8 n) x1 x2 x3 x4 x5 x6 x7 S37))
theorem T_m_take_62 {l : Launch} {w0 : List mM} {F : Nat} {rec8 : Int32 → Int32 → Int32 → Int32 → Int32 → mS → Option (Int32 × mS)} (hr8 : ∀ {x1 : Int32} {x2 : Int32} {x3 : Int32} {x4 : Int32} {x5 : Int32} {S : mS} {w : List mM} {r : Int32 × mS}, m_RM S w → m_Fq w0 w → rec8 x1 x2 x3 x4 x5 S = some r → m_Rs l M_320 (8, [(0, .ref 583), (1, .int x1), (2, .int x2), (3, .int x3), (4, .int x4), (5, .int x5)], [], w) (fun v w' => v = some (.int r.1) ∧ m_RM r.2 w' ∧ m_Fq w0 w') 0 0 0 0) : ∀ (n : Nat) {x1 : Int32} {x2 : Int32} {x3 : Int32} {x4 : Int32} {x5 : Int32} {x6 : Int32} {x7 : Int32} {S : mS} {w : List mM} {r : Int32 × mS}, m_RM S w → m_Fq w0 w → D_m_take_62 F rec8 n x1 x2 x3 x4 x5 x6 x7 S = some r → m_Rs l M_320 (62, [(0, .ref 583), (1, .int x1), (2, .int x2), (3, .int x3), (4, .int x4), (5, .int x5), (6, .int x6), (7, .int x7)], [], w) (fun v w' => v = some (.int r.1) ∧ m_RM r.2 w' ∧ m_Fq w0 w') 0 0 0 0 := by
  intro n
  induction n with
  | zero => intro x1 x2 x3 x4 x5 x6 x7 S w r h hF h0; cases h0
  | succ n ih =>
    intro x1 x2 x3 x4 x5 x6 x7 S w r h hF h0
    rw [D_m_take_62] at h0
    refine m_Rs.n0 b_320 (x_iload d_320_62 rfl) ?_
    refine m_Rs.n0 b_320 (x_bipush (z := 12) d_320_64 (by decide)) ?_
    cases hc14 : m_c2 .ge x7 (12 : Int32) with
    | true =>
      have h0 := cT hc14 h0
      refine m_Rs.n0 b_320 (x_ict d_320_66 rfl hc14) ?_
      refine m_Rs.n0 b_320 (x_iload_n d_320_134 rfl) ?_
      refine m_Rs.n0 b_320 (x_iload d_320_135 rfl) ?_
      obtain ⟨v18, e16, h0⟩ := bS h0
      have kk15 : ∀ (xz : Int32) (w1 : List mM), xz = v18 → m_RM S w1 → m_Fq w0 w1 → m_Rs l M_320 (145, [(0, .ref 583), (1, .int x1), (2, .int x2), (3, .int x3), (4, .int x4), (5, .int x5), (6, .int x6), (7, .int x7)], [.int xz, .int x3], w1) (fun v w' => v = some (.int r.1) ∧ m_RM r.2 w' ∧ m_Fq w0 w') 0 0 0 0 := by
        intro xz w ez h hF
        rw [ez]
        refine m_Rs.n0 b_320 (x_iadd d_320_145 rfl) ?_
        refine m_Rs.n0 b_320 (x_istore_n d_320_146 rfl (show m_put1 _ _ _ = [(3, _), (0, _), (1, _), (2, _), (4, _), (5, _), (6, _), (7, _)] from rfl)) ?_
        refine m_Rs.n0 b_320 (x_iload d_320_147 rfl) ?_
        refine m_Rs.n0 b_320 (x_iload d_320_149 rfl) ?_
        obtain ⟨v22, e20, h0⟩ := bS h0
        have kk19 : ∀ (xz : Int32) (w1 : List mM), xz = v22 → m_RM S w1 → m_Fq w0 w1 → m_Rs l M_320 (159, [(3, .int (x3 + v18)), (0, .ref 583), (1, .int x1), (2, .int x2), (4, .int x4), (5, .int x5), (6, .int x6), (7, .int x7)], [.int xz, .int x4], w1) (fun v w' => v = some (.int r.1) ∧ m_RM r.2 w' ∧ m_Fq w0 w') 0 0 0 0 := by
          intro xz w ez h hF
          rw [ez]
          refine m_Rs.n0 b_320 (x_iadd d_320_159 rfl) ?_
          refine m_Rs.n0 b_320 (x_istore d_320_160 rfl (show m_put1 _ _ _ = [(4, _), (3, _), (0, _), (1, _), (2, _), (5, _), (6, _), (7, _)] from rfl)) ?_
          refine m_Rs.n0 b_320 (x_iinc d_320_162 rfl rfl rfl (show m_put1 _ _ _ = [(5, _), (4, _), (3, _), (0, _), (1, _), (2, _), (6, _), (7, _)] from rfl)) ?_
          refine m_Rs.n0 b_320 (x_goto d_320_165 rfl) ?_
          exact m_Rs.pick [3, 4, 5, 2, 1, 0] rfl (hr8 h hF h0)
        cases hc21 : m_c1 .eq x6 with
        | true =>
          have e20 := cT hc21 e20
          refine m_Rs.n0 b_320 (x_ift d_320_151 rfl hc21) ?_
          refine m_Rs.n0 b_320 (x_iconst (z := 1) d_320_158 (by decide)) ?_
          exact kk19 _ _ (Option.some.inj e20) h hF
        | false =>
          have e20 := cF hc21 e20
          refine m_Rs.n0 b_320 (x_iff d_320_151 rfl hc21) ?_
          refine m_Rs.n0 b_320 (x_iconst (z := 0) d_320_154 (by decide)) ?_
          refine m_Rs.n0 b_320 (x_goto d_320_155 rfl) ?_
          exact kk19 _ _ (Option.some.inj e20) h hF
      cases hc17 : m_c1 .eq x6 with
      | true =>
        have e16 := cT hc17 e16
        refine m_Rs.n0 b_320 (x_ift d_320_137 rfl hc17) ?_
        refine m_Rs.n0 b_320 (x_iconst (z := 0) d_320_144 (by decide)) ?_
        exact kk15 _ _ (Option.some.inj e16) h hF
      | false =>
        have e16 := cF hc17 e16
        refine m_Rs.n0 b_320 (x_iff d_320_137 rfl hc17) ?_
        refine m_Rs.n0 b_320 (x_iconst (z := 1) d_320_140 (by decide)) ?_
        refine m_Rs.n0 b_320 (x_goto d_320_141 rfl) ?_
        exact kk15 _ _ (Option.some.inj e16) h hF
    | false =>
      have h0 := cF hc14 h0
      refine m_Rs.n0 b_320 (x_icf d_320_66 rfl hc14) ?_
      refine m_Rs.n0 b_320 (x_iload d_320_69 rfl) ?_
      cases hc30 : m_c1 .eq x6 with
      | true =>
        have h0 := cT hc30 h0
        refine m_Rs.n0 b_320 (x_ift d_320_71 rfl hc30) ?_
        refine m_Rs.n0 b_320 (x_aload_n d_320_102 rfl) ?_
        refine m_Rs.n0 b_320 (x_getf d_320_103 rfl h.1 rfl) ?_
        refine m_Rs.n0 b_320 (x_bipush (z := 12) d_320_106 (by decide)) ?_
        refine m_Rs.n0 b_320 (x_iload d_320_108 rfl) ?_
        refine m_Rs.n0 b_320 (x_imul d_320_110 rfl) ?_
        refine m_Rs.n0 b_320 (x_iload d_320_111 rfl) ?_
        refine m_Rs.n0 b_320 (x_iadd d_320_113 rfl) ?_
        refine m_Rs.n0 b_320 (x_aload_n d_320_114 rfl) ?_
        refine m_Rs.n0 b_320 (x_getf d_320_115 rfl h.1 rfl) ?_
        refine m_Rs.n0 b_320 (x_bipush (z := 12) d_320_118 (by decide)) ?_
        refine m_Rs.n0 b_320 (x_iload d_320_120 rfl) ?_
        refine m_Rs.n0 b_320 (x_imul d_320_122 rfl) ?_
        refine m_Rs.n0 b_320 (x_iload d_320_123 rfl) ?_
        refine m_Rs.n0 b_320 (x_iadd d_320_125 rfl) ?_
        obtain ⟨v31, e32, h0⟩ := bS h0
        refine m_Rs.dget b_320 d_320_126 h 38 rfl e32 ?_
        obtain ⟨S33, e34, h0⟩ := bS h0
        refine m_Rs.dput b_320 d_320_127 h hF 38 rfl e34 (fun w1 h hF => ?_)
        exact m_Rs.pick [0, 1, 2, 3, 4, 5, 6, 7] rfl (T_m_take_128 hr8 ih h hF h0)
      | false =>
        have h0 := cF hc30 h0
        refine m_Rs.n0 b_320 (x_iff d_320_71 rfl hc30) ?_
        refine m_Rs.n0 b_320 (x_aload_n d_320_74 rfl) ?_
        refine m_Rs.n0 b_320 (x_getf d_320_75 rfl h.1 rfl) ?_
        refine m_Rs.n0 b_320 (x_bipush (z := 12) d_320_78 (by decide)) ?_
        refine m_Rs.n0 b_320 (x_iload_n d_320_80 rfl) ?_
        refine m_Rs.n0 b_320 (x_imul d_320_81 rfl) ?_
        refine m_Rs.n0 b_320 (x_iload d_320_82 rfl) ?_
        refine m_Rs.n0 b_320 (x_iadd d_320_84 rfl) ?_
        refine m_Rs.n0 b_320 (x_aload_n d_320_85 rfl) ?_
        refine m_Rs.n0 b_320 (x_getf d_320_86 rfl h.1 rfl) ?_
        refine m_Rs.n0 b_320 (x_bipush (z := 12) d_320_89 (by decide)) ?_
        refine m_Rs.n0 b_320 (x_iload d_320_91 rfl) ?_
        refine m_Rs.n0 b_320 (x_imul d_320_93 rfl) ?_
        refine m_Rs.n0 b_320 (x_iload d_320_94 rfl) ?_
        refine m_Rs.n0 b_320 (x_iadd d_320_96 rfl) ?_
        obtain ⟨v35, e36, h0⟩ := bS h0
        refine m_Rs.dget b_320 d_320_97 h 38 rfl e36 ?_
        obtain ⟨S37, e38, h0⟩ := bS h0
        refine m_Rs.dput b_320 d_320_98 h hF 39 rfl e38 (fun w1 h hF => ?_)
        refine m_Rs.n0 b_320 (x_goto d_320_99 rfl) ?_
        exact m_Rs.pick [0, 1, 2, 3, 4, 5, 6, 7] rfl (T_m_take_128 hr8 ih h hF h0)
def D_m_take_8 (F : Nat) : Nat → Int32 → Int32 → Int32 → Int32 → Int32 → mS → Option (Int32 × mS)
  | 0, _, _, _, _, _, _ => none
  | n + 1, x1, x2, x3, x4, x5, S => cond (m_c2 .ge x5 (S.1 74)) ((fput S 74 x4).bind fun S2 => some (x3, S2)) ((aget 0 48000 S 622 ((12 : Int32) * x5)).bind fun v4 => (cond (m_c2 .ne v4 x1) (some (0 : Int32)) (cond (m_c2 .eq x2 ((-1) : Int32)) (some (1 : Int32)) ((aget 0 48000 S 622 (((12 : Int32) * x5) + (1 : Int32))).bind fun v10 => cond (m_c2 .ne v10 x2) (some (0 : Int32)) (some (1 : Int32))))).bind fun v13 => D_m_take_62 F (D_m_take_8 F n) F x1 x2 x3 x4 x5 v13 (0 : Int32) S)
theorem T_m_take_8 {l : Launch} {w0 : List mM} {F : Nat} : ∀ (n : Nat) {x1 : Int32} {x2 : Int32} {x3 : Int32} {x4 : Int32} {x5 : Int32} {S : mS} {w : List mM} {r : Int32 × mS}, m_RM S w → m_Fq w0 w → D_m_take_8 F n x1 x2 x3 x4 x5 S = some r → m_Rs l M_320 (8, [(0, .ref 583), (1, .int x1), (2, .int x2), (3, .int x3), (4, .int x4), (5, .int x5)], [], w) (fun v w' => v = some (.int r.1) ∧ m_RM r.2 w' ∧ m_Fq w0 w') 0 0 0 0 := by
  intro n
  induction n with
  | zero => intro x1 x2 x3 x4 x5 S w r h hF h0; cases h0
  | succ n ih =>
    intro x1 x2 x3 x4 x5 S w r h hF h0
    rw [D_m_take_8] at h0
    refine m_Rs.n0 b_320 (x_iload d_320_8 rfl) ?_
    refine m_Rs.n0 b_320 (x_aload_n d_320_10 rfl) ?_
    refine m_Rs.n0 b_320 (x_getf d_320_11 rfl h.1 rfl) ?_
    cases hc1 : m_c2 .ge x5 (S.1 74) with
    | true =>
      have h0 := cT hc1 h0
      refine m_Rs.n0 b_320 (x_ict d_320_14 rfl hc1) ?_
      refine m_Rs.n0 b_320 (x_aload_n d_320_168 rfl) ?_
      refine m_Rs.n0 b_320 (x_iload d_320_169 rfl) ?_
      obtain ⟨S2, e3, h0⟩ := bS h0
      refine m_Rs.dfput b_320 d_320_171 h hF e3 rfl rfl rfl rfl rfl rfl (fun w1 h hF => ?_)
      refine m_Rs.n0 b_320 (x_iload_n d_320_174 rfl) ?_
      exact m_Rs.ret b_320 (m_rt_ir d_320_175 rfl rfl) (rP h0 h hF)
    | false =>
      have h0 := cF hc1 h0
      refine m_Rs.n0 b_320 (x_icf d_320_14 rfl hc1) ?_
      refine m_Rs.n0 b_320 (x_aload_n d_320_17 rfl) ?_
      refine m_Rs.n0 b_320 (x_getf d_320_18 rfl h.1 rfl) ?_
      refine m_Rs.n0 b_320 (x_bipush (z := 12) d_320_21 (by decide)) ?_
      refine m_Rs.n0 b_320 (x_iload d_320_23 rfl) ?_
      refine m_Rs.n0 b_320 (x_imul d_320_25 rfl) ?_
      obtain ⟨v4, e5, h0⟩ := bS h0
      refine m_Rs.dget b_320 d_320_26 h 38 rfl e5 ?_
      refine m_Rs.n0 b_320 (x_iload_n d_320_27 rfl) ?_
      obtain ⟨v13, e7, h0⟩ := bS h0
      have kk6 : ∀ (xz : Int32) (w1 : List mM), xz = v13 → m_RM S w1 → m_Fq w0 w1 → m_Rs l M_320 (57, [(0, .ref 583), (1, .int x1), (2, .int x2), (3, .int x3), (4, .int x4), (5, .int x5)], [.int xz], w1) (fun v w' => v = some (.int r.1) ∧ m_RM r.2 w' ∧ m_Fq w0 w') 0 0 0 0 := by
        intro xz w ez h hF
        rw [ez]
        refine m_Rs.n0 b_320 (x_istore d_320_57 rfl (show m_put1 _ _ _ = [(6, _), (0, _), (1, _), (2, _), (3, _), (4, _), (5, _)] from rfl)) ?_
        refine m_Rs.n0 b_320 (x_iconst (z := 0) d_320_59 (by decide)) ?_
        refine m_Rs.n0 b_320 (x_istore d_320_60 rfl (show m_put1 _ _ _ = [(7, _), (6, _), (0, _), (1, _), (2, _), (3, _), (4, _), (5, _)] from rfl)) ?_
        exact m_Rs.pick [2, 3, 4, 5, 6, 7, 1, 0] rfl (T_m_take_62 ih F h hF h0)
      cases hc8 : m_c2 .ne v4 x1 with
      | true =>
        have e7 := cT hc8 e7
        refine m_Rs.n0 b_320 (x_ict d_320_28 rfl hc8) ?_
        refine m_Rs.n0 b_320 (x_iconst (z := 0) d_320_56 (by decide)) ?_
        exact kk6 _ _ (Option.some.inj e7) h hF
      | false =>
        have e7 := cF hc8 e7
        refine m_Rs.n0 b_320 (x_icf d_320_28 rfl hc8) ?_
        refine m_Rs.n0 b_320 (x_iload_n d_320_31 rfl) ?_
        refine m_Rs.n0 b_320 (x_iconst (z := (-1)) d_320_32 (by decide)) ?_
        cases hc9 : m_c2 .eq x2 ((-1) : Int32) with
        | true =>
          have e7 := cT hc9 e7
          refine m_Rs.n0 b_320 (x_ict d_320_33 rfl hc9) ?_
          refine m_Rs.n0 b_320 (x_iconst (z := 1) d_320_52 (by decide)) ?_
          refine m_Rs.n0 b_320 (x_goto d_320_53 rfl) ?_
          exact kk6 _ _ (Option.some.inj e7) h hF
        | false =>
          have e7 := cF hc9 e7
          refine m_Rs.n0 b_320 (x_icf d_320_33 rfl hc9) ?_
          refine m_Rs.n0 b_320 (x_aload_n d_320_36 rfl) ?_
          refine m_Rs.n0 b_320 (x_getf d_320_37 rfl h.1 rfl) ?_
          refine m_Rs.n0 b_320 (x_bipush (z := 12) d_320_40 (by decide)) ?_
          refine m_Rs.n0 b_320 (x_iload d_320_42 rfl) ?_
          refine m_Rs.n0 b_320 (x_imul d_320_44 rfl) ?_
          refine m_Rs.n0 b_320 (x_iconst (z := 1) d_320_45 (by decide)) ?_
          refine m_Rs.n0 b_320 (x_iadd d_320_46 rfl) ?_
          obtain ⟨v10, e11, e7⟩ := bS e7
          refine m_Rs.dget b_320 d_320_47 h 38 rfl e11 ?_
          refine m_Rs.n0 b_320 (x_iload_n d_320_48 rfl) ?_
          cases hc12 : m_c2 .ne v10 x2 with
          | true =>
            have e7 := cT hc12 e7
            refine m_Rs.n0 b_320 (x_ict d_320_49 rfl hc12) ?_
            refine m_Rs.n0 b_320 (x_iconst (z := 0) d_320_56 (by decide)) ?_
            exact kk6 _ _ (Option.some.inj e7) h hF
          | false =>
            have e7 := cF hc12 e7
            refine m_Rs.n0 b_320 (x_icf d_320_49 rfl hc12) ?_
            refine m_Rs.n0 b_320 (x_iconst (z := 1) d_320_52 (by decide)) ?_
            refine m_Rs.n0 b_320 (x_goto d_320_53 rfl) ?_
            exact kk6 _ _ (Option.some.inj e7) h hF
def D_m_take (F : Nat) (a0 : Int32) (a1 : Int32) (S : mS) : Option (Int32 × mS) := D_m_take_8 F F a0 a1 (0 : Int32) (0 : Int32) (0 : Int32) S
theorem T_m_take {l : Launch} {w : List mM} {F : Nat} {a0 : Int32} {a1 : Int32} {S : mS} {r : Int32 × mS} (h : m_RM S w) (h0 : D_m_take F a0 a1 S = some r) : m_Rs l M_320 (m_ent M_320 [.ref 583, .int a0, .int a1] w) (fun v w' => v = some (.int r.1) ∧ m_RM r.2 w' ∧ m_Fq w w') 0 0 0 0 := by
  show m_Rs l M_320 (0, [(0, .ref 583), (1, .int a0), (2, .int a1)], [], w) _ 0 0 0 0
  generalize hw0 : w = w0 at h ⊢
  have hF : m_Fq w0 w0 := m_Fq.refl
  rw [D_m_take] at h0
  refine m_Rs.n0 b_320 (x_iconst (z := 0) d_320_0 (by decide)) ?_
  refine m_Rs.n0 b_320 (x_istore_n d_320_1 rfl (show m_put1 _ _ _ = [(3, _), (0, _), (1, _), (2, _)] from rfl)) ?_
  refine m_Rs.n0 b_320 (x_iconst (z := 0) d_320_2 (by decide)) ?_
  refine m_Rs.n0 b_320 (x_istore d_320_3 rfl (show m_put1 _ _ _ = [(4, _), (3, _), (0, _), (1, _), (2, _)] from rfl)) ?_
  refine m_Rs.n0 b_320 (x_iconst (z := 0) d_320_5 (by decide)) ?_
  refine m_Rs.n0 b_320 (x_istore d_320_6 rfl (show m_put1 _ _ _ = [(5, _), (4, _), (3, _), (0, _), (1, _), (2, _)] from rfl)) ?_
  exact m_Rs.pick [3, 4, 5, 2, 1, 0] rfl (T_m_take_8 F h hF h0)
def D_m_again_7 (F : Nat) : Nat → Int32 → Int32 → Int32 → mS → Option (Int32 × mS)
  | 0, _, _, _, _ => none
  | n + 1, x1, x2, x3, S => cond (m_c2 .ge x3 (12 : Int32)) (some (x2, S)) ((aget 0 48000 S 623 (((12 : Int32) * x1) + x3)).bind fun v4 => (aput 48000 S 622 (x2 + x3) v4).bind fun S6 => D_m_again_7 F n x1 x2 (x3 + Int32.ofInt 1) S6)
theorem T_m_again_7 {l : Launch} {w0 : List mM} {F : Nat} : ∀ (n : Nat) {x1 : Int32} {x2 : Int32} {x3 : Int32} {S : mS} {w : List mM} {r : Int32 × mS}, m_RM S w → m_Fq w0 w → D_m_again_7 F n x1 x2 x3 S = some r → m_Rs l M_321 (7, [(0, .ref 583), (1, .int x1), (2, .int x2), (3, .int x3)], [], w) (fun v w' => v = some (.int r.1) ∧ m_RM r.2 w' ∧ m_Fq w0 w') 0 0 1 100 := by
  intro n
  induction n with
  | zero => intro x1 x2 x3 S w r h hF h0; cases h0
  | succ n ih =>
    intro x1 x2 x3 S w r h hF h0
    rw [D_m_again_7] at h0
    refine m_Rs.n0 b_321 (x_iload_n d_321_7 rfl) ?_
    refine m_Rs.n0 b_321 (x_bipush (z := 12) d_321_8 (by decide)) ?_
    cases hc3 : m_c2 .ge x3 (12 : Int32) with
    | true =>
      have h0 := cT hc3 h0
      refine m_Rs.n0 b_321 (x_ict d_321_10 rfl hc3) ?_
      refine m_Rs.n0 b_321 (x_iload_n d_321_38 rfl) ?_
      exact m_Rs.ret b_321 (m_rt_ir d_321_39 rfl rfl) (rP h0 h hF)
    | false =>
      have h0 := cF hc3 h0
      refine m_Rs.n0 b_321 (x_icf d_321_10 rfl hc3) ?_
      refine m_Rs.n0 b_321 (x_aload_n d_321_13 rfl) ?_
      refine m_Rs.n0 b_321 (x_getf d_321_14 rfl h.1 rfl) ?_
      refine m_Rs.n0 b_321 (x_iload_n d_321_17 rfl) ?_
      refine m_Rs.n0 b_321 (x_iload_n d_321_18 rfl) ?_
      refine m_Rs.n0 b_321 (x_iadd d_321_19 rfl) ?_
      refine m_Rs.n0 b_321 (x_aload_n d_321_20 rfl) ?_
      refine m_Rs.n0 b_321 (x_getf d_321_21 rfl h.1 rfl) ?_
      refine m_Rs.n0 b_321 (x_bipush (z := 12) d_321_24 (by decide)) ?_
      refine m_Rs.n0 b_321 (x_iload_n d_321_26 rfl) ?_
      refine m_Rs.n0 b_321 (x_imul d_321_27 rfl) ?_
      refine m_Rs.n0 b_321 (x_iload_n d_321_28 rfl) ?_
      refine m_Rs.n0 b_321 (x_iadd d_321_29 rfl) ?_
      obtain ⟨v4, e5, h0⟩ := bS h0
      refine m_Rs.dget b_321 d_321_30 h 39 rfl e5 ?_
      obtain ⟨S6, e7, h0⟩ := bS h0
      refine m_Rs.dput b_321 d_321_31 h hF 38 rfl e7 (fun w1 h hF => ?_)
      refine m_Rs.n0 b_321 (x_iinc d_321_32 rfl rfl rfl (show m_put1 _ _ _ = [(3, _), (0, _), (1, _), (2, _)] from rfl)) ?_
      refine m_Rs.n0 b_321 (x_goto d_321_35 rfl) ?_
      exact m_Rs.pick [1, 2, 3, 0] rfl (ih h hF h0)
def D_m_again (F : Nat) (a0 : Int32) (S : mS) : Option (Int32 × mS) := (D_m_spare F S).bind fun v1 => D_m_again_7 F F a0 v1 (0 : Int32) S
theorem T_m_again {l : Launch} {w : List mM} {F : Nat} {a0 : Int32} {S : mS} {r : Int32 × mS} (h : m_RM S w) (h0 : D_m_again F a0 S = some r) : m_Rs l M_321 (m_ent M_321 [.ref 583, .int a0] w) (fun v w' => v = some (.int r.1) ∧ m_RM r.2 w' ∧ m_Fq w w') 0 0 1 100 := by
  show m_Rs l M_321 (0, [(0, .ref 583), (1, .int a0)], [], w) _ 0 0 1 100
  generalize hw0 : w = w0 at h ⊢
  have hF : m_Fq w0 w0 := m_Fq.refl
  rw [D_m_again] at h0
  refine m_Rs.n0 b_321 (x_aload_n d_321_0 rfl) ?_
  obtain ⟨v1, e2, h0⟩ := bS h0
  refine m_Rs.callS b_321 (y_cv d_321_1 rfl q_275 (m_isRecv_of rfl h.1) (show m_takeI _ _ = some (_, [_], []) from rfl) (by simp only [m_okf, List.all_cons, List.all_nil, Bool.and_true, Bool.and_self, m_okv_i, m_okv_l, m_okv_0, m_okv_t, m_okv_at h.1]) rfl) (T_m_spare h e2) hF rfl (fun w1 h hF => ?_) (by decide) (by decide)
  refine m_Rs.n0 b_321 (x_istore_n d_321_4 rfl (show m_put1 _ _ _ = [(2, _), (0, _), (1, _)] from rfl)) ?_
  refine m_Rs.n0 b_321 (x_iconst (z := 0) d_321_5 (by decide)) ?_
  refine m_Rs.n0 b_321 (x_istore_n d_321_6 rfl (show m_put1 _ _ _ = [(3, _), (2, _), (0, _), (1, _)] from rfl)) ?_
  exact m_Rs.pick [2, 3, 1, 0] rfl (T_m_again_7 F h hF h0)
def D_m_failAll_23 (F : Nat) : Nat → Int32 → Int32 → mS → Option (mS)
  | 0, _, _, _ => none
  | n + 1, x3, x4, S => cond (m_c2 .ge x4 x3) (some S) ((D_m_again F x4 S).bind fun q6 => (D_m_giveUp F q6.1 q6.2).bind fun S8 => D_m_failAll_23 F n x3 (x4 + Int32.ofInt 1) S8)
theorem T_m_failAll_23 {l : Launch} {w0 : List mM} {F : Nat} : ∀ (n : Nat) {x3 : Int32} {x4 : Int32} {S : mS} {w : List mM} {r : mS}, m_RM S w → m_Fq w0 w → D_m_failAll_23 F n x3 x4 S = some r → m_Rs l M_322 (23, [(0, .ref 583), (3, .int x3), (4, .int x4)], [], w) (fun v w' => v = none ∧ m_RM r w' ∧ m_Fq w0 w') 0 0 8 800 := by
  intro n
  induction n with
  | zero => intro x3 x4 S w r h hF h0; cases h0
  | succ n ih =>
    intro x3 x4 S w r h hF h0
    rw [D_m_failAll_23] at h0
    refine m_Rs.n0 b_322 (x_iload d_322_23 rfl) ?_
    refine m_Rs.n0 b_322 (x_iload_n d_322_25 rfl) ?_
    cases hc5 : m_c2 .ge x4 x3 with
    | true =>
      have h0 := cT hc5 h0
      refine m_Rs.n0 b_322 (x_ict d_322_26 rfl hc5) ?_
      exact m_Rs.ret b_322 (m_rt_vr d_322_45 rfl) (rV h0 h hF)
    | false =>
      have h0 := cF hc5 h0
      refine m_Rs.n0 b_322 (x_icf d_322_26 rfl hc5) ?_
      refine m_Rs.n0 b_322 (x_aload_n d_322_29 rfl) ?_
      refine m_Rs.n0 b_322 (x_aload_n d_322_30 rfl) ?_
      refine m_Rs.n0 b_322 (x_iload d_322_31 rfl) ?_
      obtain ⟨q6, e7, h0⟩ := bS h0
      refine m_Rs.callS b_322 (y_cv d_322_33 rfl q_321 (m_isRecv_of rfl h.1) (show m_takeI _ _ = some (_, [_, _], [_]) from rfl) (by simp only [m_okf, List.all_cons, List.all_nil, Bool.and_true, Bool.and_self, m_okv_i, m_okv_l, m_okv_0, m_okv_t, m_okv_at h.1]) rfl) (T_m_again h e7) hF rfl (fun w1 h hF => ?_) (by decide) (by decide)
      obtain ⟨S8, e9, h0⟩ := bS h0
      refine m_Rs.callSv b_322 (y_cv d_322_36 rfl q_311 (m_isRecv_of rfl h.1) (show m_takeI _ _ = some (_, [_, _], []) from rfl) (by simp only [m_okf, List.all_cons, List.all_nil, Bool.and_true, Bool.and_self, m_okv_i, m_okv_l, m_okv_0, m_okv_t, m_okv_at h.1]) rfl) (T_m_giveUp h e9) hF rfl (fun w1 h hF => ?_) (by decide) (by decide)
      refine m_Rs.n0 b_322 (x_iinc d_322_39 rfl rfl rfl (show m_put1 _ _ _ = [(4, _), (0, _), (3, _)] from rfl)) ?_
      refine m_Rs.n0 b_322 (x_goto d_322_42 rfl) ?_
      exact m_Rs.pick [1, 2, 0] rfl (ih h hF h0)
def D_m_failAll (F : Nat) (a0 : Int32) (a1 : Int32) (S : mS) : Option (mS) := (bput 896 S 609 (((128 : Int32) * a0) + a1) (0 : Int32)).bind fun S1 => (D_m_take F a0 a1 S1).bind fun q3 => D_m_failAll_23 F F q3.1 (0 : Int32) q3.2
theorem T_m_failAll {l : Launch} {w : List mM} {F : Nat} {a0 : Int32} {a1 : Int32} {S : mS} {r : mS} (h : m_RM S w) (h0 : D_m_failAll F a0 a1 S = some r) : m_Rs l M_322 (m_ent M_322 [.ref 583, .int a0, .int a1] w) (fun v w' => v = none ∧ m_RM r w' ∧ m_Fq w w') 0 0 8 800 := by
  show m_Rs l M_322 (0, [(0, .ref 583), (1, .int a0), (2, .int a1)], [], w) _ 0 0 8 800
  generalize hw0 : w = w0 at h ⊢
  have hF : m_Fq w0 w0 := m_Fq.refl
  rw [D_m_failAll] at h0
  refine m_Rs.n0 b_322 (x_aload_n d_322_0 rfl) ?_
  refine m_Rs.n0 b_322 (x_getf d_322_1 rfl h.1 rfl) ?_
  refine m_Rs.n0 b_322 (x_sipush (z := 128) d_322_4 (by decide)) ?_
  refine m_Rs.n0 b_322 (x_iload_n d_322_7 rfl) ?_
  refine m_Rs.n0 b_322 (x_imul d_322_8 rfl) ?_
  refine m_Rs.n0 b_322 (x_iload_n d_322_9 rfl) ?_
  refine m_Rs.n0 b_322 (x_iadd d_322_10 rfl) ?_
  refine m_Rs.n0 b_322 (x_iconst (z := 0) d_322_11 (by decide)) ?_
  obtain ⟨S1, e2, h0⟩ := bS h0
  refine m_Rs.dputb b_322 d_322_12 h hF 25 rfl e2 (fun w1 h hF => ?_)
  refine m_Rs.n0 b_322 (x_aload_n d_322_13 rfl) ?_
  refine m_Rs.n0 b_322 (x_iload_n d_322_14 rfl) ?_
  refine m_Rs.n0 b_322 (x_iload_n d_322_15 rfl) ?_
  obtain ⟨q3, e4, h0⟩ := bS h0
  refine m_Rs.callS b_322 (y_cv d_322_16 rfl q_320 (m_isRecv_of rfl h.1) (show m_takeI _ _ = some (_, [_, _, _], []) from rfl) (by simp only [m_okf, List.all_cons, List.all_nil, Bool.and_true, Bool.and_self, m_okv_i, m_okv_l, m_okv_0, m_okv_t, m_okv_at h.1]) rfl) (T_m_take h e4) hF rfl (fun w1 h hF => ?_) (by decide) (by decide)
  refine m_Rs.n0 b_322 (x_istore_n d_322_19 rfl (show m_put1 _ _ _ = [(3, _), (0, _), (1, _), (2, _)] from rfl)) ?_
  refine m_Rs.n0 b_322 (x_iconst (z := 0) d_322_20 (by decide)) ?_
  refine m_Rs.n0 b_322 (x_istore d_322_21 rfl (show m_put1 _ _ _ = [(4, _), (3, _), (0, _), (1, _), (2, _)] from rfl)) ?_
  exact m_Rs.pick [2, 1, 0] rfl (T_m_failAll_23 F h hF h0)
def D_m_isPurged_101 (F : Nat) (rec2 : Int32 → Int32 → mS → Option (Int32)) (x1 : Int32) (x2 : Int32) (S : mS) : Option (Int32) := rec2 x1 (x2 + Int32.ofInt 1) S
theorem T_m_isPurged_101 {l : Launch} {w0 : List mM} {F : Nat} {rec2 : Int32 → Int32 → mS → Option (Int32)} (hr2 : ∀ {x1 : Int32} {x2 : Int32} {S : mS} {w : List mM} {r : Int32}, m_RM S w → m_Fq w0 w → rec2 x1 x2 S = some r → m_Rs l M_323 (2, [(0, .ref 583), (1, .int x1), (2, .int x2)], [], w) (fun v w' => v = some (.int r) ∧ m_RM S w' ∧ m_Fq w0 w') 0 0 0 0) {x1 : Int32} {x2 : Int32} {S : mS} {w : List mM} {r : Int32} (h : m_RM S w) (hF : m_Fq w0 w) (h0 : D_m_isPurged_101 F rec2 x1 x2 S = some r) : m_Rs l M_323 (101, [(0, .ref 583), (1, .int x1), (2, .int x2)], [], w) (fun v w' => v = some (.int r) ∧ m_RM S w' ∧ m_Fq w0 w') 0 0 0 0 := by
  rw [D_m_isPurged_101] at h0
  refine m_Rs.n0 b_323 (x_iinc d_323_101 rfl rfl rfl (show m_put1 _ _ _ = [(2, _), (0, _), (1, _)] from rfl)) ?_
  refine m_Rs.n0 b_323 (x_goto d_323_104 rfl) ?_
  exact m_Rs.pick [1, 2, 0] rfl (hr2 h hF h0)
def D_m_isPurged_2 (F : Nat) : Nat → Int32 → Int32 → mS → Option (Int32)
  | 0, _, _, _ => none
  | n + 1, x1, x2, S => (aget 0 7 S 597 x1).bind fun v1 => cond (m_c2 .ge x2 v1) (some (0 : Int32)) ((aget 0 448 S 599 (((64 : Int32) * x1) + x2)).bind fun v4 => (cond (m_c1 .ne v4) ((aget 0 22 S 628 (19 : Int32)).bind fun v9 => (aget 0 448 S 600 (((64 : Int32) * x1) + x2)).bind fun v11 => cond (m_c2 .ne ((v9 >>> (v11 &&& 31)) &&& (1 : Int32)) (1 : Int32)) (some (0 : Int32)) (some (1 : Int32))) ((aget 0 448 S 600 (((64 : Int32) * x1) + x2)).bind fun v14 => (aget 0 22 S 628 (4 : Int32)).bind fun v16 => cond (m_c2 .ne v14 v16) (some (0 : Int32)) (some (1 : Int32)))).bind fun v19 => cond (m_c1 .eq v19) (D_m_isPurged_101 F (D_m_isPurged_2 F n) x1 x2 S) ((aget 0 448 S 598 (((64 : Int32) * x1) + x2)).bind fun v21 => (aget 0 22 S 628 (8 : Int32)).bind fun v23 => cond (m_c2 .le v21 v23) (D_m_isPurged_101 F (D_m_isPurged_2 F n) x1 x2 S) (some (1 : Int32))))
theorem T_m_isPurged_2 {l : Launch} {w0 : List mM} {F : Nat} : ∀ (n : Nat) {x1 : Int32} {x2 : Int32} {S : mS} {w : List mM} {r : Int32}, m_RM S w → m_Fq w0 w → D_m_isPurged_2 F n x1 x2 S = some r → m_Rs l M_323 (2, [(0, .ref 583), (1, .int x1), (2, .int x2)], [], w) (fun v w' => v = some (.int r) ∧ m_RM S w' ∧ m_Fq w0 w') 0 0 0 0 := by
  intro n
  induction n with
  | zero => intro x1 x2 S w r h hF h0; cases h0
  | succ n ih =>
    intro x1 x2 S w r h hF h0
    rw [D_m_isPurged_2] at h0
    refine m_Rs.n0 b_323 (x_iload_n d_323_2 rfl) ?_
    refine m_Rs.n0 b_323 (x_aload_n d_323_3 rfl) ?_
    refine m_Rs.n0 b_323 (x_getf d_323_4 rfl h.1 rfl) ?_
    refine m_Rs.n0 b_323 (x_iload_n d_323_7 rfl) ?_
    obtain ⟨v1, e2, h0⟩ := bS h0
    refine m_Rs.dget b_323 d_323_8 h 13 rfl e2 ?_
    cases hc3 : m_c2 .ge x2 v1 with
    | true =>
      have h0 := cT hc3 h0
      refine m_Rs.n0 b_323 (x_ict d_323_9 rfl hc3) ?_
      refine m_Rs.n0 b_323 (x_iconst (z := 0) d_323_107 (by decide)) ?_
      exact m_Rs.ret b_323 (m_rt_ir d_323_108 rfl m_nb0) (rI h0 h hF)
    | false =>
      have h0 := cF hc3 h0
      refine m_Rs.n0 b_323 (x_icf d_323_9 rfl hc3) ?_
      refine m_Rs.n0 b_323 (x_bipush (z := 64) d_323_12 (by decide)) ?_
      refine m_Rs.n0 b_323 (x_iload_n d_323_14 rfl) ?_
      refine m_Rs.n0 b_323 (x_imul d_323_15 rfl) ?_
      refine m_Rs.n0 b_323 (x_iload_n d_323_16 rfl) ?_
      refine m_Rs.n0 b_323 (x_iadd d_323_17 rfl) ?_
      refine m_Rs.n0 b_323 (x_istore_n d_323_18 rfl (show m_put1 _ _ _ = [(3, _), (0, _), (1, _), (2, _)] from rfl)) ?_
      refine m_Rs.n0 b_323 (x_aload_n d_323_19 rfl) ?_
      refine m_Rs.n0 b_323 (x_getf d_323_20 rfl h.1 rfl) ?_
      refine m_Rs.n0 b_323 (x_iload_n d_323_23 rfl) ?_
      obtain ⟨v4, e5, h0⟩ := bS h0
      refine m_Rs.dget b_323 d_323_24 h 15 rfl e5 ?_
      obtain ⟨v19, e7, h0⟩ := bS h0
      have kk6 : ∀ (xz : Int32) (w1 : List mM), xz = v19 → m_RM S w1 → m_Fq w0 w1 → m_Rs l M_323 (76, [(3, .int (((64 : Int32) * x1) + x2)), (0, .ref 583), (1, .int x1), (2, .int x2)], [.int xz], w1) (fun v w' => v = some (.int r) ∧ m_RM S w' ∧ m_Fq w0 w') 0 0 0 0 := by
        intro xz w ez h hF
        rw [ez]
        refine m_Rs.n0 b_323 (x_istore d_323_76 rfl (show m_put1 _ _ _ = [(4, _), (3, _), (0, _), (1, _), (2, _)] from rfl)) ?_
        refine m_Rs.n0 b_323 (x_iload d_323_78 rfl) ?_
        cases hc20 : m_c1 .eq v19 with
        | true =>
          have h0 := cT hc20 h0
          refine m_Rs.n0 b_323 (x_ift d_323_80 rfl hc20) ?_
          exact m_Rs.pick [2, 3, 4] rfl (T_m_isPurged_101 ih h hF h0)
        | false =>
          have h0 := cF hc20 h0
          refine m_Rs.n0 b_323 (x_iff d_323_80 rfl hc20) ?_
          refine m_Rs.n0 b_323 (x_aload_n d_323_83 rfl) ?_
          refine m_Rs.n0 b_323 (x_getf d_323_84 rfl h.1 rfl) ?_
          refine m_Rs.n0 b_323 (x_iload_n d_323_87 rfl) ?_
          obtain ⟨v21, e22, h0⟩ := bS h0
          refine m_Rs.dget b_323 d_323_88 h 14 rfl e22 ?_
          refine m_Rs.n0 b_323 (x_aload_n d_323_89 rfl) ?_
          refine m_Rs.n0 b_323 (x_getf d_323_90 rfl h.1 rfl) ?_
          refine m_Rs.n0 b_323 (x_bipush (z := 8) d_323_93 (by decide)) ?_
          obtain ⟨v23, e24, h0⟩ := bS h0
          refine m_Rs.dget b_323 d_323_95 h 44 rfl e24 ?_
          cases hc25 : m_c2 .le v21 v23 with
          | true =>
            have h0 := cT hc25 h0
            refine m_Rs.n0 b_323 (x_ict d_323_96 rfl hc25) ?_
            exact m_Rs.pick [2, 3, 4] rfl (T_m_isPurged_101 ih h hF h0)
          | false =>
            have h0 := cF hc25 h0
            refine m_Rs.n0 b_323 (x_icf d_323_96 rfl hc25) ?_
            refine m_Rs.n0 b_323 (x_iconst (z := 1) d_323_99 (by decide)) ?_
            exact m_Rs.ret b_323 (m_rt_ir d_323_100 rfl m_nb1) (rI h0 h hF)
      cases hc8 : m_c1 .ne v4 with
      | true =>
        have e7 := cT hc8 e7
        refine m_Rs.n0 b_323 (x_ift d_323_25 rfl hc8) ?_
        refine m_Rs.n0 b_323 (x_aload_n d_323_51 rfl) ?_
        refine m_Rs.n0 b_323 (x_getf d_323_52 rfl h.1 rfl) ?_
        refine m_Rs.n0 b_323 (x_bipush (z := 19) d_323_55 (by decide)) ?_
        obtain ⟨v9, e10, e7⟩ := bS e7
        refine m_Rs.dget b_323 d_323_57 h 44 rfl e10 ?_
        refine m_Rs.n0 b_323 (x_aload_n d_323_58 rfl) ?_
        refine m_Rs.n0 b_323 (x_getf d_323_59 rfl h.1 rfl) ?_
        refine m_Rs.n0 b_323 (x_iload_n d_323_62 rfl) ?_
        obtain ⟨v11, e12, e7⟩ := bS e7
        refine m_Rs.dget b_323 d_323_63 h 16 rfl e12 ?_
        refine m_Rs.n0 b_323 (x_ishr d_323_64 rfl) ?_
        refine m_Rs.n0 b_323 (x_iconst (z := 1) d_323_65 (by decide)) ?_
        refine m_Rs.n0 b_323 (x_iand d_323_66 rfl) ?_
        refine m_Rs.n0 b_323 (x_iconst (z := 1) d_323_67 (by decide)) ?_
        cases hc13 : m_c2 .ne ((v9 >>> (v11 &&& 31)) &&& (1 : Int32)) (1 : Int32) with
        | true =>
          have e7 := cT hc13 e7
          refine m_Rs.n0 b_323 (x_ict d_323_68 rfl hc13) ?_
          refine m_Rs.n0 b_323 (x_iconst (z := 0) d_323_75 (by decide)) ?_
          exact kk6 _ _ (Option.some.inj e7) h hF
        | false =>
          have e7 := cF hc13 e7
          refine m_Rs.n0 b_323 (x_icf d_323_68 rfl hc13) ?_
          refine m_Rs.n0 b_323 (x_iconst (z := 1) d_323_71 (by decide)) ?_
          refine m_Rs.n0 b_323 (x_goto d_323_72 rfl) ?_
          exact kk6 _ _ (Option.some.inj e7) h hF
      | false =>
        have e7 := cF hc8 e7
        refine m_Rs.n0 b_323 (x_iff d_323_25 rfl hc8) ?_
        refine m_Rs.n0 b_323 (x_aload_n d_323_28 rfl) ?_
        refine m_Rs.n0 b_323 (x_getf d_323_29 rfl h.1 rfl) ?_
        refine m_Rs.n0 b_323 (x_iload_n d_323_32 rfl) ?_
        obtain ⟨v14, e15, e7⟩ := bS e7
        refine m_Rs.dget b_323 d_323_33 h 16 rfl e15 ?_
        refine m_Rs.n0 b_323 (x_aload_n d_323_34 rfl) ?_
        refine m_Rs.n0 b_323 (x_getf d_323_35 rfl h.1 rfl) ?_
        refine m_Rs.n0 b_323 (x_iconst (z := 4) d_323_38 (by decide)) ?_
        obtain ⟨v16, e17, e7⟩ := bS e7
        refine m_Rs.dget b_323 d_323_39 h 44 rfl e17 ?_
        cases hc18 : m_c2 .ne v14 v16 with
        | true =>
          have e7 := cT hc18 e7
          refine m_Rs.n0 b_323 (x_ict d_323_40 rfl hc18) ?_
          refine m_Rs.n0 b_323 (x_iconst (z := 0) d_323_47 (by decide)) ?_
          refine m_Rs.n0 b_323 (x_goto d_323_48 rfl) ?_
          exact kk6 _ _ (Option.some.inj e7) h hF
        | false =>
          have e7 := cF hc18 e7
          refine m_Rs.n0 b_323 (x_icf d_323_40 rfl hc18) ?_
          refine m_Rs.n0 b_323 (x_iconst (z := 1) d_323_43 (by decide)) ?_
          refine m_Rs.n0 b_323 (x_goto d_323_44 rfl) ?_
          exact kk6 _ _ (Option.some.inj e7) h hF
def D_m_isPurged (F : Nat) (a0 : Int32) (S : mS) : Option (Int32) := D_m_isPurged_2 F F a0 (0 : Int32) S
theorem T_m_isPurged {l : Launch} {w : List mM} {F : Nat} {a0 : Int32} {S : mS} {r : Int32} (h : m_RM S w) (h0 : D_m_isPurged F a0 S = some r) : m_Rs l M_323 (m_ent M_323 [.ref 583, .int a0] w) (fun v w' => v = some (.int r) ∧ m_RM S w' ∧ m_Fq w w') 0 0 0 0 := by
  show m_Rs l M_323 (0, [(0, .ref 583), (1, .int a0)], [], w) _ 0 0 0 0
  generalize hw0 : w = w0 at h ⊢
  have hF : m_Fq w0 w0 := m_Fq.refl
  rw [D_m_isPurged] at h0
  refine m_Rs.n0 b_323 (x_iconst (z := 0) d_323_0 (by decide)) ?_
  refine m_Rs.n0 b_323 (x_istore_n d_323_1 rfl (show m_put1 _ _ _ = [(2, _), (0, _), (1, _)] from rfl)) ?_
  exact m_Rs.pick [1, 2, 0] rfl (T_m_isPurged_2 F h hF h0)
def D_m_takeIn_493 (F : Nat) (rec359 : Int32 → Int32 → Int32 → mS → Option (mS)) (x4 : Int32) (x5 : Int32) (x6 : Int32) (S : mS) : Option (mS) := rec359 x4 x5 (x6 + Int32.ofInt 1) S
theorem T_m_takeIn_493 {l : Launch} {w0 : List mM} {F : Nat} {rec359 : Int32 → Int32 → Int32 → mS → Option (mS)} (hr359 : ∀ {x4 : Int32} {x5 : Int32} {x6 : Int32} {S : mS} {w : List mM} {r : mS}, m_RM S w → m_Fq w0 w → rec359 x4 x5 x6 S = some r → m_Rs l M_324 (359, [(0, .ref 583), (4, .int x4), (5, .int x5), (6, .int x6)], [], w) (fun v w' => v = none ∧ m_RM r w' ∧ m_Fq w0 w') 0 0 9 900) {x4 : Int32} {x5 : Int32} {x6 : Int32} {S : mS} {w : List mM} {r : mS} (h : m_RM S w) (hF : m_Fq w0 w) (h0 : D_m_takeIn_493 F rec359 x4 x5 x6 S = some r) : m_Rs l M_324 (493, [(0, .ref 583), (4, .int x4), (5, .int x5), (6, .int x6)], [], w) (fun v w' => v = none ∧ m_RM r w' ∧ m_Fq w0 w') 0 0 9 900 := by
  rw [D_m_takeIn_493] at h0
  refine m_Rs.n0 b_324 (x_iinc d_324_493 rfl rfl rfl (show m_put1 _ _ _ = [(6, _), (0, _), (4, _), (5, _)] from rfl)) ?_
  refine m_Rs.n0 b_324 (x_goto d_324_496 rfl) ?_
  exact m_Rs.pick [1, 2, 3, 0] rfl (hr359 h hF h0)
def D_m_takeIn_359 (F : Nat) : Nat → Int32 → Int32 → Int32 → mS → Option (mS)
  | 0, _, _, _, _ => none
  | n + 1, x4, x5, x6, S => cond (m_c2 .ge x6 x5) (some S) ((D_m_again F x6 S).bind fun q70 => (aget 0 9 q70.2 626 (1 : Int32)).bind fun v72 => (D_m_nowTag F q70.2).bind fun v74 => (D_m_needs F q70.1 v72 v74 q70.2).bind fun v76 => (cond (m_c1 .ne x6) (some (0 : Int32)) ((aget 0 9 q70.2 626 (8 : Int32)).bind fun v81 => (aget 0 48000 q70.2 622 (q70.1 + (11 : Int32))).bind fun v83 => (D_m_whichOf F v81 v83 q70.2).bind fun v85 => cond (m_c2 .ne v85 (q70.2.1 87)) (some (0 : Int32)) (cond (m_c2 .ne (x4 &&& v76) v76) (some (0 : Int32)) ((aget 0 22 q70.2 628 (8 : Int32)).bind fun v89 => (aget 0 48000 q70.2 622 (q70.1 + (7 : Int32))).bind fun v91 => cond (m_c2 .lt v89 v91) (some (0 : Int32)) (some (1 : Int32)))))).bind fun v94 => (aput 48000 q70.2 622 (q70.1 + (10 : Int32)) (1 : Int32)).bind fun S95 => cond (m_c1 .eq v94) ((D_m_look F q70.1 S95).bind fun S103 => D_m_takeIn_493 F (D_m_takeIn_359 F n) x4 x5 x6 S103) ((D_m_give F q70.1 (0 : Int32) S95).bind fun S105 => D_m_takeIn_493 F (D_m_takeIn_359 F n) x4 x5 x6 S105))
theorem T_m_takeIn_359 {l : Launch} {w0 : List mM} {F : Nat} : ∀ (n : Nat) {x4 : Int32} {x5 : Int32} {x6 : Int32} {S : mS} {w : List mM} {r : mS}, m_RM S w → m_Fq w0 w → D_m_takeIn_359 F n x4 x5 x6 S = some r → m_Rs l M_324 (359, [(0, .ref 583), (4, .int x4), (5, .int x5), (6, .int x6)], [], w) (fun v w' => v = none ∧ m_RM r w' ∧ m_Fq w0 w') 0 0 9 900 := by
  intro n
  induction n with
  | zero => intro x4 x5 x6 S w r h hF h0; cases h0
  | succ n ih =>
    intro x4 x5 x6 S w r h hF h0
    rw [D_m_takeIn_359] at h0
    refine m_Rs.n0 b_324 (x_iload d_324_359 rfl) ?_
    refine m_Rs.n0 b_324 (x_iload d_324_361 rfl) ?_
    cases hc69 : m_c2 .ge x6 x5 with
    | true =>
      have h0 := cT hc69 h0
      refine m_Rs.n0 b_324 (x_ict d_324_363 rfl hc69) ?_
      exact m_Rs.ret b_324 (m_rt_vr d_324_499 rfl) (rV h0 h hF)
    | false =>
      have h0 := cF hc69 h0
      refine m_Rs.n0 b_324 (x_icf d_324_363 rfl hc69) ?_
      refine m_Rs.n0 b_324 (x_aload_n d_324_366 rfl) ?_
      refine m_Rs.n0 b_324 (x_iload d_324_367 rfl) ?_
      obtain ⟨q70, e71, h0⟩ := bS h0
      refine m_Rs.callS b_324 (y_cv d_324_369 rfl q_321 (m_isRecv_of rfl h.1) (show m_takeI _ _ = some (_, [_, _], []) from rfl) (by simp only [m_okf, List.all_cons, List.all_nil, Bool.and_true, Bool.and_self, m_okv_i, m_okv_l, m_okv_0, m_okv_t, m_okv_at h.1]) rfl) (T_m_again h e71) hF rfl (fun w1 h hF => ?_) (by decide) (by decide)
      refine m_Rs.n0 b_324 (x_istore d_324_372 rfl (show m_put1 _ _ _ = [(7, _), (0, _), (4, _), (5, _), (6, _)] from rfl)) ?_
      refine m_Rs.n0 b_324 (x_aload_n d_324_374 rfl) ?_
      refine m_Rs.n0 b_324 (x_iload d_324_375 rfl) ?_
      refine m_Rs.n0 b_324 (x_aload_n d_324_377 rfl) ?_
      refine m_Rs.n0 b_324 (x_getf d_324_378 rfl h.1 rfl) ?_
      refine m_Rs.n0 b_324 (x_iconst (z := 1) d_324_381 (by decide)) ?_
      obtain ⟨v72, e73, h0⟩ := bS h0
      refine m_Rs.dget b_324 d_324_382 h 42 rfl e73 ?_
      refine m_Rs.n0 b_324 (x_aload_n d_324_383 rfl) ?_
      obtain ⟨v74, e75, h0⟩ := bS h0
      refine m_Rs.callS b_324 (y_cv d_324_384 rfl q_303 (m_isRecv_of rfl h.1) (show m_takeI _ _ = some (_, [_], [_, _, _]) from rfl) (by simp only [m_okf, List.all_cons, List.all_nil, Bool.and_true, Bool.and_self, m_okv_i, m_okv_l, m_okv_0, m_okv_t, m_okv_at h.1]) rfl) (T_m_nowTag h e75) hF rfl (fun w1 h hF => ?_) (by decide) (by decide)
      obtain ⟨v76, e77, h0⟩ := bS h0
      refine m_Rs.callS b_324 (y_cv d_324_387 rfl q_285 (m_isRecv_of rfl h.1) (show m_takeI _ _ = some (_, [_, _, _, _], []) from rfl) (by simp only [m_okf, List.all_cons, List.all_nil, Bool.and_true, Bool.and_self, m_okv_i, m_okv_l, m_okv_0, m_okv_t, m_okv_at h.1]) rfl) (T_m_needs h e77) hF rfl (fun w1 h hF => ?_) (by decide) (by decide)
      refine m_Rs.n0 b_324 (x_istore d_324_390 rfl (show m_put1 _ _ _ = [(8, _), (7, _), (0, _), (4, _), (5, _), (6, _)] from rfl)) ?_
      refine m_Rs.n0 b_324 (x_iload d_324_392 rfl) ?_
      obtain ⟨v94, e79, h0⟩ := bS h0
      have kk78 : ∀ (xz : Int32) (w1 : List mM), xz = v94 → m_RM q70.2 w1 → m_Fq w0 w1 → m_Rs l M_324 (459, [(8, .int v76), (7, .int q70.1), (0, .ref 583), (4, .int x4), (5, .int x5), (6, .int x6)], [.int xz], w1) (fun v w' => v = none ∧ m_RM r w' ∧ m_Fq w0 w') 0 0 9 900 := by
        intro xz w ez h hF
        rw [ez]
        refine m_Rs.n0 b_324 (x_istore d_324_459 rfl (show m_put1 _ _ _ = [(9, _), (8, _), (7, _), (0, _), (4, _), (5, _), (6, _)] from rfl)) ?_
        refine m_Rs.n0 b_324 (x_aload_n d_324_461 rfl) ?_
        refine m_Rs.n0 b_324 (x_getf d_324_462 rfl h.1 rfl) ?_
        refine m_Rs.n0 b_324 (x_iload d_324_465 rfl) ?_
        refine m_Rs.n0 b_324 (x_bipush (z := 10) d_324_467 (by decide)) ?_
        refine m_Rs.n0 b_324 (x_iadd d_324_469 rfl) ?_
        refine m_Rs.n0 b_324 (x_iconst (z := 1) d_324_470 (by decide)) ?_
        obtain ⟨S95, e96, h0⟩ := bS h0
        refine m_Rs.dput b_324 d_324_471 h hF 38 rfl e96 (fun w1 h hF => ?_)
        refine m_Rs.n0 b_324 (x_iload d_324_472 rfl) ?_
        cases hc102 : m_c1 .eq v94 with
        | true =>
          have h0 := cT hc102 h0
          refine m_Rs.n0 b_324 (x_ift d_324_474 rfl hc102) ?_
          refine m_Rs.n0 b_324 (x_aload_n d_324_487 rfl) ?_
          refine m_Rs.n0 b_324 (x_iload d_324_488 rfl) ?_
          obtain ⟨S103, e104, h0⟩ := bS h0
          refine m_Rs.callSv b_324 (y_cv d_324_490 rfl q_276 (m_isRecv_of rfl h.1) (show m_takeI _ _ = some (_, [_, _], []) from rfl) (by simp only [m_okf, List.all_cons, List.all_nil, Bool.and_true, Bool.and_self, m_okv_i, m_okv_l, m_okv_0, m_okv_t, m_okv_at h.1]) rfl) (T_m_look h e104) hF rfl (fun w1 h hF => ?_) (by decide) (by decide)
          exact m_Rs.pick [3, 4, 5, 6] rfl (T_m_takeIn_493 ih h hF h0)
        | false =>
          have h0 := cF hc102 h0
          refine m_Rs.n0 b_324 (x_iff d_324_474 rfl hc102) ?_
          refine m_Rs.n0 b_324 (x_aload_n d_324_477 rfl) ?_
          refine m_Rs.n0 b_324 (x_iload d_324_478 rfl) ?_
          refine m_Rs.n0 b_324 (x_iconst (z := 0) d_324_480 (by decide)) ?_
          obtain ⟨S105, e106, h0⟩ := bS h0
          refine m_Rs.callSv b_324 (y_cv d_324_481 rfl q_301 (m_isRecv_of rfl h.1) (show m_takeI _ _ = some (_, [_, _, _], []) from rfl) (by simp only [m_okf, List.all_cons, List.all_nil, Bool.and_true, Bool.and_self, m_okv_i, m_okv_l, m_okv_0, m_okv_t, m_okv_at h.1]) rfl) (T_m_give h e106) hF rfl (fun w1 h hF => ?_) (by decide) (by decide)
          refine m_Rs.n0 b_324 (x_goto d_324_484 rfl) ?_
          exact m_Rs.pick [3, 4, 5, 6] rfl (T_m_takeIn_493 ih h hF h0)
      cases hc80 : m_c1 .ne x6 with
      | true =>
        have e79 := cT hc80 e79
        refine m_Rs.n0 b_324 (x_ift d_324_394 rfl hc80) ?_
        refine m_Rs.n0 b_324 (x_iconst (z := 0) d_324_458 (by decide)) ?_
        exact kk78 _ _ (Option.some.inj e79) h hF
      | false =>
        have e79 := cF hc80 e79
        refine m_Rs.n0 b_324 (x_iff d_324_394 rfl hc80) ?_
        refine m_Rs.n0 b_324 (x_aload_n d_324_397 rfl) ?_
        refine m_Rs.n0 b_324 (x_getf d_324_398 rfl h.1 rfl) ?_
        refine m_Rs.n0 b_324 (x_bipush (z := 8) d_324_401 (by decide)) ?_
        obtain ⟨v81, e82, e79⟩ := bS e79
        refine m_Rs.dget b_324 d_324_403 h 42 rfl e82 ?_
        refine m_Rs.n0 b_324 (x_aload_n d_324_404 rfl) ?_
        refine m_Rs.n0 b_324 (x_getf d_324_405 rfl h.1 rfl) ?_
        refine m_Rs.n0 b_324 (x_iload d_324_408 rfl) ?_
        refine m_Rs.n0 b_324 (x_bipush (z := 11) d_324_410 (by decide)) ?_
        refine m_Rs.n0 b_324 (x_iadd d_324_412 rfl) ?_
        obtain ⟨v83, e84, e79⟩ := bS e79
        refine m_Rs.dget b_324 d_324_413 h 38 rfl e84 ?_
        obtain ⟨v85, e86, e79⟩ := bS e79
        refine m_Rs.callS b_324 (y_cs d_324_414 rfl q_279 (show m_takeS _ _ = some (_, [_, _], []) from rfl) (by simp only [m_okf, List.all_cons, List.all_nil, Bool.and_true, Bool.and_self, m_okv_i, m_okv_l, m_okv_0, m_okv_t, m_okv_at h.1]) rfl) (T_m_whichOf h e86) hF rfl (fun w1 h hF => ?_) (by decide) (by decide)
        refine m_Rs.n0 b_324 (x_aload_n d_324_417 rfl) ?_
        refine m_Rs.n0 b_324 (x_getf d_324_418 rfl h.1 rfl) ?_
        cases hc87 : m_c2 .ne v85 (q70.2.1 87) with
        | true =>
          have e79 := cT hc87 e79
          refine m_Rs.n0 b_324 (x_ict d_324_421 rfl hc87) ?_
          refine m_Rs.n0 b_324 (x_iconst (z := 0) d_324_458 (by decide)) ?_
          exact kk78 _ _ (Option.some.inj e79) h hF
        | false =>
          have e79 := cF hc87 e79
          refine m_Rs.n0 b_324 (x_icf d_324_421 rfl hc87) ?_
          refine m_Rs.n0 b_324 (x_iload d_324_424 rfl) ?_
          refine m_Rs.n0 b_324 (x_iload d_324_426 rfl) ?_
          refine m_Rs.n0 b_324 (x_iand d_324_428 rfl) ?_
          refine m_Rs.n0 b_324 (x_iload d_324_429 rfl) ?_
          cases hc88 : m_c2 .ne (x4 &&& v76) v76 with
          | true =>
            have e79 := cT hc88 e79
            refine m_Rs.n0 b_324 (x_ict d_324_431 rfl hc88) ?_
            refine m_Rs.n0 b_324 (x_iconst (z := 0) d_324_458 (by decide)) ?_
            exact kk78 _ _ (Option.some.inj e79) h hF
          | false =>
            have e79 := cF hc88 e79
            refine m_Rs.n0 b_324 (x_icf d_324_431 rfl hc88) ?_
            refine m_Rs.n0 b_324 (x_aload_n d_324_434 rfl) ?_
            refine m_Rs.n0 b_324 (x_getf d_324_435 rfl h.1 rfl) ?_
            refine m_Rs.n0 b_324 (x_bipush (z := 8) d_324_438 (by decide)) ?_
            obtain ⟨v89, e90, e79⟩ := bS e79
            refine m_Rs.dget b_324 d_324_440 h 44 rfl e90 ?_
            refine m_Rs.n0 b_324 (x_aload_n d_324_441 rfl) ?_
            refine m_Rs.n0 b_324 (x_getf d_324_442 rfl h.1 rfl) ?_
            refine m_Rs.n0 b_324 (x_iload d_324_445 rfl) ?_
            refine m_Rs.n0 b_324 (x_bipush (z := 7) d_324_447 (by decide)) ?_
            refine m_Rs.n0 b_324 (x_iadd d_324_449 rfl) ?_
            obtain ⟨v91, e92, e79⟩ := bS e79
            refine m_Rs.dget b_324 d_324_450 h 38 rfl e92 ?_
            cases hc93 : m_c2 .lt v89 v91 with
            | true =>
              have e79 := cT hc93 e79
              refine m_Rs.n0 b_324 (x_ict d_324_451 rfl hc93) ?_
              refine m_Rs.n0 b_324 (x_iconst (z := 0) d_324_458 (by decide)) ?_
              exact kk78 _ _ (Option.some.inj e79) h hF
            | false =>
              have e79 := cF hc93 e79
              refine m_Rs.n0 b_324 (x_icf d_324_451 rfl hc93) ?_
              refine m_Rs.n0 b_324 (x_iconst (z := 1) d_324_454 (by decide)) ?_
              refine m_Rs.n0 b_324 (x_goto d_324_455 rfl) ?_
              exact kk78 _ _ (Option.some.inj e79) h hF
def D_m_takeIn_285 (F : Nat) : Nat → Int32 → Int32 → Int32 → Int32 → mS → Option (mS)
  | 0, _, _, _, _, _ => none
  | n + 1, x3, x4, x5, x6, S => cond (m_c2 .ge x6 (9 : Int32)) ((fput S 87 (x3 - x3 / (8 : Int32) * (8 : Int32))).bind fun S53 => (aget 0 22 S53 628 (8 : Int32)).bind fun v55 => (fput S53 84 v55).bind fun S57 => (aget 0 22 S57 628 (10 : Int32)).bind fun v59 => (fput S57 85 (v59 + (S57.1 36))).bind fun S61 => (fput S61 86 x4).bind fun S63 => D_m_takeIn_359 F F x4 x5 (0 : Int32) S63) ((aget 0 22 S 628 ((12 : Int32) + x6)).bind fun v65 => (aput 9 S 626 x6 v65).bind fun S67 => D_m_takeIn_285 F n x3 x4 x5 (x6 + Int32.ofInt 1) S67)
theorem T_m_takeIn_285 {l : Launch} {w0 : List mM} {F : Nat} : ∀ (n : Nat) {x3 : Int32} {x4 : Int32} {x5 : Int32} {x6 : Int32} {S : mS} {w : List mM} {r : mS}, m_RM S w → m_Fq w0 w → D_m_takeIn_285 F n x3 x4 x5 x6 S = some r → m_Rs l M_324 (285, [(0, .ref 583), (3, .int x3), (4, .int x4), (5, .int x5), (6, .int x6)], [], w) (fun v w' => v = none ∧ m_RM r w' ∧ m_Fq w0 w') 0 0 9 900 := by
  intro n
  induction n with
  | zero => intro x3 x4 x5 x6 S w r h hF h0; cases h0
  | succ n ih =>
    intro x3 x4 x5 x6 S w r h hF h0
    rw [D_m_takeIn_285] at h0
    refine m_Rs.n0 b_324 (x_iload d_324_285 rfl) ?_
    refine m_Rs.n0 b_324 (x_bipush (z := 9) d_324_287 (by decide)) ?_
    cases hc52 : m_c2 .ge x6 (9 : Int32) with
    | true =>
      have h0 := cT hc52 h0
      refine m_Rs.n0 b_324 (x_ict d_324_289 rfl hc52) ?_
      refine m_Rs.n0 b_324 (x_aload_n d_324_315 rfl) ?_
      refine m_Rs.n0 b_324 (x_iload_n d_324_316 rfl) ?_
      refine m_Rs.n0 b_324 (x_bipush (z := 8) d_324_317 (by decide)) ?_
      refine m_Rs.n0 b_324 (x_irem d_324_319 (by decide) rfl) ?_
      obtain ⟨S53, e54, h0⟩ := bS h0
      refine m_Rs.dfput b_324 d_324_320 h hF e54 rfl rfl rfl rfl rfl rfl (fun w1 h hF => ?_)
      refine m_Rs.n0 b_324 (x_aload_n d_324_323 rfl) ?_
      refine m_Rs.n0 b_324 (x_aload_n d_324_324 rfl) ?_
      refine m_Rs.n0 b_324 (x_getf d_324_325 rfl h.1 rfl) ?_
      refine m_Rs.n0 b_324 (x_bipush (z := 8) d_324_328 (by decide)) ?_
      obtain ⟨v55, e56, h0⟩ := bS h0
      refine m_Rs.dget b_324 d_324_330 h 44 rfl e56 ?_
      obtain ⟨S57, e58, h0⟩ := bS h0
      refine m_Rs.dfput b_324 d_324_331 h hF e58 rfl rfl rfl rfl rfl rfl (fun w1 h hF => ?_)
      refine m_Rs.n0 b_324 (x_aload_n d_324_334 rfl) ?_
      refine m_Rs.n0 b_324 (x_aload_n d_324_335 rfl) ?_
      refine m_Rs.n0 b_324 (x_getf d_324_336 rfl h.1 rfl) ?_
      refine m_Rs.n0 b_324 (x_bipush (z := 10) d_324_339 (by decide)) ?_
      obtain ⟨v59, e60, h0⟩ := bS h0
      refine m_Rs.dget b_324 d_324_341 h 44 rfl e60 ?_
      refine m_Rs.n0 b_324 (x_aload_n d_324_342 rfl) ?_
      refine m_Rs.n0 b_324 (x_getf d_324_343 rfl h.1 rfl) ?_
      refine m_Rs.n0 b_324 (x_iadd d_324_346 rfl) ?_
      obtain ⟨S61, e62, h0⟩ := bS h0
      refine m_Rs.dfput b_324 d_324_347 h hF e62 rfl rfl rfl rfl rfl rfl (fun w1 h hF => ?_)
      refine m_Rs.n0 b_324 (x_aload_n d_324_350 rfl) ?_
      refine m_Rs.n0 b_324 (x_iload d_324_351 rfl) ?_
      obtain ⟨S63, e64, h0⟩ := bS h0
      refine m_Rs.dfput b_324 d_324_353 h hF e64 rfl rfl rfl rfl rfl rfl (fun w1 h hF => ?_)
      refine m_Rs.n0 b_324 (x_iconst (z := 0) d_324_356 (by decide)) ?_
      refine m_Rs.n0 b_324 (x_istore d_324_357 rfl (show m_put1 _ _ _ = [(6, _), (0, _), (3, _), (4, _), (5, _)] from rfl)) ?_
      exact m_Rs.pick [1, 3, 4, 0] rfl (T_m_takeIn_359 F h hF h0)
    | false =>
      have h0 := cF hc52 h0
      refine m_Rs.n0 b_324 (x_icf d_324_289 rfl hc52) ?_
      refine m_Rs.n0 b_324 (x_aload_n d_324_292 rfl) ?_
      refine m_Rs.n0 b_324 (x_getf d_324_293 rfl h.1 rfl) ?_
      refine m_Rs.n0 b_324 (x_iload d_324_296 rfl) ?_
      refine m_Rs.n0 b_324 (x_aload_n d_324_298 rfl) ?_
      refine m_Rs.n0 b_324 (x_getf d_324_299 rfl h.1 rfl) ?_
      refine m_Rs.n0 b_324 (x_bipush (z := 12) d_324_302 (by decide)) ?_
      refine m_Rs.n0 b_324 (x_iload d_324_304 rfl) ?_
      refine m_Rs.n0 b_324 (x_iadd d_324_306 rfl) ?_
      obtain ⟨v65, e66, h0⟩ := bS h0
      refine m_Rs.dget b_324 d_324_307 h 44 rfl e66 ?_
      obtain ⟨S67, e68, h0⟩ := bS h0
      refine m_Rs.dput b_324 d_324_308 h hF 42 rfl e68 (fun w1 h hF => ?_)
      refine m_Rs.n0 b_324 (x_iinc d_324_309 rfl rfl rfl (show m_put1 _ _ _ = [(6, _), (0, _), (3, _), (4, _), (5, _)] from rfl)) ?_
      refine m_Rs.n0 b_324 (x_goto d_324_312 rfl) ?_
      exact m_Rs.pick [1, 2, 3, 4, 0] rfl (ih h hF h0)
def D_m_takeIn_270 (F : Nat) (x1 : Int32) (x2 : Int32) (x3 : Int32) (x4 : Int32) (S : mS) : Option (mS) := (D_m_take F x1 (x2 - x2 / (128 : Int32) * (128 : Int32)) S).bind fun q50 => D_m_takeIn_285 F F x3 x4 q50.1 (0 : Int32) q50.2
theorem T_m_takeIn_270 {l : Launch} {w0 : List mM} {F : Nat} {x1 : Int32} {x2 : Int32} {x3 : Int32} {x4 : Int32} {S : mS} {w : List mM} {r : mS} (h : m_RM S w) (hF : m_Fq w0 w) (h0 : D_m_takeIn_270 F x1 x2 x3 x4 S = some r) : m_Rs l M_324 (270, [(0, .ref 583), (1, .int x1), (2, .int x2), (3, .int x3), (4, .int x4)], [], w) (fun v w' => v = none ∧ m_RM r w' ∧ m_Fq w0 w') 0 0 9 900 := by
  rw [D_m_takeIn_270] at h0
  refine m_Rs.n0 b_324 (x_aload_n d_324_270 rfl) ?_
  refine m_Rs.n0 b_324 (x_iload_n d_324_271 rfl) ?_
  refine m_Rs.n0 b_324 (x_iload_n d_324_272 rfl) ?_
  refine m_Rs.n0 b_324 (x_sipush (z := 128) d_324_273 (by decide)) ?_
  refine m_Rs.n0 b_324 (x_irem d_324_276 (by decide) rfl) ?_
  obtain ⟨q50, e51, h0⟩ := bS h0
  refine m_Rs.callS b_324 (y_cv d_324_277 rfl q_320 (m_isRecv_of rfl h.1) (show m_takeI _ _ = some (_, [_, _, _], []) from rfl) (by simp only [m_okf, List.all_cons, List.all_nil, Bool.and_true, Bool.and_self, m_okv_i, m_okv_l, m_okv_0, m_okv_t, m_okv_at h.1]) rfl) (T_m_take h e51) hF rfl (fun w1 h hF => ?_) (by decide) (by decide)
  refine m_Rs.n0 b_324 (x_istore d_324_280 rfl (show m_put1 _ _ _ = [(5, _), (0, _), (1, _), (2, _), (3, _), (4, _)] from rfl)) ?_
  refine m_Rs.n0 b_324 (x_iconst (z := 0) d_324_282 (by decide)) ?_
  refine m_Rs.n0 b_324 (x_istore d_324_283 rfl (show m_put1 _ _ _ = [(6, _), (5, _), (0, _), (1, _), (2, _), (3, _), (4, _)] from rfl)) ?_
  exact m_Rs.pick [2, 5, 6, 1, 0] rfl (T_m_takeIn_285 F h hF h0)
def D_m_takeIn_176 (F : Nat) : Nat → Int32 → Int32 → Int32 → Int32 → Int32 → mS → Option (mS)
  | 0, _, _, _, _, _, _ => none
  | n + 1, x1, x2, x3, x4, x5, S => cond (m_c2 .ge x5 (9 : Int32)) ((aget 0 22 S 628 (8 : Int32)).bind fun v108 => (aput 7168 S 604 x3 v108).bind fun S110 => (aget 0 22 S110 628 (10 : Int32)).bind fun v112 => (aput 7168 S110 605 x3 (v112 + (S110.1 36))).bind fun S114 => (aput 7168 S114 606 x3 (S114.1 36)).bind fun S116 => (aput 7168 S116 607 x3 x4).bind fun S118 => (D_m_newest F x3 S118).bind fun S120 => (D_m_trim F x1 S120).bind fun S122 => D_m_takeIn_270 F x1 x2 x3 x4 S122) ((aget 0 22 S 628 ((12 : Int32) + x5)).bind fun v124 => (aput 64512 S 603 (((9 : Int32) * x3) + x5) v124).bind fun S126 => D_m_takeIn_176 F n x1 x2 x3 x4 (x5 + Int32.ofInt 1) S126)
theorem T_m_takeIn_176 {l : Launch} {w0 : List mM} {F : Nat} : ∀ (n : Nat) {x1 : Int32} {x2 : Int32} {x3 : Int32} {x4 : Int32} {x5 : Int32} {S : mS} {w : List mM} {r : mS}, m_RM S w → m_Fq w0 w → D_m_takeIn_176 F n x1 x2 x3 x4 x5 S = some r → m_Rs l M_324 (176, [(0, .ref 583), (1, .int x1), (2, .int x2), (3, .int x3), (4, .int x4), (5, .int x5)], [], w) (fun v w' => v = none ∧ m_RM r w' ∧ m_Fq w0 w') 0 0 9 900 := by
  intro n
  induction n with
  | zero => intro x1 x2 x3 x4 x5 S w r h hF h0; cases h0
  | succ n ih =>
    intro x1 x2 x3 x4 x5 S w r h hF h0
    rw [D_m_takeIn_176] at h0
    refine m_Rs.n0 b_324 (x_iload d_324_176 rfl) ?_
    refine m_Rs.n0 b_324 (x_bipush (z := 9) d_324_178 (by decide)) ?_
    cases hc107 : m_c2 .ge x5 (9 : Int32) with
    | true =>
      have h0 := cT hc107 h0
      refine m_Rs.n0 b_324 (x_ict d_324_180 rfl hc107) ?_
      refine m_Rs.n0 b_324 (x_aload_n d_324_211 rfl) ?_
      refine m_Rs.n0 b_324 (x_getf d_324_212 rfl h.1 rfl) ?_
      refine m_Rs.n0 b_324 (x_iload_n d_324_215 rfl) ?_
      refine m_Rs.n0 b_324 (x_aload_n d_324_216 rfl) ?_
      refine m_Rs.n0 b_324 (x_getf d_324_217 rfl h.1 rfl) ?_
      refine m_Rs.n0 b_324 (x_bipush (z := 8) d_324_220 (by decide)) ?_
      obtain ⟨v108, e109, h0⟩ := bS h0
      refine m_Rs.dget b_324 d_324_222 h 44 rfl e109 ?_
      obtain ⟨S110, e111, h0⟩ := bS h0
      refine m_Rs.dput b_324 d_324_223 h hF 20 rfl e111 (fun w1 h hF => ?_)
      refine m_Rs.n0 b_324 (x_aload_n d_324_224 rfl) ?_
      refine m_Rs.n0 b_324 (x_getf d_324_225 rfl h.1 rfl) ?_
      refine m_Rs.n0 b_324 (x_iload_n d_324_228 rfl) ?_
      refine m_Rs.n0 b_324 (x_aload_n d_324_229 rfl) ?_
      refine m_Rs.n0 b_324 (x_getf d_324_230 rfl h.1 rfl) ?_
      refine m_Rs.n0 b_324 (x_bipush (z := 10) d_324_233 (by decide)) ?_
      obtain ⟨v112, e113, h0⟩ := bS h0
      refine m_Rs.dget b_324 d_324_235 h 44 rfl e113 ?_
      refine m_Rs.n0 b_324 (x_aload_n d_324_236 rfl) ?_
      refine m_Rs.n0 b_324 (x_getf d_324_237 rfl h.1 rfl) ?_
      refine m_Rs.n0 b_324 (x_iadd d_324_240 rfl) ?_
      obtain ⟨S114, e115, h0⟩ := bS h0
      refine m_Rs.dput b_324 d_324_241 h hF 21 rfl e115 (fun w1 h hF => ?_)
      refine m_Rs.n0 b_324 (x_aload_n d_324_242 rfl) ?_
      refine m_Rs.n0 b_324 (x_getf d_324_243 rfl h.1 rfl) ?_
      refine m_Rs.n0 b_324 (x_iload_n d_324_246 rfl) ?_
      refine m_Rs.n0 b_324 (x_aload_n d_324_247 rfl) ?_
      refine m_Rs.n0 b_324 (x_getf d_324_248 rfl h.1 rfl) ?_
      obtain ⟨S116, e117, h0⟩ := bS h0
      refine m_Rs.dput b_324 d_324_251 h hF 22 rfl e117 (fun w1 h hF => ?_)
      refine m_Rs.n0 b_324 (x_aload_n d_324_252 rfl) ?_
      refine m_Rs.n0 b_324 (x_getf d_324_253 rfl h.1 rfl) ?_
      refine m_Rs.n0 b_324 (x_iload_n d_324_256 rfl) ?_
      refine m_Rs.n0 b_324 (x_iload d_324_257 rfl) ?_
      obtain ⟨S118, e119, h0⟩ := bS h0
      refine m_Rs.dput b_324 d_324_259 h hF 23 rfl e119 (fun w1 h hF => ?_)
      refine m_Rs.n0 b_324 (x_aload_n d_324_260 rfl) ?_
      refine m_Rs.n0 b_324 (x_iload_n d_324_261 rfl) ?_
      obtain ⟨S120, e121, h0⟩ := bS h0
      refine m_Rs.callSv b_324 (y_cv d_324_262 rfl q_295 (m_isRecv_of rfl h.1) (show m_takeI _ _ = some (_, [_, _], []) from rfl) (by simp only [m_okf, List.all_cons, List.all_nil, Bool.and_true, Bool.and_self, m_okv_i, m_okv_l, m_okv_0, m_okv_t, m_okv_at h.1]) rfl) (T_m_newest h e121) hF rfl (fun w1 h hF => ?_) (by decide) (by decide)
      refine m_Rs.n0 b_324 (x_aload_n d_324_265 rfl) ?_
      refine m_Rs.n0 b_324 (x_iload_n d_324_266 rfl) ?_
      obtain ⟨S122, e123, h0⟩ := bS h0
      refine m_Rs.callSv b_324 (y_cv d_324_267 rfl q_296 (m_isRecv_of rfl h.1) (show m_takeI _ _ = some (_, [_, _], []) from rfl) (by simp only [m_okf, List.all_cons, List.all_nil, Bool.and_true, Bool.and_self, m_okv_i, m_okv_l, m_okv_0, m_okv_t, m_okv_at h.1]) rfl) (T_m_trim h e123) hF rfl (fun w1 h hF => ?_) (by decide) (by decide)
      exact m_Rs.pick [0, 1, 2, 3, 4] rfl (T_m_takeIn_270 h hF h0)
    | false =>
      have h0 := cF hc107 h0
      refine m_Rs.n0 b_324 (x_icf d_324_180 rfl hc107) ?_
      refine m_Rs.n0 b_324 (x_aload_n d_324_183 rfl) ?_
      refine m_Rs.n0 b_324 (x_getf d_324_184 rfl h.1 rfl) ?_
      refine m_Rs.n0 b_324 (x_bipush (z := 9) d_324_187 (by decide)) ?_
      refine m_Rs.n0 b_324 (x_iload_n d_324_189 rfl) ?_
      refine m_Rs.n0 b_324 (x_imul d_324_190 rfl) ?_
      refine m_Rs.n0 b_324 (x_iload d_324_191 rfl) ?_
      refine m_Rs.n0 b_324 (x_iadd d_324_193 rfl) ?_
      refine m_Rs.n0 b_324 (x_aload_n d_324_194 rfl) ?_
      refine m_Rs.n0 b_324 (x_getf d_324_195 rfl h.1 rfl) ?_
      refine m_Rs.n0 b_324 (x_bipush (z := 12) d_324_198 (by decide)) ?_
      refine m_Rs.n0 b_324 (x_iload d_324_200 rfl) ?_
      refine m_Rs.n0 b_324 (x_iadd d_324_202 rfl) ?_
      obtain ⟨v124, e125, h0⟩ := bS h0
      refine m_Rs.dget b_324 d_324_203 h 44 rfl e125 ?_
      obtain ⟨S126, e127, h0⟩ := bS h0
      refine m_Rs.dput b_324 d_324_204 h hF 19 rfl e127 (fun w1 h hF => ?_)
      refine m_Rs.n0 b_324 (x_iinc d_324_205 rfl rfl rfl (show m_put1 _ _ _ = [(5, _), (0, _), (1, _), (2, _), (3, _), (4, _)] from rfl)) ?_
      refine m_Rs.n0 b_324 (x_goto d_324_208 rfl) ?_
      exact m_Rs.pick [1, 2, 3, 4, 5, 0] rfl (ih h hF h0)
def D_m_takeIn_13 (F : Nat) : Nat → Int32 → Int32 → Int32 → Int32 → mS → Option (mS)
  | 0, _, _, _, _, _ => none
  | n + 1, x1, x2, x3, x4, S => cond (m_c2 .ge x4 (((8 : Int32) * x2) + (8 : Int32))) ((aget 0 22 S 628 (11 : Int32)).bind fun v4 => (aget 4 7168 S 601 x3).bind fun v6 => (cond (m_c1 .eq v6) (some (0 : Int32)) ((D_m_told F x3 (0 : Int32) S).bind fun v11 => (aget 0 22 S 628 (12 : Int32)).bind fun v13 => cond (m_c2 .ne v11 v13) (some (0 : Int32)) ((aget 0 7168 S 607 x3).bind fun v16 => some v16))).bind fun v18 => (aget 0 22 S 628 (17 : Int32)).bind fun v19 => cond (m_c2 .ne v19 (1 : Int32)) ((aget 4 7168 S 601 x3).bind fun v22 => (cond (m_c1 .eq v22) (some (0 : Int32)) ((aget 4 7168 S 602 x3).bind fun v27 => cond (m_c1 .eq v27) (some (0 : Int32)) (some (1 : Int32)))).bind fun v30 => (bput 7168 S 602 x3 v30).bind fun S31 => (bput 7168 S31 601 x3 (1 : Int32)).bind fun S33 => D_m_takeIn_176 F F x1 x2 x3 (v4 ||| v18) (0 : Int32) S33) ((bput 7168 S 601 x3 (0 : Int32)).bind fun S35 => D_m_takeIn_270 F x1 x2 x3 (v4 ||| v18) S35)) ((aget 4 7168 S 601 x4).bind fun v37 => (cond (m_c1 .eq v37) (some (0 : Int32)) ((D_m_told F x4 (8 : Int32) S).bind fun v42 => (aget 0 22 S 628 (20 : Int32)).bind fun v44 => cond (m_c2 .ne v42 v44) (some (0 : Int32)) (some (1 : Int32)))).bind fun v47 => (bput 7168 S 601 x4 v47).bind fun S48 => D_m_takeIn_13 F n x1 x2 x3 (x4 + Int32.ofInt 1) S48)
theorem T_m_takeIn_13 {l : Launch} {w0 : List mM} {F : Nat} : ∀ (n : Nat) {x1 : Int32} {x2 : Int32} {x3 : Int32} {x4 : Int32} {S : mS} {w : List mM} {r : mS}, m_RM S w → m_Fq w0 w → D_m_takeIn_13 F n x1 x2 x3 x4 S = some r → m_Rs l M_324 (13, [(0, .ref 583), (1, .int x1), (2, .int x2), (3, .int x3), (4, .int x4)], [], w) (fun v w' => v = none ∧ m_RM r w' ∧ m_Fq w0 w') 0 0 9 900 := by
  intro n
  induction n with
  | zero => intro x1 x2 x3 x4 S w r h hF h0; cases h0
  | succ n ih =>
    intro x1 x2 x3 x4 S w r h hF h0
    rw [D_m_takeIn_13] at h0
    refine m_Rs.n0 b_324 (x_iload d_324_13 rfl) ?_
    refine m_Rs.n0 b_324 (x_bipush (z := 8) d_324_15 (by decide)) ?_
    refine m_Rs.n0 b_324 (x_iload_n d_324_17 rfl) ?_
    refine m_Rs.n0 b_324 (x_imul d_324_18 rfl) ?_
    refine m_Rs.n0 b_324 (x_bipush (z := 8) d_324_19 (by decide)) ?_
    refine m_Rs.n0 b_324 (x_iadd d_324_21 rfl) ?_
    cases hc3 : m_c2 .ge x4 (((8 : Int32) * x2) + (8 : Int32)) with
    | true =>
      have h0 := cT hc3 h0
      refine m_Rs.n0 b_324 (x_ict d_324_22 rfl hc3) ?_
      refine m_Rs.n0 b_324 (x_aload_n d_324_71 rfl) ?_
      refine m_Rs.n0 b_324 (x_getf d_324_72 rfl h.1 rfl) ?_
      refine m_Rs.n0 b_324 (x_bipush (z := 11) d_324_75 (by decide)) ?_
      obtain ⟨v4, e5, h0⟩ := bS h0
      refine m_Rs.dget b_324 d_324_77 h 44 rfl e5 ?_
      refine m_Rs.n0 b_324 (x_aload_n d_324_78 rfl) ?_
      refine m_Rs.n0 b_324 (x_getf d_324_79 rfl h.1 rfl) ?_
      refine m_Rs.n0 b_324 (x_iload_n d_324_82 rfl) ?_
      obtain ⟨v6, e7, h0⟩ := bS h0
      refine m_Rs.dgetb b_324 d_324_83 h 17 rfl e7 ?_
      obtain ⟨v18, e9, h0⟩ := bS h0
      have kk8 : ∀ (xz : Int32) (w1 : List mM), xz = v18 → m_RM S w1 → m_Fq w0 w1 → m_Rs l M_324 (113, [(0, .ref 583), (1, .int x1), (2, .int x2), (3, .int x3), (4, .int x4)], [.int xz, .int v4], w1) (fun v w' => v = none ∧ m_RM r w' ∧ m_Fq w0 w') 0 0 9 900 := by
        intro xz w ez h hF
        rw [ez]
        refine m_Rs.n0 b_324 (x_ior d_324_113 rfl) ?_
        refine m_Rs.n0 b_324 (x_istore d_324_114 rfl (show m_put1 _ _ _ = [(4, _), (0, _), (1, _), (2, _), (3, _)] from rfl)) ?_
        refine m_Rs.n0 b_324 (x_aload_n d_324_116 rfl) ?_
        refine m_Rs.n0 b_324 (x_getf d_324_117 rfl h.1 rfl) ?_
        refine m_Rs.n0 b_324 (x_bipush (z := 17) d_324_120 (by decide)) ?_
        obtain ⟨v19, e20, h0⟩ := bS h0
        refine m_Rs.dget b_324 d_324_122 h 44 rfl e20 ?_
        refine m_Rs.n0 b_324 (x_iconst (z := 1) d_324_123 (by decide)) ?_
        cases hc21 : m_c2 .ne v19 (1 : Int32) with
        | true =>
          have h0 := cT hc21 h0
          refine m_Rs.n0 b_324 (x_ict d_324_124 rfl hc21) ?_
          refine m_Rs.n0 b_324 (x_aload_n d_324_137 rfl) ?_
          refine m_Rs.n0 b_324 (x_getf d_324_138 rfl h.1 rfl) ?_
          refine m_Rs.n0 b_324 (x_iload_n d_324_141 rfl) ?_
          refine m_Rs.n0 b_324 (x_aload_n d_324_142 rfl) ?_
          refine m_Rs.n0 b_324 (x_getf d_324_143 rfl h.1 rfl) ?_
          refine m_Rs.n0 b_324 (x_iload_n d_324_146 rfl) ?_
          obtain ⟨v22, e23, h0⟩ := bS h0
          refine m_Rs.dgetb b_324 d_324_147 h 17 rfl e23 ?_
          obtain ⟨v30, e25, h0⟩ := bS h0
          have kk24 : ∀ (xz : Int32) (w1 : List mM), xz = v30 → m_RM S w1 → m_Fq w0 w1 → m_Rs l M_324 (165, [(4, .int (v4 ||| v18)), (0, .ref 583), (1, .int x1), (2, .int x2), (3, .int x3)], [.int xz, .int x3, .ref 602], w1) (fun v w' => v = none ∧ m_RM r w' ∧ m_Fq w0 w') 0 0 9 900 := by
            intro xz w ez h hF
            rw [ez]
            obtain ⟨S31, e32, h0⟩ := bS h0
            refine m_Rs.dputb b_324 d_324_165 h hF 18 rfl e32 (fun w1 h hF => ?_)
            refine m_Rs.n0 b_324 (x_aload_n d_324_166 rfl) ?_
            refine m_Rs.n0 b_324 (x_getf d_324_167 rfl h.1 rfl) ?_
            refine m_Rs.n0 b_324 (x_iload_n d_324_170 rfl) ?_
            refine m_Rs.n0 b_324 (x_iconst (z := 1) d_324_171 (by decide)) ?_
            obtain ⟨S33, e34, h0⟩ := bS h0
            refine m_Rs.dputb b_324 d_324_172 h hF 17 rfl e34 (fun w1 h hF => ?_)
            refine m_Rs.n0 b_324 (x_iconst (z := 0) d_324_173 (by decide)) ?_
            refine m_Rs.n0 b_324 (x_istore d_324_174 rfl (show m_put1 _ _ _ = [(5, _), (4, _), (0, _), (1, _), (2, _), (3, _)] from rfl)) ?_
            exact m_Rs.pick [2, 3, 4, 5, 1, 0] rfl (T_m_takeIn_176 F h hF h0)
          cases hc26 : m_c1 .eq v22 with
          | true =>
            have e25 := cT hc26 e25
            refine m_Rs.n0 b_324 (x_ift d_324_148 rfl hc26) ?_
            refine m_Rs.n0 b_324 (x_iconst (z := 0) d_324_164 (by decide)) ?_
            exact kk24 _ _ (Option.some.inj e25) h hF
          | false =>
            have e25 := cF hc26 e25
            refine m_Rs.n0 b_324 (x_iff d_324_148 rfl hc26) ?_
            refine m_Rs.n0 b_324 (x_aload_n d_324_151 rfl) ?_
            refine m_Rs.n0 b_324 (x_getf d_324_152 rfl h.1 rfl) ?_
            refine m_Rs.n0 b_324 (x_iload_n d_324_155 rfl) ?_
            obtain ⟨v27, e28, e25⟩ := bS e25
            refine m_Rs.dgetb b_324 d_324_156 h 18 rfl e28 ?_
            cases hc29 : m_c1 .eq v27 with
            | true =>
              have e25 := cT hc29 e25
              refine m_Rs.n0 b_324 (x_ift d_324_157 rfl hc29) ?_
              refine m_Rs.n0 b_324 (x_iconst (z := 0) d_324_164 (by decide)) ?_
              exact kk24 _ _ (Option.some.inj e25) h hF
            | false =>
              have e25 := cF hc29 e25
              refine m_Rs.n0 b_324 (x_iff d_324_157 rfl hc29) ?_
              refine m_Rs.n0 b_324 (x_iconst (z := 1) d_324_160 (by decide)) ?_
              refine m_Rs.n0 b_324 (x_goto d_324_161 rfl) ?_
              exact kk24 _ _ (Option.some.inj e25) h hF
        | false =>
          have h0 := cF hc21 h0
          refine m_Rs.n0 b_324 (x_icf d_324_124 rfl hc21) ?_
          refine m_Rs.n0 b_324 (x_aload_n d_324_127 rfl) ?_
          refine m_Rs.n0 b_324 (x_getf d_324_128 rfl h.1 rfl) ?_
          refine m_Rs.n0 b_324 (x_iload_n d_324_131 rfl) ?_
          refine m_Rs.n0 b_324 (x_iconst (z := 0) d_324_132 (by decide)) ?_
          obtain ⟨S35, e36, h0⟩ := bS h0
          refine m_Rs.dputb b_324 d_324_133 h hF 17 rfl e36 (fun w1 h hF => ?_)
          refine m_Rs.n0 b_324 (x_goto d_324_134 rfl) ?_
          exact m_Rs.pick [1, 2, 3, 4, 0] rfl (T_m_takeIn_270 h hF h0)
      cases hc10 : m_c1 .eq v6 with
      | true =>
        have e9 := cT hc10 e9
        refine m_Rs.n0 b_324 (x_ift d_324_84 rfl hc10) ?_
        refine m_Rs.n0 b_324 (x_iconst (z := 0) d_324_112 (by decide)) ?_
        exact kk8 _ _ (Option.some.inj e9) h hF
      | false =>
        have e9 := cF hc10 e9
        refine m_Rs.n0 b_324 (x_iff d_324_84 rfl hc10) ?_
        refine m_Rs.n0 b_324 (x_aload_n d_324_87 rfl) ?_
        refine m_Rs.n0 b_324 (x_iload_n d_324_88 rfl) ?_
        refine m_Rs.n0 b_324 (x_iconst (z := 0) d_324_89 (by decide)) ?_
        obtain ⟨v11, e12, e9⟩ := bS e9
        refine m_Rs.callS b_324 (y_cv d_324_90 rfl q_278 (m_isRecv_of rfl h.1) (show m_takeI _ _ = some (_, [_, _, _], [_]) from rfl) (by simp only [m_okf, List.all_cons, List.all_nil, Bool.and_true, Bool.and_self, m_okv_i, m_okv_l, m_okv_0, m_okv_t, m_okv_at h.1]) rfl) (T_m_told h e12) hF rfl (fun w1 h hF => ?_) (by decide) (by decide)
        refine m_Rs.n0 b_324 (x_aload_n d_324_93 rfl) ?_
        refine m_Rs.n0 b_324 (x_getf d_324_94 rfl h.1 rfl) ?_
        refine m_Rs.n0 b_324 (x_bipush (z := 12) d_324_97 (by decide)) ?_
        obtain ⟨v13, e14, e9⟩ := bS e9
        refine m_Rs.dget b_324 d_324_99 h 44 rfl e14 ?_
        cases hc15 : m_c2 .ne v11 v13 with
        | true =>
          have e9 := cT hc15 e9
          refine m_Rs.n0 b_324 (x_ict d_324_100 rfl hc15) ?_
          refine m_Rs.n0 b_324 (x_iconst (z := 0) d_324_112 (by decide)) ?_
          exact kk8 _ _ (Option.some.inj e9) h hF
        | false =>
          have e9 := cF hc15 e9
          refine m_Rs.n0 b_324 (x_icf d_324_100 rfl hc15) ?_
          refine m_Rs.n0 b_324 (x_aload_n d_324_103 rfl) ?_
          refine m_Rs.n0 b_324 (x_getf d_324_104 rfl h.1 rfl) ?_
          refine m_Rs.n0 b_324 (x_iload_n d_324_107 rfl) ?_
          obtain ⟨v16, e17, e9⟩ := bS e9
          refine m_Rs.dget b_324 d_324_108 h 23 rfl e17 ?_
          refine m_Rs.n0 b_324 (x_goto d_324_109 rfl) ?_
          exact kk8 _ _ (Option.some.inj e9) h hF
    | false =>
      have h0 := cF hc3 h0
      refine m_Rs.n0 b_324 (x_icf d_324_22 rfl hc3) ?_
      refine m_Rs.n0 b_324 (x_aload_n d_324_25 rfl) ?_
      refine m_Rs.n0 b_324 (x_getf d_324_26 rfl h.1 rfl) ?_
      refine m_Rs.n0 b_324 (x_iload d_324_29 rfl) ?_
      refine m_Rs.n0 b_324 (x_aload_n d_324_31 rfl) ?_
      refine m_Rs.n0 b_324 (x_getf d_324_32 rfl h.1 rfl) ?_
      refine m_Rs.n0 b_324 (x_iload d_324_35 rfl) ?_
      obtain ⟨v37, e38, h0⟩ := bS h0
      refine m_Rs.dgetb b_324 d_324_37 h 17 rfl e38 ?_
      obtain ⟨v47, e40, h0⟩ := bS h0
      have kk39 : ∀ (xz : Int32) (w1 : List mM), xz = v47 → m_RM S w1 → m_Fq w0 w1 → m_Rs l M_324 (64, [(0, .ref 583), (1, .int x1), (2, .int x2), (3, .int x3), (4, .int x4)], [.int xz, .int x4, .ref 601], w1) (fun v w' => v = none ∧ m_RM r w' ∧ m_Fq w0 w') 0 0 9 900 := by
        intro xz w ez h hF
        rw [ez]
        obtain ⟨S48, e49, h0⟩ := bS h0
        refine m_Rs.dputb b_324 d_324_64 h hF 17 rfl e49 (fun w1 h hF => ?_)
        refine m_Rs.n0 b_324 (x_iinc d_324_65 rfl rfl rfl (show m_put1 _ _ _ = [(4, _), (0, _), (1, _), (2, _), (3, _)] from rfl)) ?_
        refine m_Rs.n0 b_324 (x_goto d_324_68 rfl) ?_
        exact m_Rs.pick [1, 2, 3, 4, 0] rfl (ih h hF h0)
      cases hc41 : m_c1 .eq v37 with
      | true =>
        have e40 := cT hc41 e40
        refine m_Rs.n0 b_324 (x_ift d_324_38 rfl hc41) ?_
        refine m_Rs.n0 b_324 (x_iconst (z := 0) d_324_63 (by decide)) ?_
        exact kk39 _ _ (Option.some.inj e40) h hF
      | false =>
        have e40 := cF hc41 e40
        refine m_Rs.n0 b_324 (x_iff d_324_38 rfl hc41) ?_
        refine m_Rs.n0 b_324 (x_aload_n d_324_41 rfl) ?_
        refine m_Rs.n0 b_324 (x_iload d_324_42 rfl) ?_
        refine m_Rs.n0 b_324 (x_bipush (z := 8) d_324_44 (by decide)) ?_
        obtain ⟨v42, e43, e40⟩ := bS e40
        refine m_Rs.callS b_324 (y_cv d_324_46 rfl q_278 (m_isRecv_of rfl h.1) (show m_takeI _ _ = some (_, [_, _, _], [_, _]) from rfl) (by simp only [m_okf, List.all_cons, List.all_nil, Bool.and_true, Bool.and_self, m_okv_i, m_okv_l, m_okv_0, m_okv_t, m_okv_at h.1, m_okv_at (h.a 17 rfl)]) rfl) (T_m_told h e43) hF rfl (fun w1 h hF => ?_) (by decide) (by decide)
        refine m_Rs.n0 b_324 (x_aload_n d_324_49 rfl) ?_
        refine m_Rs.n0 b_324 (x_getf d_324_50 rfl h.1 rfl) ?_
        refine m_Rs.n0 b_324 (x_bipush (z := 20) d_324_53 (by decide)) ?_
        obtain ⟨v44, e45, e40⟩ := bS e40
        refine m_Rs.dget b_324 d_324_55 h 44 rfl e45 ?_
        cases hc46 : m_c2 .ne v42 v44 with
        | true =>
          have e40 := cT hc46 e40
          refine m_Rs.n0 b_324 (x_ict d_324_56 rfl hc46) ?_
          refine m_Rs.n0 b_324 (x_iconst (z := 0) d_324_63 (by decide)) ?_
          exact kk39 _ _ (Option.some.inj e40) h hF
        | false =>
          have e40 := cF hc46 e40
          refine m_Rs.n0 b_324 (x_icf d_324_56 rfl hc46) ?_
          refine m_Rs.n0 b_324 (x_iconst (z := 1) d_324_59 (by decide)) ?_
          refine m_Rs.n0 b_324 (x_goto d_324_60 rfl) ?_
          exact kk39 _ _ (Option.some.inj e40) h hF
def D_m_takeIn (F : Nat) (a0 : Int32) (a1 : Int32) (a2 : Int32) (S : mS) : Option (mS) := (bput 896 S 609 a1 (0 : Int32)).bind fun S1 => D_m_takeIn_13 F F a0 a1 a2 ((8 : Int32) * a1) S1
theorem T_m_takeIn {l : Launch} {w : List mM} {F : Nat} {a0 : Int32} {a1 : Int32} {a2 : Int32} {S : mS} {r : mS} (h : m_RM S w) (h0 : D_m_takeIn F a0 a1 a2 S = some r) : m_Rs l M_324 (m_ent M_324 [.ref 583, .int a0, .int a1, .int a2] w) (fun v w' => v = none ∧ m_RM r w' ∧ m_Fq w w') 0 0 9 900 := by
  show m_Rs l M_324 (0, [(0, .ref 583), (1, .int a0), (2, .int a1), (3, .int a2)], [], w) _ 0 0 9 900
  generalize hw0 : w = w0 at h ⊢
  have hF : m_Fq w0 w0 := m_Fq.refl
  rw [D_m_takeIn] at h0
  refine m_Rs.n0 b_324 (x_aload_n d_324_0 rfl) ?_
  refine m_Rs.n0 b_324 (x_getf d_324_1 rfl h.1 rfl) ?_
  refine m_Rs.n0 b_324 (x_iload_n d_324_4 rfl) ?_
  refine m_Rs.n0 b_324 (x_iconst (z := 0) d_324_5 (by decide)) ?_
  obtain ⟨S1, e2, h0⟩ := bS h0
  refine m_Rs.dputb b_324 d_324_6 h hF 25 rfl e2 (fun w1 h hF => ?_)
  refine m_Rs.n0 b_324 (x_bipush (z := 8) d_324_7 (by decide)) ?_
  refine m_Rs.n0 b_324 (x_iload_n d_324_9 rfl) ?_
  refine m_Rs.n0 b_324 (x_imul d_324_10 rfl) ?_
  refine m_Rs.n0 b_324 (x_istore d_324_11 rfl (show m_put1 _ _ _ = [(4, _), (0, _), (1, _), (2, _), (3, _)] from rfl)) ?_
  exact m_Rs.pick [1, 2, 3, 4, 0] rfl (T_m_takeIn_13 F h hF h0)
def D_m_bringFill_161 (F : Nat) : Nat → Int32 → Int32 → mS → Option (mS)
  | 0, _, _, _ => none
  | n + 1, x5, x6, S => cond (m_c2 .ge x6 x5) (some S) ((D_m_again F x6 S).bind fun q107 => (D_m_refuse F q107.1 (404 : Int32) q107.2).bind fun S109 => D_m_bringFill_161 F n x5 (x6 + Int32.ofInt 1) S109)
theorem T_m_bringFill_161 {l : Launch} {w0 : List mM} {F : Nat} : ∀ (n : Nat) {x5 : Int32} {x6 : Int32} {S : mS} {w : List mM} {r : mS}, m_RM S w → m_Fq w0 w → D_m_bringFill_161 F n x5 x6 S = some r → m_Rs l M_318 (161, [(0, .ref 583), (5, .int x5), (6, .int x6)], [], w) (fun v w' => v = none ∧ m_RM r w' ∧ m_Fq w0 w') 0 0 10 1000 := by
  intro n
  induction n with
  | zero => intro x5 x6 S w r h hF h0; cases h0
  | succ n ih =>
    intro x5 x6 S w r h hF h0
    rw [D_m_bringFill_161] at h0
    refine m_Rs.n0 b_318 (x_iload d_318_161 rfl) ?_
    refine m_Rs.n0 b_318 (x_iload d_318_163 rfl) ?_
    cases hc106 : m_c2 .ge x6 x5 with
    | true =>
      have h0 := cT hc106 h0
      refine m_Rs.n0 b_318 (x_ict d_318_165 rfl hc106) ?_
      refine m_Rs.n0 b_318 (x_goto d_318_187 rfl) ?_
      exact m_Rs.ret b_318 (m_rt_vr d_318_301 rfl) (rV h0 h hF)
    | false =>
      have h0 := cF hc106 h0
      refine m_Rs.n0 b_318 (x_icf d_318_165 rfl hc106) ?_
      refine m_Rs.n0 b_318 (x_aload_n d_318_168 rfl) ?_
      refine m_Rs.n0 b_318 (x_aload_n d_318_169 rfl) ?_
      refine m_Rs.n0 b_318 (x_iload d_318_170 rfl) ?_
      obtain ⟨q107, e108, h0⟩ := bS h0
      refine m_Rs.callS b_318 (y_cv d_318_172 rfl q_321 (m_isRecv_of rfl h.1) (show m_takeI _ _ = some (_, [_, _], [_]) from rfl) (by simp only [m_okf, List.all_cons, List.all_nil, Bool.and_true, Bool.and_self, m_okv_i, m_okv_l, m_okv_0, m_okv_t, m_okv_at h.1]) rfl) (T_m_again h e108) hF rfl (fun w1 h hF => ?_) (by decide) (by decide)
      refine m_Rs.n0 b_318 (x_sipush (z := 404) d_318_175 (by decide)) ?_
      obtain ⟨S109, e110, h0⟩ := bS h0
      refine m_Rs.callSv b_318 (y_cv d_318_178 rfl q_312 (m_isRecv_of rfl h.1) (show m_takeI _ _ = some (_, [_, _, _], []) from rfl) (by simp only [m_okf, List.all_cons, List.all_nil, Bool.and_true, Bool.and_self, m_okv_i, m_okv_l, m_okv_0, m_okv_t, m_okv_at h.1]) rfl) (T_m_refuse h e110) hF rfl (fun w1 h hF => ?_) (by decide) (by decide)
      refine m_Rs.n0 b_318 (x_iinc d_318_181 rfl rfl rfl (show m_put1 _ _ _ = [(6, _), (0, _), (5, _)] from rfl)) ?_
      refine m_Rs.n0 b_318 (x_goto d_318_184 rfl) ?_
      exact m_Rs.pick [1, 2, 0] rfl (ih h hF h0)
def D_m_bringFill_124 (F : Nat) : Nat → Int32 → Int32 → Int32 → Int32 → mS → Option (mS)
  | 0, _, _, _, _, _ => none
  | n + 1, x1, x2, x3, x5, S => cond (m_c2 .ge x5 (8 : Int32)) ((D_m_take F x1 x2 S).bind fun q102 => D_m_bringFill_161 F F q102.1 (0 : Int32) q102.2) ((bput 7168 S 601 (((8 : Int32) * x3) + x5) (0 : Int32)).bind fun S104 => D_m_bringFill_124 F n x1 x2 x3 (x5 + Int32.ofInt 1) S104)
theorem T_m_bringFill_124 {l : Launch} {w0 : List mM} {F : Nat} : ∀ (n : Nat) {x1 : Int32} {x2 : Int32} {x3 : Int32} {x5 : Int32} {S : mS} {w : List mM} {r : mS}, m_RM S w → m_Fq w0 w → D_m_bringFill_124 F n x1 x2 x3 x5 S = some r → m_Rs l M_318 (124, [(0, .ref 583), (1, .int x1), (2, .int x2), (3, .int x3), (5, .int x5)], [], w) (fun v w' => v = none ∧ m_RM r w' ∧ m_Fq w0 w') 0 0 10 1000 := by
  intro n
  induction n with
  | zero => intro x1 x2 x3 x5 S w r h hF h0; cases h0
  | succ n ih =>
    intro x1 x2 x3 x5 S w r h hF h0
    rw [D_m_bringFill_124] at h0
    refine m_Rs.n0 b_318 (x_iload d_318_124 rfl) ?_
    refine m_Rs.n0 b_318 (x_bipush (z := 8) d_318_126 (by decide)) ?_
    cases hc101 : m_c2 .ge x5 (8 : Int32) with
    | true =>
      have h0 := cT hc101 h0
      refine m_Rs.n0 b_318 (x_ict d_318_128 rfl hc101) ?_
      refine m_Rs.n0 b_318 (x_aload_n d_318_150 rfl) ?_
      refine m_Rs.n0 b_318 (x_iload_n d_318_151 rfl) ?_
      refine m_Rs.n0 b_318 (x_iload_n d_318_152 rfl) ?_
      obtain ⟨q102, e103, h0⟩ := bS h0
      refine m_Rs.callS b_318 (y_cv d_318_153 rfl q_320 (m_isRecv_of rfl h.1) (show m_takeI _ _ = some (_, [_, _, _], []) from rfl) (by simp only [m_okf, List.all_cons, List.all_nil, Bool.and_true, Bool.and_self, m_okv_i, m_okv_l, m_okv_0, m_okv_t, m_okv_at h.1]) rfl) (T_m_take h e103) hF rfl (fun w1 h hF => ?_) (by decide) (by decide)
      refine m_Rs.n0 b_318 (x_istore d_318_156 rfl (show m_put1 _ _ _ = [(5, _), (0, _), (1, _), (2, _), (3, _)] from rfl)) ?_
      refine m_Rs.n0 b_318 (x_iconst (z := 0) d_318_158 (by decide)) ?_
      refine m_Rs.n0 b_318 (x_istore d_318_159 rfl (show m_put1 _ _ _ = [(6, _), (5, _), (0, _), (1, _), (2, _), (3, _)] from rfl)) ?_
      exact m_Rs.pick [2, 1, 0] rfl (T_m_bringFill_161 F h hF h0)
    | false =>
      have h0 := cF hc101 h0
      refine m_Rs.n0 b_318 (x_icf d_318_128 rfl hc101) ?_
      refine m_Rs.n0 b_318 (x_aload_n d_318_131 rfl) ?_
      refine m_Rs.n0 b_318 (x_getf d_318_132 rfl h.1 rfl) ?_
      refine m_Rs.n0 b_318 (x_bipush (z := 8) d_318_135 (by decide)) ?_
      refine m_Rs.n0 b_318 (x_iload_n d_318_137 rfl) ?_
      refine m_Rs.n0 b_318 (x_imul d_318_138 rfl) ?_
      refine m_Rs.n0 b_318 (x_iload d_318_139 rfl) ?_
      refine m_Rs.n0 b_318 (x_iadd d_318_141 rfl) ?_
      refine m_Rs.n0 b_318 (x_iconst (z := 0) d_318_142 (by decide)) ?_
      obtain ⟨S104, e105, h0⟩ := bS h0
      refine m_Rs.dputb b_318 d_318_143 h hF 17 rfl e105 (fun w1 h hF => ?_)
      refine m_Rs.n0 b_318 (x_iinc d_318_144 rfl rfl rfl (show m_put1 _ _ _ = [(5, _), (0, _), (1, _), (2, _), (3, _)] from rfl)) ?_
      refine m_Rs.n0 b_318 (x_goto d_318_147 rfl) ?_
      exact m_Rs.pick [1, 2, 3, 4, 0] rfl (ih h hF h0)
def D_m_bringFill_276 (F : Nat) (x1 : Int32) (x2 : Int32) (x3 : Int32) (S : mS) : Option (mS) := (D_m_send F x3 S).bind fun q113 => cond (m_c1 .ne q113.1) (some q113.2) ((D_m_failAll F x1 x2 q113.2).bind fun S119 => some S119)
theorem T_m_bringFill_276 {l : Launch} {w0 : List mM} {F : Nat} {x1 : Int32} {x2 : Int32} {x3 : Int32} {S : mS} {w : List mM} {r : mS} (h : m_RM S w) (hF : m_Fq w0 w) (h0 : D_m_bringFill_276 F x1 x2 x3 S = some r) : m_Rs l M_318 (276, [(0, .ref 583), (1, .int x1), (2, .int x2), (3, .int x3)], [], w) (fun v w' => v = none ∧ m_RM r w' ∧ m_Fq w0 w') 0 0 10 1000 := by
  rw [D_m_bringFill_276] at h0
  refine m_Rs.n0 b_318 (x_aload_n d_318_276 rfl) ?_
  refine m_Rs.n0 b_318 (x_iload_n d_318_277 rfl) ?_
  obtain ⟨q113, e114, h0⟩ := bS h0
  refine m_Rs.callS b_318 (y_cv d_318_278 rfl q_308 (m_isRecv_of rfl h.1) (show m_takeI _ _ = some (_, [_, _], []) from rfl) (by simp only [m_okf, List.all_cons, List.all_nil, Bool.and_true, Bool.and_self, m_okv_i, m_okv_l, m_okv_0, m_okv_t, m_okv_at h.1]) rfl) (T_m_send h e114) hF rfl (fun w1 h hF => ?_) (by decide) (by decide)
  cases hc118 : m_c1 .ne q113.1 with
  | true =>
    have h0 := cT hc118 h0
    refine m_Rs.n0 b_318 (x_ift d_318_281 rfl hc118) ?_
    exact m_Rs.ret b_318 (m_rt_vr d_318_301 rfl) (rV h0 h hF)
  | false =>
    have h0 := cF hc118 h0
    refine m_Rs.n0 b_318 (x_iff d_318_281 rfl hc118) ?_
    refine m_Rs.n0 b_318 (x_aload_n d_318_284 rfl) ?_
    refine m_Rs.n0 b_318 (x_iload_n d_318_285 rfl) ?_
    refine m_Rs.n0 b_318 (x_iload_n d_318_286 rfl) ?_
    obtain ⟨S119, e120, h0⟩ := bS h0
    refine m_Rs.callSv b_318 (y_cv d_318_287 rfl q_322 (m_isRecv_of rfl h.1) (show m_takeI _ _ = some (_, [_, _, _], []) from rfl) (by simp only [m_okf, List.all_cons, List.all_nil, Bool.and_true, Bool.and_self, m_okv_i, m_okv_l, m_okv_0, m_okv_t, m_okv_at h.1]) rfl) (T_m_failAll h e120) hF rfl (fun w1 h hF => ?_) (by decide) (by decide)
    refine m_Rs.n0 b_318 (x_goto d_318_290 rfl) ?_
    exact m_Rs.ret b_318 (m_rt_vr d_318_301 rfl) (rV h0 h hF)
def D_m_bringFill_293 (F : Nat) (x1 : Int32) (x3 : Int32) (x4 : Int32) (S : mS) : Option (mS) := (D_m_takeIn F x1 x3 x4 S).bind fun S111 => some S111
theorem T_m_bringFill_293 {l : Launch} {w0 : List mM} {F : Nat} {x1 : Int32} {x3 : Int32} {x4 : Int32} {S : mS} {w : List mM} {r : mS} (h : m_RM S w) (hF : m_Fq w0 w) (h0 : D_m_bringFill_293 F x1 x3 x4 S = some r) : m_Rs l M_318 (293, [(0, .ref 583), (1, .int x1), (3, .int x3), (4, .int x4)], [], w) (fun v w' => v = none ∧ m_RM r w' ∧ m_Fq w0 w') 0 0 10 1000 := by
  rw [D_m_bringFill_293] at h0
  refine m_Rs.n0 b_318 (x_aload_n d_318_293 rfl) ?_
  refine m_Rs.n0 b_318 (x_iload_n d_318_294 rfl) ?_
  refine m_Rs.n0 b_318 (x_iload_n d_318_295 rfl) ?_
  refine m_Rs.n0 b_318 (x_iload d_318_296 rfl) ?_
  obtain ⟨S111, e112, h0⟩ := bS h0
  refine m_Rs.callSv b_318 (y_cv d_318_298 rfl q_324 (m_isRecv_of rfl h.1) (show m_takeI _ _ = some (_, [_, _, _, _], []) from rfl) (by simp only [m_okf, List.all_cons, List.all_nil, Bool.and_true, Bool.and_self, m_okv_i, m_okv_l, m_okv_0, m_okv_t, m_okv_at h.1]) rfl) (T_m_takeIn h e112) hF rfl (fun w1 h hF => ?_) (by decide) (by decide)
  exact m_Rs.ret b_318 (m_rt_vr d_318_301 rfl) (rV h0 h hF)
def D_m_bringFill_78 (F : Nat) (x1 : Int32) (x2 : Int32) (x3 : Int32) (S : mS) : Option (mS) := (aget 0 22 S 628 (20 : Int32)).bind fun v27 => (aget 0 896 S 616 x3).bind fun v29 => (D_m_whichOf F v27 v29 S).bind fun v31 => (aget 0 22 S 628 (6 : Int32)).bind fun v33 => cond (m_c2 .ne v33 (404 : Int32)) ((aget 0 22 S 628 (6 : Int32)).bind fun v36 => cond (m_c2 .ne v36 (504 : Int32)) ((aget 0 22 S 628 (8 : Int32)).bind fun v50 => (aget 0 896 S 615 x3).bind fun v52 => cond (m_c2 .lt v50 v52) (D_m_bringFill_276 F x1 x2 x3 S) ((D_m_isPurged F x1 S).bind fun v61 => cond (m_c1 .ne v61) (D_m_bringFill_276 F x1 x2 x3 S) ((aget 0 22 S 628 (6 : Int32)).bind fun v70 => cond (m_c2 .ne v70 (304 : Int32)) (D_m_bringFill_293 F x1 x3 (((8 : Int32) * x3) + v31) S) ((aget 4 7168 S 601 (((8 : Int32) * x3) + v31)).bind fun v78 => cond (m_c1 .eq v78) (D_m_bringFill_276 F x1 x2 x3 S) ((D_m_told F (((8 : Int32) * x3) + v31) (0 : Int32) S).bind fun v87 => (aget 0 22 S 628 (12 : Int32)).bind fun v89 => cond (m_c2 .eq v87 v89) (D_m_bringFill_293 F x1 x3 (((8 : Int32) * x3) + v31) S) (D_m_bringFill_276 F x1 x2 x3 S)))))) ((D_m_failAll F x1 x2 S).bind fun S97 => some S97)) ((bput 896 S 609 x3 (0 : Int32)).bind fun S99 => D_m_bringFill_124 F F x1 x2 x3 (0 : Int32) S99)
theorem T_m_bringFill_78 {l : Launch} {w0 : List mM} {F : Nat} {x1 : Int32} {x2 : Int32} {x3 : Int32} {S : mS} {w : List mM} {r : mS} (h : m_RM S w) (hF : m_Fq w0 w) (h0 : D_m_bringFill_78 F x1 x2 x3 S = some r) : m_Rs l M_318 (78, [(0, .ref 583), (1, .int x1), (2, .int x2), (3, .int x3)], [], w) (fun v w' => v = none ∧ m_RM r w' ∧ m_Fq w0 w') 0 0 10 1000 := by
  rw [D_m_bringFill_78] at h0
  refine m_Rs.n0 b_318 (x_bipush (z := 8) d_318_78 (by decide)) ?_
  refine m_Rs.n0 b_318 (x_iload_n d_318_80 rfl) ?_
  refine m_Rs.n0 b_318 (x_imul d_318_81 rfl) ?_
  refine m_Rs.n0 b_318 (x_aload_n d_318_82 rfl) ?_
  refine m_Rs.n0 b_318 (x_getf d_318_83 rfl h.1 rfl) ?_
  refine m_Rs.n0 b_318 (x_bipush (z := 20) d_318_86 (by decide)) ?_
  obtain ⟨v27, e28, h0⟩ := bS h0
  refine m_Rs.dget b_318 d_318_88 h 44 rfl e28 ?_
  refine m_Rs.n0 b_318 (x_aload_n d_318_89 rfl) ?_
  refine m_Rs.n0 b_318 (x_getf d_318_90 rfl h.1 rfl) ?_
  refine m_Rs.n0 b_318 (x_iload_n d_318_93 rfl) ?_
  obtain ⟨v29, e30, h0⟩ := bS h0
  refine m_Rs.dget b_318 d_318_94 h 32 rfl e30 ?_
  obtain ⟨v31, e32, h0⟩ := bS h0
  refine m_Rs.callS b_318 (y_cs d_318_95 rfl q_279 (show m_takeS _ _ = some (_, [_, _], [_]) from rfl) (by simp only [m_okf, List.all_cons, List.all_nil, Bool.and_true, Bool.and_self, m_okv_i, m_okv_l, m_okv_0, m_okv_t, m_okv_at h.1]) rfl) (T_m_whichOf h e32) hF rfl (fun w1 h hF => ?_) (by decide) (by decide)
  refine m_Rs.n0 b_318 (x_iadd d_318_98 rfl) ?_
  refine m_Rs.n0 b_318 (x_istore d_318_99 rfl (show m_put1 _ _ _ = [(4, _), (0, _), (1, _), (2, _), (3, _)] from rfl)) ?_
  refine m_Rs.n0 b_318 (x_aload_n d_318_101 rfl) ?_
  refine m_Rs.n0 b_318 (x_getf d_318_102 rfl h.1 rfl) ?_
  refine m_Rs.n0 b_318 (x_bipush (z := 6) d_318_105 (by decide)) ?_
  obtain ⟨v33, e34, h0⟩ := bS h0
  refine m_Rs.dget b_318 d_318_107 h 44 rfl e34 ?_
  refine m_Rs.n0 b_318 (x_sipush (z := 404) d_318_108 (by decide)) ?_
  cases hc35 : m_c2 .ne v33 (404 : Int32) with
  | true =>
    have h0 := cT hc35 h0
    refine m_Rs.n0 b_318 (x_ict d_318_111 rfl hc35) ?_
    refine m_Rs.n0 b_318 (x_aload_n d_318_190 rfl) ?_
    refine m_Rs.n0 b_318 (x_getf d_318_191 rfl h.1 rfl) ?_
    refine m_Rs.n0 b_318 (x_bipush (z := 6) d_318_194 (by decide)) ?_
    obtain ⟨v36, e37, h0⟩ := bS h0
    refine m_Rs.dget b_318 d_318_196 h 44 rfl e37 ?_
    refine m_Rs.n0 b_318 (x_sipush (z := 504) d_318_197 (by decide)) ?_
    cases hc49 : m_c2 .ne v36 (504 : Int32) with
    | true =>
      have h0 := cT hc49 h0
      refine m_Rs.n0 b_318 (x_ict d_318_200 rfl hc49) ?_
      refine m_Rs.n0 b_318 (x_aload_n d_318_212 rfl) ?_
      refine m_Rs.n0 b_318 (x_getf d_318_213 rfl h.1 rfl) ?_
      refine m_Rs.n0 b_318 (x_bipush (z := 8) d_318_216 (by decide)) ?_
      obtain ⟨v50, e51, h0⟩ := bS h0
      refine m_Rs.dget b_318 d_318_218 h 44 rfl e51 ?_
      refine m_Rs.n0 b_318 (x_aload_n d_318_219 rfl) ?_
      refine m_Rs.n0 b_318 (x_getf d_318_220 rfl h.1 rfl) ?_
      refine m_Rs.n0 b_318 (x_iload_n d_318_223 rfl) ?_
      obtain ⟨v52, e53, h0⟩ := bS h0
      refine m_Rs.dget b_318 d_318_224 h 31 rfl e53 ?_
      cases hc60 : m_c2 .lt v50 v52 with
      | true =>
        have h0 := cT hc60 h0
        refine m_Rs.n0 b_318 (x_ict d_318_225 rfl hc60) ?_
        exact m_Rs.pick [1, 2, 3, 4] rfl (T_m_bringFill_276 h hF h0)
      | false =>
        have h0 := cF hc60 h0
        refine m_Rs.n0 b_318 (x_icf d_318_225 rfl hc60) ?_
        refine m_Rs.n0 b_318 (x_aload_n d_318_228 rfl) ?_
        refine m_Rs.n0 b_318 (x_iload_n d_318_229 rfl) ?_
        obtain ⟨v61, e62, h0⟩ := bS h0
        refine m_Rs.callS b_318 (y_cv d_318_230 rfl q_323 (m_isRecv_of rfl h.1) (show m_takeI _ _ = some (_, [_, _], []) from rfl) (by simp only [m_okf, List.all_cons, List.all_nil, Bool.and_true, Bool.and_self, m_okv_i, m_okv_l, m_okv_0, m_okv_t, m_okv_at h.1]) rfl) (T_m_isPurged h e62) hF rfl (fun w1 h hF => ?_) (by decide) (by decide)
        cases hc69 : m_c1 .ne v61 with
        | true =>
          have h0 := cT hc69 h0
          refine m_Rs.n0 b_318 (x_ift d_318_233 rfl hc69) ?_
          exact m_Rs.pick [1, 2, 3, 4] rfl (T_m_bringFill_276 h hF h0)
        | false =>
          have h0 := cF hc69 h0
          refine m_Rs.n0 b_318 (x_iff d_318_233 rfl hc69) ?_
          refine m_Rs.n0 b_318 (x_aload_n d_318_236 rfl) ?_
          refine m_Rs.n0 b_318 (x_getf d_318_237 rfl h.1 rfl) ?_
          refine m_Rs.n0 b_318 (x_bipush (z := 6) d_318_240 (by decide)) ?_
          obtain ⟨v70, e71, h0⟩ := bS h0
          refine m_Rs.dget b_318 d_318_242 h 44 rfl e71 ?_
          refine m_Rs.n0 b_318 (x_sipush (z := 304) d_318_243 (by decide)) ?_
          cases hc77 : m_c2 .ne v70 (304 : Int32) with
          | true =>
            have h0 := cT hc77 h0
            refine m_Rs.n0 b_318 (x_ict d_318_246 rfl hc77) ?_
            exact m_Rs.pick [1, 2, 4, 0] rfl (T_m_bringFill_293 h hF h0)
          | false =>
            have h0 := cF hc77 h0
            refine m_Rs.n0 b_318 (x_icf d_318_246 rfl hc77) ?_
            refine m_Rs.n0 b_318 (x_aload_n d_318_249 rfl) ?_
            refine m_Rs.n0 b_318 (x_getf d_318_250 rfl h.1 rfl) ?_
            refine m_Rs.n0 b_318 (x_iload d_318_253 rfl) ?_
            obtain ⟨v78, e79, h0⟩ := bS h0
            refine m_Rs.dgetb b_318 d_318_255 h 17 rfl e79 ?_
            cases hc86 : m_c1 .eq v78 with
            | true =>
              have h0 := cT hc86 h0
              refine m_Rs.n0 b_318 (x_ift d_318_256 rfl hc86) ?_
              exact m_Rs.pick [1, 2, 3, 4] rfl (T_m_bringFill_276 h hF h0)
            | false =>
              have h0 := cF hc86 h0
              refine m_Rs.n0 b_318 (x_iff d_318_256 rfl hc86) ?_
              refine m_Rs.n0 b_318 (x_aload_n d_318_259 rfl) ?_
              refine m_Rs.n0 b_318 (x_iload d_318_260 rfl) ?_
              refine m_Rs.n0 b_318 (x_iconst (z := 0) d_318_262 (by decide)) ?_
              obtain ⟨v87, e88, h0⟩ := bS h0
              refine m_Rs.callS b_318 (y_cv d_318_263 rfl q_278 (m_isRecv_of rfl h.1) (show m_takeI _ _ = some (_, [_, _, _], []) from rfl) (by simp only [m_okf, List.all_cons, List.all_nil, Bool.and_true, Bool.and_self, m_okv_i, m_okv_l, m_okv_0, m_okv_t, m_okv_at h.1]) rfl) (T_m_told h e88) hF rfl (fun w1 h hF => ?_) (by decide) (by decide)
              refine m_Rs.n0 b_318 (x_aload_n d_318_266 rfl) ?_
              refine m_Rs.n0 b_318 (x_getf d_318_267 rfl h.1 rfl) ?_
              refine m_Rs.n0 b_318 (x_bipush (z := 12) d_318_270 (by decide)) ?_
              obtain ⟨v89, e90, h0⟩ := bS h0
              refine m_Rs.dget b_318 d_318_272 h 44 rfl e90 ?_
              cases hc96 : m_c2 .eq v87 v89 with
              | true =>
                have h0 := cT hc96 h0
                refine m_Rs.n0 b_318 (x_ict d_318_273 rfl hc96) ?_
                exact m_Rs.pick [1, 2, 4, 0] rfl (T_m_bringFill_293 h hF h0)
              | false =>
                have h0 := cF hc96 h0
                refine m_Rs.n0 b_318 (x_icf d_318_273 rfl hc96) ?_
                exact m_Rs.pick [1, 2, 3, 4] rfl (T_m_bringFill_276 h hF h0)
    | false =>
      have h0 := cF hc49 h0
      refine m_Rs.n0 b_318 (x_icf d_318_200 rfl hc49) ?_
      refine m_Rs.n0 b_318 (x_aload_n d_318_203 rfl) ?_
      refine m_Rs.n0 b_318 (x_iload_n d_318_204 rfl) ?_
      refine m_Rs.n0 b_318 (x_iload_n d_318_205 rfl) ?_
      obtain ⟨S97, e98, h0⟩ := bS h0
      refine m_Rs.callSv b_318 (y_cv d_318_206 rfl q_322 (m_isRecv_of rfl h.1) (show m_takeI _ _ = some (_, [_, _, _], []) from rfl) (by simp only [m_okf, List.all_cons, List.all_nil, Bool.and_true, Bool.and_self, m_okv_i, m_okv_l, m_okv_0, m_okv_t, m_okv_at h.1]) rfl) (T_m_failAll h e98) hF rfl (fun w1 h hF => ?_) (by decide) (by decide)
      refine m_Rs.n0 b_318 (x_goto d_318_209 rfl) ?_
      exact m_Rs.ret b_318 (m_rt_vr d_318_301 rfl) (rV h0 h hF)
  | false =>
    have h0 := cF hc35 h0
    refine m_Rs.n0 b_318 (x_icf d_318_111 rfl hc35) ?_
    refine m_Rs.n0 b_318 (x_aload_n d_318_114 rfl) ?_
    refine m_Rs.n0 b_318 (x_getf d_318_115 rfl h.1 rfl) ?_
    refine m_Rs.n0 b_318 (x_iload_n d_318_118 rfl) ?_
    refine m_Rs.n0 b_318 (x_iconst (z := 0) d_318_119 (by decide)) ?_
    obtain ⟨S99, e100, h0⟩ := bS h0
    refine m_Rs.dputb b_318 d_318_120 h hF 25 rfl e100 (fun w1 h hF => ?_)
    refine m_Rs.n0 b_318 (x_iconst (z := 0) d_318_121 (by decide)) ?_
    refine m_Rs.n0 b_318 (x_istore d_318_122 rfl (show m_put1 _ _ _ = [(5, _), (4, _), (0, _), (1, _), (2, _), (3, _)] from rfl)) ?_
    exact m_Rs.pick [2, 3, 4, 5, 0] rfl (T_m_bringFill_124 F h hF h0)
def D_m_bringFill (F : Nat) (a0 : Int32) (S : mS) : Option (mS) := (aget 0 22 S 628 (4 : Int32)).bind fun v1 => (aget 0 22 S 628 (5 : Int32)).bind fun v3 => (aget 4 896 S 609 (((128 : Int32) * a0) + (((4 : Int32) * v1) + v3))).bind fun v5 => cond (m_c1 .eq v5) (some S) ((aget 0 896 S 611 (((128 : Int32) * a0) + (((4 : Int32) * v1) + v3))).bind fun v8 => (aget 0 22 S 628 (3 : Int32)).bind fun v10 => cond (m_c2 .eq v8 v10) ((aget 0 22 S 628 (6 : Int32)).bind fun v13 => cond (m_c2 .eq v13 (504 : Int32)) (D_m_bringFill_78 F a0 (((4 : Int32) * v1) + v3) (((128 : Int32) * a0) + (((4 : Int32) * v1) + v3)) S) (cond (m_c2 .le a0 (2 : Int32)) (D_m_bringFill_78 F a0 (((4 : Int32) * v1) + v3) (((128 : Int32) * a0) + (((4 : Int32) * v1) + v3)) S) ((aget 0 22 S 628 (1 : Int32)).bind fun v23 => (D_m_forgive F a0 v23 S).bind fun S25 => D_m_bringFill_78 F a0 (((4 : Int32) * v1) + v3) (((128 : Int32) * a0) + (((4 : Int32) * v1) + v3)) S25))) (some S))
theorem T_m_bringFill {l : Launch} {w : List mM} {F : Nat} {a0 : Int32} {S : mS} {r : mS} (h : m_RM S w) (h0 : D_m_bringFill F a0 S = some r) : m_Rs l M_318 (m_ent M_318 [.ref 583, .int a0] w) (fun v w' => v = none ∧ m_RM r w' ∧ m_Fq w w') 0 0 10 1000 := by
  show m_Rs l M_318 (0, [(0, .ref 583), (1, .int a0)], [], w) _ 0 0 10 1000
  generalize hw0 : w = w0 at h ⊢
  have hF : m_Fq w0 w0 := m_Fq.refl
  rw [D_m_bringFill] at h0
  refine m_Rs.n0 b_318 (x_iconst (z := 4) d_318_0 (by decide)) ?_
  refine m_Rs.n0 b_318 (x_aload_n d_318_1 rfl) ?_
  refine m_Rs.n0 b_318 (x_getf d_318_2 rfl h.1 rfl) ?_
  refine m_Rs.n0 b_318 (x_iconst (z := 4) d_318_5 (by decide)) ?_
  obtain ⟨v1, e2, h0⟩ := bS h0
  refine m_Rs.dget b_318 d_318_6 h 44 rfl e2 ?_
  refine m_Rs.n0 b_318 (x_imul d_318_7 rfl) ?_
  refine m_Rs.n0 b_318 (x_aload_n d_318_8 rfl) ?_
  refine m_Rs.n0 b_318 (x_getf d_318_9 rfl h.1 rfl) ?_
  refine m_Rs.n0 b_318 (x_iconst (z := 5) d_318_12 (by decide)) ?_
  obtain ⟨v3, e4, h0⟩ := bS h0
  refine m_Rs.dget b_318 d_318_13 h 44 rfl e4 ?_
  refine m_Rs.n0 b_318 (x_iadd d_318_14 rfl) ?_
  refine m_Rs.n0 b_318 (x_istore_n d_318_15 rfl (show m_put1 _ _ _ = [(2, _), (0, _), (1, _)] from rfl)) ?_
  refine m_Rs.n0 b_318 (x_sipush (z := 128) d_318_16 (by decide)) ?_
  refine m_Rs.n0 b_318 (x_iload_n d_318_19 rfl) ?_
  refine m_Rs.n0 b_318 (x_imul d_318_20 rfl) ?_
  refine m_Rs.n0 b_318 (x_iload_n d_318_21 rfl) ?_
  refine m_Rs.n0 b_318 (x_iadd d_318_22 rfl) ?_
  refine m_Rs.n0 b_318 (x_istore_n d_318_23 rfl (show m_put1 _ _ _ = [(3, _), (2, _), (0, _), (1, _)] from rfl)) ?_
  refine m_Rs.n0 b_318 (x_aload_n d_318_24 rfl) ?_
  refine m_Rs.n0 b_318 (x_getf d_318_25 rfl h.1 rfl) ?_
  refine m_Rs.n0 b_318 (x_iload_n d_318_28 rfl) ?_
  obtain ⟨v5, e6, h0⟩ := bS h0
  refine m_Rs.dgetb b_318 d_318_29 h 25 rfl e6 ?_
  cases hc7 : m_c1 .eq v5 with
  | true =>
    have h0 := cT hc7 h0
    refine m_Rs.n0 b_318 (x_ift d_318_30 rfl hc7) ?_
    exact m_Rs.ret b_318 (m_rt_vr d_318_48 rfl) (rV h0 h hF)
  | false =>
    have h0 := cF hc7 h0
    refine m_Rs.n0 b_318 (x_iff d_318_30 rfl hc7) ?_
    refine m_Rs.n0 b_318 (x_aload_n d_318_33 rfl) ?_
    refine m_Rs.n0 b_318 (x_getf d_318_34 rfl h.1 rfl) ?_
    refine m_Rs.n0 b_318 (x_iload_n d_318_37 rfl) ?_
    obtain ⟨v8, e9, h0⟩ := bS h0
    refine m_Rs.dget b_318 d_318_38 h 27 rfl e9 ?_
    refine m_Rs.n0 b_318 (x_aload_n d_318_39 rfl) ?_
    refine m_Rs.n0 b_318 (x_getf d_318_40 rfl h.1 rfl) ?_
    refine m_Rs.n0 b_318 (x_iconst (z := 3) d_318_43 (by decide)) ?_
    obtain ⟨v10, e11, h0⟩ := bS h0
    refine m_Rs.dget b_318 d_318_44 h 44 rfl e11 ?_
    cases hc12 : m_c2 .eq v8 v10 with
    | true =>
      have h0 := cT hc12 h0
      refine m_Rs.n0 b_318 (x_ict d_318_45 rfl hc12) ?_
      refine m_Rs.n0 b_318 (x_aload_n d_318_49 rfl) ?_
      refine m_Rs.n0 b_318 (x_getf d_318_50 rfl h.1 rfl) ?_
      refine m_Rs.n0 b_318 (x_bipush (z := 6) d_318_53 (by decide)) ?_
      obtain ⟨v13, e14, h0⟩ := bS h0
      refine m_Rs.dget b_318 d_318_55 h 44 rfl e14 ?_
      refine m_Rs.n0 b_318 (x_sipush (z := 504) d_318_56 (by decide)) ?_
      cases hc18 : m_c2 .eq v13 (504 : Int32) with
      | true =>
        have h0 := cT hc18 h0
        refine m_Rs.n0 b_318 (x_ict d_318_59 rfl hc18) ?_
        exact m_Rs.pick [2, 3, 1, 0] rfl (T_m_bringFill_78 h hF h0)
      | false =>
        have h0 := cF hc18 h0
        refine m_Rs.n0 b_318 (x_icf d_318_59 rfl hc18) ?_
        refine m_Rs.n0 b_318 (x_iload_n d_318_62 rfl) ?_
        refine m_Rs.n0 b_318 (x_iconst (z := 2) d_318_63 (by decide)) ?_
        cases hc22 : m_c2 .le a0 (2 : Int32) with
        | true =>
          have h0 := cT hc22 h0
          refine m_Rs.n0 b_318 (x_ict d_318_64 rfl hc22) ?_
          exact m_Rs.pick [2, 3, 1, 0] rfl (T_m_bringFill_78 h hF h0)
        | false =>
          have h0 := cF hc22 h0
          refine m_Rs.n0 b_318 (x_icf d_318_64 rfl hc22) ?_
          refine m_Rs.n0 b_318 (x_aload_n d_318_67 rfl) ?_
          refine m_Rs.n0 b_318 (x_iload_n d_318_68 rfl) ?_
          refine m_Rs.n0 b_318 (x_aload_n d_318_69 rfl) ?_
          refine m_Rs.n0 b_318 (x_getf d_318_70 rfl h.1 rfl) ?_
          refine m_Rs.n0 b_318 (x_iconst (z := 1) d_318_73 (by decide)) ?_
          obtain ⟨v23, e24, h0⟩ := bS h0
          refine m_Rs.dget b_318 d_318_74 h 44 rfl e24 ?_
          obtain ⟨S25, e26, h0⟩ := bS h0
          refine m_Rs.callSv b_318 (y_cv d_318_75 rfl q_319 (m_isRecv_of rfl h.1) (show m_takeI _ _ = some (_, [_, _, _], []) from rfl) (by simp only [m_okf, List.all_cons, List.all_nil, Bool.and_true, Bool.and_self, m_okv_i, m_okv_l, m_okv_0, m_okv_t, m_okv_at h.1]) rfl) (T_m_forgive h e26) hF rfl (fun w1 h hF => ?_) (by decide) (by decide)
          exact m_Rs.pick [2, 3, 1, 0] rfl (T_m_bringFill_78 h hF h0)
    | false =>
      have h0 := cF hc12 h0
      refine m_Rs.n0 b_318 (x_icf d_318_45 rfl hc12) ?_
      exact m_Rs.ret b_318 (m_rt_vr d_318_48 rfl) (rV h0 h hF)
def D_m_bringPurge_60 (F : Nat) : Nat → Int32 → Int32 → mS → Option (mS)
  | 0, _, _, _ => none
  | n + 1, x1, x3, S => cond (m_c2 .ge x3 (1024 : Int32)) ((aget 0 22 S 628 (3 : Int32)).bind fun v20 => (aget 0 7 S 593 x1).bind fun v22 => (cond (m_c2 .le v20 v22) ((aget 0 7 S 593 x1).bind fun v27 => some v27) ((aget 0 22 S 628 (3 : Int32)).bind fun v29 => some v29)).bind fun v31 => (aput 7 S 593 x1 v31).bind fun S32 => (aget 0 22 S32 628 (3 : Int32)).bind fun v34 => (D_m_blank F (3 : Int32) x1 (0 : Int32) v34 (0 : Int32) S32).bind fun S36 => (D_m_post F S36).bind fun S38 => some S38) ((aget 0 22 S 628 (5 : Int32)).bind fun v40 => (cond (m_c1 .ne v40) ((D_m_told F (((1024 : Int32) * x1) + x3) (7 : Int32) S).bind fun v45 => (aget 0 22 S 628 (4 : Int32)).bind fun v47 => cond (m_c2 .ne ((v45 >>> (v47 &&& 31)) &&& (1 : Int32)) (1 : Int32)) (some (0 : Int32)) (some (1 : Int32))) ((aget 0 22 S 628 (4 : Int32)).bind fun v50 => cond (m_c2 .ne ((x3 / (8 : Int32)) / (4 : Int32)) v50) (some (0 : Int32)) (some (1 : Int32)))).bind fun v53 => (aget 4 7168 S 601 (((1024 : Int32) * x1) + x3)).bind fun v54 => (cond (m_c1 .eq v54) (some (0 : Int32)) (cond (m_c1 .ne v53) (some (0 : Int32)) (some (1 : Int32)))).bind fun v60 => (bput 7168 S 601 (((1024 : Int32) * x1) + x3) v60).bind fun S61 => D_m_bringPurge_60 F n x1 (x3 + Int32.ofInt 1) S61)
theorem T_m_bringPurge_60 {l : Launch} {w0 : List mM} {F : Nat} : ∀ (n : Nat) {x1 : Int32} {x3 : Int32} {S : mS} {w : List mM} {r : mS}, m_RM S w → m_Fq w0 w → D_m_bringPurge_60 F n x1 x3 S = some r → m_Rs l M_325 (60, [(0, .ref 583), (1, .int x1), (3, .int x3)], [], w) (fun v w' => v = none ∧ m_RM r w' ∧ m_Fq w0 w') 0 0 1 100 := by
  intro n
  induction n with
  | zero => intro x1 x3 S w r h hF h0; cases h0
  | succ n ih =>
    intro x1 x3 S w r h hF h0
    rw [D_m_bringPurge_60] at h0
    refine m_Rs.n0 b_325 (x_iload_n d_325_60 rfl) ?_
    refine m_Rs.n0 b_325 (x_sipush (z := 1024) d_325_61 (by decide)) ?_
    cases hc19 : m_c2 .ge x3 (1024 : Int32) with
    | true =>
      have h0 := cT hc19 h0
      refine m_Rs.n0 b_325 (x_ict d_325_64 rfl hc19) ?_
      refine m_Rs.n0 b_325 (x_aload_n d_325_169 rfl) ?_
      refine m_Rs.n0 b_325 (x_getf d_325_170 rfl h.1 rfl) ?_
      refine m_Rs.n0 b_325 (x_iload_n d_325_173 rfl) ?_
      refine m_Rs.n0 b_325 (x_aload_n d_325_174 rfl) ?_
      refine m_Rs.n0 b_325 (x_getf d_325_175 rfl h.1 rfl) ?_
      refine m_Rs.n0 b_325 (x_iconst (z := 3) d_325_178 (by decide)) ?_
      obtain ⟨v20, e21, h0⟩ := bS h0
      refine m_Rs.dget b_325 d_325_179 h 44 rfl e21 ?_
      refine m_Rs.n0 b_325 (x_aload_n d_325_180 rfl) ?_
      refine m_Rs.n0 b_325 (x_getf d_325_181 rfl h.1 rfl) ?_
      refine m_Rs.n0 b_325 (x_iload_n d_325_184 rfl) ?_
      obtain ⟨v22, e23, h0⟩ := bS h0
      refine m_Rs.dget b_325 d_325_185 h 9 rfl e23 ?_
      obtain ⟨v31, e25, h0⟩ := bS h0
      have kk24 : ∀ (xz : Int32) (w1 : List mM), xz = v31 → m_RM S w1 → m_Fq w0 w1 → m_Rs l M_325 (204, [(0, .ref 583), (1, .int x1), (3, .int x3)], [.int xz, .int x1, .ref 593], w1) (fun v w' => v = none ∧ m_RM r w' ∧ m_Fq w0 w') 0 0 1 100 := by
        intro xz w ez h hF
        rw [ez]
        obtain ⟨S32, e33, h0⟩ := bS h0
        refine m_Rs.dput b_325 d_325_204 h hF 9 rfl e33 (fun w1 h hF => ?_)
        refine m_Rs.n0 b_325 (x_aload_n d_325_205 rfl) ?_
        refine m_Rs.n0 b_325 (x_iconst (z := 3) d_325_206 (by decide)) ?_
        refine m_Rs.n0 b_325 (x_iload_n d_325_207 rfl) ?_
        refine m_Rs.n0 b_325 (x_iconst (z := 0) d_325_208 (by decide)) ?_
        refine m_Rs.n0 b_325 (x_aload_n d_325_209 rfl) ?_
        refine m_Rs.n0 b_325 (x_getf d_325_210 rfl h.1 rfl) ?_
        refine m_Rs.n0 b_325 (x_iconst (z := 3) d_325_213 (by decide)) ?_
        obtain ⟨v34, e35, h0⟩ := bS h0
        refine m_Rs.dget b_325 d_325_214 h 44 rfl e35 ?_
        refine m_Rs.n0 b_325 (x_iconst (z := 0) d_325_215 (by decide)) ?_
        obtain ⟨S36, e37, h0⟩ := bS h0
        refine m_Rs.callSv b_325 (y_cv d_325_216 rfl q_304 (m_isRecv_of rfl h.1) (show m_takeI _ _ = some (_, [_, _, _, _, _, _], []) from rfl) (by simp only [m_okf, List.all_cons, List.all_nil, Bool.and_true, Bool.and_self, m_okv_i, m_okv_l, m_okv_0, m_okv_t, m_okv_at h.1]) rfl) (T_m_blank h e37) hF rfl (fun w1 h hF => ?_) (by decide) (by decide)
        refine m_Rs.n0 b_325 (x_aload_n d_325_219 rfl) ?_
        obtain ⟨S38, e39, h0⟩ := bS h0
        refine m_Rs.callSv b_325 (y_cv d_325_220 rfl q_305 (m_isRecv_of rfl h.1) (show m_takeI _ _ = some (_, [_], []) from rfl) (by simp only [m_okf, List.all_cons, List.all_nil, Bool.and_true, Bool.and_self, m_okv_i, m_okv_l, m_okv_0, m_okv_t, m_okv_at h.1]) rfl) (T_m_post h e39) hF rfl (fun w1 h hF => ?_) (by decide) (by decide)
        exact m_Rs.ret b_325 (m_rt_vr d_325_223 rfl) (rV h0 h hF)
      cases hc26 : m_c2 .le v20 v22 with
      | true =>
        have e25 := cT hc26 e25
        refine m_Rs.n0 b_325 (x_ict d_325_186 rfl hc26) ?_
        refine m_Rs.n0 b_325 (x_aload_n d_325_198 rfl) ?_
        refine m_Rs.n0 b_325 (x_getf d_325_199 rfl h.1 rfl) ?_
        refine m_Rs.n0 b_325 (x_iload_n d_325_202 rfl) ?_
        obtain ⟨v27, e28, e25⟩ := bS e25
        refine m_Rs.dget b_325 d_325_203 h 9 rfl e28 ?_
        exact kk24 _ _ (Option.some.inj e25) h hF
      | false =>
        have e25 := cF hc26 e25
        refine m_Rs.n0 b_325 (x_icf d_325_186 rfl hc26) ?_
        refine m_Rs.n0 b_325 (x_aload_n d_325_189 rfl) ?_
        refine m_Rs.n0 b_325 (x_getf d_325_190 rfl h.1 rfl) ?_
        refine m_Rs.n0 b_325 (x_iconst (z := 3) d_325_193 (by decide)) ?_
        obtain ⟨v29, e30, e25⟩ := bS e25
        refine m_Rs.dget b_325 d_325_194 h 44 rfl e30 ?_
        refine m_Rs.n0 b_325 (x_goto d_325_195 rfl) ?_
        exact kk24 _ _ (Option.some.inj e25) h hF
    | false =>
      have h0 := cF hc19 h0
      refine m_Rs.n0 b_325 (x_icf d_325_64 rfl hc19) ?_
      refine m_Rs.n0 b_325 (x_sipush (z := 1024) d_325_67 (by decide)) ?_
      refine m_Rs.n0 b_325 (x_iload_n d_325_70 rfl) ?_
      refine m_Rs.n0 b_325 (x_imul d_325_71 rfl) ?_
      refine m_Rs.n0 b_325 (x_iload_n d_325_72 rfl) ?_
      refine m_Rs.n0 b_325 (x_iadd d_325_73 rfl) ?_
      refine m_Rs.n0 b_325 (x_istore d_325_74 rfl (show m_put1 _ _ _ = [(4, _), (0, _), (1, _), (3, _)] from rfl)) ?_
      refine m_Rs.n0 b_325 (x_aload_n d_325_76 rfl) ?_
      refine m_Rs.n0 b_325 (x_getf d_325_77 rfl h.1 rfl) ?_
      refine m_Rs.n0 b_325 (x_iconst (z := 5) d_325_80 (by decide)) ?_
      obtain ⟨v40, e41, h0⟩ := bS h0
      refine m_Rs.dget b_325 d_325_81 h 44 rfl e41 ?_
      obtain ⟨v53, e43, h0⟩ := bS h0
      have kk42 : ∀ (xz : Int32) (w1 : List mM), xz = v53 → m_RM S w1 → m_Fq w0 w1 → m_Rs l M_325 (134, [(4, .int (((1024 : Int32) * x1) + x3)), (0, .ref 583), (1, .int x1), (3, .int x3)], [.int xz], w1) (fun v w' => v = none ∧ m_RM r w' ∧ m_Fq w0 w') 0 0 1 100 := by
        intro xz w ez h hF
        rw [ez]
        refine m_Rs.n0 b_325 (x_istore d_325_134 rfl (show m_put1 _ _ _ = [(5, _), (4, _), (0, _), (1, _), (3, _)] from rfl)) ?_
        refine m_Rs.n0 b_325 (x_aload_n d_325_136 rfl) ?_
        refine m_Rs.n0 b_325 (x_getf d_325_137 rfl h.1 rfl) ?_
        refine m_Rs.n0 b_325 (x_iload d_325_140 rfl) ?_
        refine m_Rs.n0 b_325 (x_aload_n d_325_142 rfl) ?_
        refine m_Rs.n0 b_325 (x_getf d_325_143 rfl h.1 rfl) ?_
        refine m_Rs.n0 b_325 (x_iload d_325_146 rfl) ?_
        obtain ⟨v54, e55, h0⟩ := bS h0
        refine m_Rs.dgetb b_325 d_325_148 h 17 rfl e55 ?_
        obtain ⟨v60, e57, h0⟩ := bS h0
        have kk56 : ∀ (xz : Int32) (w1 : List mM), xz = v60 → m_RM S w1 → m_Fq w0 w1 → m_Rs l M_325 (162, [(5, .int v53), (4, .int (((1024 : Int32) * x1) + x3)), (0, .ref 583), (1, .int x1), (3, .int x3)], [.int xz, .int (((1024 : Int32) * x1) + x3), .ref 601], w1) (fun v w' => v = none ∧ m_RM r w' ∧ m_Fq w0 w') 0 0 1 100 := by
          intro xz w ez h hF
          rw [ez]
          obtain ⟨S61, e62, h0⟩ := bS h0
          refine m_Rs.dputb b_325 d_325_162 h hF 17 rfl e62 (fun w1 h hF => ?_)
          refine m_Rs.n0 b_325 (x_iinc d_325_163 rfl rfl rfl (show m_put1 _ _ _ = [(3, _), (5, _), (4, _), (0, _), (1, _)] from rfl)) ?_
          refine m_Rs.n0 b_325 (x_goto d_325_166 rfl) ?_
          exact m_Rs.pick [3, 4, 0] rfl (ih h hF h0)
        cases hc58 : m_c1 .eq v54 with
        | true =>
          have e57 := cT hc58 e57
          refine m_Rs.n0 b_325 (x_ift d_325_149 rfl hc58) ?_
          refine m_Rs.n0 b_325 (x_iconst (z := 0) d_325_161 (by decide)) ?_
          exact kk56 _ _ (Option.some.inj e57) h hF
        | false =>
          have e57 := cF hc58 e57
          refine m_Rs.n0 b_325 (x_iff d_325_149 rfl hc58) ?_
          refine m_Rs.n0 b_325 (x_iload d_325_152 rfl) ?_
          cases hc59 : m_c1 .ne v53 with
          | true =>
            have e57 := cT hc59 e57
            refine m_Rs.n0 b_325 (x_ift d_325_154 rfl hc59) ?_
            refine m_Rs.n0 b_325 (x_iconst (z := 0) d_325_161 (by decide)) ?_
            exact kk56 _ _ (Option.some.inj e57) h hF
          | false =>
            have e57 := cF hc59 e57
            refine m_Rs.n0 b_325 (x_iff d_325_154 rfl hc59) ?_
            refine m_Rs.n0 b_325 (x_iconst (z := 1) d_325_157 (by decide)) ?_
            refine m_Rs.n0 b_325 (x_goto d_325_158 rfl) ?_
            exact kk56 _ _ (Option.some.inj e57) h hF
      cases hc44 : m_c1 .ne v40 with
      | true =>
        have e43 := cT hc44 e43
        refine m_Rs.n0 b_325 (x_ift d_325_82 rfl hc44) ?_
        refine m_Rs.n0 b_325 (x_aload_n d_325_108 rfl) ?_
        refine m_Rs.n0 b_325 (x_iload d_325_109 rfl) ?_
        refine m_Rs.n0 b_325 (x_bipush (z := 7) d_325_111 (by decide)) ?_
        obtain ⟨v45, e46, e43⟩ := bS e43
        refine m_Rs.callS b_325 (y_cv d_325_113 rfl q_278 (m_isRecv_of rfl h.1) (show m_takeI _ _ = some (_, [_, _, _], []) from rfl) (by simp only [m_okf, List.all_cons, List.all_nil, Bool.and_true, Bool.and_self, m_okv_i, m_okv_l, m_okv_0, m_okv_t, m_okv_at h.1]) rfl) (T_m_told h e46) hF rfl (fun w1 h hF => ?_) (by decide) (by decide)
        refine m_Rs.n0 b_325 (x_aload_n d_325_116 rfl) ?_
        refine m_Rs.n0 b_325 (x_getf d_325_117 rfl h.1 rfl) ?_
        refine m_Rs.n0 b_325 (x_iconst (z := 4) d_325_120 (by decide)) ?_
        obtain ⟨v47, e48, e43⟩ := bS e43
        refine m_Rs.dget b_325 d_325_121 h 44 rfl e48 ?_
        refine m_Rs.n0 b_325 (x_ishr d_325_122 rfl) ?_
        refine m_Rs.n0 b_325 (x_iconst (z := 1) d_325_123 (by decide)) ?_
        refine m_Rs.n0 b_325 (x_iand d_325_124 rfl) ?_
        refine m_Rs.n0 b_325 (x_iconst (z := 1) d_325_125 (by decide)) ?_
        cases hc49 : m_c2 .ne ((v45 >>> (v47 &&& 31)) &&& (1 : Int32)) (1 : Int32) with
        | true =>
          have e43 := cT hc49 e43
          refine m_Rs.n0 b_325 (x_ict d_325_126 rfl hc49) ?_
          refine m_Rs.n0 b_325 (x_iconst (z := 0) d_325_133 (by decide)) ?_
          exact kk42 _ _ (Option.some.inj e43) h hF
        | false =>
          have e43 := cF hc49 e43
          refine m_Rs.n0 b_325 (x_icf d_325_126 rfl hc49) ?_
          refine m_Rs.n0 b_325 (x_iconst (z := 1) d_325_129 (by decide)) ?_
          refine m_Rs.n0 b_325 (x_goto d_325_130 rfl) ?_
          exact kk42 _ _ (Option.some.inj e43) h hF
      | false =>
        have e43 := cF hc44 e43
        refine m_Rs.n0 b_325 (x_iff d_325_82 rfl hc44) ?_
        refine m_Rs.n0 b_325 (x_iload_n d_325_85 rfl) ?_
        refine m_Rs.n0 b_325 (x_bipush (z := 8) d_325_86 (by decide)) ?_
        refine m_Rs.n0 b_325 (x_idiv d_325_88 (by decide) rfl) ?_
        refine m_Rs.n0 b_325 (x_iconst (z := 4) d_325_89 (by decide)) ?_
        refine m_Rs.n0 b_325 (x_idiv d_325_90 (by decide) rfl) ?_
        refine m_Rs.n0 b_325 (x_aload_n d_325_91 rfl) ?_
        refine m_Rs.n0 b_325 (x_getf d_325_92 rfl h.1 rfl) ?_
        refine m_Rs.n0 b_325 (x_iconst (z := 4) d_325_95 (by decide)) ?_
        obtain ⟨v50, e51, e43⟩ := bS e43
        refine m_Rs.dget b_325 d_325_96 h 44 rfl e51 ?_
        cases hc52 : m_c2 .ne ((x3 / (8 : Int32)) / (4 : Int32)) v50 with
        | true =>
          have e43 := cT hc52 e43
          refine m_Rs.n0 b_325 (x_ict d_325_97 rfl hc52) ?_
          refine m_Rs.n0 b_325 (x_iconst (z := 0) d_325_104 (by decide)) ?_
          refine m_Rs.n0 b_325 (x_goto d_325_105 rfl) ?_
          exact kk42 _ _ (Option.some.inj e43) h hF
        | false =>
          have e43 := cF hc52 e43
          refine m_Rs.n0 b_325 (x_icf d_325_97 rfl hc52) ?_
          refine m_Rs.n0 b_325 (x_iconst (z := 1) d_325_100 (by decide)) ?_
          refine m_Rs.n0 b_325 (x_goto d_325_101 rfl) ?_
          exact kk42 _ _ (Option.some.inj e43) h hF
def D_m_bringPurge (F : Nat) (a0 : Int32) (S : mS) : Option (mS) := (aget 0 7 S 597 a0).bind fun v1 => (aget 0 7 S 597 a0).bind fun v3 => (aput 7 S 597 a0 (v3 + (1 : Int32))).bind fun S5 => (aget 0 22 S5 628 (3 : Int32)).bind fun v7 => (aput 448 S5 598 (((64 : Int32) * a0) + v1) v7).bind fun S9 => (aget 0 22 S9 628 (5 : Int32)).bind fun v11 => (aput 448 S9 599 (((64 : Int32) * a0) + v1) v11).bind fun S13 => (aget 0 22 S13 628 (4 : Int32)).bind fun v15 => (aput 448 S13 600 (((64 : Int32) * a0) + v1) v15).bind fun S17 => D_m_bringPurge_60 F F a0 (0 : Int32) S17
theorem T_m_bringPurge {l : Launch} {w : List mM} {F : Nat} {a0 : Int32} {S : mS} {r : mS} (h : m_RM S w) (h0 : D_m_bringPurge F a0 S = some r) : m_Rs l M_325 (m_ent M_325 [.ref 583, .int a0] w) (fun v w' => v = none ∧ m_RM r w' ∧ m_Fq w w') 0 0 1 100 := by
  show m_Rs l M_325 (0, [(0, .ref 583), (1, .int a0)], [], w) _ 0 0 1 100
  generalize hw0 : w = w0 at h ⊢
  have hF : m_Fq w0 w0 := m_Fq.refl
  rw [D_m_bringPurge] at h0
  refine m_Rs.n0 b_325 (x_bipush (z := 64) d_325_0 (by decide)) ?_
  refine m_Rs.n0 b_325 (x_iload_n d_325_2 rfl) ?_
  refine m_Rs.n0 b_325 (x_imul d_325_3 rfl) ?_
  refine m_Rs.n0 b_325 (x_aload_n d_325_4 rfl) ?_
  refine m_Rs.n0 b_325 (x_getf d_325_5 rfl h.1 rfl) ?_
  refine m_Rs.n0 b_325 (x_iload_n d_325_8 rfl) ?_
  obtain ⟨v1, e2, h0⟩ := bS h0
  refine m_Rs.dget b_325 d_325_9 h 13 rfl e2 ?_
  refine m_Rs.n0 b_325 (x_iadd d_325_10 rfl) ?_
  refine m_Rs.n0 b_325 (x_istore_n d_325_11 rfl (show m_put1 _ _ _ = [(2, _), (0, _), (1, _)] from rfl)) ?_
  refine m_Rs.n0 b_325 (x_aload_n d_325_12 rfl) ?_
  refine m_Rs.n0 b_325 (x_getf d_325_13 rfl h.1 rfl) ?_
  refine m_Rs.n0 b_325 (x_iload_n d_325_16 rfl) ?_
  refine m_Rs.n0 b_325 (x_dup2 d_325_17 rfl rfl) ?_
  obtain ⟨v3, e4, h0⟩ := bS h0
  refine m_Rs.dget b_325 d_325_18 h 13 rfl e4 ?_
  refine m_Rs.n0 b_325 (x_iconst (z := 1) d_325_19 (by decide)) ?_
  refine m_Rs.n0 b_325 (x_iadd d_325_20 rfl) ?_
  obtain ⟨S5, e6, h0⟩ := bS h0
  refine m_Rs.dput b_325 d_325_21 h hF 13 rfl e6 (fun w1 h hF => ?_)
  refine m_Rs.n0 b_325 (x_aload_n d_325_22 rfl) ?_
  refine m_Rs.n0 b_325 (x_getf d_325_23 rfl h.1 rfl) ?_
  refine m_Rs.n0 b_325 (x_iload_n d_325_26 rfl) ?_
  refine m_Rs.n0 b_325 (x_aload_n d_325_27 rfl) ?_
  refine m_Rs.n0 b_325 (x_getf d_325_28 rfl h.1 rfl) ?_
  refine m_Rs.n0 b_325 (x_iconst (z := 3) d_325_31 (by decide)) ?_
  obtain ⟨v7, e8, h0⟩ := bS h0
  refine m_Rs.dget b_325 d_325_32 h 44 rfl e8 ?_
  obtain ⟨S9, e10, h0⟩ := bS h0
  refine m_Rs.dput b_325 d_325_33 h hF 14 rfl e10 (fun w1 h hF => ?_)
  refine m_Rs.n0 b_325 (x_aload_n d_325_34 rfl) ?_
  refine m_Rs.n0 b_325 (x_getf d_325_35 rfl h.1 rfl) ?_
  refine m_Rs.n0 b_325 (x_iload_n d_325_38 rfl) ?_
  refine m_Rs.n0 b_325 (x_aload_n d_325_39 rfl) ?_
  refine m_Rs.n0 b_325 (x_getf d_325_40 rfl h.1 rfl) ?_
  refine m_Rs.n0 b_325 (x_iconst (z := 5) d_325_43 (by decide)) ?_
  obtain ⟨v11, e12, h0⟩ := bS h0
  refine m_Rs.dget b_325 d_325_44 h 44 rfl e12 ?_
  obtain ⟨S13, e14, h0⟩ := bS h0
  refine m_Rs.dput b_325 d_325_45 h hF 15 rfl e14 (fun w1 h hF => ?_)
  refine m_Rs.n0 b_325 (x_aload_n d_325_46 rfl) ?_
  refine m_Rs.n0 b_325 (x_getf d_325_47 rfl h.1 rfl) ?_
  refine m_Rs.n0 b_325 (x_iload_n d_325_50 rfl) ?_
  refine m_Rs.n0 b_325 (x_aload_n d_325_51 rfl) ?_
  refine m_Rs.n0 b_325 (x_getf d_325_52 rfl h.1 rfl) ?_
  refine m_Rs.n0 b_325 (x_iconst (z := 4) d_325_55 (by decide)) ?_
  obtain ⟨v15, e16, h0⟩ := bS h0
  refine m_Rs.dget b_325 d_325_56 h 44 rfl e16 ?_
  obtain ⟨S17, e18, h0⟩ := bS h0
  refine m_Rs.dput b_325 d_325_57 h hF 16 rfl e18 (fun w1 h hF => ?_)
  refine m_Rs.n0 b_325 (x_iconst (z := 0) d_325_58 (by decide)) ?_
  refine m_Rs.n0 b_325 (x_istore_n d_325_59 rfl (show m_put1 _ _ _ = [(3, _), (2, _), (0, _), (1, _)] from rfl)) ?_
  exact m_Rs.pick [2, 3, 0] rfl (T_m_bringPurge_60 F h hF h0)
def D_m_bring_57 (F : Nat) (x2 : Int32) (S : mS) : Option (mS) := (aget 0 22 S 628 (0 : Int32)).bind fun v14 => cond (decide (v14 = (0 : Int32))) ((D_m_bringFetch F x2 S).bind fun S17 => some S17) (cond (decide (v14 = (1 : Int32))) ((D_m_bringFill F x2 S).bind fun S20 => some S20) (cond (decide (v14 = (2 : Int32))) ((D_m_bringPurge F x2 S).bind fun S23 => some S23) ((aget 0 22 S 628 (3 : Int32)).bind fun v25 => (cond (m_c2 .ne v25 (S.1 37)) (some (0 : Int32)) (some (1 : Int32))).bind fun v30 => (fput S 38 ((S.1 38) + v30)).bind fun S31 => some S31)))
theorem T_m_bring_57 {l : Launch} {w0 : List mM} {F : Nat} {x2 : Int32} {S : mS} {w : List mM} {r : mS} (h : m_RM S w) (hF : m_Fq w0 w) (h0 : D_m_bring_57 F x2 S = some r) : m_Rs l M_315 (57, [(0, .ref 583), (2, .int x2)], [], w) (fun v w' => v = none ∧ m_RM r w' ∧ m_Fq w0 w') 0 0 11 1100 := by
  rw [D_m_bring_57] at h0
  refine m_Rs.n0 b_315 (x_aload_n d_315_57 rfl) ?_
  refine m_Rs.n0 b_315 (x_getf d_315_58 rfl h.1 rfl) ?_
  refine m_Rs.n0 b_315 (x_iconst (z := 0) d_315_61 (by decide)) ?_
  obtain ⟨v14, e15, h0⟩ := bS h0
  refine m_Rs.dget b_315 d_315_62 h 44 rfl e15 ?_
  cases hc16 : decide (v14 = (0 : Int32)) with
  | true =>
    have h0 := cT hc16 h0
    refine m_Rs.n0 b_315 (x_tsw (t := 88) d_315_63 (by rw [of_decide_eq_true hc16]; rfl)) ?_
    refine m_Rs.n0 b_315 (x_aload_n d_315_88 rfl) ?_
    refine m_Rs.n0 b_315 (x_iload_n d_315_89 rfl) ?_
    obtain ⟨S17, e18, h0⟩ := bS h0
    refine m_Rs.callSv b_315 (y_cv d_315_90 rfl q_317 (m_isRecv_of rfl h.1) (show m_takeI _ _ = some (_, [_, _], []) from rfl) (by simp only [m_okf, List.all_cons, List.all_nil, Bool.and_true, Bool.and_self, m_okv_i, m_okv_l, m_okv_0, m_okv_t, m_okv_at h.1]) rfl) (T_m_bringFetch h e18) hF rfl (fun w1 h hF => ?_) (by decide) (by decide)
    refine m_Rs.n0 b_315 (x_goto d_315_93 rfl) ?_
    exact m_Rs.ret b_315 (m_rt_vr d_315_139 rfl) (rV h0 h hF)
  | false =>
    have h0 := cF hc16 h0
    cases hc19 : decide (v14 = (1 : Int32)) with
    | true =>
      have h0 := cT hc19 h0
      refine m_Rs.n0 b_315 (x_tsw (t := 96) d_315_63 (by rw [of_decide_eq_true hc19]; rfl)) ?_
      refine m_Rs.n0 b_315 (x_aload_n d_315_96 rfl) ?_
      refine m_Rs.n0 b_315 (x_iload_n d_315_97 rfl) ?_
      obtain ⟨S20, e21, h0⟩ := bS h0
      refine m_Rs.callSv b_315 (y_cv d_315_98 rfl q_318 (m_isRecv_of rfl h.1) (show m_takeI _ _ = some (_, [_, _], []) from rfl) (by simp only [m_okf, List.all_cons, List.all_nil, Bool.and_true, Bool.and_self, m_okv_i, m_okv_l, m_okv_0, m_okv_t, m_okv_at h.1]) rfl) (T_m_bringFill h e21) hF rfl (fun w1 h hF => ?_) (by decide) (by decide)
      refine m_Rs.n0 b_315 (x_goto d_315_101 rfl) ?_
      exact m_Rs.ret b_315 (m_rt_vr d_315_139 rfl) (rV h0 h hF)
    | false =>
      have h0 := cF hc19 h0
      cases hc22 : decide (v14 = (2 : Int32)) with
      | true =>
        have h0 := cT hc22 h0
        refine m_Rs.n0 b_315 (x_tsw (t := 104) d_315_63 (by rw [of_decide_eq_true hc22]; rfl)) ?_
        refine m_Rs.n0 b_315 (x_aload_n d_315_104 rfl) ?_
        refine m_Rs.n0 b_315 (x_iload_n d_315_105 rfl) ?_
        obtain ⟨S23, e24, h0⟩ := bS h0
        refine m_Rs.callSv b_315 (y_cv d_315_106 rfl q_325 (m_isRecv_of rfl h.1) (show m_takeI _ _ = some (_, [_, _], []) from rfl) (by simp only [m_okf, List.all_cons, List.all_nil, Bool.and_true, Bool.and_self, m_okv_i, m_okv_l, m_okv_0, m_okv_t, m_okv_at h.1]) rfl) (T_m_bringPurge h e24) hF rfl (fun w1 h hF => ?_) (by decide) (by decide)
        refine m_Rs.n0 b_315 (x_goto d_315_109 rfl) ?_
        exact m_Rs.ret b_315 (m_rt_vr d_315_139 rfl) (rV h0 h hF)
      | false =>
        have h0 := cF hc22 h0
        refine m_Rs.n0 b_315 (x_tsw (t := 112) d_315_63 (m_tsw_0 (n := 3) rfl (fun k hk => by match k, hk with | 0, _ => exact of_decide_eq_false hc16 | 1, _ => exact of_decide_eq_false hc19 | 2, _ => exact of_decide_eq_false hc22 | k + 3, hk => omega) rfl)) ?_
        refine m_Rs.n0 b_315 (x_aload_n d_315_112 rfl) ?_
        refine m_Rs.n0 b_315 (x_dup d_315_113 rfl) ?_
        refine m_Rs.n0 b_315 (x_getf d_315_114 rfl h.1 rfl) ?_
        refine m_Rs.n0 b_315 (x_aload_n d_315_117 rfl) ?_
        refine m_Rs.n0 b_315 (x_getf d_315_118 rfl h.1 rfl) ?_
        refine m_Rs.n0 b_315 (x_iconst (z := 3) d_315_121 (by decide)) ?_
        obtain ⟨v25, e26, h0⟩ := bS h0
        refine m_Rs.dget b_315 d_315_122 h 44 rfl e26 ?_
        refine m_Rs.n0 b_315 (x_aload_n d_315_123 rfl) ?_
        refine m_Rs.n0 b_315 (x_getf d_315_124 rfl h.1 rfl) ?_
        obtain ⟨v30, e28, h0⟩ := bS h0
        have kk27 : ∀ (xz : Int32) (w1 : List mM), xz = v30 → m_RM S w1 → m_Fq w0 w1 → m_Rs l M_315 (135, [(0, .ref 583), (2, .int x2)], [.int xz, .int (S.1 38), .ref 583], w1) (fun v w' => v = none ∧ m_RM r w' ∧ m_Fq w0 w') 0 0 11 1100 := by
          intro xz w ez h hF
          rw [ez]
          refine m_Rs.n0 b_315 (x_iadd d_315_135 rfl) ?_
          obtain ⟨S31, e32, h0⟩ := bS h0
          refine m_Rs.dfput b_315 d_315_136 h hF e32 rfl rfl rfl rfl rfl rfl (fun w1 h hF => ?_)
          exact m_Rs.ret b_315 (m_rt_vr d_315_139 rfl) (rV h0 h hF)
        cases hc29 : m_c2 .ne v25 (S.1 37) with
        | true =>
          have e28 := cT hc29 e28
          refine m_Rs.n0 b_315 (x_ict d_315_127 rfl hc29) ?_
          refine m_Rs.n0 b_315 (x_iconst (z := 0) d_315_134 (by decide)) ?_
          exact kk27 _ _ (Option.some.inj e28) h hF
        | false =>
          have e28 := cF hc29 e28
          refine m_Rs.n0 b_315 (x_icf d_315_127 rfl hc29) ?_
          refine m_Rs.n0 b_315 (x_iconst (z := 1) d_315_130 (by decide)) ?_
          refine m_Rs.n0 b_315 (x_goto d_315_131 rfl) ?_
          exact kk27 _ _ (Option.some.inj e28) h hF
def D_m_bring_2 (F : Nat) : Nat → Int32 → Int32 → mS → Option (mS)
  | 0, _, _, _ => none
  | n + 1, x1, x2, S => cond (m_c2 .ge x2 (22 : Int32)) ((D_m_remove F x1 S).bind fun S2 => (aget 0 22 S2 628 (2 : Int32)).bind fun v4 => cond (m_c1 .le v4) (D_m_bring_57 F v4 S2) ((aget 4 7 S2 591 v4).bind fun v7 => cond (m_c1 .ne v7) (D_m_bring_57 F v4 S2) (some S2))) ((aget 0 2200 S 624 (((22 : Int32) * x1) + x2)).bind fun v10 => (aput 22 S 628 x2 v10).bind fun S12 => D_m_bring_2 F n x1 (x2 + Int32.ofInt 1) S12)
theorem T_m_bring_2 {l : Launch} {w0 : List mM} {F : Nat} : ∀ (n : Nat) {x1 : Int32} {x2 : Int32} {S : mS} {w : List mM} {r : mS}, m_RM S w → m_Fq w0 w → D_m_bring_2 F n x1 x2 S = some r → m_Rs l M_315 (2, [(0, .ref 583), (1, .int x1), (2, .int x2)], [], w) (fun v w' => v = none ∧ m_RM r w' ∧ m_Fq w0 w') 0 0 11 1100 := by
  intro n
  induction n with
  | zero => intro x1 x2 S w r h hF h0; cases h0
  | succ n ih =>
    intro x1 x2 S w r h hF h0
    rw [D_m_bring_2] at h0
    refine m_Rs.n0 b_315 (x_iload_n d_315_2 rfl) ?_
    refine m_Rs.n0 b_315 (x_bipush (z := 22) d_315_3 (by decide)) ?_
    cases hc1 : m_c2 .ge x2 (22 : Int32) with
    | true =>
      have h0 := cT hc1 h0
      refine m_Rs.n0 b_315 (x_ict d_315_5 rfl hc1) ?_
      refine m_Rs.n0 b_315 (x_aload_n d_315_31 rfl) ?_
      refine m_Rs.n0 b_315 (x_iload_n d_315_32 rfl) ?_
      obtain ⟨S2, e3, h0⟩ := bS h0
      refine m_Rs.callSv b_315 (y_cv d_315_33 rfl q_316 (m_isRecv_of rfl h.1) (show m_takeI _ _ = some (_, [_, _], []) from rfl) (by simp only [m_okf, List.all_cons, List.all_nil, Bool.and_true, Bool.and_self, m_okv_i, m_okv_l, m_okv_0, m_okv_t, m_okv_at h.1]) rfl) (T_m_remove h e3) hF rfl (fun w1 h hF => ?_) (by decide) (by decide)
      refine m_Rs.n0 b_315 (x_aload_n d_315_36 rfl) ?_
      refine m_Rs.n0 b_315 (x_getf d_315_37 rfl h.1 rfl) ?_
      refine m_Rs.n0 b_315 (x_iconst (z := 2) d_315_40 (by decide)) ?_
      obtain ⟨v4, e5, h0⟩ := bS h0
      refine m_Rs.dget b_315 d_315_41 h 44 rfl e5 ?_
      refine m_Rs.n0 b_315 (x_istore_n d_315_42 rfl (show m_put1 _ _ _ = [(2, _), (0, _), (1, _)] from rfl)) ?_
      refine m_Rs.n0 b_315 (x_iload_n d_315_43 rfl) ?_
      cases hc6 : m_c1 .le v4 with
      | true =>
        have h0 := cT hc6 h0
        refine m_Rs.n0 b_315 (x_ift d_315_44 rfl hc6) ?_
        exact m_Rs.pick [1, 0] rfl (T_m_bring_57 h hF h0)
      | false =>
        have h0 := cF hc6 h0
        refine m_Rs.n0 b_315 (x_iff d_315_44 rfl hc6) ?_
        refine m_Rs.n0 b_315 (x_aload_n d_315_47 rfl) ?_
        refine m_Rs.n0 b_315 (x_getf d_315_48 rfl h.1 rfl) ?_
        refine m_Rs.n0 b_315 (x_iload_n d_315_51 rfl) ?_
        obtain ⟨v7, e8, h0⟩ := bS h0
        refine m_Rs.dgetb b_315 d_315_52 h 7 rfl e8 ?_
        cases hc9 : m_c1 .ne v7 with
        | true =>
          have h0 := cT hc9 h0
          refine m_Rs.n0 b_315 (x_ift d_315_53 rfl hc9) ?_
          exact m_Rs.pick [1, 0] rfl (T_m_bring_57 h hF h0)
        | false =>
          have h0 := cF hc9 h0
          refine m_Rs.n0 b_315 (x_iff d_315_53 rfl hc9) ?_
          exact m_Rs.ret b_315 (m_rt_vr d_315_56 rfl) (rV h0 h hF)
    | false =>
      have h0 := cF hc1 h0
      refine m_Rs.n0 b_315 (x_icf d_315_5 rfl hc1) ?_
      refine m_Rs.n0 b_315 (x_aload_n d_315_8 rfl) ?_
      refine m_Rs.n0 b_315 (x_getf d_315_9 rfl h.1 rfl) ?_
      refine m_Rs.n0 b_315 (x_iload_n d_315_12 rfl) ?_
      refine m_Rs.n0 b_315 (x_aload_n d_315_13 rfl) ?_
      refine m_Rs.n0 b_315 (x_getf d_315_14 rfl h.1 rfl) ?_
      refine m_Rs.n0 b_315 (x_bipush (z := 22) d_315_17 (by decide)) ?_
      refine m_Rs.n0 b_315 (x_iload_n d_315_19 rfl) ?_
      refine m_Rs.n0 b_315 (x_imul d_315_20 rfl) ?_
      refine m_Rs.n0 b_315 (x_iload_n d_315_21 rfl) ?_
      refine m_Rs.n0 b_315 (x_iadd d_315_22 rfl) ?_
      obtain ⟨v10, e11, h0⟩ := bS h0
      refine m_Rs.dget b_315 d_315_23 h 40 rfl e11 ?_
      obtain ⟨S12, e13, h0⟩ := bS h0
      refine m_Rs.dput b_315 d_315_24 h hF 44 rfl e13 (fun w1 h hF => ?_)
      refine m_Rs.n0 b_315 (x_iinc d_315_25 rfl rfl rfl (show m_put1 _ _ _ = [(2, _), (0, _), (1, _)] from rfl)) ?_
      refine m_Rs.n0 b_315 (x_goto d_315_28 rfl) ?_
      exact m_Rs.pick [1, 2, 0] rfl (ih h hF h0)
def D_m_bring (F : Nat) (a0 : Int32) (S : mS) : Option (mS) := D_m_bring_2 F F a0 (0 : Int32) S
theorem T_m_bring {l : Launch} {w : List mM} {F : Nat} {a0 : Int32} {S : mS} {r : mS} (h : m_RM S w) (h0 : D_m_bring F a0 S = some r) : m_Rs l M_315 (m_ent M_315 [.ref 583, .int a0] w) (fun v w' => v = none ∧ m_RM r w' ∧ m_Fq w w') 0 0 11 1100 := by
  show m_Rs l M_315 (0, [(0, .ref 583), (1, .int a0)], [], w) _ 0 0 11 1100
  generalize hw0 : w = w0 at h ⊢
  have hF : m_Fq w0 w0 := m_Fq.refl
  rw [D_m_bring] at h0
  refine m_Rs.n0 b_315 (x_iconst (z := 0) d_315_0 (by decide)) ?_
  refine m_Rs.n0 b_315 (x_istore_n d_315_1 rfl (show m_put1 _ _ _ = [(2, _), (0, _), (1, _)] from rfl)) ?_
  exact m_Rs.pick [1, 2, 0] rfl (T_m_bring_2 F h hF h0)
def D_m_deliver (F : Nat) (a0 : Int32) (S : mS) : Option (Int32 × mS) := (fput S 0 (0 : Int32)).bind fun S1 => cond (m_c1 .lt a0) (some ((0 : Int32), S1)) (cond (m_c2 .lt a0 (S1.1 77)) ((D_m_bring F a0 S1).bind fun S5 => some ((1 : Int32), S5)) (some ((0 : Int32), S1)))
theorem T_m_deliver {l : Launch} {w : List mM} {F : Nat} {a0 : Int32} {S : mS} {r : Int32 × mS} (h : m_RM S w) (h0 : D_m_deliver F a0 S = some r) : m_Rs l M_314 (m_ent M_314 [.ref 583, .int a0] w) (fun v w' => v = some (.int r.1) ∧ m_RM r.2 w' ∧ m_Fq w w') 0 0 12 1200 := by
  show m_Rs l M_314 (0, [(0, .ref 583), (1, .int a0)], [], w) _ 0 0 12 1200
  generalize hw0 : w = w0 at h ⊢
  have hF : m_Fq w0 w0 := m_Fq.refl
  rw [D_m_deliver] at h0
  refine m_Rs.n0 b_314 (x_aload_n d_314_0 rfl) ?_
  refine m_Rs.n0 b_314 (x_iconst (z := 0) d_314_1 (by decide)) ?_
  obtain ⟨S1, e2, h0⟩ := bS h0
  refine m_Rs.dfput b_314 d_314_2 h hF e2 rfl rfl rfl rfl rfl rfl (fun w1 h hF => ?_)
  refine m_Rs.n0 b_314 (x_iload_n d_314_5 rfl) ?_
  cases hc3 : m_c1 .lt a0 with
  | true =>
    have h0 := cT hc3 h0
    refine m_Rs.n0 b_314 (x_ift d_314_6 rfl hc3) ?_
    refine m_Rs.n0 b_314 (x_iconst (z := 0) d_314_17 (by decide)) ?_
    exact m_Rs.ret b_314 (m_rt_ir d_314_18 rfl m_nb0) (rP h0 h hF)
  | false =>
    have h0 := cF hc3 h0
    refine m_Rs.n0 b_314 (x_iff d_314_6 rfl hc3) ?_
    refine m_Rs.n0 b_314 (x_iload_n d_314_9 rfl) ?_
    refine m_Rs.n0 b_314 (x_aload_n d_314_10 rfl) ?_
    refine m_Rs.n0 b_314 (x_getf d_314_11 rfl h.1 rfl) ?_
    cases hc4 : m_c2 .lt a0 (S1.1 77) with
    | true =>
      have h0 := cT hc4 h0
      refine m_Rs.n0 b_314 (x_ict d_314_14 rfl hc4) ?_
      refine m_Rs.n0 b_314 (x_aload_n d_314_19 rfl) ?_
      refine m_Rs.n0 b_314 (x_iload_n d_314_20 rfl) ?_
      obtain ⟨S5, e6, h0⟩ := bS h0
      refine m_Rs.callSv b_314 (y_cv d_314_21 rfl q_315 (m_isRecv_of rfl h.1) (show m_takeI _ _ = some (_, [_, _], []) from rfl) (by simp only [m_okf, List.all_cons, List.all_nil, Bool.and_true, Bool.and_self, m_okv_i, m_okv_l, m_okv_0, m_okv_t, m_okv_at h.1]) rfl) (T_m_bring h e6) hF rfl (fun w1 h hF => ?_) (by decide) (by decide)
      refine m_Rs.n0 b_314 (x_iconst (z := 1) d_314_24 (by decide)) ?_
      exact m_Rs.ret b_314 (m_rt_ir d_314_25 rfl m_nb1) (rP h0 h hF)
    | false =>
      have h0 := cF hc4 h0
      refine m_Rs.n0 b_314 (x_icf d_314_14 rfl hc4) ?_
      refine m_Rs.n0 b_314 (x_iconst (z := 0) d_314_17 (by decide)) ?_
      exact m_Rs.ret b_314 (m_rt_ir d_314_18 rfl m_nb0) (rP h0 h hF)
def D_m_lose (F : Nat) (a0 : Int32) (S : mS) : Option (Int32 × mS) := (fput S 0 (0 : Int32)).bind fun S1 => cond (m_c1 .lt a0) (some ((0 : Int32), S1)) (cond (m_c2 .lt a0 (S1.1 77)) ((D_m_remove F a0 S1).bind fun S5 => (fput S5 39 ((S5.1 39) + (1 : Int32))).bind fun S7 => some ((1 : Int32), S7)) (some ((0 : Int32), S1)))
theorem T_m_lose {l : Launch} {w : List mM} {F : Nat} {a0 : Int32} {S : mS} {r : Int32 × mS} (h : m_RM S w) (h0 : D_m_lose F a0 S = some r) : m_Rs l M_326 (m_ent M_326 [.ref 583, .int a0] w) (fun v w' => v = some (.int r.1) ∧ m_RM r.2 w' ∧ m_Fq w w') 0 0 1 100 := by
  show m_Rs l M_326 (0, [(0, .ref 583), (1, .int a0)], [], w) _ 0 0 1 100
  generalize hw0 : w = w0 at h ⊢
  have hF : m_Fq w0 w0 := m_Fq.refl
  rw [D_m_lose] at h0
  refine m_Rs.n0 b_326 (x_aload_n d_326_0 rfl) ?_
  refine m_Rs.n0 b_326 (x_iconst (z := 0) d_326_1 (by decide)) ?_
  obtain ⟨S1, e2, h0⟩ := bS h0
  refine m_Rs.dfput b_326 d_326_2 h hF e2 rfl rfl rfl rfl rfl rfl (fun w1 h hF => ?_)
  refine m_Rs.n0 b_326 (x_iload_n d_326_5 rfl) ?_
  cases hc3 : m_c1 .lt a0 with
  | true =>
    have h0 := cT hc3 h0
    refine m_Rs.n0 b_326 (x_ift d_326_6 rfl hc3) ?_
    refine m_Rs.n0 b_326 (x_iconst (z := 0) d_326_17 (by decide)) ?_
    exact m_Rs.ret b_326 (m_rt_ir d_326_18 rfl m_nb0) (rP h0 h hF)
  | false =>
    have h0 := cF hc3 h0
    refine m_Rs.n0 b_326 (x_iff d_326_6 rfl hc3) ?_
    refine m_Rs.n0 b_326 (x_iload_n d_326_9 rfl) ?_
    refine m_Rs.n0 b_326 (x_aload_n d_326_10 rfl) ?_
    refine m_Rs.n0 b_326 (x_getf d_326_11 rfl h.1 rfl) ?_
    cases hc4 : m_c2 .lt a0 (S1.1 77) with
    | true =>
      have h0 := cT hc4 h0
      refine m_Rs.n0 b_326 (x_ict d_326_14 rfl hc4) ?_
      refine m_Rs.n0 b_326 (x_aload_n d_326_19 rfl) ?_
      refine m_Rs.n0 b_326 (x_iload_n d_326_20 rfl) ?_
      obtain ⟨S5, e6, h0⟩ := bS h0
      refine m_Rs.callSv b_326 (y_cv d_326_21 rfl q_316 (m_isRecv_of rfl h.1) (show m_takeI _ _ = some (_, [_, _], []) from rfl) (by simp only [m_okf, List.all_cons, List.all_nil, Bool.and_true, Bool.and_self, m_okv_i, m_okv_l, m_okv_0, m_okv_t, m_okv_at h.1]) rfl) (T_m_remove h e6) hF rfl (fun w1 h hF => ?_) (by decide) (by decide)
      refine m_Rs.n0 b_326 (x_aload_n d_326_24 rfl) ?_
      refine m_Rs.n0 b_326 (x_dup d_326_25 rfl) ?_
      refine m_Rs.n0 b_326 (x_getf d_326_26 rfl h.1 rfl) ?_
      refine m_Rs.n0 b_326 (x_iconst (z := 1) d_326_29 (by decide)) ?_
      refine m_Rs.n0 b_326 (x_iadd d_326_30 rfl) ?_
      obtain ⟨S7, e8, h0⟩ := bS h0
      refine m_Rs.dfput b_326 d_326_31 h hF e8 rfl rfl rfl rfl rfl rfl (fun w1 h hF => ?_)
      refine m_Rs.n0 b_326 (x_iconst (z := 1) d_326_34 (by decide)) ?_
      exact m_Rs.ret b_326 (m_rt_ir d_326_35 rfl m_nb1) (rP h0 h hF)
    | false =>
      have h0 := cF hc4 h0
      refine m_Rs.n0 b_326 (x_icf d_326_14 rfl hc4) ?_
      refine m_Rs.n0 b_326 (x_iconst (z := 0) d_326_17 (by decide)) ?_
      exact m_Rs.ret b_326 (m_rt_ir d_326_18 rfl m_nb0) (rP h0 h hF)
def D_m_settle_7 (F : Nat) : Nat → Int32 → mS → Option (Int32 × mS)
  | 0, _, _ => none
  | n + 1, x1, S => cond (m_c1 .le (S.1 77)) (some (x1, S)) (cond (m_c2 .ge x1 (500 : Int32)) (some (x1, S)) ((D_m_bring F (0 : Int32) S).bind fun S5 => D_m_settle_7 F n (x1 + Int32.ofInt 1) S5))
theorem T_m_settle_7 {l : Launch} {w0 : List mM} {F : Nat} : ∀ (n : Nat) {x1 : Int32} {S : mS} {w : List mM} {r : Int32 × mS}, m_RM S w → m_Fq w0 w → D_m_settle_7 F n x1 S = some r → m_Rs l M_327 (7, [(0, .ref 583), (1, .int x1)], [], w) (fun v w' => v = some (.int r.1) ∧ m_RM r.2 w' ∧ m_Fq w0 w') 0 0 12 1200 := by
  intro n
  induction n with
  | zero => intro x1 S w r h hF h0; cases h0
  | succ n ih =>
    intro x1 S w r h hF h0
    rw [D_m_settle_7] at h0
    refine m_Rs.n0 b_327 (x_aload_n d_327_7 rfl) ?_
    refine m_Rs.n0 b_327 (x_getf d_327_8 rfl h.1 rfl) ?_
    cases hc3 : m_c1 .le (S.1 77) with
    | true =>
      have h0 := cT hc3 h0
      refine m_Rs.n0 b_327 (x_ift d_327_11 rfl hc3) ?_
      refine m_Rs.n0 b_327 (x_iload_n d_327_32 rfl) ?_
      exact m_Rs.ret b_327 (m_rt_ir d_327_33 rfl rfl) (rP h0 h hF)
    | false =>
      have h0 := cF hc3 h0
      refine m_Rs.n0 b_327 (x_iff d_327_11 rfl hc3) ?_
      refine m_Rs.n0 b_327 (x_iload_n d_327_14 rfl) ?_
      refine m_Rs.n0 b_327 (x_sipush (z := 500) d_327_15 (by decide)) ?_
      cases hc4 : m_c2 .ge x1 (500 : Int32) with
      | true =>
        have h0 := cT hc4 h0
        refine m_Rs.n0 b_327 (x_ict d_327_18 rfl hc4) ?_
        refine m_Rs.n0 b_327 (x_iload_n d_327_32 rfl) ?_
        exact m_Rs.ret b_327 (m_rt_ir d_327_33 rfl rfl) (rP h0 h hF)
      | false =>
        have h0 := cF hc4 h0
        refine m_Rs.n0 b_327 (x_icf d_327_18 rfl hc4) ?_
        refine m_Rs.n0 b_327 (x_aload_n d_327_21 rfl) ?_
        refine m_Rs.n0 b_327 (x_iconst (z := 0) d_327_22 (by decide)) ?_
        obtain ⟨S5, e6, h0⟩ := bS h0
        refine m_Rs.callSv b_327 (y_cv d_327_23 rfl q_315 (m_isRecv_of rfl h.1) (show m_takeI _ _ = some (_, [_, _], []) from rfl) (by simp only [m_okf, List.all_cons, List.all_nil, Bool.and_true, Bool.and_self, m_okv_i, m_okv_l, m_okv_0, m_okv_t, m_okv_at h.1]) rfl) (T_m_bring h e6) hF rfl (fun w1 h hF => ?_) (by decide) (by decide)
        refine m_Rs.n0 b_327 (x_iinc d_327_26 rfl rfl rfl (show m_put1 _ _ _ = [(1, _), (0, _)] from rfl)) ?_
        refine m_Rs.n0 b_327 (x_goto d_327_29 rfl) ?_
        exact m_Rs.pick [1, 0] rfl (ih h hF h0)
def D_m_settle (F : Nat) (S : mS) : Option (Int32 × mS) := (fput S 0 (0 : Int32)).bind fun S1 => D_m_settle_7 F F (0 : Int32) S1
theorem T_m_settle {l : Launch} {w : List mM} {F : Nat} {S : mS} {r : Int32 × mS} (h : m_RM S w) (h0 : D_m_settle F S = some r) : m_Rs l M_327 (m_ent M_327 [.ref 583] w) (fun v w' => v = some (.int r.1) ∧ m_RM r.2 w' ∧ m_Fq w w') 0 0 12 1200 := by
  show m_Rs l M_327 (0, [(0, .ref 583)], [], w) _ 0 0 12 1200
  generalize hw0 : w = w0 at h ⊢
  have hF : m_Fq w0 w0 := m_Fq.refl
  rw [D_m_settle] at h0
  refine m_Rs.n0 b_327 (x_aload_n d_327_0 rfl) ?_
  refine m_Rs.n0 b_327 (x_iconst (z := 0) d_327_1 (by decide)) ?_
  obtain ⟨S1, e2, h0⟩ := bS h0
  refine m_Rs.dfput b_327 d_327_2 h hF e2 rfl rfl rfl rfl rfl rfl (fun w1 h hF => ?_)
  refine m_Rs.n0 b_327 (x_iconst (z := 0) d_327_5 (by decide)) ?_
  refine m_Rs.n0 b_327 (x_istore_n d_327_6 rfl (show m_put1 _ _ _ = [(1, _), (0, _)] from rfl)) ?_
  exact m_Rs.pick [1, 0] rfl (T_m_settle_7 F h hF h0)
def D_m_purge_109 (F : Nat) (rec61 : Int32 → Int32 → Int32 → mS → Option (Int32 × mS)) (x1 : Int32) (x2 : Int32) (x3 : Int32) (S : mS) : Option (Int32 × mS) := rec61 x1 x2 (x3 + Int32.ofInt 1) S
theorem T_m_purge_109 {l : Launch} {w0 : List mM} {F : Nat} {rec61 : Int32 → Int32 → Int32 → mS → Option (Int32 × mS)} (hr61 : ∀ {x1 : Int32} {x2 : Int32} {x3 : Int32} {S : mS} {w : List mM} {r : Int32 × mS}, m_RM S w → m_Fq w0 w → rec61 x1 x2 x3 S = some r → m_Rs l M_328 (61, [(0, .ref 583), (1, .int x1), (2, .int x2), (3, .int x3)], [], w) (fun v w' => v = some (.int r.1) ∧ m_RM r.2 w' ∧ m_Fq w0 w') 0 0 1 100) {x1 : Int32} {x2 : Int32} {x3 : Int32} {S : mS} {w : List mM} {r : Int32 × mS} (h : m_RM S w) (hF : m_Fq w0 w) (h0 : D_m_purge_109 F rec61 x1 x2 x3 S = some r) : m_Rs l M_328 (109, [(0, .ref 583), (1, .int x1), (2, .int x2), (3, .int x3)], [], w) (fun v w' => v = some (.int r.1) ∧ m_RM r.2 w' ∧ m_Fq w0 w') 0 0 1 100 := by
  rw [D_m_purge_109] at h0
  refine m_Rs.n0 b_328 (x_iinc d_328_109 rfl rfl rfl (show m_put1 _ _ _ = [(3, _), (0, _), (1, _), (2, _)] from rfl)) ?_
  refine m_Rs.n0 b_328 (x_goto d_328_112 rfl) ?_
  exact m_Rs.pick [1, 2, 3, 0] rfl (hr61 h hF h0)
def D_m_purge_61 (F : Nat) : Nat → Int32 → Int32 → Int32 → mS → Option (Int32 × mS)
  | 0, _, _, _, _ => none
  | n + 1, x1, x2, x3, S => cond (m_c2 .ge x3 (7 : Int32)) (some ((S.1 37), S)) ((aget 4 7 S 591 x3).bind fun v17 => cond (m_c1 .ne v17) ((D_m_blank F (2 : Int32) (0 : Int32) x3 (S.1 37) (0 : Int32) S).bind fun S31 => (aput 22 S31 625 (4 : Int32) x2).bind fun S33 => (aput 22 S33 625 (5 : Int32) x1).bind fun S35 => (D_m_post F S35).bind fun S37 => D_m_purge_109 F (D_m_purge_61 F n) x1 x2 x3 S37) (D_m_purge_109 F (D_m_purge_61 F n) x1 x2 x3 S))
theorem T_m_purge_61 {l : Launch} {w0 : List mM} {F : Nat} : ∀ (n : Nat) {x1 : Int32} {x2 : Int32} {x3 : Int32} {S : mS} {w : List mM} {r : Int32 × mS}, m_RM S w → m_Fq w0 w → D_m_purge_61 F n x1 x2 x3 S = some r → m_Rs l M_328 (61, [(0, .ref 583), (1, .int x1), (2, .int x2), (3, .int x3)], [], w) (fun v w' => v = some (.int r.1) ∧ m_RM r.2 w' ∧ m_Fq w0 w') 0 0 1 100 := by
  intro n
  induction n with
  | zero => intro x1 x2 x3 S w r h hF h0; cases h0
  | succ n ih =>
    intro x1 x2 x3 S w r h hF h0
    rw [D_m_purge_61] at h0
    refine m_Rs.n0 b_328 (x_iload_n d_328_61 rfl) ?_
    refine m_Rs.n0 b_328 (x_bipush (z := 7) d_328_62 (by decide)) ?_
    cases hc16 : m_c2 .ge x3 (7 : Int32) with
    | true =>
      have h0 := cT hc16 h0
      refine m_Rs.n0 b_328 (x_ict d_328_64 rfl hc16) ?_
      refine m_Rs.n0 b_328 (x_aload_n d_328_115 rfl) ?_
      refine m_Rs.n0 b_328 (x_getf d_328_116 rfl h.1 rfl) ?_
      exact m_Rs.ret b_328 (m_rt_ir d_328_119 rfl rfl) (rP h0 h hF)
    | false =>
      have h0 := cF hc16 h0
      refine m_Rs.n0 b_328 (x_icf d_328_64 rfl hc16) ?_
      refine m_Rs.n0 b_328 (x_aload_n d_328_67 rfl) ?_
      refine m_Rs.n0 b_328 (x_getf d_328_68 rfl h.1 rfl) ?_
      refine m_Rs.n0 b_328 (x_iload_n d_328_71 rfl) ?_
      obtain ⟨v17, e18, h0⟩ := bS h0
      refine m_Rs.dgetb b_328 d_328_72 h 7 rfl e18 ?_
      cases hc30 : m_c1 .ne v17 with
      | true =>
        have h0 := cT hc30 h0
        refine m_Rs.n0 b_328 (x_ift d_328_73 rfl hc30) ?_
        refine m_Rs.n0 b_328 (x_aload_n d_328_79 rfl) ?_
        refine m_Rs.n0 b_328 (x_iconst (z := 2) d_328_80 (by decide)) ?_
        refine m_Rs.n0 b_328 (x_iconst (z := 0) d_328_81 (by decide)) ?_
        refine m_Rs.n0 b_328 (x_iload_n d_328_82 rfl) ?_
        refine m_Rs.n0 b_328 (x_aload_n d_328_83 rfl) ?_
        refine m_Rs.n0 b_328 (x_getf d_328_84 rfl h.1 rfl) ?_
        refine m_Rs.n0 b_328 (x_iconst (z := 0) d_328_87 (by decide)) ?_
        obtain ⟨S31, e32, h0⟩ := bS h0
        refine m_Rs.callSv b_328 (y_cv d_328_88 rfl q_304 (m_isRecv_of rfl h.1) (show m_takeI _ _ = some (_, [_, _, _, _, _, _], []) from rfl) (by simp only [m_okf, List.all_cons, List.all_nil, Bool.and_true, Bool.and_self, m_okv_i, m_okv_l, m_okv_0, m_okv_t, m_okv_at h.1]) rfl) (T_m_blank h e32) hF rfl (fun w1 h hF => ?_) (by decide) (by decide)
        refine m_Rs.n0 b_328 (x_aload_n d_328_91 rfl) ?_
        refine m_Rs.n0 b_328 (x_getf d_328_92 rfl h.1 rfl) ?_
        refine m_Rs.n0 b_328 (x_iconst (z := 4) d_328_95 (by decide)) ?_
        refine m_Rs.n0 b_328 (x_iload_n d_328_96 rfl) ?_
        obtain ⟨S33, e34, h0⟩ := bS h0
        refine m_Rs.dput b_328 d_328_97 h hF 41 rfl e34 (fun w1 h hF => ?_)
        refine m_Rs.n0 b_328 (x_aload_n d_328_98 rfl) ?_
        refine m_Rs.n0 b_328 (x_getf d_328_99 rfl h.1 rfl) ?_
        refine m_Rs.n0 b_328 (x_iconst (z := 5) d_328_102 (by decide)) ?_
        refine m_Rs.n0 b_328 (x_iload_n d_328_103 rfl) ?_
        obtain ⟨S35, e36, h0⟩ := bS h0
        refine m_Rs.dput b_328 d_328_104 h hF 41 rfl e36 (fun w1 h hF => ?_)
        refine m_Rs.n0 b_328 (x_aload_n d_328_105 rfl) ?_
        obtain ⟨S37, e38, h0⟩ := bS h0
        refine m_Rs.callSv b_328 (y_cv d_328_106 rfl q_305 (m_isRecv_of rfl h.1) (show m_takeI _ _ = some (_, [_], []) from rfl) (by simp only [m_okf, List.all_cons, List.all_nil, Bool.and_true, Bool.and_self, m_okv_i, m_okv_l, m_okv_0, m_okv_t, m_okv_at h.1]) rfl) (T_m_post h e38) hF rfl (fun w1 h hF => ?_) (by decide) (by decide)
        exact m_Rs.pick [0, 1, 2, 3] rfl (T_m_purge_109 ih h hF h0)
      | false =>
        have h0 := cF hc30 h0
        refine m_Rs.n0 b_328 (x_iff d_328_73 rfl hc30) ?_
        refine m_Rs.n0 b_328 (x_goto d_328_76 rfl) ?_
        exact m_Rs.pick [0, 1, 2, 3] rfl (T_m_purge_109 ih h hF h0)
def D_m_purge (F : Nat) (a0 : Int32) (a1 : Int32) (S : mS) : Option (Int32 × mS) := (fput S 0 (0 : Int32)).bind fun S1 => cond (m_c1 .lt a0) (some (((-1) : Int32), S1)) (cond (m_c2 .gt a0 (1 : Int32)) (some (((-1) : Int32), S1)) (cond (m_c1 .lt a1) (some (((-1) : Int32), S1)) ((cond (m_c1 .ne a0) (some (7 : Int32)) (some (31 : Int32))).bind fun v9 => cond (m_c2 .gt a1 v9) (some (((-1) : Int32), S1)) (cond (m_c2 .ne (S1.1 37) (60 : Int32)) ((fput S1 37 ((S1.1 37) + (1 : Int32))).bind fun S12 => (fput S12 38 (0 : Int32)).bind fun S14 => D_m_purge_61 F F a0 a1 (1 : Int32) S14) (some (((-1) : Int32), S1))))))
theorem T_m_purge {l : Launch} {w : List mM} {F : Nat} {a0 : Int32} {a1 : Int32} {S : mS} {r : Int32 × mS} (h : m_RM S w) (h0 : D_m_purge F a0 a1 S = some r) : m_Rs l M_328 (m_ent M_328 [.ref 583, .int a0, .int a1] w) (fun v w' => v = some (.int r.1) ∧ m_RM r.2 w' ∧ m_Fq w w') 0 0 1 100 := by
  show m_Rs l M_328 (0, [(0, .ref 583), (1, .int a0), (2, .int a1)], [], w) _ 0 0 1 100
  generalize hw0 : w = w0 at h ⊢
  have hF : m_Fq w0 w0 := m_Fq.refl
  rw [D_m_purge] at h0
  refine m_Rs.n0 b_328 (x_aload_n d_328_0 rfl) ?_
  refine m_Rs.n0 b_328 (x_iconst (z := 0) d_328_1 (by decide)) ?_
  obtain ⟨S1, e2, h0⟩ := bS h0
  refine m_Rs.dfput b_328 d_328_2 h hF e2 rfl rfl rfl rfl rfl rfl (fun w1 h hF => ?_)
  refine m_Rs.n0 b_328 (x_iload_n d_328_5 rfl) ?_
  cases hc3 : m_c1 .lt a0 with
  | true =>
    have h0 := cT hc3 h0
    refine m_Rs.n0 b_328 (x_ift d_328_6 rfl hc3) ?_
    refine m_Rs.n0 b_328 (x_iconst (z := (-1)) d_328_42 (by decide)) ?_
    exact m_Rs.ret b_328 (m_rt_ir d_328_43 rfl rfl) (rP h0 h hF)
  | false =>
    have h0 := cF hc3 h0
    refine m_Rs.n0 b_328 (x_iff d_328_6 rfl hc3) ?_
    refine m_Rs.n0 b_328 (x_iload_n d_328_9 rfl) ?_
    refine m_Rs.n0 b_328 (x_iconst (z := 1) d_328_10 (by decide)) ?_
    cases hc4 : m_c2 .gt a0 (1 : Int32) with
    | true =>
      have h0 := cT hc4 h0
      refine m_Rs.n0 b_328 (x_ict d_328_11 rfl hc4) ?_
      refine m_Rs.n0 b_328 (x_iconst (z := (-1)) d_328_42 (by decide)) ?_
      exact m_Rs.ret b_328 (m_rt_ir d_328_43 rfl rfl) (rP h0 h hF)
    | false =>
      have h0 := cF hc4 h0
      refine m_Rs.n0 b_328 (x_icf d_328_11 rfl hc4) ?_
      refine m_Rs.n0 b_328 (x_iload_n d_328_14 rfl) ?_
      cases hc5 : m_c1 .lt a1 with
      | true =>
        have h0 := cT hc5 h0
        refine m_Rs.n0 b_328 (x_ift d_328_15 rfl hc5) ?_
        refine m_Rs.n0 b_328 (x_iconst (z := (-1)) d_328_42 (by decide)) ?_
        exact m_Rs.ret b_328 (m_rt_ir d_328_43 rfl rfl) (rP h0 h hF)
      | false =>
        have h0 := cF hc5 h0
        refine m_Rs.n0 b_328 (x_iff d_328_15 rfl hc5) ?_
        refine m_Rs.n0 b_328 (x_iload_n d_328_18 rfl) ?_
        refine m_Rs.n0 b_328 (x_iload_n d_328_19 rfl) ?_
        obtain ⟨v9, e7, h0⟩ := bS h0
        have kk6 : ∀ (xz : Int32) (w1 : List mM), xz = v9 → m_RM S1 w1 → m_Fq w0 w1 → m_Rs l M_328 (30, [(0, .ref 583), (1, .int a0), (2, .int a1)], [.int xz, .int a1], w1) (fun v w' => v = some (.int r.1) ∧ m_RM r.2 w' ∧ m_Fq w0 w') 0 0 1 100 := by
          intro xz w ez h hF
          rw [ez]
          cases hc10 : m_c2 .gt a1 v9 with
          | true =>
            have h0 := cT hc10 h0
            refine m_Rs.n0 b_328 (x_ict d_328_30 rfl hc10) ?_
            refine m_Rs.n0 b_328 (x_iconst (z := (-1)) d_328_42 (by decide)) ?_
            exact m_Rs.ret b_328 (m_rt_ir d_328_43 rfl rfl) (rP h0 h hF)
          | false =>
            have h0 := cF hc10 h0
            refine m_Rs.n0 b_328 (x_icf d_328_30 rfl hc10) ?_
            refine m_Rs.n0 b_328 (x_aload_n d_328_33 rfl) ?_
            refine m_Rs.n0 b_328 (x_getf d_328_34 rfl h.1 rfl) ?_
            refine m_Rs.n0 b_328 (x_bipush (z := 60) d_328_37 (by decide)) ?_
            cases hc11 : m_c2 .ne (S1.1 37) (60 : Int32) with
            | true =>
              have h0 := cT hc11 h0
              refine m_Rs.n0 b_328 (x_ict d_328_39 rfl hc11) ?_
              refine m_Rs.n0 b_328 (x_aload_n d_328_44 rfl) ?_
              refine m_Rs.n0 b_328 (x_dup d_328_45 rfl) ?_
              refine m_Rs.n0 b_328 (x_getf d_328_46 rfl h.1 rfl) ?_
              refine m_Rs.n0 b_328 (x_iconst (z := 1) d_328_49 (by decide)) ?_
              refine m_Rs.n0 b_328 (x_iadd d_328_50 rfl) ?_
              obtain ⟨S12, e13, h0⟩ := bS h0
              refine m_Rs.dfput b_328 d_328_51 h hF e13 rfl rfl rfl rfl rfl rfl (fun w1 h hF => ?_)
              refine m_Rs.n0 b_328 (x_aload_n d_328_54 rfl) ?_
              refine m_Rs.n0 b_328 (x_iconst (z := 0) d_328_55 (by decide)) ?_
              obtain ⟨S14, e15, h0⟩ := bS h0
              refine m_Rs.dfput b_328 d_328_56 h hF e15 rfl rfl rfl rfl rfl rfl (fun w1 h hF => ?_)
              refine m_Rs.n0 b_328 (x_iconst (z := 1) d_328_59 (by decide)) ?_
              refine m_Rs.n0 b_328 (x_istore_n d_328_60 rfl (show m_put1 _ _ _ = [(3, _), (0, _), (1, _), (2, _)] from rfl)) ?_
              exact m_Rs.pick [1, 2, 3, 0] rfl (T_m_purge_61 F h hF h0)
            | false =>
              have h0 := cF hc11 h0
              refine m_Rs.n0 b_328 (x_icf d_328_39 rfl hc11) ?_
              refine m_Rs.n0 b_328 (x_iconst (z := (-1)) d_328_42 (by decide)) ?_
              exact m_Rs.ret b_328 (m_rt_ir d_328_43 rfl rfl) (rP h0 h hF)
        cases hc8 : m_c1 .ne a0 with
        | true =>
          have e7 := cT hc8 e7
          refine m_Rs.n0 b_328 (x_ift d_328_20 rfl hc8) ?_
          refine m_Rs.n0 b_328 (x_bipush (z := 7) d_328_28 (by decide)) ?_
          exact kk6 _ _ (Option.some.inj e7) h hF
        | false =>
          have e7 := cF hc8 e7
          refine m_Rs.n0 b_328 (x_iff d_328_20 rfl hc8) ?_
          refine m_Rs.n0 b_328 (x_bipush (z := 31) d_328_23 (by decide)) ?_
          refine m_Rs.n0 b_328 (x_goto d_328_25 rfl) ?_
          exact kk6 _ _ (Option.some.inj e7) h hF
def D_m_strike (F : Nat) (a0 : Int32) (a1 : Int32) (S : mS) : Option (mS) := (aget 0 14 S 618 ((((2 : Int32) * a0) + a1) - (1 : Int32))).bind fun v1 => (aput 14 S 618 ((((2 : Int32) * a0) + a1) - (1 : Int32)) (v1 + (1 : Int32))).bind fun S3 => (aget 0 14 S3 618 ((((2 : Int32) * a0) + a1) - (1 : Int32))).bind fun v5 => cond (m_c2 .ge v5 (2 : Int32)) ((aput 14 S3 618 ((((2 : Int32) * a0) + a1) - (1 : Int32)) (0 : Int32)).bind fun S8 => (aput 14 S8 619 ((((2 : Int32) * a0) + a1) - (1 : Int32)) ((S8.1 36) + (20 : Int32))).bind fun S10 => some S10) (some S3)
theorem T_m_strike {l : Launch} {w : List mM} {F : Nat} {a0 : Int32} {a1 : Int32} {S : mS} {r : mS} (h : m_RM S w) (h0 : D_m_strike F a0 a1 S = some r) : m_Rs l M_331 (m_ent M_331 [.ref 583, .int a0, .int a1] w) (fun v w' => v = none ∧ m_RM r w' ∧ m_Fq w w') 0 0 0 0 := by
  show m_Rs l M_331 (0, [(0, .ref 583), (1, .int a0), (2, .int a1)], [], w) _ 0 0 0 0
  generalize hw0 : w = w0 at h ⊢
  have hF : m_Fq w0 w0 := m_Fq.refl
  rw [D_m_strike] at h0
  refine m_Rs.n0 b_331 (x_iconst (z := 2) d_331_0 (by decide)) ?_
  refine m_Rs.n0 b_331 (x_iload_n d_331_1 rfl) ?_
  refine m_Rs.n0 b_331 (x_imul d_331_2 rfl) ?_
  refine m_Rs.n0 b_331 (x_iload_n d_331_3 rfl) ?_
  refine m_Rs.n0 b_331 (x_iadd d_331_4 rfl) ?_
  refine m_Rs.n0 b_331 (x_iconst (z := 1) d_331_5 (by decide)) ?_
  refine m_Rs.n0 b_331 (x_isub d_331_6 rfl) ?_
  refine m_Rs.n0 b_331 (x_istore_n d_331_7 rfl (show m_put1 _ _ _ = [(3, _), (0, _), (1, _), (2, _)] from rfl)) ?_
  refine m_Rs.n0 b_331 (x_aload_n d_331_8 rfl) ?_
  refine m_Rs.n0 b_331 (x_getf d_331_9 rfl h.1 rfl) ?_
  refine m_Rs.n0 b_331 (x_iload_n d_331_12 rfl) ?_
  refine m_Rs.n0 b_331 (x_dup2 d_331_13 rfl rfl) ?_
  obtain ⟨v1, e2, h0⟩ := bS h0
  refine m_Rs.dget b_331 d_331_14 h 34 rfl e2 ?_
  refine m_Rs.n0 b_331 (x_iconst (z := 1) d_331_15 (by decide)) ?_
  refine m_Rs.n0 b_331 (x_iadd d_331_16 rfl) ?_
  obtain ⟨S3, e4, h0⟩ := bS h0
  refine m_Rs.dput b_331 d_331_17 h hF 34 rfl e4 (fun w1 h hF => ?_)
  refine m_Rs.n0 b_331 (x_aload_n d_331_18 rfl) ?_
  refine m_Rs.n0 b_331 (x_getf d_331_19 rfl h.1 rfl) ?_
  refine m_Rs.n0 b_331 (x_iload_n d_331_22 rfl) ?_
  obtain ⟨v5, e6, h0⟩ := bS h0
  refine m_Rs.dget b_331 d_331_23 h 34 rfl e6 ?_
  refine m_Rs.n0 b_331 (x_iconst (z := 2) d_331_24 (by decide)) ?_
  cases hc7 : m_c2 .ge v5 (2 : Int32) with
  | true =>
    have h0 := cT hc7 h0
    refine m_Rs.n0 b_331 (x_ict d_331_25 rfl hc7) ?_
    refine m_Rs.n0 b_331 (x_aload_n d_331_29 rfl) ?_
    refine m_Rs.n0 b_331 (x_getf d_331_30 rfl h.1 rfl) ?_
    refine m_Rs.n0 b_331 (x_iload_n d_331_33 rfl) ?_
    refine m_Rs.n0 b_331 (x_iconst (z := 0) d_331_34 (by decide)) ?_
    obtain ⟨S8, e9, h0⟩ := bS h0
    refine m_Rs.dput b_331 d_331_35 h hF 34 rfl e9 (fun w1 h hF => ?_)
    refine m_Rs.n0 b_331 (x_aload_n d_331_36 rfl) ?_
    refine m_Rs.n0 b_331 (x_getf d_331_37 rfl h.1 rfl) ?_
    refine m_Rs.n0 b_331 (x_iload_n d_331_40 rfl) ?_
    refine m_Rs.n0 b_331 (x_aload_n d_331_41 rfl) ?_
    refine m_Rs.n0 b_331 (x_getf d_331_42 rfl h.1 rfl) ?_
    refine m_Rs.n0 b_331 (x_bipush (z := 20) d_331_45 (by decide)) ?_
    refine m_Rs.n0 b_331 (x_iadd d_331_47 rfl) ?_
    obtain ⟨S10, e11, h0⟩ := bS h0
    refine m_Rs.dput b_331 d_331_48 h hF 35 rfl e11 (fun w1 h hF => ?_)
    exact m_Rs.ret b_331 (m_rt_vr d_331_49 rfl) (rV h0 h hF)
  | false =>
    have h0 := cF hc7 h0
    refine m_Rs.n0 b_331 (x_icf d_331_25 rfl hc7) ?_
    exact m_Rs.ret b_331 (m_rt_vr d_331_28 rfl) (rV h0 h hF)
def D_m_lapse_75 (F : Nat) (rec2 : Int32 → Int32 → mS → Option (mS)) (rec15 : Int32 → Int32 → Int32 → mS → Option (mS)) (x1 : Int32) (x2 : Int32) (x3 : Int32) (S : mS) : Option (mS) := rec15 x1 x2 (x3 + Int32.ofInt 1) S
theorem T_m_lapse_75 {l : Launch} {w0 : List mM} {F : Nat} {rec2 : Int32 → Int32 → mS → Option (mS)} {rec15 : Int32 → Int32 → Int32 → mS → Option (mS)} (hr2 : ∀ {x1 : Int32} {x2 : Int32} {S : mS} {w : List mM} {r : mS}, m_RM S w → m_Fq w0 w → rec2 x1 x2 S = some r → m_Rs l M_330 (2, [(0, .ref 583), (1, .int x1), (2, .int x2)], [], w) (fun v w' => v = none ∧ m_RM r w' ∧ m_Fq w0 w') 0 0 9 900) (hr15 : ∀ {x1 : Int32} {x2 : Int32} {x3 : Int32} {S : mS} {w : List mM} {r : mS}, m_RM S w → m_Fq w0 w → rec15 x1 x2 x3 S = some r → m_Rs l M_330 (15, [(0, .ref 583), (1, .int x1), (2, .int x2), (3, .int x3)], [], w) (fun v w' => v = none ∧ m_RM r w' ∧ m_Fq w0 w') 0 0 9 900) {x1 : Int32} {x2 : Int32} {x3 : Int32} {S : mS} {w : List mM} {r : mS} (h : m_RM S w) (hF : m_Fq w0 w) (h0 : D_m_lapse_75 F rec2 rec15 x1 x2 x3 S = some r) : m_Rs l M_330 (75, [(0, .ref 583), (1, .int x1), (2, .int x2), (3, .int x3)], [], w) (fun v w' => v = none ∧ m_RM r w' ∧ m_Fq w0 w') 0 0 9 900 := by
  rw [D_m_lapse_75] at h0
  refine m_Rs.n0 b_330 (x_iinc d_330_75 rfl rfl rfl (show m_put1 _ _ _ = [(3, _), (0, _), (1, _), (2, _)] from rfl)) ?_
  refine m_Rs.n0 b_330 (x_goto d_330_78 rfl) ?_
  exact m_Rs.pick [1, 2, 3, 0] rfl (hr15 h hF h0)
def D_m_lapse_73 (F : Nat) (rec2 : Int32 → Int32 → mS → Option (mS)) (rec15 : Int32 → Int32 → Int32 → mS → Option (mS)) (x1 : Int32) (x3 : Int32) (S : mS) : Option (mS) := D_m_lapse_75 F rec2 rec15 x1 x3 x3 S
theorem T_m_lapse_73 {l : Launch} {w0 : List mM} {F : Nat} {rec2 : Int32 → Int32 → mS → Option (mS)} {rec15 : Int32 → Int32 → Int32 → mS → Option (mS)} (hr2 : ∀ {x1 : Int32} {x2 : Int32} {S : mS} {w : List mM} {r : mS}, m_RM S w → m_Fq w0 w → rec2 x1 x2 S = some r → m_Rs l M_330 (2, [(0, .ref 583), (1, .int x1), (2, .int x2)], [], w) (fun v w' => v = none ∧ m_RM r w' ∧ m_Fq w0 w') 0 0 9 900) (hr15 : ∀ {x1 : Int32} {x2 : Int32} {x3 : Int32} {S : mS} {w : List mM} {r : mS}, m_RM S w → m_Fq w0 w → rec15 x1 x2 x3 S = some r → m_Rs l M_330 (15, [(0, .ref 583), (1, .int x1), (2, .int x2), (3, .int x3)], [], w) (fun v w' => v = none ∧ m_RM r w' ∧ m_Fq w0 w') 0 0 9 900) {x1 : Int32} {x3 : Int32} {S : mS} {w : List mM} {r : mS} (h : m_RM S w) (hF : m_Fq w0 w) (h0 : D_m_lapse_73 F rec2 rec15 x1 x3 S = some r) : m_Rs l M_330 (73, [(0, .ref 583), (1, .int x1), (3, .int x3)], [], w) (fun v w' => v = none ∧ m_RM r w' ∧ m_Fq w0 w') 0 0 9 900 := by
  rw [D_m_lapse_73] at h0
  refine m_Rs.n0 b_330 (x_iload_n d_330_73 rfl) ?_
  refine m_Rs.n0 b_330 (x_istore_n d_330_74 rfl (show m_put1 _ _ _ = [(2, _), (0, _), (1, _), (3, _)] from rfl)) ?_
  exact m_Rs.pick [1, 2, 0, 3] rfl (T_m_lapse_75 hr2 hr15 h hF h0)
def D_m_lapse_105 (F : Nat) (rec2 : Int32 → Int32 → mS → Option (mS)) (x1 : Int32) (x2 : Int32) (S : mS) : Option (mS) := (D_m_failAll F x1 (x2 - x2 / (128 : Int32) * (128 : Int32)) S).bind fun S36 => rec2 x1 x2 S36
theorem T_m_lapse_105 {l : Launch} {w0 : List mM} {F : Nat} {rec2 : Int32 → Int32 → mS → Option (mS)} (hr2 : ∀ {x1 : Int32} {x2 : Int32} {S : mS} {w : List mM} {r : mS}, m_RM S w → m_Fq w0 w → rec2 x1 x2 S = some r → m_Rs l M_330 (2, [(0, .ref 583), (1, .int x1), (2, .int x2)], [], w) (fun v w' => v = none ∧ m_RM r w' ∧ m_Fq w0 w') 0 0 9 900) {x1 : Int32} {x2 : Int32} {S : mS} {w : List mM} {r : mS} (h : m_RM S w) (hF : m_Fq w0 w) (h0 : D_m_lapse_105 F rec2 x1 x2 S = some r) : m_Rs l M_330 (105, [(0, .ref 583), (1, .int x1), (2, .int x2)], [], w) (fun v w' => v = none ∧ m_RM r w' ∧ m_Fq w0 w') 0 0 9 900 := by
  rw [D_m_lapse_105] at h0
  refine m_Rs.n0 b_330 (x_aload_n d_330_105 rfl) ?_
  refine m_Rs.n0 b_330 (x_iload_n d_330_106 rfl) ?_
  refine m_Rs.n0 b_330 (x_iload_n d_330_107 rfl) ?_
  refine m_Rs.n0 b_330 (x_sipush (z := 128) d_330_108 (by decide)) ?_
  refine m_Rs.n0 b_330 (x_irem d_330_111 (by decide) rfl) ?_
  obtain ⟨S36, e37, h0⟩ := bS h0
  refine m_Rs.callSv b_330 (y_cv d_330_112 rfl q_322 (m_isRecv_of rfl h.1) (show m_takeI _ _ = some (_, [_, _, _], []) from rfl) (by simp only [m_okf, List.all_cons, List.all_nil, Bool.and_true, Bool.and_self, m_okv_i, m_okv_l, m_okv_0, m_okv_t, m_okv_at h.1]) rfl) (T_m_failAll h e37) hF rfl (fun w1 h hF => ?_) (by decide) (by decide)
  refine m_Rs.n0 b_330 (x_goto d_330_115 rfl) ?_
  exact m_Rs.pick [0, 1, 2] rfl (hr2 h hF h0)
def D_m_lapse_15 (F : Nat) (rec2 : Int32 → Int32 → mS → Option (mS)) : Nat → Int32 → Int32 → Int32 → mS → Option (mS)
  | 0, _, _, _, _ => none
  | n + 1, x1, x2, x3, S => cond (m_c2 .ge x3 (((128 : Int32) * x1) + (128 : Int32))) (cond (m_c2 .ne x2 ((-1) : Int32)) (cond (m_c2 .le x1 (2 : Int32)) (D_m_lapse_105 F rec2 x1 x2 S) ((aget 0 896 S 617 x2).bind fun v8 => (D_m_strike F x1 v8 S).bind fun S10 => D_m_lapse_105 F rec2 x1 x2 S10)) (rec2 x1 x2 S)) ((aget 4 896 S 609 x3).bind fun v12 => cond (m_c1 .eq v12) (D_m_lapse_75 F rec2 (D_m_lapse_15 F rec2 n) x1 x2 x3 S) ((aget 0 896 S 612 x3).bind fun v18 => cond (m_c2 .lt ((S.1 36) - v18) (10 : Int32)) (D_m_lapse_75 F rec2 (D_m_lapse_15 F rec2 n) x1 x2 x3 S) (cond (m_c2 .eq x2 ((-1) : Int32)) (D_m_lapse_73 F rec2 (D_m_lapse_15 F rec2 n) x1 x3 S) ((aget 0 896 S 611 x3).bind fun v28 => (aget 0 896 S 611 x2).bind fun v30 => cond (m_c2 .ge v28 v30) (D_m_lapse_75 F rec2 (D_m_lapse_15 F rec2 n) x1 x2 x3 S) (D_m_lapse_73 F rec2 (D_m_lapse_15 F rec2 n) x1 x3 S)))))
theorem T_m_lapse_15 {l : Launch} {w0 : List mM} {F : Nat} {rec2 : Int32 → Int32 → mS → Option (mS)} (hr2 : ∀ {x1 : Int32} {x2 : Int32} {S : mS} {w : List mM} {r : mS}, m_RM S w → m_Fq w0 w → rec2 x1 x2 S = some r → m_Rs l M_330 (2, [(0, .ref 583), (1, .int x1), (2, .int x2)], [], w) (fun v w' => v = none ∧ m_RM r w' ∧ m_Fq w0 w') 0 0 9 900) : ∀ (n : Nat) {x1 : Int32} {x2 : Int32} {x3 : Int32} {S : mS} {w : List mM} {r : mS}, m_RM S w → m_Fq w0 w → D_m_lapse_15 F rec2 n x1 x2 x3 S = some r → m_Rs l M_330 (15, [(0, .ref 583), (1, .int x1), (2, .int x2), (3, .int x3)], [], w) (fun v w' => v = none ∧ m_RM r w' ∧ m_Fq w0 w') 0 0 9 900 := by
  intro n
  induction n with
  | zero => intro x1 x2 x3 S w r h hF h0; cases h0
  | succ n ih =>
    intro x1 x2 x3 S w r h hF h0
    rw [D_m_lapse_15] at h0
    refine m_Rs.n0 b_330 (x_iload_n d_330_15 rfl) ?_
    refine m_Rs.n0 b_330 (x_sipush (z := 128) d_330_16 (by decide)) ?_
    refine m_Rs.n0 b_330 (x_iload_n d_330_19 rfl) ?_
    refine m_Rs.n0 b_330 (x_imul d_330_20 rfl) ?_
    refine m_Rs.n0 b_330 (x_sipush (z := 128) d_330_21 (by decide)) ?_
    refine m_Rs.n0 b_330 (x_iadd d_330_24 rfl) ?_
    cases hc2 : m_c2 .ge x3 (((128 : Int32) * x1) + (128 : Int32)) with
    | true =>
      have h0 := cT hc2 h0
      refine m_Rs.n0 b_330 (x_ict d_330_25 rfl hc2) ?_
      refine m_Rs.n0 b_330 (x_iload_n d_330_81 rfl) ?_
      refine m_Rs.n0 b_330 (x_iconst (z := (-1)) d_330_82 (by decide)) ?_
      cases hc3 : m_c2 .ne x2 ((-1) : Int32) with
      | true =>
        have h0 := cT hc3 h0
        refine m_Rs.n0 b_330 (x_ict d_330_83 rfl hc3) ?_
        refine m_Rs.n0 b_330 (x_iload_n d_330_89 rfl) ?_
        refine m_Rs.n0 b_330 (x_iconst (z := 2) d_330_90 (by decide)) ?_
        cases hc7 : m_c2 .le x1 (2 : Int32) with
        | true =>
          have h0 := cT hc7 h0
          refine m_Rs.n0 b_330 (x_ict d_330_91 rfl hc7) ?_
          exact m_Rs.pick [0, 1, 2] rfl (T_m_lapse_105 hr2 h hF h0)
        | false =>
          have h0 := cF hc7 h0
          refine m_Rs.n0 b_330 (x_icf d_330_91 rfl hc7) ?_
          refine m_Rs.n0 b_330 (x_aload_n d_330_94 rfl) ?_
          refine m_Rs.n0 b_330 (x_iload_n d_330_95 rfl) ?_
          refine m_Rs.n0 b_330 (x_aload_n d_330_96 rfl) ?_
          refine m_Rs.n0 b_330 (x_getf d_330_97 rfl h.1 rfl) ?_
          refine m_Rs.n0 b_330 (x_iload_n d_330_100 rfl) ?_
          obtain ⟨v8, e9, h0⟩ := bS h0
          refine m_Rs.dget b_330 d_330_101 h 33 rfl e9 ?_
          obtain ⟨S10, e11, h0⟩ := bS h0
          refine m_Rs.callSv b_330 (y_cv d_330_102 rfl q_331 (m_isRecv_of rfl h.1) (show m_takeI _ _ = some (_, [_, _, _], []) from rfl) (by simp only [m_okf, List.all_cons, List.all_nil, Bool.and_true, Bool.and_self, m_okv_i, m_okv_l, m_okv_0, m_okv_t, m_okv_at h.1]) rfl) (T_m_strike h e11) hF rfl (fun w1 h hF => ?_) (by decide) (by decide)
          exact m_Rs.pick [0, 1, 2] rfl (T_m_lapse_105 hr2 h hF h0)
      | false =>
        have h0 := cF hc3 h0
        refine m_Rs.n0 b_330 (x_icf d_330_83 rfl hc3) ?_
        refine m_Rs.n0 b_330 (x_goto d_330_86 rfl) ?_
        exact m_Rs.pick [0, 1, 2] rfl (hr2 h hF h0)
    | false =>
      have h0 := cF hc2 h0
      refine m_Rs.n0 b_330 (x_icf d_330_25 rfl hc2) ?_
      refine m_Rs.n0 b_330 (x_aload_n d_330_28 rfl) ?_
      refine m_Rs.n0 b_330 (x_getf d_330_29 rfl h.1 rfl) ?_
      refine m_Rs.n0 b_330 (x_iload_n d_330_32 rfl) ?_
      obtain ⟨v12, e13, h0⟩ := bS h0
      refine m_Rs.dgetb b_330 d_330_33 h 25 rfl e13 ?_
      cases hc17 : m_c1 .eq v12 with
      | true =>
        have h0 := cT hc17 h0
        refine m_Rs.n0 b_330 (x_ift d_330_34 rfl hc17) ?_
        exact m_Rs.pick [0, 1, 2, 3] rfl (T_m_lapse_75 hr2 ih h hF h0)
      | false =>
        have h0 := cF hc17 h0
        refine m_Rs.n0 b_330 (x_iff d_330_34 rfl hc17) ?_
        refine m_Rs.n0 b_330 (x_aload_n d_330_37 rfl) ?_
        refine m_Rs.n0 b_330 (x_getf d_330_38 rfl h.1 rfl) ?_
        refine m_Rs.n0 b_330 (x_aload_n d_330_41 rfl) ?_
        refine m_Rs.n0 b_330 (x_getf d_330_42 rfl h.1 rfl) ?_
        refine m_Rs.n0 b_330 (x_iload_n d_330_45 rfl) ?_
        obtain ⟨v18, e19, h0⟩ := bS h0
        refine m_Rs.dget b_330 d_330_46 h 28 rfl e19 ?_
        refine m_Rs.n0 b_330 (x_isub d_330_47 rfl) ?_
        refine m_Rs.n0 b_330 (x_bipush (z := 10) d_330_48 (by decide)) ?_
        cases hc23 : m_c2 .lt ((S.1 36) - v18) (10 : Int32) with
        | true =>
          have h0 := cT hc23 h0
          refine m_Rs.n0 b_330 (x_ict d_330_50 rfl hc23) ?_
          exact m_Rs.pick [0, 1, 2, 3] rfl (T_m_lapse_75 hr2 ih h hF h0)
        | false =>
          have h0 := cF hc23 h0
          refine m_Rs.n0 b_330 (x_icf d_330_50 rfl hc23) ?_
          refine m_Rs.n0 b_330 (x_iload_n d_330_53 rfl) ?_
          refine m_Rs.n0 b_330 (x_iconst (z := (-1)) d_330_54 (by decide)) ?_
          cases hc27 : m_c2 .eq x2 ((-1) : Int32) with
          | true =>
            have h0 := cT hc27 h0
            refine m_Rs.n0 b_330 (x_ict d_330_55 rfl hc27) ?_
            exact m_Rs.pick [0, 1, 3] rfl (T_m_lapse_73 hr2 ih h hF h0)
          | false =>
            have h0 := cF hc27 h0
            refine m_Rs.n0 b_330 (x_icf d_330_55 rfl hc27) ?_
            refine m_Rs.n0 b_330 (x_aload_n d_330_58 rfl) ?_
            refine m_Rs.n0 b_330 (x_getf d_330_59 rfl h.1 rfl) ?_
            refine m_Rs.n0 b_330 (x_iload_n d_330_62 rfl) ?_
            obtain ⟨v28, e29, h0⟩ := bS h0
            refine m_Rs.dget b_330 d_330_63 h 27 rfl e29 ?_
            refine m_Rs.n0 b_330 (x_aload_n d_330_64 rfl) ?_
            refine m_Rs.n0 b_330 (x_getf d_330_65 rfl h.1 rfl) ?_
            refine m_Rs.n0 b_330 (x_iload_n d_330_68 rfl) ?_
            obtain ⟨v30, e31, h0⟩ := bS h0
            refine m_Rs.dget b_330 d_330_69 h 27 rfl e31 ?_
            cases hc35 : m_c2 .ge v28 v30 with
            | true =>
              have h0 := cT hc35 h0
              refine m_Rs.n0 b_330 (x_ict d_330_70 rfl hc35) ?_
              exact m_Rs.pick [0, 1, 2, 3] rfl (T_m_lapse_75 hr2 ih h hF h0)
            | false =>
              have h0 := cF hc35 h0
              refine m_Rs.n0 b_330 (x_icf d_330_70 rfl hc35) ?_
              exact m_Rs.pick [0, 1, 3] rfl (T_m_lapse_73 hr2 ih h hF h0)
def D_m_lapse_2 (F : Nat) : Nat → Int32 → Int32 → mS → Option (mS)
  | 0, _, _, _ => none
  | n + 1, x1, x2, S => cond (m_c2 .eq x2 ((-1) : Int32)) (some S) (D_m_lapse_15 F (D_m_lapse_2 F n) F x1 ((-1) : Int32) ((128 : Int32) * x1) S)
theorem T_m_lapse_2 {l : Launch} {w0 : List mM} {F : Nat} : ∀ (n : Nat) {x1 : Int32} {x2 : Int32} {S : mS} {w : List mM} {r : mS}, m_RM S w → m_Fq w0 w → D_m_lapse_2 F n x1 x2 S = some r → m_Rs l M_330 (2, [(0, .ref 583), (1, .int x1), (2, .int x2)], [], w) (fun v w' => v = none ∧ m_RM r w' ∧ m_Fq w0 w') 0 0 9 900 := by
  intro n
  induction n with
  | zero => intro x1 x2 S w r h hF h0; cases h0
  | succ n ih =>
    intro x1 x2 S w r h hF h0
    rw [D_m_lapse_2] at h0
    refine m_Rs.n0 b_330 (x_iload_n d_330_2 rfl) ?_
    refine m_Rs.n0 b_330 (x_iconst (z := (-1)) d_330_3 (by decide)) ?_
    cases hc1 : m_c2 .eq x2 ((-1) : Int32) with
    | true =>
      have h0 := cT hc1 h0
      refine m_Rs.n0 b_330 (x_ict d_330_4 rfl hc1) ?_
      exact m_Rs.ret b_330 (m_rt_vr d_330_118 rfl) (rV h0 h hF)
    | false =>
      have h0 := cF hc1 h0
      refine m_Rs.n0 b_330 (x_icf d_330_4 rfl hc1) ?_
      refine m_Rs.n0 b_330 (x_iconst (z := (-1)) d_330_7 (by decide)) ?_
      refine m_Rs.n0 b_330 (x_istore_n d_330_8 rfl (show m_put1 _ _ _ = [(2, _), (0, _), (1, _)] from rfl)) ?_
      refine m_Rs.n0 b_330 (x_sipush (z := 128) d_330_9 (by decide)) ?_
      refine m_Rs.n0 b_330 (x_iload_n d_330_12 rfl) ?_
      refine m_Rs.n0 b_330 (x_imul d_330_13 rfl) ?_
      refine m_Rs.n0 b_330 (x_istore_n d_330_14 rfl (show m_put1 _ _ _ = [(3, _), (2, _), (0, _), (1, _)] from rfl)) ?_
      exact m_Rs.pick [2, 3, 1, 0] rfl (T_m_lapse_15 ih F h hF h0)
def D_m_lapse (F : Nat) (a0 : Int32) (S : mS) : Option (mS) := D_m_lapse_2 F F a0 (0 : Int32) S
theorem T_m_lapse {l : Launch} {w : List mM} {F : Nat} {a0 : Int32} {S : mS} {r : mS} (h : m_RM S w) (h0 : D_m_lapse F a0 S = some r) : m_Rs l M_330 (m_ent M_330 [.ref 583, .int a0] w) (fun v w' => v = none ∧ m_RM r w' ∧ m_Fq w w') 0 0 9 900 := by
  show m_Rs l M_330 (0, [(0, .ref 583), (1, .int a0)], [], w) _ 0 0 9 900
  generalize hw0 : w = w0 at h ⊢
  have hF : m_Fq w0 w0 := m_Fq.refl
  rw [D_m_lapse] at h0
  refine m_Rs.n0 b_330 (x_iconst (z := 0) d_330_0 (by decide)) ?_
  refine m_Rs.n0 b_330 (x_istore_n d_330_1 rfl (show m_put1 _ _ _ = [(2, _), (0, _), (1, _)] from rfl)) ?_
  exact m_Rs.pick [1, 2, 0] rfl (T_m_lapse_2 F h hF h0)
def D_m_tick_48 (F : Nat) (rec31 : Int32 → Int32 → mS → Option (Int32 × mS)) : Nat → Int32 → Int32 → Int32 → mS → Option (Int32 × mS)
  | 0, _, _, _, _ => none
  | n + 1, x1, x2, x3, S => cond (m_c2 .ge x3 (7 : Int32)) (rec31 x1 (x2 + Int32.ofInt 1) S) ((D_m_lapse F x3 S).bind fun S13 => D_m_tick_48 F rec31 n x1 x2 (x3 + Int32.ofInt 1) S13)
theorem T_m_tick_48 {l : Launch} {w0 : List mM} {F : Nat} {rec31 : Int32 → Int32 → mS → Option (Int32 × mS)} (hr31 : ∀ {x1 : Int32} {x2 : Int32} {S : mS} {w : List mM} {r : Int32 × mS}, m_RM S w → m_Fq w0 w → rec31 x1 x2 S = some r → m_Rs l M_329 (31, [(0, .ref 583), (1, .int x1), (2, .int x2)], [], w) (fun v w' => v = some (.int r.1) ∧ m_RM r.2 w' ∧ m_Fq w0 w') 0 0 10 1000) : ∀ (n : Nat) {x1 : Int32} {x2 : Int32} {x3 : Int32} {S : mS} {w : List mM} {r : Int32 × mS}, m_RM S w → m_Fq w0 w → D_m_tick_48 F rec31 n x1 x2 x3 S = some r → m_Rs l M_329 (48, [(0, .ref 583), (1, .int x1), (2, .int x2), (3, .int x3)], [], w) (fun v w' => v = some (.int r.1) ∧ m_RM r.2 w' ∧ m_Fq w0 w') 0 0 10 1000 := by
  intro n
  induction n with
  | zero => intro x1 x2 x3 S w r h hF h0; cases h0
  | succ n ih =>
    intro x1 x2 x3 S w r h hF h0
    rw [D_m_tick_48] at h0
    refine m_Rs.n0 b_329 (x_iload_n d_329_48 rfl) ?_
    refine m_Rs.n0 b_329 (x_bipush (z := 7) d_329_49 (by decide)) ?_
    cases hc12 : m_c2 .ge x3 (7 : Int32) with
    | true =>
      have h0 := cT hc12 h0
      refine m_Rs.n0 b_329 (x_ict d_329_51 rfl hc12) ?_
      refine m_Rs.n0 b_329 (x_iinc d_329_65 rfl rfl rfl (show m_put1 _ _ _ = [(2, _), (0, _), (1, _), (3, _)] from rfl)) ?_
      refine m_Rs.n0 b_329 (x_goto d_329_68 rfl) ?_
      exact m_Rs.pick [1, 2, 0] rfl (hr31 h hF h0)
    | false =>
      have h0 := cF hc12 h0
      refine m_Rs.n0 b_329 (x_icf d_329_51 rfl hc12) ?_
      refine m_Rs.n0 b_329 (x_aload_n d_329_54 rfl) ?_
      refine m_Rs.n0 b_329 (x_iload_n d_329_55 rfl) ?_
      obtain ⟨S13, e14, h0⟩ := bS h0
      refine m_Rs.callSv b_329 (y_cv d_329_56 rfl q_330 (m_isRecv_of rfl h.1) (show m_takeI _ _ = some (_, [_, _], []) from rfl) (by simp only [m_okf, List.all_cons, List.all_nil, Bool.and_true, Bool.and_self, m_okv_i, m_okv_l, m_okv_0, m_okv_t, m_okv_at h.1]) rfl) (T_m_lapse h e14) hF rfl (fun w1 h hF => ?_) (by decide) (by decide)
      refine m_Rs.n0 b_329 (x_iinc d_329_59 rfl rfl rfl (show m_put1 _ _ _ = [(3, _), (0, _), (1, _), (2, _)] from rfl)) ?_
      refine m_Rs.n0 b_329 (x_goto d_329_62 rfl) ?_
      exact m_Rs.pick [1, 2, 3, 0] rfl (ih h hF h0)
def D_m_tick_31 (F : Nat) : Nat → Int32 → Int32 → mS → Option (Int32 × mS)
  | 0, _, _, _ => none
  | n + 1, x1, x2, S => cond (m_c2 .ge x2 x1) (some ((S.1 36), S)) ((fput S 36 ((S.1 36) + (1 : Int32))).bind fun S10 => D_m_tick_48 F (D_m_tick_31 F n) F x1 x2 (1 : Int32) S10)
theorem T_m_tick_31 {l : Launch} {w0 : List mM} {F : Nat} : ∀ (n : Nat) {x1 : Int32} {x2 : Int32} {S : mS} {w : List mM} {r : Int32 × mS}, m_RM S w → m_Fq w0 w → D_m_tick_31 F n x1 x2 S = some r → m_Rs l M_329 (31, [(0, .ref 583), (1, .int x1), (2, .int x2)], [], w) (fun v w' => v = some (.int r.1) ∧ m_RM r.2 w' ∧ m_Fq w0 w') 0 0 10 1000 := by
  intro n
  induction n with
  | zero => intro x1 x2 S w r h hF h0; cases h0
  | succ n ih =>
    intro x1 x2 S w r h hF h0
    rw [D_m_tick_31] at h0
    refine m_Rs.n0 b_329 (x_iload_n d_329_31 rfl) ?_
    refine m_Rs.n0 b_329 (x_iload_n d_329_32 rfl) ?_
    cases hc9 : m_c2 .ge x2 x1 with
    | true =>
      have h0 := cT hc9 h0
      refine m_Rs.n0 b_329 (x_ict d_329_33 rfl hc9) ?_
      refine m_Rs.n0 b_329 (x_aload_n d_329_71 rfl) ?_
      refine m_Rs.n0 b_329 (x_getf d_329_72 rfl h.1 rfl) ?_
      exact m_Rs.ret b_329 (m_rt_ir d_329_75 rfl rfl) (rP h0 h hF)
    | false =>
      have h0 := cF hc9 h0
      refine m_Rs.n0 b_329 (x_icf d_329_33 rfl hc9) ?_
      refine m_Rs.n0 b_329 (x_aload_n d_329_36 rfl) ?_
      refine m_Rs.n0 b_329 (x_dup d_329_37 rfl) ?_
      refine m_Rs.n0 b_329 (x_getf d_329_38 rfl h.1 rfl) ?_
      refine m_Rs.n0 b_329 (x_iconst (z := 1) d_329_41 (by decide)) ?_
      refine m_Rs.n0 b_329 (x_iadd d_329_42 rfl) ?_
      obtain ⟨S10, e11, h0⟩ := bS h0
      refine m_Rs.dfput b_329 d_329_43 h hF e11 rfl rfl rfl rfl rfl rfl (fun w1 h hF => ?_)
      refine m_Rs.n0 b_329 (x_iconst (z := 1) d_329_46 (by decide)) ?_
      refine m_Rs.n0 b_329 (x_istore_n d_329_47 rfl (show m_put1 _ _ _ = [(3, _), (0, _), (1, _), (2, _)] from rfl)) ?_
      exact m_Rs.pick [1, 2, 3, 0] rfl (T_m_tick_48 ih F h hF h0)
def D_m_tick (F : Nat) (a0 : Int32) (S : mS) : Option (Int32 × mS) := (cond (m_c2 .lt a0 (1 : Int32)) (some (1 : Int32)) (cond (m_c2 .le a0 (100 : Int32)) (some (0 : Int32)) (some (1 : Int32)))).bind fun v5 => (fput S 0 v5).bind fun S6 => cond (m_c1 .eq (S6.1 0)) (D_m_tick_31 F F a0 (0 : Int32) S6) (some ((0 : Int32), S6))
theorem T_m_tick {l : Launch} {w : List mM} {F : Nat} {a0 : Int32} {S : mS} {r : Int32 × mS} (h : m_RM S w) (h0 : D_m_tick F a0 S = some r) : m_Rs l M_329 (m_ent M_329 [.ref 583, .int a0] w) (fun v w' => v = some (.int r.1) ∧ m_RM r.2 w' ∧ m_Fq w w') 0 0 10 1000 := by
  show m_Rs l M_329 (0, [(0, .ref 583), (1, .int a0)], [], w) _ 0 0 10 1000
  generalize hw0 : w = w0 at h ⊢
  have hF : m_Fq w0 w0 := m_Fq.refl
  rw [D_m_tick] at h0
  refine m_Rs.n0 b_329 (x_aload_n d_329_0 rfl) ?_
  refine m_Rs.n0 b_329 (x_iload_n d_329_1 rfl) ?_
  refine m_Rs.n0 b_329 (x_iconst (z := 1) d_329_2 (by decide)) ?_
  obtain ⟨v5, e2, h0⟩ := bS h0
  have kk1 : ∀ (xz : Int32) (w1 : List mM), xz = v5 → m_RM S w1 → m_Fq w0 w1 → m_Rs l M_329 (17, [(0, .ref 583), (1, .int a0)], [.int xz, .ref 583], w1) (fun v w' => v = some (.int r.1) ∧ m_RM r.2 w' ∧ m_Fq w0 w') 0 0 10 1000 := by
    intro xz w ez h hF
    rw [ez]
    obtain ⟨S6, e7, h0⟩ := bS h0
    refine m_Rs.dfput b_329 d_329_17 h hF e7 rfl rfl rfl rfl rfl rfl (fun w1 h hF => ?_)
    refine m_Rs.n0 b_329 (x_aload_n d_329_20 rfl) ?_
    refine m_Rs.n0 b_329 (x_getf d_329_21 rfl h.1 rfl) ?_
    cases hc8 : m_c1 .eq (S6.1 0) with
    | true =>
      have h0 := cT hc8 h0
      refine m_Rs.n0 b_329 (x_ift d_329_24 rfl hc8) ?_
      refine m_Rs.n0 b_329 (x_iconst (z := 0) d_329_29 (by decide)) ?_
      refine m_Rs.n0 b_329 (x_istore_n d_329_30 rfl (show m_put1 _ _ _ = [(2, _), (0, _), (1, _)] from rfl)) ?_
      exact m_Rs.pick [1, 2, 0] rfl (T_m_tick_31 F h hF h0)
    | false =>
      have h0 := cF hc8 h0
      refine m_Rs.n0 b_329 (x_iff d_329_24 rfl hc8) ?_
      refine m_Rs.n0 b_329 (x_iconst (z := 0) d_329_27 (by decide)) ?_
      exact m_Rs.ret b_329 (m_rt_ir d_329_28 rfl rfl) (rP h0 h hF)
  cases hc3 : m_c2 .lt a0 (1 : Int32) with
  | true =>
    have e2 := cT hc3 e2
    refine m_Rs.n0 b_329 (x_ict d_329_3 rfl hc3) ?_
    refine m_Rs.n0 b_329 (x_iconst (z := 1) d_329_12 (by decide)) ?_
    refine m_Rs.n0 b_329 (x_goto d_329_13 rfl) ?_
    exact kk1 _ _ (Option.some.inj e2) h hF
  | false =>
    have e2 := cF hc3 e2
    refine m_Rs.n0 b_329 (x_icf d_329_3 rfl hc3) ?_
    refine m_Rs.n0 b_329 (x_iload_n d_329_6 rfl) ?_
    refine m_Rs.n0 b_329 (x_bipush (z := 100) d_329_7 (by decide)) ?_
    cases hc4 : m_c2 .le a0 (100 : Int32) with
    | true =>
      have e2 := cT hc4 e2
      refine m_Rs.n0 b_329 (x_ict d_329_9 rfl hc4) ?_
      refine m_Rs.n0 b_329 (x_iconst (z := 0) d_329_16 (by decide)) ?_
      exact kk1 _ _ (Option.some.inj e2) h hF
    | false =>
      have e2 := cF hc4 e2
      refine m_Rs.n0 b_329 (x_icf d_329_9 rfl hc4) ?_
      refine m_Rs.n0 b_329 (x_iconst (z := 1) d_329_12 (by decide)) ?_
      refine m_Rs.n0 b_329 (x_goto d_329_13 rfl) ?_
      exact kk1 _ _ (Option.some.inj e2) h hF
def D_m_isNode (F : Nat) (a0 : Int32) (S : mS) : Option (Int32) := (cond (m_c1 .le a0) (some (0 : Int32)) (cond (m_c2 .ge a0 (7 : Int32)) (some (0 : Int32)) (some (1 : Int32)))).bind fun v5 => (bret v5).bind fun v6 => some v6
theorem T_m_isNode {l : Launch} {w : List mM} {F : Nat} {a0 : Int32} {S : mS} {r : Int32} (h : m_RM S w) (h0 : D_m_isNode F a0 S = some r) : m_Rs l M_333 (m_ent M_333 [.int a0] w) (fun v w' => v = some (.int r) ∧ m_RM S w' ∧ m_Fq w w') 0 0 0 0 := by
  show m_Rs l M_333 (0, [(0, .int a0)], [], w) _ 0 0 0 0
  generalize hw0 : w = w0 at h ⊢
  have hF : m_Fq w0 w0 := m_Fq.refl
  rw [D_m_isNode] at h0
  refine m_Rs.n0 b_333 (x_iload_n d_333_0 rfl) ?_
  obtain ⟨v5, e2, h0⟩ := bS h0
  have kk1 : ∀ (xz : Int32) (w1 : List mM), xz = v5 → m_RM S w1 → m_Fq w0 w1 → m_Rs l M_333 (15, [(0, .int a0)], [.int xz], w1) (fun v w' => v = some (.int r) ∧ m_RM S w' ∧ m_Fq w0 w') 0 0 0 0 := by
    intro xz w ez h hF
    rw [ez]
    obtain ⟨v6, e7, h0⟩ := bS h0
    exact m_Rs.retb b_333 d_333_15 rfl e7 (rI h0 h hF)
  cases hc3 : m_c1 .le a0 with
  | true =>
    have e2 := cT hc3 e2
    refine m_Rs.n0 b_333 (x_ift d_333_1 rfl hc3) ?_
    refine m_Rs.n0 b_333 (x_iconst (z := 0) d_333_14 (by decide)) ?_
    exact kk1 _ _ (Option.some.inj e2) h hF
  | false =>
    have e2 := cF hc3 e2
    refine m_Rs.n0 b_333 (x_iff d_333_1 rfl hc3) ?_
    refine m_Rs.n0 b_333 (x_iload_n d_333_4 rfl) ?_
    refine m_Rs.n0 b_333 (x_bipush (z := 7) d_333_5 (by decide)) ?_
    cases hc4 : m_c2 .ge a0 (7 : Int32) with
    | true =>
      have e2 := cT hc4 e2
      refine m_Rs.n0 b_333 (x_ict d_333_7 rfl hc4) ?_
      refine m_Rs.n0 b_333 (x_iconst (z := 0) d_333_14 (by decide)) ?_
      exact kk1 _ _ (Option.some.inj e2) h hF
    | false =>
      have e2 := cF hc4 e2
      refine m_Rs.n0 b_333 (x_icf d_333_7 rfl hc4) ?_
      refine m_Rs.n0 b_333 (x_iconst (z := 1) d_333_10 (by decide)) ?_
      refine m_Rs.n0 b_333 (x_goto d_333_11 rfl) ?_
      exact kk1 _ _ (Option.some.inj e2) h hF
def D_m_fail_181 (F : Nat) (rec141 : Int32 → Int32 → mS → Option (Int32 × mS)) (x2 : Int32) (x3 : Int32) (S : mS) : Option (Int32 × mS) := rec141 x2 (x3 + Int32.ofInt 1) S
theorem T_m_fail_181 {l : Launch} {w0 : List mM} {F : Nat} {rec141 : Int32 → Int32 → mS → Option (Int32 × mS)} (hr141 : ∀ {x2 : Int32} {x3 : Int32} {S : mS} {w : List mM} {r : Int32 × mS}, m_RM S w → m_Fq w0 w → rec141 x2 x3 S = some r → m_Rs l M_332 (141, [(0, .ref 583), (2, .int x2), (3, .int x3)], [], w) (fun v w' => v = some (.int r.1) ∧ m_RM r.2 w' ∧ m_Fq w0 w') 0 0 1 100) {x2 : Int32} {x3 : Int32} {S : mS} {w : List mM} {r : Int32 × mS} (h : m_RM S w) (hF : m_Fq w0 w) (h0 : D_m_fail_181 F rec141 x2 x3 S = some r) : m_Rs l M_332 (181, [(0, .ref 583), (2, .int x2), (3, .int x3)], [], w) (fun v w' => v = some (.int r.1) ∧ m_RM r.2 w' ∧ m_Fq w0 w') 0 0 1 100 := by
  rw [D_m_fail_181] at h0
  refine m_Rs.n0 b_332 (x_iinc d_332_181 rfl rfl rfl (show m_put1 _ _ _ = [(3, _), (0, _), (2, _)] from rfl)) ?_
  refine m_Rs.n0 b_332 (x_goto d_332_184 rfl) ?_
  exact m_Rs.pick [1, 2, 0] rfl (hr141 h hF h0)
def D_m_fail_141 (F : Nat) : Nat → Int32 → Int32 → mS → Option (Int32 × mS)
  | 0, _, _, _ => none
  | n + 1, x2, x3, S => cond (m_c2 .ge x3 x2) (some ((1 : Int32), S)) ((aget 0 48000 S 623 (((12 : Int32) * x3) + (2 : Int32))).bind fun v28 => cond (m_c2 .eq v28 ((-1) : Int32)) (D_m_fail_181 F (D_m_fail_141 F n) x2 x3 S) ((aget 0 48000 S 623 (((12 : Int32) * x3) + (2 : Int32))).bind fun v34 => (D_m_close F v34 (502 : Int32) (0 : Int32) (0 : Int32) S).bind fun S36 => D_m_fail_181 F (D_m_fail_141 F n) x2 x3 S36))
theorem T_m_fail_141 {l : Launch} {w0 : List mM} {F : Nat} : ∀ (n : Nat) {x2 : Int32} {x3 : Int32} {S : mS} {w : List mM} {r : Int32 × mS}, m_RM S w → m_Fq w0 w → D_m_fail_141 F n x2 x3 S = some r → m_Rs l M_332 (141, [(0, .ref 583), (2, .int x2), (3, .int x3)], [], w) (fun v w' => v = some (.int r.1) ∧ m_RM r.2 w' ∧ m_Fq w0 w') 0 0 1 100 := by
  intro n
  induction n with
  | zero => intro x2 x3 S w r h hF h0; cases h0
  | succ n ih =>
    intro x2 x3 S w r h hF h0
    rw [D_m_fail_141] at h0
    refine m_Rs.n0 b_332 (x_iload_n d_332_141 rfl) ?_
    refine m_Rs.n0 b_332 (x_iload_n d_332_142 rfl) ?_
    cases hc27 : m_c2 .ge x3 x2 with
    | true =>
      have h0 := cT hc27 h0
      refine m_Rs.n0 b_332 (x_ict d_332_143 rfl hc27) ?_
      refine m_Rs.n0 b_332 (x_iconst (z := 1) d_332_187 (by decide)) ?_
      exact m_Rs.ret b_332 (m_rt_ir d_332_188 rfl m_nb1) (rP h0 h hF)
    | false =>
      have h0 := cF hc27 h0
      refine m_Rs.n0 b_332 (x_icf d_332_143 rfl hc27) ?_
      refine m_Rs.n0 b_332 (x_aload_n d_332_146 rfl) ?_
      refine m_Rs.n0 b_332 (x_getf d_332_147 rfl h.1 rfl) ?_
      refine m_Rs.n0 b_332 (x_bipush (z := 12) d_332_150 (by decide)) ?_
      refine m_Rs.n0 b_332 (x_iload_n d_332_152 rfl) ?_
      refine m_Rs.n0 b_332 (x_imul d_332_153 rfl) ?_
      refine m_Rs.n0 b_332 (x_iconst (z := 2) d_332_154 (by decide)) ?_
      refine m_Rs.n0 b_332 (x_iadd d_332_155 rfl) ?_
      obtain ⟨v28, e29, h0⟩ := bS h0
      refine m_Rs.dget b_332 d_332_156 h 39 rfl e29 ?_
      refine m_Rs.n0 b_332 (x_iconst (z := (-1)) d_332_157 (by decide)) ?_
      cases hc33 : m_c2 .eq v28 ((-1) : Int32) with
      | true =>
        have h0 := cT hc33 h0
        refine m_Rs.n0 b_332 (x_ict d_332_158 rfl hc33) ?_
        exact m_Rs.pick [0, 1, 2] rfl (T_m_fail_181 ih h hF h0)
      | false =>
        have h0 := cF hc33 h0
        refine m_Rs.n0 b_332 (x_icf d_332_158 rfl hc33) ?_
        refine m_Rs.n0 b_332 (x_aload_n d_332_161 rfl) ?_
        refine m_Rs.n0 b_332 (x_aload_n d_332_162 rfl) ?_
        refine m_Rs.n0 b_332 (x_getf d_332_163 rfl h.1 rfl) ?_
        refine m_Rs.n0 b_332 (x_bipush (z := 12) d_332_166 (by decide)) ?_
        refine m_Rs.n0 b_332 (x_iload_n d_332_168 rfl) ?_
        refine m_Rs.n0 b_332 (x_imul d_332_169 rfl) ?_
        refine m_Rs.n0 b_332 (x_iconst (z := 2) d_332_170 (by decide)) ?_
        refine m_Rs.n0 b_332 (x_iadd d_332_171 rfl) ?_
        obtain ⟨v34, e35, h0⟩ := bS h0
        refine m_Rs.dget b_332 d_332_172 h 39 rfl e35 ?_
        refine m_Rs.n0 b_332 (x_sipush (z := 502) d_332_173 (by decide)) ?_
        refine m_Rs.n0 b_332 (x_iconst (z := 0) d_332_176 (by decide)) ?_
        refine m_Rs.n0 b_332 (x_iconst (z := 0) d_332_177 (by decide)) ?_
        obtain ⟨S36, e37, h0⟩ := bS h0
        refine m_Rs.callSv b_332 (y_cv d_332_178 rfl q_270 (m_isRecv_of rfl h.1) (show m_takeI _ _ = some (_, [_, _, _, _, _], []) from rfl) (by simp only [m_okf, List.all_cons, List.all_nil, Bool.and_true, Bool.and_self, m_okv_i, m_okv_l, m_okv_0, m_okv_t, m_okv_at h.1]) rfl) (T_m_close h e37) hF rfl (fun w1 h hF => ?_) (by decide) (by decide)
        exact m_Rs.pick [0, 1, 2] rfl (T_m_fail_181 ih h hF h0)
def D_m_fail_118 (F : Nat) (x1 : Int32) (S : mS) : Option (Int32 × mS) := (aput 7 S 597 x1 (0 : Int32)).bind fun S21 => (aput 7 S21 593 x1 (0 : Int32)).bind fun S23 => (D_m_take F x1 ((-1) : Int32) S23).bind fun q25 => D_m_fail_141 F F q25.1 (0 : Int32) q25.2
theorem T_m_fail_118 {l : Launch} {w0 : List mM} {F : Nat} {x1 : Int32} {S : mS} {w : List mM} {r : Int32 × mS} (h : m_RM S w) (hF : m_Fq w0 w) (h0 : D_m_fail_118 F x1 S = some r) : m_Rs l M_332 (118, [(0, .ref 583), (1, .int x1)], [], w) (fun v w' => v = some (.int r.1) ∧ m_RM r.2 w' ∧ m_Fq w0 w') 0 0 1 100 := by
  rw [D_m_fail_118] at h0
  refine m_Rs.n0 b_332 (x_aload_n d_332_118 rfl) ?_
  refine m_Rs.n0 b_332 (x_getf d_332_119 rfl h.1 rfl) ?_
  refine m_Rs.n0 b_332 (x_iload_n d_332_122 rfl) ?_
  refine m_Rs.n0 b_332 (x_iconst (z := 0) d_332_123 (by decide)) ?_
  obtain ⟨S21, e22, h0⟩ := bS h0
  refine m_Rs.dput b_332 d_332_124 h hF 13 rfl e22 (fun w1 h hF => ?_)
  refine m_Rs.n0 b_332 (x_aload_n d_332_125 rfl) ?_
  refine m_Rs.n0 b_332 (x_getf d_332_126 rfl h.1 rfl) ?_
  refine m_Rs.n0 b_332 (x_iload_n d_332_129 rfl) ?_
  refine m_Rs.n0 b_332 (x_iconst (z := 0) d_332_130 (by decide)) ?_
  obtain ⟨S23, e24, h0⟩ := bS h0
  refine m_Rs.dput b_332 d_332_131 h hF 9 rfl e24 (fun w1 h hF => ?_)
  refine m_Rs.n0 b_332 (x_aload_n d_332_132 rfl) ?_
  refine m_Rs.n0 b_332 (x_iload_n d_332_133 rfl) ?_
  refine m_Rs.n0 b_332 (x_iconst (z := (-1)) d_332_134 (by decide)) ?_
  obtain ⟨q25, e26, h0⟩ := bS h0
  refine m_Rs.callS b_332 (y_cv d_332_135 rfl q_320 (m_isRecv_of rfl h.1) (show m_takeI _ _ = some (_, [_, _, _], []) from rfl) (by simp only [m_okf, List.all_cons, List.all_nil, Bool.and_true, Bool.and_self, m_okv_i, m_okv_l, m_okv_0, m_okv_t, m_okv_at h.1]) rfl) (T_m_take h e26) hF rfl (fun w1 h hF => ?_) (by decide) (by decide)
  refine m_Rs.n0 b_332 (x_istore_n d_332_138 rfl (show m_put1 _ _ _ = [(2, _), (0, _), (1, _)] from rfl)) ?_
  refine m_Rs.n0 b_332 (x_iconst (z := 0) d_332_139 (by decide)) ?_
  refine m_Rs.n0 b_332 (x_istore_n d_332_140 rfl (show m_put1 _ _ _ = [(3, _), (2, _), (0, _), (1, _)] from rfl)) ?_
  exact m_Rs.pick [2, 1, 0] rfl (T_m_fail_141 F h hF h0)
def D_m_fail_96 (F : Nat) : Nat → Int32 → Int32 → mS → Option (Int32 × mS)
  | 0, _, _, _ => none
  | n + 1, x1, x2, S => cond (m_c2 .ge x2 (3 : Int32)) (D_m_fail_118 F x1 S) (cond (m_c2 .le x1 (2 : Int32)) (D_m_fail_118 F x1 S) ((D_m_forgive F x1 x2 S).bind fun S19 => D_m_fail_96 F n x1 (x2 + Int32.ofInt 1) S19))
theorem T_m_fail_96 {l : Launch} {w0 : List mM} {F : Nat} : ∀ (n : Nat) {x1 : Int32} {x2 : Int32} {S : mS} {w : List mM} {r : Int32 × mS}, m_RM S w → m_Fq w0 w → D_m_fail_96 F n x1 x2 S = some r → m_Rs l M_332 (96, [(0, .ref 583), (1, .int x1), (2, .int x2)], [], w) (fun v w' => v = some (.int r.1) ∧ m_RM r.2 w' ∧ m_Fq w0 w') 0 0 1 100 := by
  intro n
  induction n with
  | zero => intro x1 x2 S w r h hF h0; cases h0
  | succ n ih =>
    intro x1 x2 S w r h hF h0
    rw [D_m_fail_96] at h0
    refine m_Rs.n0 b_332 (x_iload_n d_332_96 rfl) ?_
    refine m_Rs.n0 b_332 (x_iconst (z := 3) d_332_97 (by decide)) ?_
    cases hc17 : m_c2 .ge x2 (3 : Int32) with
    | true =>
      have h0 := cT hc17 h0
      refine m_Rs.n0 b_332 (x_ict d_332_98 rfl hc17) ?_
      exact m_Rs.pick [0, 1] rfl (T_m_fail_118 h hF h0)
    | false =>
      have h0 := cF hc17 h0
      refine m_Rs.n0 b_332 (x_icf d_332_98 rfl hc17) ?_
      refine m_Rs.n0 b_332 (x_iload_n d_332_101 rfl) ?_
      refine m_Rs.n0 b_332 (x_iconst (z := 2) d_332_102 (by decide)) ?_
      cases hc18 : m_c2 .le x1 (2 : Int32) with
      | true =>
        have h0 := cT hc18 h0
        refine m_Rs.n0 b_332 (x_ict d_332_103 rfl hc18) ?_
        exact m_Rs.pick [0, 1] rfl (T_m_fail_118 h hF h0)
      | false =>
        have h0 := cF hc18 h0
        refine m_Rs.n0 b_332 (x_icf d_332_103 rfl hc18) ?_
        refine m_Rs.n0 b_332 (x_aload_n d_332_106 rfl) ?_
        refine m_Rs.n0 b_332 (x_iload_n d_332_107 rfl) ?_
        refine m_Rs.n0 b_332 (x_iload_n d_332_108 rfl) ?_
        obtain ⟨S19, e20, h0⟩ := bS h0
        refine m_Rs.callSv b_332 (y_cv d_332_109 rfl q_319 (m_isRecv_of rfl h.1) (show m_takeI _ _ = some (_, [_, _, _], []) from rfl) (by simp only [m_okf, List.all_cons, List.all_nil, Bool.and_true, Bool.and_self, m_okv_i, m_okv_l, m_okv_0, m_okv_t, m_okv_at h.1]) rfl) (T_m_forgive h e20) hF rfl (fun w1 h hF => ?_) (by decide) (by decide)
        refine m_Rs.n0 b_332 (x_iinc d_332_112 rfl rfl rfl (show m_put1 _ _ _ = [(2, _), (0, _), (1, _)] from rfl)) ?_
        refine m_Rs.n0 b_332 (x_goto d_332_115 rfl) ?_
        exact m_Rs.pick [1, 2, 0] rfl (ih h hF h0)
def D_m_fail_68 (F : Nat) : Nat → Int32 → Int32 → mS → Option (Int32 × mS)
  | 0, _, _, _ => none
  | n + 1, x1, x2, S => cond (m_c2 .ge x2 (((128 : Int32) * x1) + (128 : Int32))) (D_m_fail_96 F F x1 (1 : Int32) S) ((bput 896 S 609 x2 (0 : Int32)).bind fun S15 => D_m_fail_68 F n x1 (x2 + Int32.ofInt 1) S15)
theorem T_m_fail_68 {l : Launch} {w0 : List mM} {F : Nat} : ∀ (n : Nat) {x1 : Int32} {x2 : Int32} {S : mS} {w : List mM} {r : Int32 × mS}, m_RM S w → m_Fq w0 w → D_m_fail_68 F n x1 x2 S = some r → m_Rs l M_332 (68, [(0, .ref 583), (1, .int x1), (2, .int x2)], [], w) (fun v w' => v = some (.int r.1) ∧ m_RM r.2 w' ∧ m_Fq w0 w') 0 0 1 100 := by
  intro n
  induction n with
  | zero => intro x1 x2 S w r h hF h0; cases h0
  | succ n ih =>
    intro x1 x2 S w r h hF h0
    rw [D_m_fail_68] at h0
    refine m_Rs.n0 b_332 (x_iload_n d_332_68 rfl) ?_
    refine m_Rs.n0 b_332 (x_sipush (z := 128) d_332_69 (by decide)) ?_
    refine m_Rs.n0 b_332 (x_iload_n d_332_72 rfl) ?_
    refine m_Rs.n0 b_332 (x_imul d_332_73 rfl) ?_
    refine m_Rs.n0 b_332 (x_sipush (z := 128) d_332_74 (by decide)) ?_
    refine m_Rs.n0 b_332 (x_iadd d_332_77 rfl) ?_
    cases hc14 : m_c2 .ge x2 (((128 : Int32) * x1) + (128 : Int32)) with
    | true =>
      have h0 := cT hc14 h0
      refine m_Rs.n0 b_332 (x_ict d_332_78 rfl hc14) ?_
      refine m_Rs.n0 b_332 (x_iconst (z := 1) d_332_94 (by decide)) ?_
      refine m_Rs.n0 b_332 (x_istore_n d_332_95 rfl (show m_put1 _ _ _ = [(2, _), (0, _), (1, _)] from rfl)) ?_
      exact m_Rs.pick [1, 2, 0] rfl (T_m_fail_96 F h hF h0)
    | false =>
      have h0 := cF hc14 h0
      refine m_Rs.n0 b_332 (x_icf d_332_78 rfl hc14) ?_
      refine m_Rs.n0 b_332 (x_aload_n d_332_81 rfl) ?_
      refine m_Rs.n0 b_332 (x_getf d_332_82 rfl h.1 rfl) ?_
      refine m_Rs.n0 b_332 (x_iload_n d_332_85 rfl) ?_
      refine m_Rs.n0 b_332 (x_iconst (z := 0) d_332_86 (by decide)) ?_
      obtain ⟨S15, e16, h0⟩ := bS h0
      refine m_Rs.dputb b_332 d_332_87 h hF 25 rfl e16 (fun w1 h hF => ?_)
      refine m_Rs.n0 b_332 (x_iinc d_332_88 rfl rfl rfl (show m_put1 _ _ _ = [(2, _), (0, _), (1, _)] from rfl)) ?_
      refine m_Rs.n0 b_332 (x_goto d_332_91 rfl) ?_
      exact m_Rs.pick [1, 2, 0] rfl (ih h hF h0)
def D_m_fail_36 (F : Nat) : Nat → Int32 → Int32 → mS → Option (Int32 × mS)
  | 0, _, _, _ => none
  | n + 1, x1, x2, S => cond (m_c2 .ge x2 (((1024 : Int32) * x1) + (1024 : Int32))) (D_m_fail_68 F F x1 ((128 : Int32) * x1) S) ((bput 7168 S 601 x2 (0 : Int32)).bind fun S12 => D_m_fail_36 F n x1 (x2 + Int32.ofInt 1) S12)
theorem T_m_fail_36 {l : Launch} {w0 : List mM} {F : Nat} : ∀ (n : Nat) {x1 : Int32} {x2 : Int32} {S : mS} {w : List mM} {r : Int32 × mS}, m_RM S w → m_Fq w0 w → D_m_fail_36 F n x1 x2 S = some r → m_Rs l M_332 (36, [(0, .ref 583), (1, .int x1), (2, .int x2)], [], w) (fun v w' => v = some (.int r.1) ∧ m_RM r.2 w' ∧ m_Fq w0 w') 0 0 1 100 := by
  intro n
  induction n with
  | zero => intro x1 x2 S w r h hF h0; cases h0
  | succ n ih =>
    intro x1 x2 S w r h hF h0
    rw [D_m_fail_36] at h0
    refine m_Rs.n0 b_332 (x_iload_n d_332_36 rfl) ?_
    refine m_Rs.n0 b_332 (x_sipush (z := 1024) d_332_37 (by decide)) ?_
    refine m_Rs.n0 b_332 (x_iload_n d_332_40 rfl) ?_
    refine m_Rs.n0 b_332 (x_imul d_332_41 rfl) ?_
    refine m_Rs.n0 b_332 (x_sipush (z := 1024) d_332_42 (by decide)) ?_
    refine m_Rs.n0 b_332 (x_iadd d_332_45 rfl) ?_
    cases hc11 : m_c2 .ge x2 (((1024 : Int32) * x1) + (1024 : Int32)) with
    | true =>
      have h0 := cT hc11 h0
      refine m_Rs.n0 b_332 (x_ict d_332_46 rfl hc11) ?_
      refine m_Rs.n0 b_332 (x_sipush (z := 128) d_332_62 (by decide)) ?_
      refine m_Rs.n0 b_332 (x_iload_n d_332_65 rfl) ?_
      refine m_Rs.n0 b_332 (x_imul d_332_66 rfl) ?_
      refine m_Rs.n0 b_332 (x_istore_n d_332_67 rfl (show m_put1 _ _ _ = [(2, _), (0, _), (1, _)] from rfl)) ?_
      exact m_Rs.pick [1, 2, 0] rfl (T_m_fail_68 F h hF h0)
    | false =>
      have h0 := cF hc11 h0
      refine m_Rs.n0 b_332 (x_icf d_332_46 rfl hc11) ?_
      refine m_Rs.n0 b_332 (x_aload_n d_332_49 rfl) ?_
      refine m_Rs.n0 b_332 (x_getf d_332_50 rfl h.1 rfl) ?_
      refine m_Rs.n0 b_332 (x_iload_n d_332_53 rfl) ?_
      refine m_Rs.n0 b_332 (x_iconst (z := 0) d_332_54 (by decide)) ?_
      obtain ⟨S12, e13, h0⟩ := bS h0
      refine m_Rs.dputb b_332 d_332_55 h hF 17 rfl e13 (fun w1 h hF => ?_)
      refine m_Rs.n0 b_332 (x_iinc d_332_56 rfl rfl rfl (show m_put1 _ _ _ = [(2, _), (0, _), (1, _)] from rfl)) ?_
      refine m_Rs.n0 b_332 (x_goto d_332_59 rfl) ?_
      exact m_Rs.pick [1, 2, 0] rfl (ih h hF h0)
def D_m_fail (F : Nat) (a0 : Int32) (S : mS) : Option (Int32 × mS) := (fput S 0 (0 : Int32)).bind fun S1 => (D_m_isNode F a0 S1).bind fun v3 => cond (m_c1 .eq v3) (some ((0 : Int32), S1)) ((aget 4 7 S1 591 a0).bind fun v6 => cond (m_c1 .ne v6) ((bput 7 S1 591 a0 (0 : Int32)).bind fun S9 => D_m_fail_36 F F a0 ((1024 : Int32) * a0) S9) (some ((0 : Int32), S1)))
theorem T_m_fail {l : Launch} {w : List mM} {F : Nat} {a0 : Int32} {S : mS} {r : Int32 × mS} (h : m_RM S w) (h0 : D_m_fail F a0 S = some r) : m_Rs l M_332 (m_ent M_332 [.ref 583, .int a0] w) (fun v w' => v = some (.int r.1) ∧ m_RM r.2 w' ∧ m_Fq w w') 0 0 1 100 := by
  show m_Rs l M_332 (0, [(0, .ref 583), (1, .int a0)], [], w) _ 0 0 1 100
  generalize hw0 : w = w0 at h ⊢
  have hF : m_Fq w0 w0 := m_Fq.refl
  rw [D_m_fail] at h0
  refine m_Rs.n0 b_332 (x_aload_n d_332_0 rfl) ?_
  refine m_Rs.n0 b_332 (x_iconst (z := 0) d_332_1 (by decide)) ?_
  obtain ⟨S1, e2, h0⟩ := bS h0
  refine m_Rs.dfput b_332 d_332_2 h hF e2 rfl rfl rfl rfl rfl rfl (fun w1 h hF => ?_)
  refine m_Rs.n0 b_332 (x_iload_n d_332_5 rfl) ?_
  obtain ⟨v3, e4, h0⟩ := bS h0
  refine m_Rs.callS b_332 (y_cs d_332_6 rfl q_333 (show m_takeS _ _ = some (_, [_], []) from rfl) (by simp only [m_okf, List.all_cons, List.all_nil, Bool.and_true, Bool.and_self, m_okv_i, m_okv_l, m_okv_0, m_okv_t, m_okv_at h.1]) rfl) (T_m_isNode h e4) hF rfl (fun w1 h hF => ?_) (by decide) (by decide)
  cases hc5 : m_c1 .eq v3 with
  | true =>
    have h0 := cT hc5 h0
    refine m_Rs.n0 b_332 (x_ift d_332_9 rfl hc5) ?_
    refine m_Rs.n0 b_332 (x_iconst (z := 0) d_332_21 (by decide)) ?_
    exact m_Rs.ret b_332 (m_rt_ir d_332_22 rfl m_nb0) (rP h0 h hF)
  | false =>
    have h0 := cF hc5 h0
    refine m_Rs.n0 b_332 (x_iff d_332_9 rfl hc5) ?_
    refine m_Rs.n0 b_332 (x_aload_n d_332_12 rfl) ?_
    refine m_Rs.n0 b_332 (x_getf d_332_13 rfl h.1 rfl) ?_
    refine m_Rs.n0 b_332 (x_iload_n d_332_16 rfl) ?_
    obtain ⟨v6, e7, h0⟩ := bS h0
    refine m_Rs.dgetb b_332 d_332_17 h 7 rfl e7 ?_
    cases hc8 : m_c1 .ne v6 with
    | true =>
      have h0 := cT hc8 h0
      refine m_Rs.n0 b_332 (x_ift d_332_18 rfl hc8) ?_
      refine m_Rs.n0 b_332 (x_aload_n d_332_23 rfl) ?_
      refine m_Rs.n0 b_332 (x_getf d_332_24 rfl h.1 rfl) ?_
      refine m_Rs.n0 b_332 (x_iload_n d_332_27 rfl) ?_
      refine m_Rs.n0 b_332 (x_iconst (z := 0) d_332_28 (by decide)) ?_
      obtain ⟨S9, e10, h0⟩ := bS h0
      refine m_Rs.dputb b_332 d_332_29 h hF 7 rfl e10 (fun w1 h hF => ?_)
      refine m_Rs.n0 b_332 (x_sipush (z := 1024) d_332_30 (by decide)) ?_
      refine m_Rs.n0 b_332 (x_iload_n d_332_33 rfl) ?_
      refine m_Rs.n0 b_332 (x_imul d_332_34 rfl) ?_
      refine m_Rs.n0 b_332 (x_istore_n d_332_35 rfl (show m_put1 _ _ _ = [(2, _), (0, _), (1, _)] from rfl)) ?_
      exact m_Rs.pick [1, 2, 0] rfl (T_m_fail_36 F h hF h0)
    | false =>
      have h0 := cF hc8 h0
      refine m_Rs.n0 b_332 (x_iff d_332_18 rfl hc8) ?_
      refine m_Rs.n0 b_332 (x_iconst (z := 0) d_332_21 (by decide)) ?_
      exact m_Rs.ret b_332 (m_rt_ir d_332_22 rfl m_nb0) (rP h0 h hF)
def D_m_back_42 (F : Nat) : Nat → Int32 → Int32 → mS → Option (Int32 × mS)
  | 0, _, _, _ => none
  | n + 1, x1, x2, S => cond (m_c2 .ge x2 (7 : Int32)) (some ((1 : Int32), S)) (cond (m_c2 .ge x1 (3 : Int32)) (some ((1 : Int32), S)) ((D_m_forgive F x2 x1 S).bind fun S15 => D_m_back_42 F n x1 (x2 + Int32.ofInt 1) S15))
theorem T_m_back_42 {l : Launch} {w0 : List mM} {F : Nat} : ∀ (n : Nat) {x1 : Int32} {x2 : Int32} {S : mS} {w : List mM} {r : Int32 × mS}, m_RM S w → m_Fq w0 w → D_m_back_42 F n x1 x2 S = some r → m_Rs l M_334 (42, [(0, .ref 583), (1, .int x1), (2, .int x2)], [], w) (fun v w' => v = some (.int r.1) ∧ m_RM r.2 w' ∧ m_Fq w0 w') 0 0 1 100 := by
  intro n
  induction n with
  | zero => intro x1 x2 S w r h hF h0; cases h0
  | succ n ih =>
    intro x1 x2 S w r h hF h0
    rw [D_m_back_42] at h0
    refine m_Rs.n0 b_334 (x_iload_n d_334_42 rfl) ?_
    refine m_Rs.n0 b_334 (x_bipush (z := 7) d_334_43 (by decide)) ?_
    cases hc13 : m_c2 .ge x2 (7 : Int32) with
    | true =>
      have h0 := cT hc13 h0
      refine m_Rs.n0 b_334 (x_ict d_334_45 rfl hc13) ?_
      refine m_Rs.n0 b_334 (x_iconst (z := 1) d_334_65 (by decide)) ?_
      exact m_Rs.ret b_334 (m_rt_ir d_334_66 rfl m_nb1) (rP h0 h hF)
    | false =>
      have h0 := cF hc13 h0
      refine m_Rs.n0 b_334 (x_icf d_334_45 rfl hc13) ?_
      refine m_Rs.n0 b_334 (x_iload_n d_334_48 rfl) ?_
      refine m_Rs.n0 b_334 (x_iconst (z := 3) d_334_49 (by decide)) ?_
      cases hc14 : m_c2 .ge x1 (3 : Int32) with
      | true =>
        have h0 := cT hc14 h0
        refine m_Rs.n0 b_334 (x_ict d_334_50 rfl hc14) ?_
        refine m_Rs.n0 b_334 (x_iconst (z := 1) d_334_65 (by decide)) ?_
        exact m_Rs.ret b_334 (m_rt_ir d_334_66 rfl m_nb1) (rP h0 h hF)
      | false =>
        have h0 := cF hc14 h0
        refine m_Rs.n0 b_334 (x_icf d_334_50 rfl hc14) ?_
        refine m_Rs.n0 b_334 (x_aload_n d_334_53 rfl) ?_
        refine m_Rs.n0 b_334 (x_iload_n d_334_54 rfl) ?_
        refine m_Rs.n0 b_334 (x_iload_n d_334_55 rfl) ?_
        obtain ⟨S15, e16, h0⟩ := bS h0
        refine m_Rs.callSv b_334 (y_cv d_334_56 rfl q_319 (m_isRecv_of rfl h.1) (show m_takeI _ _ = some (_, [_, _, _], []) from rfl) (by simp only [m_okf, List.all_cons, List.all_nil, Bool.and_true, Bool.and_self, m_okv_i, m_okv_l, m_okv_0, m_okv_t, m_okv_at h.1]) rfl) (T_m_forgive h e16) hF rfl (fun w1 h hF => ?_) (by decide) (by decide)
        refine m_Rs.n0 b_334 (x_iinc d_334_59 rfl rfl rfl (show m_put1 _ _ _ = [(2, _), (0, _), (1, _)] from rfl)) ?_
        refine m_Rs.n0 b_334 (x_goto d_334_62 rfl) ?_
        exact m_Rs.pick [1, 2, 0] rfl (ih h hF h0)
def D_m_back (F : Nat) (a0 : Int32) (S : mS) : Option (Int32 × mS) := (fput S 0 (0 : Int32)).bind fun S1 => (D_m_isNode F a0 S1).bind fun v3 => cond (m_c1 .eq v3) (some ((0 : Int32), S1)) ((aget 4 7 S1 591 a0).bind fun v6 => cond (m_c1 .eq v6) ((bput 7 S1 591 a0 (1 : Int32)).bind fun S9 => (aput 7 S9 593 a0 (S9.1 37)).bind fun S11 => D_m_back_42 F F a0 (3 : Int32) S11) (some ((0 : Int32), S1)))
theorem T_m_back {l : Launch} {w : List mM} {F : Nat} {a0 : Int32} {S : mS} {r : Int32 × mS} (h : m_RM S w) (h0 : D_m_back F a0 S = some r) : m_Rs l M_334 (m_ent M_334 [.ref 583, .int a0] w) (fun v w' => v = some (.int r.1) ∧ m_RM r.2 w' ∧ m_Fq w w') 0 0 1 100 := by
  show m_Rs l M_334 (0, [(0, .ref 583), (1, .int a0)], [], w) _ 0 0 1 100
  generalize hw0 : w = w0 at h ⊢
  have hF : m_Fq w0 w0 := m_Fq.refl
  rw [D_m_back] at h0
  refine m_Rs.n0 b_334 (x_aload_n d_334_0 rfl) ?_
  refine m_Rs.n0 b_334 (x_iconst (z := 0) d_334_1 (by decide)) ?_
  obtain ⟨S1, e2, h0⟩ := bS h0
  refine m_Rs.dfput b_334 d_334_2 h hF e2 rfl rfl rfl rfl rfl rfl (fun w1 h hF => ?_)
  refine m_Rs.n0 b_334 (x_iload_n d_334_5 rfl) ?_
  obtain ⟨v3, e4, h0⟩ := bS h0
  refine m_Rs.callS b_334 (y_cs d_334_6 rfl q_333 (show m_takeS _ _ = some (_, [_], []) from rfl) (by simp only [m_okf, List.all_cons, List.all_nil, Bool.and_true, Bool.and_self, m_okv_i, m_okv_l, m_okv_0, m_okv_t, m_okv_at h.1]) rfl) (T_m_isNode h e4) hF rfl (fun w1 h hF => ?_) (by decide) (by decide)
  cases hc5 : m_c1 .eq v3 with
  | true =>
    have h0 := cT hc5 h0
    refine m_Rs.n0 b_334 (x_ift d_334_9 rfl hc5) ?_
    refine m_Rs.n0 b_334 (x_iconst (z := 0) d_334_21 (by decide)) ?_
    exact m_Rs.ret b_334 (m_rt_ir d_334_22 rfl m_nb0) (rP h0 h hF)
  | false =>
    have h0 := cF hc5 h0
    refine m_Rs.n0 b_334 (x_iff d_334_9 rfl hc5) ?_
    refine m_Rs.n0 b_334 (x_aload_n d_334_12 rfl) ?_
    refine m_Rs.n0 b_334 (x_getf d_334_13 rfl h.1 rfl) ?_
    refine m_Rs.n0 b_334 (x_iload_n d_334_16 rfl) ?_
    obtain ⟨v6, e7, h0⟩ := bS h0
    refine m_Rs.dgetb b_334 d_334_17 h 7 rfl e7 ?_
    cases hc8 : m_c1 .eq v6 with
    | true =>
      have h0 := cT hc8 h0
      refine m_Rs.n0 b_334 (x_ift d_334_18 rfl hc8) ?_
      refine m_Rs.n0 b_334 (x_aload_n d_334_23 rfl) ?_
      refine m_Rs.n0 b_334 (x_getf d_334_24 rfl h.1 rfl) ?_
      refine m_Rs.n0 b_334 (x_iload_n d_334_27 rfl) ?_
      refine m_Rs.n0 b_334 (x_iconst (z := 1) d_334_28 (by decide)) ?_
      obtain ⟨S9, e10, h0⟩ := bS h0
      refine m_Rs.dputb b_334 d_334_29 h hF 7 rfl e10 (fun w1 h hF => ?_)
      refine m_Rs.n0 b_334 (x_aload_n d_334_30 rfl) ?_
      refine m_Rs.n0 b_334 (x_getf d_334_31 rfl h.1 rfl) ?_
      refine m_Rs.n0 b_334 (x_iload_n d_334_34 rfl) ?_
      refine m_Rs.n0 b_334 (x_aload_n d_334_35 rfl) ?_
      refine m_Rs.n0 b_334 (x_getf d_334_36 rfl h.1 rfl) ?_
      obtain ⟨S11, e12, h0⟩ := bS h0
      refine m_Rs.dput b_334 d_334_39 h hF 9 rfl e12 (fun w1 h hF => ?_)
      refine m_Rs.n0 b_334 (x_iconst (z := 3) d_334_40 (by decide)) ?_
      refine m_Rs.n0 b_334 (x_istore_n d_334_41 rfl (show m_put1 _ _ _ = [(2, _), (0, _), (1, _)] from rfl)) ?_
      exact m_Rs.pick [1, 2, 0] rfl (T_m_back_42 F h hF h0)
    | false =>
      have h0 := cF hc8 h0
      refine m_Rs.n0 b_334 (x_iff d_334_18 rfl hc8) ?_
      refine m_Rs.n0 b_334 (x_iconst (z := 0) d_334_21 (by decide)) ?_
      exact m_Rs.ret b_334 (m_rt_ir d_334_22 rfl m_nb0) (rP h0 h hF)
def D_m_budget (F : Nat) (a0 : Int32) (a1 : Int32) (S : mS) : Option (Int32 × mS) := (fput S 0 (0 : Int32)).bind fun S1 => (D_m_isNode F a0 S1).bind fun v3 => cond (m_c1 .eq v3) (some ((0 : Int32), S1)) (cond (m_c2 .lt a1 (32 : Int32)) (some ((0 : Int32), S1)) (cond (m_c2 .le a1 (2000 : Int32)) ((aput 7 S1 592 a0 a1).bind fun S8 => (D_m_trim F a0 S8).bind fun S10 => some ((1 : Int32), S10)) (some ((0 : Int32), S1))))
theorem T_m_budget {l : Launch} {w : List mM} {F : Nat} {a0 : Int32} {a1 : Int32} {S : mS} {r : Int32 × mS} (h : m_RM S w) (h0 : D_m_budget F a0 a1 S = some r) : m_Rs l M_335 (m_ent M_335 [.ref 583, .int a0, .int a1] w) (fun v w' => v = some (.int r.1) ∧ m_RM r.2 w' ∧ m_Fq w w') 0 0 4 400 := by
  show m_Rs l M_335 (0, [(0, .ref 583), (1, .int a0), (2, .int a1)], [], w) _ 0 0 4 400
  generalize hw0 : w = w0 at h ⊢
  have hF : m_Fq w0 w0 := m_Fq.refl
  rw [D_m_budget] at h0
  refine m_Rs.n0 b_335 (x_aload_n d_335_0 rfl) ?_
  refine m_Rs.n0 b_335 (x_iconst (z := 0) d_335_1 (by decide)) ?_
  obtain ⟨S1, e2, h0⟩ := bS h0
  refine m_Rs.dfput b_335 d_335_2 h hF e2 rfl rfl rfl rfl rfl rfl (fun w1 h hF => ?_)
  refine m_Rs.n0 b_335 (x_iload_n d_335_5 rfl) ?_
  obtain ⟨v3, e4, h0⟩ := bS h0
  refine m_Rs.callS b_335 (y_cs d_335_6 rfl q_333 (show m_takeS _ _ = some (_, [_], []) from rfl) (by simp only [m_okf, List.all_cons, List.all_nil, Bool.and_true, Bool.and_self, m_okv_i, m_okv_l, m_okv_0, m_okv_t, m_okv_at h.1]) rfl) (T_m_isNode h e4) hF rfl (fun w1 h hF => ?_) (by decide) (by decide)
  cases hc5 : m_c1 .eq v3 with
  | true =>
    have h0 := cT hc5 h0
    refine m_Rs.n0 b_335 (x_ift d_335_9 rfl hc5) ?_
    refine m_Rs.n0 b_335 (x_iconst (z := 0) d_335_25 (by decide)) ?_
    exact m_Rs.ret b_335 (m_rt_ir d_335_26 rfl m_nb0) (rP h0 h hF)
  | false =>
    have h0 := cF hc5 h0
    refine m_Rs.n0 b_335 (x_iff d_335_9 rfl hc5) ?_
    refine m_Rs.n0 b_335 (x_iload_n d_335_12 rfl) ?_
    refine m_Rs.n0 b_335 (x_bipush (z := 32) d_335_13 (by decide)) ?_
    cases hc6 : m_c2 .lt a1 (32 : Int32) with
    | true =>
      have h0 := cT hc6 h0
      refine m_Rs.n0 b_335 (x_ict d_335_15 rfl hc6) ?_
      refine m_Rs.n0 b_335 (x_iconst (z := 0) d_335_25 (by decide)) ?_
      exact m_Rs.ret b_335 (m_rt_ir d_335_26 rfl m_nb0) (rP h0 h hF)
    | false =>
      have h0 := cF hc6 h0
      refine m_Rs.n0 b_335 (x_icf d_335_15 rfl hc6) ?_
      refine m_Rs.n0 b_335 (x_iload_n d_335_18 rfl) ?_
      refine m_Rs.n0 b_335 (x_sipush (z := 2000) d_335_19 (by decide)) ?_
      cases hc7 : m_c2 .le a1 (2000 : Int32) with
      | true =>
        have h0 := cT hc7 h0
        refine m_Rs.n0 b_335 (x_ict d_335_22 rfl hc7) ?_
        refine m_Rs.n0 b_335 (x_aload_n d_335_27 rfl) ?_
        refine m_Rs.n0 b_335 (x_getf d_335_28 rfl h.1 rfl) ?_
        refine m_Rs.n0 b_335 (x_iload_n d_335_31 rfl) ?_
        refine m_Rs.n0 b_335 (x_iload_n d_335_32 rfl) ?_
        obtain ⟨S8, e9, h0⟩ := bS h0
        refine m_Rs.dput b_335 d_335_33 h hF 8 rfl e9 (fun w1 h hF => ?_)
        refine m_Rs.n0 b_335 (x_aload_n d_335_34 rfl) ?_
        refine m_Rs.n0 b_335 (x_iload_n d_335_35 rfl) ?_
        obtain ⟨S10, e11, h0⟩ := bS h0
        refine m_Rs.callSv b_335 (y_cv d_335_36 rfl q_296 (m_isRecv_of rfl h.1) (show m_takeI _ _ = some (_, [_, _], []) from rfl) (by simp only [m_okf, List.all_cons, List.all_nil, Bool.and_true, Bool.and_self, m_okv_i, m_okv_l, m_okv_0, m_okv_t, m_okv_at h.1]) rfl) (T_m_trim h e11) hF rfl (fun w1 h hF => ?_) (by decide) (by decide)
        refine m_Rs.n0 b_335 (x_iconst (z := 1) d_335_39 (by decide)) ?_
        exact m_Rs.ret b_335 (m_rt_ir d_335_40 rfl m_nb1) (rP h0 h hF)
      | false =>
        have h0 := cF hc7 h0
        refine m_Rs.n0 b_335 (x_icf d_335_22 rfl hc7) ?_
        refine m_Rs.n0 b_335 (x_iconst (z := 0) d_335_25 (by decide)) ?_
        exact m_Rs.ret b_335 (m_rt_ir d_335_26 rfl m_nb0) (rP h0 h hF)
def D_m_tagSaid (F : Nat) (a0 : Int32) (S : mS) : Option (Int32) := (aget 0 2700 S 627 (((9 : Int32) * a0) + (1 : Int32))).bind fun v1 => (aget 0 2700 S 627 (((9 : Int32) * a0) + (7 : Int32))).bind fun v3 => some (((8 : Int32) * v1) + v3)
theorem T_m_tagSaid {l : Launch} {w : List mM} {F : Nat} {a0 : Int32} {S : mS} {r : Int32} (h : m_RM S w) (h0 : D_m_tagSaid F a0 S = some r) : m_Rs l M_338 (m_ent M_338 [.ref 583, .int a0] w) (fun v w' => v = some (.int r) ∧ m_RM S w' ∧ m_Fq w w') 0 0 0 0 := by
  show m_Rs l M_338 (0, [(0, .ref 583), (1, .int a0)], [], w) _ 0 0 0 0
  generalize hw0 : w = w0 at h ⊢
  have hF : m_Fq w0 w0 := m_Fq.refl
  rw [D_m_tagSaid] at h0
  refine m_Rs.n0 b_338 (x_bipush (z := 8) d_338_0 (by decide)) ?_
  refine m_Rs.n0 b_338 (x_aload_n d_338_2 rfl) ?_
  refine m_Rs.n0 b_338 (x_getf d_338_3 rfl h.1 rfl) ?_
  refine m_Rs.n0 b_338 (x_bipush (z := 9) d_338_6 (by decide)) ?_
  refine m_Rs.n0 b_338 (x_iload_n d_338_8 rfl) ?_
  refine m_Rs.n0 b_338 (x_imul d_338_9 rfl) ?_
  refine m_Rs.n0 b_338 (x_iconst (z := 1) d_338_10 (by decide)) ?_
  refine m_Rs.n0 b_338 (x_iadd d_338_11 rfl) ?_
  obtain ⟨v1, e2, h0⟩ := bS h0
  refine m_Rs.dget b_338 d_338_12 h 43 rfl e2 ?_
  refine m_Rs.n0 b_338 (x_imul d_338_13 rfl) ?_
  refine m_Rs.n0 b_338 (x_aload_n d_338_14 rfl) ?_
  refine m_Rs.n0 b_338 (x_getf d_338_15 rfl h.1 rfl) ?_
  refine m_Rs.n0 b_338 (x_bipush (z := 9) d_338_18 (by decide)) ?_
  refine m_Rs.n0 b_338 (x_iload_n d_338_20 rfl) ?_
  refine m_Rs.n0 b_338 (x_imul d_338_21 rfl) ?_
  refine m_Rs.n0 b_338 (x_bipush (z := 7) d_338_22 (by decide)) ?_
  refine m_Rs.n0 b_338 (x_iadd d_338_24 rfl) ?_
  obtain ⟨v3, e4, h0⟩ := bS h0
  refine m_Rs.dget b_338 d_338_25 h 43 rfl e4 ?_
  refine m_Rs.n0 b_338 (x_iadd d_338_26 rfl) ?_
  exact m_Rs.ret b_338 (m_rt_ir d_338_27 rfl rfl) (rI h0 h hF)
def D_m_bytesOf (F : Nat) (a0 : Int32) (S : mS) : Option (Int32) := (aget 0 2700 S 627 ((9 : Int32) * a0)).bind fun v1 => (aget 0 2700 S 627 (((9 : Int32) * a0) + (3 : Int32))).bind fun v3 => (cond (m_c2 .ne v1 (200 : Int32)) (cond (m_c2 .ne v1 (206 : Int32)) (some (0 : Int32)) ((D_m_tagSaid F a0 S).bind fun v9 => (D_m_endByte F a0 v3 v9 S).bind fun v11 => (D_m_tagSaid F a0 S).bind fun v13 => (D_m_firstByte F a0 v3 v13 S).bind fun v15 => some (v11 - v15))) (some v3)).bind fun v17 => some v17
theorem T_m_bytesOf {l : Launch} {w : List mM} {F : Nat} {a0 : Int32} {S : mS} {r : Int32} (h : m_RM S w) (h0 : D_m_bytesOf F a0 S = some r) : m_Rs l M_337 (m_ent M_337 [.ref 583, .int a0] w) (fun v w' => v = some (.int r) ∧ m_RM S w' ∧ m_Fq w w') 0 0 3 300 := by
  show m_Rs l M_337 (0, [(0, .ref 583), (1, .int a0)], [], w) _ 0 0 3 300
  generalize hw0 : w = w0 at h ⊢
  have hF : m_Fq w0 w0 := m_Fq.refl
  rw [D_m_bytesOf] at h0
  refine m_Rs.n0 b_337 (x_aload_n d_337_0 rfl) ?_
  refine m_Rs.n0 b_337 (x_getf d_337_1 rfl h.1 rfl) ?_
  refine m_Rs.n0 b_337 (x_bipush (z := 9) d_337_4 (by decide)) ?_
  refine m_Rs.n0 b_337 (x_iload_n d_337_6 rfl) ?_
  refine m_Rs.n0 b_337 (x_imul d_337_7 rfl) ?_
  obtain ⟨v1, e2, h0⟩ := bS h0
  refine m_Rs.dget b_337 d_337_8 h 43 rfl e2 ?_
  refine m_Rs.n0 b_337 (x_istore_n d_337_9 rfl (show m_put1 _ _ _ = [(2, _), (0, _), (1, _)] from rfl)) ?_
  refine m_Rs.n0 b_337 (x_aload_n d_337_10 rfl) ?_
  refine m_Rs.n0 b_337 (x_getf d_337_11 rfl h.1 rfl) ?_
  refine m_Rs.n0 b_337 (x_bipush (z := 9) d_337_14 (by decide)) ?_
  refine m_Rs.n0 b_337 (x_iload_n d_337_16 rfl) ?_
  refine m_Rs.n0 b_337 (x_imul d_337_17 rfl) ?_
  refine m_Rs.n0 b_337 (x_iconst (z := 3) d_337_18 (by decide)) ?_
  refine m_Rs.n0 b_337 (x_iadd d_337_19 rfl) ?_
  obtain ⟨v3, e4, h0⟩ := bS h0
  refine m_Rs.dget b_337 d_337_20 h 43 rfl e4 ?_
  refine m_Rs.n0 b_337 (x_istore_n d_337_21 rfl (show m_put1 _ _ _ = [(3, _), (2, _), (0, _), (1, _)] from rfl)) ?_
  refine m_Rs.n0 b_337 (x_iload_n d_337_22 rfl) ?_
  refine m_Rs.n0 b_337 (x_sipush (z := 200) d_337_23 (by decide)) ?_
  obtain ⟨v17, e6, h0⟩ := bS h0
  have kk5 : ∀ (xz : Int32) (w1 : List mM), xz = v17 → m_RM S w1 → m_Fq w0 w1 → m_Rs l M_337 (67, [(3, .int v3), (2, .int v1), (0, .ref 583), (1, .int a0)], [.int xz], w1) (fun v w' => v = some (.int r) ∧ m_RM S w' ∧ m_Fq w0 w') 0 0 3 300 := by
    intro xz w ez h hF
    rw [ez]
    exact m_Rs.ret b_337 (m_rt_ir d_337_67 rfl rfl) (rI h0 h hF)
  cases hc7 : m_c2 .ne v1 (200 : Int32) with
  | true =>
    have e6 := cT hc7 e6
    refine m_Rs.n0 b_337 (x_ict d_337_26 rfl hc7) ?_
    refine m_Rs.n0 b_337 (x_iload_n d_337_33 rfl) ?_
    refine m_Rs.n0 b_337 (x_sipush (z := 206) d_337_34 (by decide)) ?_
    cases hc8 : m_c2 .ne v1 (206 : Int32) with
    | true =>
      have e6 := cT hc8 e6
      refine m_Rs.n0 b_337 (x_ict d_337_37 rfl hc8) ?_
      refine m_Rs.n0 b_337 (x_iconst (z := 0) d_337_66 (by decide)) ?_
      exact kk5 _ _ (Option.some.inj e6) h hF
    | false =>
      have e6 := cF hc8 e6
      refine m_Rs.n0 b_337 (x_icf d_337_37 rfl hc8) ?_
      refine m_Rs.n0 b_337 (x_aload_n d_337_40 rfl) ?_
      refine m_Rs.n0 b_337 (x_iload_n d_337_41 rfl) ?_
      refine m_Rs.n0 b_337 (x_iload_n d_337_42 rfl) ?_
      refine m_Rs.n0 b_337 (x_aload_n d_337_43 rfl) ?_
      refine m_Rs.n0 b_337 (x_iload_n d_337_44 rfl) ?_
      obtain ⟨v9, e10, e6⟩ := bS e6
      refine m_Rs.callS b_337 (y_cv d_337_45 rfl q_338 (m_isRecv_of rfl h.1) (show m_takeI _ _ = some (_, [_, _], [_, _, _]) from rfl) (by simp only [m_okf, List.all_cons, List.all_nil, Bool.and_true, Bool.and_self, m_okv_i, m_okv_l, m_okv_0, m_okv_t, m_okv_at h.1]) rfl) (T_m_tagSaid h e10) hF rfl (fun w1 h hF => ?_) (by decide) (by decide)
      obtain ⟨v11, e12, e6⟩ := bS e6
      refine m_Rs.callS b_337 (y_cv d_337_48 rfl q_290 (m_isRecv_of rfl h.1) (show m_takeI _ _ = some (_, [_, _, _, _], []) from rfl) (by simp only [m_okf, List.all_cons, List.all_nil, Bool.and_true, Bool.and_self, m_okv_i, m_okv_l, m_okv_0, m_okv_t, m_okv_at h.1]) rfl) (T_m_endByte h e12) hF rfl (fun w1 h hF => ?_) (by decide) (by decide)
      refine m_Rs.n0 b_337 (x_aload_n d_337_51 rfl) ?_
      refine m_Rs.n0 b_337 (x_iload_n d_337_52 rfl) ?_
      refine m_Rs.n0 b_337 (x_iload_n d_337_53 rfl) ?_
      refine m_Rs.n0 b_337 (x_aload_n d_337_54 rfl) ?_
      refine m_Rs.n0 b_337 (x_iload_n d_337_55 rfl) ?_
      obtain ⟨v13, e14, e6⟩ := bS e6
      refine m_Rs.callS b_337 (y_cv d_337_56 rfl q_338 (m_isRecv_of rfl h.1) (show m_takeI _ _ = some (_, [_, _], [_, _, _, _]) from rfl) (by simp only [m_okf, List.all_cons, List.all_nil, Bool.and_true, Bool.and_self, m_okv_i, m_okv_l, m_okv_0, m_okv_t, m_okv_at h.1]) rfl) (T_m_tagSaid h e14) hF rfl (fun w1 h hF => ?_) (by decide) (by decide)
      obtain ⟨v15, e16, e6⟩ := bS e6
      refine m_Rs.callS b_337 (y_cv d_337_59 rfl q_288 (m_isRecv_of rfl h.1) (show m_takeI _ _ = some (_, [_, _, _, _], [_]) from rfl) (by simp only [m_okf, List.all_cons, List.all_nil, Bool.and_true, Bool.and_self, m_okv_i, m_okv_l, m_okv_0, m_okv_t, m_okv_at h.1]) rfl) (T_m_firstByte h e16) hF rfl (fun w1 h hF => ?_) (by decide) (by decide)
      refine m_Rs.n0 b_337 (x_isub d_337_62 rfl) ?_
      refine m_Rs.n0 b_337 (x_goto d_337_63 rfl) ?_
      exact kk5 _ _ (Option.some.inj e6) h hF
  | false =>
    have e6 := cF hc7 e6
    refine m_Rs.n0 b_337 (x_icf d_337_26 rfl hc7) ?_
    refine m_Rs.n0 b_337 (x_iload_n d_337_29 rfl) ?_
    refine m_Rs.n0 b_337 (x_goto d_337_30 rfl) ?_
    exact kk5 _ _ (Option.some.inj e6) h hF
def D_m_sayNumber_18 (F : Nat) : Nat → Int32 → Int32 → mS → Option (mS)
  | 0, _, _, _ => none
  | n + 1, x1, x2, S => cond (m_c1 .le x2) (some S) ((idv x1 x2).bind fun v5 => (aput 700 S 629 (S.1 91) ((48 : Int32) + (v5 - v5 / (10 : Int32) * (10 : Int32)))).bind fun S7 => (fput S7 91 ((S7.1 91) + (1 : Int32))).bind fun S9 => D_m_sayNumber_18 F n x1 (x2 / (10 : Int32)) S9)
theorem T_m_sayNumber_18 {l : Launch} {w0 : List mM} {F : Nat} : ∀ (n : Nat) {x1 : Int32} {x2 : Int32} {S : mS} {w : List mM} {r : mS}, m_RM S w → m_Fq w0 w → D_m_sayNumber_18 F n x1 x2 S = some r → m_Rs l M_341 (18, [(0, .ref 583), (1, .int x1), (2, .int x2)], [], w) (fun v w' => v = none ∧ m_RM r w' ∧ m_Fq w0 w') 0 0 0 0 := by
  intro n
  induction n with
  | zero => intro x1 x2 S w r h hF h0; cases h0
  | succ n ih =>
    intro x1 x2 S w r h hF h0
    rw [D_m_sayNumber_18] at h0
    refine m_Rs.n0 b_341 (x_iload_n d_341_18 rfl) ?_
    cases hc4 : m_c1 .le x2 with
    | true =>
      have h0 := cT hc4 h0
      refine m_Rs.n0 b_341 (x_ift d_341_19 rfl hc4) ?_
      exact m_Rs.ret b_341 (m_rt_vr d_341_58 rfl) (rV h0 h hF)
    | false =>
      have h0 := cF hc4 h0
      refine m_Rs.n0 b_341 (x_iff d_341_19 rfl hc4) ?_
      refine m_Rs.n0 b_341 (x_aload_n d_341_22 rfl) ?_
      refine m_Rs.n0 b_341 (x_getf d_341_23 rfl h.1 rfl) ?_
      refine m_Rs.n0 b_341 (x_aload_n d_341_26 rfl) ?_
      refine m_Rs.n0 b_341 (x_getf d_341_27 rfl h.1 rfl) ?_
      refine m_Rs.n0 b_341 (x_bipush (z := 48) d_341_30 (by decide)) ?_
      refine m_Rs.n0 b_341 (x_iload_n d_341_32 rfl) ?_
      refine m_Rs.n0 b_341 (x_iload_n d_341_33 rfl) ?_
      obtain ⟨v5, e6, h0⟩ := bS h0
      refine m_Rs.didv b_341 d_341_34 e6 ?_
      refine m_Rs.n0 b_341 (x_bipush (z := 10) d_341_35 (by decide)) ?_
      refine m_Rs.n0 b_341 (x_irem d_341_37 (by decide) rfl) ?_
      refine m_Rs.n0 b_341 (x_iadd d_341_38 rfl) ?_
      obtain ⟨S7, e8, h0⟩ := bS h0
      refine m_Rs.dput b_341 d_341_39 h hF 45 rfl e8 (fun w1 h hF => ?_)
      refine m_Rs.n0 b_341 (x_aload_n d_341_40 rfl) ?_
      refine m_Rs.n0 b_341 (x_dup d_341_41 rfl) ?_
      refine m_Rs.n0 b_341 (x_getf d_341_42 rfl h.1 rfl) ?_
      refine m_Rs.n0 b_341 (x_iconst (z := 1) d_341_45 (by decide)) ?_
      refine m_Rs.n0 b_341 (x_iadd d_341_46 rfl) ?_
      obtain ⟨S9, e10, h0⟩ := bS h0
      refine m_Rs.dfput b_341 d_341_47 h hF e10 rfl rfl rfl rfl rfl rfl (fun w1 h hF => ?_)
      refine m_Rs.n0 b_341 (x_iload_n d_341_50 rfl) ?_
      refine m_Rs.n0 b_341 (x_bipush (z := 10) d_341_51 (by decide)) ?_
      refine m_Rs.n0 b_341 (x_idiv d_341_53 (by decide) rfl) ?_
      refine m_Rs.n0 b_341 (x_istore_n d_341_54 rfl (show m_put1 _ _ _ = [(2, _), (0, _), (1, _)] from rfl)) ?_
      refine m_Rs.n0 b_341 (x_goto d_341_55 rfl) ?_
      exact m_Rs.pick [1, 2, 0] rfl (ih h hF h0)
def D_m_sayNumber_2 (F : Nat) : Nat → Int32 → Int32 → mS → Option (mS)
  | 0, _, _, _ => none
  | n + 1, x1, x2, S => (idv x1 x2).bind fun v1 => cond (m_c2 .le v1 (9 : Int32)) (D_m_sayNumber_18 F F x1 x2 S) (D_m_sayNumber_2 F n x1 (x2 * (10 : Int32)) S)
theorem T_m_sayNumber_2 {l : Launch} {w0 : List mM} {F : Nat} : ∀ (n : Nat) {x1 : Int32} {x2 : Int32} {S : mS} {w : List mM} {r : mS}, m_RM S w → m_Fq w0 w → D_m_sayNumber_2 F n x1 x2 S = some r → m_Rs l M_341 (2, [(0, .ref 583), (1, .int x1), (2, .int x2)], [], w) (fun v w' => v = none ∧ m_RM r w' ∧ m_Fq w0 w') 0 0 0 0 := by
  intro n
  induction n with
  | zero => intro x1 x2 S w r h hF h0; cases h0
  | succ n ih =>
    intro x1 x2 S w r h hF h0
    rw [D_m_sayNumber_2] at h0
    refine m_Rs.n0 b_341 (x_iload_n d_341_2 rfl) ?_
    refine m_Rs.n0 b_341 (x_iload_n d_341_3 rfl) ?_
    obtain ⟨v1, e2, h0⟩ := bS h0
    refine m_Rs.didv b_341 d_341_4 e2 ?_
    refine m_Rs.n0 b_341 (x_bipush (z := 9) d_341_5 (by decide)) ?_
    cases hc3 : m_c2 .le v1 (9 : Int32) with
    | true =>
      have h0 := cT hc3 h0
      refine m_Rs.n0 b_341 (x_ict d_341_7 rfl hc3) ?_
      exact m_Rs.pick [0, 1, 2] rfl (T_m_sayNumber_18 F h hF h0)
    | false =>
      have h0 := cF hc3 h0
      refine m_Rs.n0 b_341 (x_icf d_341_7 rfl hc3) ?_
      refine m_Rs.n0 b_341 (x_iload_n d_341_10 rfl) ?_
      refine m_Rs.n0 b_341 (x_bipush (z := 10) d_341_11 (by decide)) ?_
      refine m_Rs.n0 b_341 (x_imul d_341_13 rfl) ?_
      refine m_Rs.n0 b_341 (x_istore_n d_341_14 rfl (show m_put1 _ _ _ = [(2, _), (0, _), (1, _)] from rfl)) ?_
      refine m_Rs.n0 b_341 (x_goto d_341_15 rfl) ?_
      exact m_Rs.pick [1, 2, 0] rfl (ih h hF h0)
def D_m_sayNumber (F : Nat) (a0 : Int32) (S : mS) : Option (mS) := D_m_sayNumber_2 F F a0 (1 : Int32) S
theorem T_m_sayNumber {l : Launch} {w : List mM} {F : Nat} {a0 : Int32} {S : mS} {r : mS} (h : m_RM S w) (h0 : D_m_sayNumber F a0 S = some r) : m_Rs l M_341 (m_ent M_341 [.ref 583, .int a0] w) (fun v w' => v = none ∧ m_RM r w' ∧ m_Fq w w') 0 0 0 0 := by
  show m_Rs l M_341 (0, [(0, .ref 583), (1, .int a0)], [], w) _ 0 0 0 0
  generalize hw0 : w = w0 at h ⊢
  have hF : m_Fq w0 w0 := m_Fq.refl
  rw [D_m_sayNumber] at h0
  refine m_Rs.n0 b_341 (x_iconst (z := 1) d_341_0 (by decide)) ?_
  refine m_Rs.n0 b_341 (x_istore_n d_341_1 rfl (show m_put1 _ _ _ = [(2, _), (0, _), (1, _)] from rfl)) ?_
  exact m_Rs.pick [1, 2, 0] rfl (T_m_sayNumber_2 F h hF h0)
def D_m_say_2 (F : Nat) : Nat → Nat → Int32 → mS → Option (mS)
  | 0, _, _, _ => none
  | n + 1, x1, x2, S => (xlen x1).bind fun v1 => cond (m_c2 .ge x2 v1) (some S) ((xchr x1 x2).bind fun v4 => (aput 700 S 629 (S.1 91) v4).bind fun S6 => (fput S6 91 ((S6.1 91) + (1 : Int32))).bind fun S8 => D_m_say_2 F n x1 (x2 + Int32.ofInt 1) S8)
theorem T_m_say_2 {l : Launch} {w0 : List mM} {F : Nat} : ∀ (n : Nat) {x1 : Nat} {x2 : Int32} {S : mS} {w : List mM} {r : mS}, x1 < 512 → m_RM S w → m_Fq w0 w → D_m_say_2 F n x1 x2 S = some r → m_Rs l M_342 (2, [(0, .ref 583), (1, .ref x1), (2, .int x2)], [], w) (fun v w' => v = none ∧ m_RM r w' ∧ m_Fq w0 w') 0 0 4 400 := by
  intro n
  induction n with
  | zero => intro x1 x2 S w r hx1 h hF h0; cases h0
  | succ n ih =>
    intro x1 x2 S w r hx1 h hF h0
    rw [D_m_say_2] at h0
    refine m_Rs.n0 b_342 (x_iload_n d_342_2 rfl) ?_
    refine m_Rs.n0 b_342 (x_aload_n d_342_3 rfl) ?_
    obtain ⟨v1, e2, h0⟩ := bS h0
    refine m_Rs.cxlen b_342 d_342_4 rfl (by simp only [m_okf, List.all_cons, List.all_nil, Bool.and_true, Bool.and_self, m_okv_i, m_okv_l, m_okv_0, m_okv_t, m_okv_at h.1, m_okv_out (a := x1) hx1]) e2 ?_ (Nat.le_of_ble_eq_true rfl) (by decide) (by decide)
    cases hc3 : m_c2 .ge x2 v1 with
    | true =>
      have h0 := cT hc3 h0
      refine m_Rs.n0 b_342 (x_ict d_342_7 rfl hc3) ?_
      exact m_Rs.ret b_342 (m_rt_vr d_342_40 rfl) (rV h0 h hF)
    | false =>
      have h0 := cF hc3 h0
      refine m_Rs.n0 b_342 (x_icf d_342_7 rfl hc3) ?_
      refine m_Rs.n0 b_342 (x_aload_n d_342_10 rfl) ?_
      refine m_Rs.n0 b_342 (x_getf d_342_11 rfl h.1 rfl) ?_
      refine m_Rs.n0 b_342 (x_aload_n d_342_14 rfl) ?_
      refine m_Rs.n0 b_342 (x_getf d_342_15 rfl h.1 rfl) ?_
      refine m_Rs.n0 b_342 (x_aload_n d_342_18 rfl) ?_
      refine m_Rs.n0 b_342 (x_iload_n d_342_19 rfl) ?_
      obtain ⟨v4, e5, h0⟩ := bS h0
      refine m_Rs.cxchr b_342 d_342_20 rfl (by simp only [m_okf, List.all_cons, List.all_nil, Bool.and_true, Bool.and_self, m_okv_i, m_okv_l, m_okv_0, m_okv_t, m_okv_at h.1, m_okv_out (a := x1) hx1, m_okv_at (h.a 45 rfl)]) e5 ?_ (Nat.le_of_ble_eq_true rfl) (by decide) (by decide)
      obtain ⟨S6, e7, h0⟩ := bS h0
      refine m_Rs.dput b_342 d_342_23 h hF 45 rfl e7 (fun w1 h hF => ?_)
      refine m_Rs.n0 b_342 (x_aload_n d_342_24 rfl) ?_
      refine m_Rs.n0 b_342 (x_dup d_342_25 rfl) ?_
      refine m_Rs.n0 b_342 (x_getf d_342_26 rfl h.1 rfl) ?_
      refine m_Rs.n0 b_342 (x_iconst (z := 1) d_342_29 (by decide)) ?_
      refine m_Rs.n0 b_342 (x_iadd d_342_30 rfl) ?_
      obtain ⟨S8, e9, h0⟩ := bS h0
      refine m_Rs.dfput b_342 d_342_31 h hF e9 rfl rfl rfl rfl rfl rfl (fun w1 h hF => ?_)
      refine m_Rs.n0 b_342 (x_iinc d_342_34 rfl rfl rfl (show m_put1 _ _ _ = [(2, _), (0, _), (1, _)] from rfl)) ?_
      refine m_Rs.n0 b_342 (x_goto d_342_37 rfl) ?_
      exact m_Rs.pick [1, 2, 0] rfl (ih hx1 h hF h0)
def D_m_say (F : Nat) (a0 : Nat) (S : mS) : Option (mS) := D_m_say_2 F F a0 (0 : Int32) S
theorem T_m_say {l : Launch} {w : List mM} {F : Nat} {a0 : Nat} {S : mS} {r : mS} (ha0 : a0 < 512) (h : m_RM S w) (h0 : D_m_say F a0 S = some r) : m_Rs l M_342 (m_ent M_342 [.ref 583, .ref a0] w) (fun v w' => v = none ∧ m_RM r w' ∧ m_Fq w w') 0 0 4 400 := by
  show m_Rs l M_342 (0, [(0, .ref 583), (1, .ref a0)], [], w) _ 0 0 4 400
  generalize hw0 : w = w0 at h ⊢
  have hF : m_Fq w0 w0 := m_Fq.refl
  rw [D_m_say] at h0
  refine m_Rs.n0 b_342 (x_iconst (z := 0) d_342_0 (by decide)) ?_
  refine m_Rs.n0 b_342 (x_istore_n d_342_1 rfl (show m_put1 _ _ _ = [(2, _), (0, _), (1, _)] from rfl)) ?_
  exact m_Rs.pick [1, 2, 0] rfl (T_m_say_2 F ha0 h hF h0)
