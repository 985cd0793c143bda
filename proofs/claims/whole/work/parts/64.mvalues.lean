/-! Pure methods of the reference. Written by wip/tool/mvalues.py. -/
theorem q_251 : m_mt[251]? = some M_251 := by rfl
theorem q_254 : m_mt[254]? = some M_254 := by rfl
theorem q_279 : m_mt[279]? = some M_279 := by rfl
theorem q_278 : m_mt[278]? = some M_278 := by rfl
theorem q_292 : m_mt[292]? = some M_292 := by rfl
theorem q_293 : m_mt[293]? = some M_293 := by rfl
theorem q_282 : m_mt[282]? = some M_282 := by rfl
theorem q_289 : m_mt[289]? = some M_289 := by rfl
theorem q_288 : m_mt[288]? = some M_288 := by rfl
theorem q_290 : m_mt[290]? = some M_290 := by rfl
theorem q_287 : m_mt[287]? = some M_287 := by rfl
theorem q_298 : m_mt[298]? = some M_298 := by rfl
theorem q_274 : m_mt[274]? = some M_274 := by rfl
theorem q_303 : m_mt[303]? = some M_303 := by rfl
theorem q_281 : m_mt[281]? = some M_281 := by rfl
theorem q_280 : m_mt[280]? = some M_280 := by rfl
theorem q_291 : m_mt[291]? = some M_291 := by rfl
theorem q_306 : m_mt[306]? = some M_306 := by rfl
theorem b_251 : m_bOk M_251 := (m_mt_ok M_251 (List.mem_of_getElem? q_251)).body
theorem b_254 : m_bOk M_254 := (m_mt_ok M_254 (List.mem_of_getElem? q_254)).body
theorem b_279 : m_bOk M_279 := (m_mt_ok M_279 (List.mem_of_getElem? q_279)).body
theorem b_278 : m_bOk M_278 := (m_mt_ok M_278 (List.mem_of_getElem? q_278)).body
theorem b_292 : m_bOk M_292 := (m_mt_ok M_292 (List.mem_of_getElem? q_292)).body
theorem b_293 : m_bOk M_293 := (m_mt_ok M_293 (List.mem_of_getElem? q_293)).body
theorem b_282 : m_bOk M_282 := (m_mt_ok M_282 (List.mem_of_getElem? q_282)).body
theorem b_289 : m_bOk M_289 := (m_mt_ok M_289 (List.mem_of_getElem? q_289)).body
theorem b_288 : m_bOk M_288 := (m_mt_ok M_288 (List.mem_of_getElem? q_288)).body
theorem b_290 : m_bOk M_290 := (m_mt_ok M_290 (List.mem_of_getElem? q_290)).body
theorem b_287 : m_bOk M_287 := (m_mt_ok M_287 (List.mem_of_getElem? q_287)).body
theorem b_298 : m_bOk M_298 := (m_mt_ok M_298 (List.mem_of_getElem? q_298)).body
theorem b_274 : m_bOk M_274 := (m_mt_ok M_274 (List.mem_of_getElem? q_274)).body
theorem b_303 : m_bOk M_303 := (m_mt_ok M_303 (List.mem_of_getElem? q_303)).body
theorem b_281 : m_bOk M_281 := (m_mt_ok M_281 (List.mem_of_getElem? q_281)).body
theorem b_280 : m_bOk M_280 := (m_mt_ok M_280 (List.mem_of_getElem? q_280)).body
theorem b_291 : m_bOk M_291 := (m_mt_ok M_291 (List.mem_of_getElem? q_291)).body
theorem b_306 : m_bOk M_306 := (m_mt_ok M_306 (List.mem_of_getElem? q_306)).body
theorem d_251_0 : m_dn M_251 0 (.iload_n 0) 1 1 := by decide +kernel
theorem d_251_1 : m_dn M_251 1 (.bipush 48) 2 3 := by decide +kernel
theorem d_251_12 : m_dn M_251 12 (.iconst 1) 1 13 := by decide +kernel
theorem d_251_13 : m_dn M_251 13 (.goto 4) 3 16 := by decide +kernel
theorem d_251_16 : m_dn M_251 16 (.iconst 0) 1 17 := by decide +kernel
theorem d_251_17 : m_dn M_251 17 (.ireturn) 1 18 := by decide +kernel
theorem d_251_3 : m_dn M_251 3 (.if_icmp .lt 13) 3 6 := by decide +kernel
theorem d_251_6 : m_dn M_251 6 (.iload_n 0) 1 7 := by decide +kernel
theorem d_251_7 : m_dn M_251 7 (.bipush 57) 2 9 := by decide +kernel
theorem d_251_9 : m_dn M_251 9 (.if_icmp .gt 7) 3 12 := by decide +kernel
theorem d_254_0 : m_dn M_254 0 (.iload_n 0) 1 1 := by decide +kernel
theorem d_254_1 : m_dn M_254 1 (.bipush 97) 2 3 := by decide +kernel
theorem d_254_12 : m_dn M_254 12 (.iload_n 0) 1 13 := by decide +kernel
theorem d_254_13 : m_dn M_254 13 (.bipush 45) 2 15 := by decide +kernel
theorem d_254_15 : m_dn M_254 15 (.if_icmp .ne 7) 3 18 := by decide +kernel
theorem d_254_18 : m_dn M_254 18 (.iconst 1) 1 19 := by decide +kernel
theorem d_254_19 : m_dn M_254 19 (.goto 4) 3 22 := by decide +kernel
theorem d_254_22 : m_dn M_254 22 (.iconst 0) 1 23 := by decide +kernel
theorem d_254_23 : m_dn M_254 23 (.ireturn) 1 24 := by decide +kernel
theorem d_254_3 : m_dn M_254 3 (.if_icmp .lt 9) 3 6 := by decide +kernel
theorem d_254_6 : m_dn M_254 6 (.iload_n 0) 1 7 := by decide +kernel
theorem d_254_7 : m_dn M_254 7 (.bipush 122) 2 9 := by decide +kernel
theorem d_254_9 : m_dn M_254 9 (.if_icmp .le 9) 3 12 := by decide +kernel
theorem d_274_0 : m_dn M_274 0 (.aload_n 0) 1 1 := by decide +kernel
theorem d_274_1 : m_dn M_274 1 (.getfield 390) 3 4 := by decide +kernel
theorem d_274_10 : m_dn M_274 10 (.imul) 1 11 := by decide +kernel
theorem d_274_11 : m_dn M_274 11 (.iload_n 2) 1 12 := by decide +kernel
theorem d_274_12 : m_dn M_274 12 (.iadd) 1 13 := by decide +kernel
theorem d_274_13 : m_dn M_274 13 (.iconst 1) 1 14 := by decide +kernel
theorem d_274_14 : m_dn M_274 14 (.isub) 1 15 := by decide +kernel
theorem d_274_15 : m_dn M_274 15 (.iaload) 1 16 := by decide +kernel
theorem d_274_16 : m_dn M_274 16 (.if_icmp .ge 7) 3 19 := by decide +kernel
theorem d_274_19 : m_dn M_274 19 (.iconst 1) 1 20 := by decide +kernel
theorem d_274_20 : m_dn M_274 20 (.goto 4) 3 23 := by decide +kernel
theorem d_274_23 : m_dn M_274 23 (.iconst 0) 1 24 := by decide +kernel
theorem d_274_24 : m_dn M_274 24 (.ireturn) 1 25 := by decide +kernel
theorem d_274_4 : m_dn M_274 4 (.aload_n 0) 1 5 := by decide +kernel
theorem d_274_5 : m_dn M_274 5 (.getfield 121) 3 8 := by decide +kernel
theorem d_274_8 : m_dn M_274 8 (.iconst 2) 1 9 := by decide +kernel
theorem d_274_9 : m_dn M_274 9 (.iload_n 1) 1 10 := by decide +kernel
theorem d_278_0 : m_dn M_278 0 (.aload_n 0) 1 1 := by decide +kernel
theorem d_278_1 : m_dn M_278 1 (.getfield 73) 3 4 := by decide +kernel
theorem d_278_10 : m_dn M_278 10 (.iaload) 1 11 := by decide +kernel
theorem d_278_11 : m_dn M_278 11 (.ireturn) 1 12 := by decide +kernel
theorem d_278_4 : m_dn M_278 4 (.bipush 9) 2 6 := by decide +kernel
theorem d_278_6 : m_dn M_278 6 (.iload_n 1) 1 7 := by decide +kernel
theorem d_278_7 : m_dn M_278 7 (.imul) 1 8 := by decide +kernel
theorem d_278_8 : m_dn M_278 8 (.iload_n 2) 1 9 := by decide +kernel
theorem d_278_9 : m_dn M_278 9 (.iadd) 1 10 := by decide +kernel
theorem d_279_0 : m_dn M_279 0 (.iload_n 0) 1 1 := by decide +kernel
theorem d_279_1 : m_dn M_279 1 (.iconst 1) 1 2 := by decide +kernel
theorem d_279_10 : m_dn M_279 10 (.goto 4) 3 13 := by decide +kernel
theorem d_279_13 : m_dn M_279 13 (.iconst 0) 1 14 := by decide +kernel
theorem d_279_14 : m_dn M_279 14 (.iload_n 0) 1 15 := by decide +kernel
theorem d_279_15 : m_dn M_279 15 (.iconst 2) 1 16 := by decide +kernel
theorem d_279_16 : m_dn M_279 16 (.iand) 1 17 := by decide +kernel
theorem d_279_17 : m_dn M_279 17 (.iconst 2) 1 18 := by decide +kernel
theorem d_279_18 : m_dn M_279 18 (.if_icmp .ne 9) 3 21 := by decide +kernel
theorem d_279_2 : m_dn M_279 2 (.iand) 1 3 := by decide +kernel
theorem d_279_21 : m_dn M_279 21 (.iload_n 1) 1 22 := by decide +kernel
theorem d_279_22 : m_dn M_279 22 (.iconst 4) 1 23 := by decide +kernel
theorem d_279_23 : m_dn M_279 23 (.iand) 1 24 := by decide +kernel
theorem d_279_24 : m_dn M_279 24 (.goto 4) 3 27 := by decide +kernel
theorem d_279_27 : m_dn M_279 27 (.iconst 0) 1 28 := by decide +kernel
theorem d_279_28 : m_dn M_279 28 (.iadd) 1 29 := by decide +kernel
theorem d_279_29 : m_dn M_279 29 (.ireturn) 1 30 := by decide +kernel
theorem d_279_3 : m_dn M_279 3 (.iconst 1) 1 4 := by decide +kernel
theorem d_279_4 : m_dn M_279 4 (.if_icmp .ne 9) 3 7 := by decide +kernel
theorem d_279_7 : m_dn M_279 7 (.iload_n 1) 1 8 := by decide +kernel
theorem d_279_8 : m_dn M_279 8 (.iconst 3) 1 9 := by decide +kernel
theorem d_279_9 : m_dn M_279 9 (.iand) 1 10 := by decide +kernel
theorem d_280_0 : m_dn M_280 0 (.iload_n 2) 1 1 := by decide +kernel
theorem d_280_1 : m_dn M_280 1 (.iconst (-1)) 1 2 := by decide +kernel
theorem d_280_10 : m_dn M_280 10 (.iaload) 1 11 := by decide +kernel
theorem d_280_11 : m_dn M_280 11 (.aload_n 0) 1 12 := by decide +kernel
theorem d_280_12 : m_dn M_280 12 (.getfield 131) 3 15 := by decide +kernel
theorem d_280_15 : m_dn M_280 15 (.iload_n 1) 1 16 := by decide +kernel
theorem d_280_16 : m_dn M_280 16 (.bipush 7) 2 18 := by decide +kernel
theorem d_280_18 : m_dn M_280 18 (.iadd) 1 19 := by decide +kernel
theorem d_280_19 : m_dn M_280 19 (.iaload) 1 20 := by decide +kernel
theorem d_280_2 : m_dn M_280 2 (.if_icmp .eq 25) 3 5 := by decide +kernel
theorem d_280_20 : m_dn M_280 20 (.if_icmp .lt 7) 3 23 := by decide +kernel
theorem d_280_23 : m_dn M_280 23 (.iconst 1) 1 24 := by decide +kernel
theorem d_280_24 : m_dn M_280 24 (.goto 4) 3 27 := by decide +kernel
theorem d_280_27 : m_dn M_280 27 (.iconst 0) 1 28 := by decide +kernel
theorem d_280_28 : m_dn M_280 28 (.ireturn) 1 29 := by decide +kernel
theorem d_280_5 : m_dn M_280 5 (.aload_n 0) 1 6 := by decide +kernel
theorem d_280_6 : m_dn M_280 6 (.getfield 76) 3 9 := by decide +kernel
theorem d_280_9 : m_dn M_280 9 (.iload_n 2) 1 10 := by decide +kernel
theorem d_281_0 : m_dn M_281 0 (.aload_n 0) 1 1 := by decide +kernel
theorem d_281_1 : m_dn M_281 1 (.getfield 131) 3 4 := by decide +kernel
theorem d_281_10 : m_dn M_281 10 (.if_icmp .eq 33) 3 13 := by decide +kernel
theorem d_281_13 : m_dn M_281 13 (.aload_n 0) 1 14 := by decide +kernel
theorem d_281_14 : m_dn M_281 14 (.getfield 131) 3 17 := by decide +kernel
theorem d_281_17 : m_dn M_281 17 (.iload_n 1) 1 18 := by decide +kernel
theorem d_281_18 : m_dn M_281 18 (.iconst 2) 1 19 := by decide +kernel
theorem d_281_19 : m_dn M_281 19 (.iadd) 1 20 := by decide +kernel
theorem d_281_20 : m_dn M_281 20 (.iaload) 1 21 := by decide +kernel
theorem d_281_21 : m_dn M_281 21 (.iconst (-1)) 1 22 := by decide +kernel
theorem d_281_22 : m_dn M_281 22 (.if_icmp .eq 25) 3 25 := by decide +kernel
theorem d_281_25 : m_dn M_281 25 (.aload_n 0) 1 26 := by decide +kernel
theorem d_281_26 : m_dn M_281 26 (.aload_n 0) 1 27 := by decide +kernel
theorem d_281_27 : m_dn M_281 27 (.getfield 131) 3 30 := by decide +kernel
theorem d_281_30 : m_dn M_281 30 (.iload_n 1) 1 31 := by decide +kernel
theorem d_281_31 : m_dn M_281 31 (.iconst 2) 1 32 := by decide +kernel
theorem d_281_32 : m_dn M_281 32 (.iadd) 1 33 := by decide +kernel
theorem d_281_33 : m_dn M_281 33 (.iaload) 1 34 := by decide +kernel
theorem d_281_34 : m_dn M_281 34 (.bipush 16) 2 36 := by decide +kernel
theorem d_281_36 : m_dn M_281 36 (.invokevirtual 436) 3 39 := by decide +kernel
theorem d_281_39 : m_dn M_281 39 (.iconst 1) 1 40 := by decide +kernel
theorem d_281_4 : m_dn M_281 4 (.iload_n 1) 1 5 := by decide +kernel
theorem d_281_40 : m_dn M_281 40 (.if_icmp .ne 7) 3 43 := by decide +kernel
theorem d_281_43 : m_dn M_281 43 (.iconst 1) 1 44 := by decide +kernel
theorem d_281_44 : m_dn M_281 44 (.goto 4) 3 47 := by decide +kernel
theorem d_281_47 : m_dn M_281 47 (.iconst 0) 1 48 := by decide +kernel
theorem d_281_48 : m_dn M_281 48 (.ireturn) 1 49 := by decide +kernel
theorem d_281_5 : m_dn M_281 5 (.bipush 8) 2 7 := by decide +kernel
theorem d_281_7 : m_dn M_281 7 (.iadd) 1 8 := by decide +kernel
theorem d_281_8 : m_dn M_281 8 (.iaload) 1 9 := by decide +kernel
theorem d_281_9 : m_dn M_281 9 (.iconst 1) 1 10 := by decide +kernel
theorem d_282_0 : m_dn M_282 0 (.aload_n 0) 1 1 := by decide +kernel
theorem d_282_1 : m_dn M_282 1 (.getfield 124) 3 4 := by decide +kernel
theorem d_282_10 : m_dn M_282 10 (.iaload) 1 11 := by decide +kernel
theorem d_282_11 : m_dn M_282 11 (.ireturn) 1 12 := by decide +kernel
theorem d_282_4 : m_dn M_282 4 (.bipush 23) 2 6 := by decide +kernel
theorem d_282_6 : m_dn M_282 6 (.iload_n 1) 1 7 := by decide +kernel
theorem d_282_7 : m_dn M_282 7 (.imul) 1 8 := by decide +kernel
theorem d_282_8 : m_dn M_282 8 (.iload_n 2) 1 9 := by decide +kernel
theorem d_282_9 : m_dn M_282 9 (.iadd) 1 10 := by decide +kernel
theorem d_287_0 : m_dn M_287 0 (.aload_n 0) 1 1 := by decide +kernel
theorem d_287_1 : m_dn M_287 1 (.iload_n 1) 1 2 := by decide +kernel
theorem d_287_10 : m_dn M_287 10 (.iload_n 3) 1 11 := by decide +kernel
theorem d_287_11 : m_dn M_287 11 (.invokevirtual 446) 3 14 := by decide +kernel
theorem d_287_14 : m_dn M_287 14 (.if_icmp .ge 7) 3 17 := by decide +kernel
theorem d_287_17 : m_dn M_287 17 (.iconst 1) 1 18 := by decide +kernel
theorem d_287_18 : m_dn M_287 18 (.goto 4) 3 21 := by decide +kernel
theorem d_287_2 : m_dn M_287 2 (.iload_n 2) 1 3 := by decide +kernel
theorem d_287_21 : m_dn M_287 21 (.iconst 0) 1 22 := by decide +kernel
theorem d_287_22 : m_dn M_287 22 (.ireturn) 1 23 := by decide +kernel
theorem d_287_3 : m_dn M_287 3 (.iload_n 3) 1 4 := by decide +kernel
theorem d_287_4 : m_dn M_287 4 (.invokevirtual 442) 3 7 := by decide +kernel
theorem d_287_7 : m_dn M_287 7 (.aload_n 0) 1 8 := by decide +kernel
theorem d_287_8 : m_dn M_287 8 (.iload_n 1) 1 9 := by decide +kernel
theorem d_287_9 : m_dn M_287 9 (.iload_n 2) 1 10 := by decide +kernel
theorem d_288_0 : m_dn M_288 0 (.aload_n 0) 1 1 := by decide +kernel
theorem d_288_1 : m_dn M_288 1 (.iload_n 1) 1 2 := by decide +kernel
theorem d_288_10 : m_dn M_288 10 (.ifCond .ne 7) 3 13 := by decide +kernel
theorem d_288_13 : m_dn M_288 13 (.iconst 0) 1 14 := by decide +kernel
theorem d_288_14 : m_dn M_288 14 (.goto 41) 3 17 := by decide +kernel
theorem d_288_17 : m_dn M_288 17 (.iload 4) 2 19 := by decide +kernel
theorem d_288_19 : m_dn M_288 19 (.iconst 3) 1 20 := by decide +kernel
theorem d_288_2 : m_dn M_288 2 (.iload_n 3) 1 3 := by decide +kernel
theorem d_288_20 : m_dn M_288 20 (.if_icmp .ne 29) 3 23 := by decide +kernel
theorem d_288_23 : m_dn M_288 23 (.iload_n 2) 1 24 := by decide +kernel
theorem d_288_24 : m_dn M_288 24 (.aload_n 0) 1 25 := by decide +kernel
theorem d_288_25 : m_dn M_288 25 (.iload_n 1) 1 26 := by decide +kernel
theorem d_288_26 : m_dn M_288 26 (.iconst 4) 1 27 := by decide +kernel
theorem d_288_27 : m_dn M_288 27 (.invokevirtual 436) 3 30 := by decide +kernel
theorem d_288_3 : m_dn M_288 3 (.invokevirtual 439) 3 6 := by decide +kernel
theorem d_288_30 : m_dn M_288 30 (.isub) 1 31 := by decide +kernel
theorem d_288_31 : m_dn M_288 31 (.ifCond .ge 7) 3 34 := by decide +kernel
theorem d_288_34 : m_dn M_288 34 (.iconst 0) 1 35 := by decide +kernel
theorem d_288_35 : m_dn M_288 35 (.goto 20) 3 38 := by decide +kernel
theorem d_288_38 : m_dn M_288 38 (.iload_n 2) 1 39 := by decide +kernel
theorem d_288_39 : m_dn M_288 39 (.aload_n 0) 1 40 := by decide +kernel
theorem d_288_40 : m_dn M_288 40 (.iload_n 1) 1 41 := by decide +kernel
theorem d_288_41 : m_dn M_288 41 (.iconst 4) 1 42 := by decide +kernel
theorem d_288_42 : m_dn M_288 42 (.invokevirtual 436) 3 45 := by decide +kernel
theorem d_288_45 : m_dn M_288 45 (.isub) 1 46 := by decide +kernel
theorem d_288_46 : m_dn M_288 46 (.goto 9) 3 49 := by decide +kernel
theorem d_288_49 : m_dn M_288 49 (.aload_n 0) 1 50 := by decide +kernel
theorem d_288_50 : m_dn M_288 50 (.iload_n 1) 1 51 := by decide +kernel
theorem d_288_51 : m_dn M_288 51 (.iconst 4) 1 52 := by decide +kernel
theorem d_288_52 : m_dn M_288 52 (.invokevirtual 436) 3 55 := by decide +kernel
theorem d_288_55 : m_dn M_288 55 (.ireturn) 1 56 := by decide +kernel
theorem d_288_6 : m_dn M_288 6 (.istore 4) 2 8 := by decide +kernel
theorem d_288_8 : m_dn M_288 8 (.iload 4) 2 10 := by decide +kernel
theorem d_289_0 : m_dn M_289 0 (.aload_n 0) 1 1 := by decide +kernel
theorem d_289_1 : m_dn M_289 1 (.iload_n 1) 1 2 := by decide +kernel
theorem d_289_11 : m_dn M_289 11 (.aload_n 0) 1 12 := by decide +kernel
theorem d_289_12 : m_dn M_289 12 (.iload_n 1) 1 13 := by decide +kernel
theorem d_289_13 : m_dn M_289 13 (.bipush 21) 2 15 := by decide +kernel
theorem d_289_15 : m_dn M_289 15 (.invokevirtual 436) 3 18 := by decide +kernel
theorem d_289_18 : m_dn M_289 18 (.iload_n 2) 1 19 := by decide +kernel
theorem d_289_19 : m_dn M_289 19 (.if_icmp .ne 12) 3 22 := by decide +kernel
theorem d_289_2 : m_dn M_289 2 (.bipush 21) 2 4 := by decide +kernel
theorem d_289_22 : m_dn M_289 22 (.aload_n 0) 1 23 := by decide +kernel
theorem d_289_23 : m_dn M_289 23 (.iload_n 1) 1 24 := by decide +kernel
theorem d_289_24 : m_dn M_289 24 (.iconst 3) 1 25 := by decide +kernel
theorem d_289_25 : m_dn M_289 25 (.invokevirtual 436) 3 28 := by decide +kernel
theorem d_289_28 : m_dn M_289 28 (.goto 4) 3 31 := by decide +kernel
theorem d_289_31 : m_dn M_289 31 (.iconst 0) 1 32 := by decide +kernel
theorem d_289_32 : m_dn M_289 32 (.ireturn) 1 33 := by decide +kernel
theorem d_289_4 : m_dn M_289 4 (.invokevirtual 436) 3 7 := by decide +kernel
theorem d_289_7 : m_dn M_289 7 (.iconst (-1)) 1 8 := by decide +kernel
theorem d_289_8 : m_dn M_289 8 (.if_icmp .eq 14) 3 11 := by decide +kernel
theorem d_290_0 : m_dn M_290 0 (.aload_n 0) 1 1 := by decide +kernel
theorem d_290_1 : m_dn M_290 1 (.iload_n 1) 1 2 := by decide +kernel
theorem d_290_10 : m_dn M_290 10 (.aload_n 0) 1 11 := by decide +kernel
theorem d_290_11 : m_dn M_290 11 (.iload_n 1) 1 12 := by decide +kernel
theorem d_290_12 : m_dn M_290 12 (.iconst 5) 1 13 := by decide +kernel
theorem d_290_13 : m_dn M_290 13 (.invokevirtual 436) 3 16 := by decide +kernel
theorem d_290_16 : m_dn M_290 16 (.iload_n 2) 1 17 := by decide +kernel
theorem d_290_17 : m_dn M_290 17 (.if_icmp .ge 14) 3 20 := by decide +kernel
theorem d_290_2 : m_dn M_290 2 (.iload_n 3) 1 3 := by decide +kernel
theorem d_290_20 : m_dn M_290 20 (.aload_n 0) 1 21 := by decide +kernel
theorem d_290_21 : m_dn M_290 21 (.iload_n 1) 1 22 := by decide +kernel
theorem d_290_22 : m_dn M_290 22 (.iconst 5) 1 23 := by decide +kernel
theorem d_290_23 : m_dn M_290 23 (.invokevirtual 436) 3 26 := by decide +kernel
theorem d_290_26 : m_dn M_290 26 (.iconst 1) 1 27 := by decide +kernel
theorem d_290_27 : m_dn M_290 27 (.iadd) 1 28 := by decide +kernel
theorem d_290_28 : m_dn M_290 28 (.goto 4) 3 31 := by decide +kernel
theorem d_290_3 : m_dn M_290 3 (.invokevirtual 439) 3 6 := by decide +kernel
theorem d_290_31 : m_dn M_290 31 (.iload_n 2) 1 32 := by decide +kernel
theorem d_290_32 : m_dn M_290 32 (.ireturn) 1 33 := by decide +kernel
theorem d_290_6 : m_dn M_290 6 (.iconst 1) 1 7 := by decide +kernel
theorem d_290_7 : m_dn M_290 7 (.if_icmp .ne 24) 3 10 := by decide +kernel
theorem d_291_0 : m_dn M_291 0 (.aload_n 0) 1 1 := by decide +kernel
theorem d_291_1 : m_dn M_291 1 (.getfield 131) 3 4 := by decide +kernel
theorem d_291_10 : m_dn M_291 10 (.iload_n 2) 1 11 := by decide +kernel
theorem d_291_100 : m_dn M_291 100 (.invokevirtual 436) 3 103 := by decide +kernel
theorem d_291_103 : m_dn M_291 103 (.iadd) 1 104 := by decide +kernel
theorem d_291_104 : m_dn M_291 104 (.aload_n 0) 1 105 := by decide +kernel
theorem d_291_105 : m_dn M_291 105 (.iload_n 2) 1 106 := by decide +kernel
theorem d_291_106 : m_dn M_291 106 (.invokevirtual 465) 3 109 := by decide +kernel
theorem d_291_109 : m_dn M_291 109 (.if_icmp .ge 7) 3 112 := by decide +kernel
theorem d_291_11 : m_dn M_291 11 (.invokevirtual 462) 3 14 := by decide +kernel
theorem d_291_112 : m_dn M_291 112 (.iconst 1) 1 113 := by decide +kernel
theorem d_291_113 : m_dn M_291 113 (.goto 4) 3 116 := by decide +kernel
theorem d_291_116 : m_dn M_291 116 (.iconst 0) 1 117 := by decide +kernel
theorem d_291_117 : m_dn M_291 117 (.istore 5) 2 119 := by decide +kernel
theorem d_291_119 : m_dn M_291 119 (.iload 5) 2 121 := by decide +kernel
theorem d_291_121 : m_dn M_291 121 (.ireturn) 1 122 := by decide +kernel
theorem d_291_14 : m_dn M_291 14 (.istore 4) 2 16 := by decide +kernel
theorem d_291_16 : m_dn M_291 16 (.iload 4) 2 18 := by decide +kernel
theorem d_291_18 : m_dn M_291 18 (.aload_n 0) 1 19 := by decide +kernel
theorem d_291_19 : m_dn M_291 19 (.iload_n 2) 1 20 := by decide +kernel
theorem d_291_20 : m_dn M_291 20 (.invokevirtual 465) 3 23 := by decide +kernel
theorem d_291_23 : m_dn M_291 23 (.if_icmp .ge 7) 3 26 := by decide +kernel
theorem d_291_26 : m_dn M_291 26 (.iconst 1) 1 27 := by decide +kernel
theorem d_291_27 : m_dn M_291 27 (.goto 4) 3 30 := by decide +kernel
theorem d_291_30 : m_dn M_291 30 (.iconst 0) 1 31 := by decide +kernel
theorem d_291_31 : m_dn M_291 31 (.istore 5) 2 33 := by decide +kernel
theorem d_291_33 : m_dn M_291 33 (.iload_n 3) 1 34 := by decide +kernel
theorem d_291_34 : m_dn M_291 34 (.iconst (-1)) 1 35 := by decide +kernel
theorem d_291_35 : m_dn M_291 35 (.if_icmp .eq 38) 3 38 := by decide +kernel
theorem d_291_38 : m_dn M_291 38 (.aload_n 0) 1 39 := by decide +kernel
theorem d_291_39 : m_dn M_291 39 (.iload_n 3) 1 40 := by decide +kernel
theorem d_291_4 : m_dn M_291 4 (.iload_n 1) 1 5 := by decide +kernel
theorem d_291_40 : m_dn M_291 40 (.bipush 18) 2 42 := by decide +kernel
theorem d_291_42 : m_dn M_291 42 (.invokevirtual 436) 3 45 := by decide +kernel
theorem d_291_45 : m_dn M_291 45 (.iconst (-1)) 1 46 := by decide +kernel
theorem d_291_46 : m_dn M_291 46 (.if_icmp .eq 27) 3 49 := by decide +kernel
theorem d_291_49 : m_dn M_291 49 (.iload 5) 2 51 := by decide +kernel
theorem d_291_5 : m_dn M_291 5 (.iconst 2) 1 6 := by decide +kernel
theorem d_291_51 : m_dn M_291 51 (.ifCond .eq 19) 3 54 := by decide +kernel
theorem d_291_54 : m_dn M_291 54 (.iload 4) 2 56 := by decide +kernel
theorem d_291_56 : m_dn M_291 56 (.aload_n 0) 1 57 := by decide +kernel
theorem d_291_57 : m_dn M_291 57 (.iload_n 3) 1 58 := by decide +kernel
theorem d_291_58 : m_dn M_291 58 (.bipush 18) 2 60 := by decide +kernel
theorem d_291_6 : m_dn M_291 6 (.iadd) 1 7 := by decide +kernel
theorem d_291_60 : m_dn M_291 60 (.invokevirtual 436) 3 63 := by decide +kernel
theorem d_291_63 : m_dn M_291 63 (.if_icmp .gt 7) 3 66 := by decide +kernel
theorem d_291_66 : m_dn M_291 66 (.iconst 1) 1 67 := by decide +kernel
theorem d_291_67 : m_dn M_291 67 (.goto 4) 3 70 := by decide +kernel
theorem d_291_7 : m_dn M_291 7 (.iaload) 1 8 := by decide +kernel
theorem d_291_70 : m_dn M_291 70 (.iconst 0) 1 71 := by decide +kernel
theorem d_291_71 : m_dn M_291 71 (.istore 5) 2 73 := by decide +kernel
theorem d_291_73 : m_dn M_291 73 (.iload_n 3) 1 74 := by decide +kernel
theorem d_291_74 : m_dn M_291 74 (.iconst (-1)) 1 75 := by decide +kernel
theorem d_291_75 : m_dn M_291 75 (.if_icmp .eq 44) 3 78 := by decide +kernel
theorem d_291_78 : m_dn M_291 78 (.aload_n 0) 1 79 := by decide +kernel
theorem d_291_79 : m_dn M_291 79 (.iload_n 3) 1 80 := by decide +kernel
theorem d_291_8 : m_dn M_291 8 (.istore_n 3) 1 9 := by decide +kernel
theorem d_291_80 : m_dn M_291 80 (.bipush 20) 2 82 := by decide +kernel
theorem d_291_82 : m_dn M_291 82 (.invokevirtual 436) 3 85 := by decide +kernel
theorem d_291_85 : m_dn M_291 85 (.iconst (-1)) 1 86 := by decide +kernel
theorem d_291_86 : m_dn M_291 86 (.if_icmp .eq 33) 3 89 := by decide +kernel
theorem d_291_89 : m_dn M_291 89 (.iload 5) 2 91 := by decide +kernel
theorem d_291_9 : m_dn M_291 9 (.aload_n 0) 1 10 := by decide +kernel
theorem d_291_91 : m_dn M_291 91 (.ifCond .eq 25) 3 94 := by decide +kernel
theorem d_291_94 : m_dn M_291 94 (.iload 4) 2 96 := by decide +kernel
theorem d_291_96 : m_dn M_291 96 (.aload_n 0) 1 97 := by decide +kernel
theorem d_291_97 : m_dn M_291 97 (.iload_n 3) 1 98 := by decide +kernel
theorem d_291_98 : m_dn M_291 98 (.bipush 20) 2 100 := by decide +kernel
theorem d_292_0 : m_dn M_292 0 (.aload_n 0) 1 1 := by decide +kernel
theorem d_292_1 : m_dn M_292 1 (.getfield 79) 3 4 := by decide +kernel
theorem d_292_10 : m_dn M_292 10 (.iadd) 1 11 := by decide +kernel
theorem d_292_11 : m_dn M_292 11 (.aload_n 0) 1 12 := by decide +kernel
theorem d_292_12 : m_dn M_292 12 (.getfield 82) 3 15 := by decide +kernel
theorem d_292_15 : m_dn M_292 15 (.iload_n 1) 1 16 := by decide +kernel
theorem d_292_16 : m_dn M_292 16 (.iaload) 1 17 := by decide +kernel
theorem d_292_17 : m_dn M_292 17 (.isub) 1 18 := by decide +kernel
theorem d_292_18 : m_dn M_292 18 (.ireturn) 1 19 := by decide +kernel
theorem d_292_4 : m_dn M_292 4 (.iload_n 1) 1 5 := by decide +kernel
theorem d_292_5 : m_dn M_292 5 (.iaload) 1 6 := by decide +kernel
theorem d_292_6 : m_dn M_292 6 (.aload_n 0) 1 7 := by decide +kernel
theorem d_292_7 : m_dn M_292 7 (.getfield 390) 3 10 := by decide +kernel
theorem d_293_0 : m_dn M_293 0 (.aload_n 0) 1 1 := by decide +kernel
theorem d_293_1 : m_dn M_293 1 (.iload_n 1) 1 2 := by decide +kernel
theorem d_293_11 : m_dn M_293 11 (.iconst 0) 1 12 := by decide +kernel
theorem d_293_12 : m_dn M_293 12 (.goto 9) 3 15 := by decide +kernel
theorem d_293_15 : m_dn M_293 15 (.aload_n 0) 1 16 := by decide +kernel
theorem d_293_16 : m_dn M_293 16 (.iload_n 1) 1 17 := by decide +kernel
theorem d_293_17 : m_dn M_293 17 (.iconst 2) 1 18 := by decide +kernel
theorem d_293_18 : m_dn M_293 18 (.invokevirtual 431) 3 21 := by decide +kernel
theorem d_293_2 : m_dn M_293 2 (.bipush 6) 2 4 := by decide +kernel
theorem d_293_21 : m_dn M_293 21 (.ireturn) 1 22 := by decide +kernel
theorem d_293_4 : m_dn M_293 4 (.invokevirtual 431) 3 7 := by decide +kernel
theorem d_293_7 : m_dn M_293 7 (.iconst 1) 1 8 := by decide +kernel
theorem d_293_8 : m_dn M_293 8 (.if_icmp .ne 7) 3 11 := by decide +kernel
theorem d_298_0 : m_dn M_298 0 (.bipush 16) 2 2 := by decide +kernel
theorem d_298_10 : m_dn M_298 10 (.invokestatic 407) 3 13 := by decide +kernel
theorem d_298_13 : m_dn M_298 13 (.imul) 1 14 := by decide +kernel
theorem d_298_14 : m_dn M_298 14 (.iadd) 1 15 := by decide +kernel
theorem d_298_15 : m_dn M_298 15 (.ireturn) 1 16 := by decide +kernel
theorem d_298_2 : m_dn M_298 2 (.bipush 16) 2 4 := by decide +kernel
theorem d_298_4 : m_dn M_298 4 (.aload_n 0) 1 5 := by decide +kernel
theorem d_298_5 : m_dn M_298 5 (.getfield 85) 3 8 := by decide +kernel
theorem d_298_8 : m_dn M_298 8 (.iload_n 1) 1 9 := by decide +kernel
theorem d_298_9 : m_dn M_298 9 (.iaload) 1 10 := by decide +kernel
theorem d_303_0 : m_dn M_303 0 (.bipush 8) 2 2 := by decide +kernel
theorem d_303_10 : m_dn M_303 10 (.getfield 542) 3 13 := by decide +kernel
theorem d_303_13 : m_dn M_303 13 (.iadd) 1 14 := by decide +kernel
theorem d_303_14 : m_dn M_303 14 (.ireturn) 1 15 := by decide +kernel
theorem d_303_2 : m_dn M_303 2 (.aload_n 0) 1 3 := by decide +kernel
theorem d_303_3 : m_dn M_303 3 (.getfield 143) 3 6 := by decide +kernel
theorem d_303_6 : m_dn M_303 6 (.iconst 0) 1 7 := by decide +kernel
theorem d_303_7 : m_dn M_303 7 (.iaload) 1 8 := by decide +kernel
theorem d_303_8 : m_dn M_303 8 (.imul) 1 9 := by decide +kernel
theorem d_303_9 : m_dn M_303 9 (.aload_n 0) 1 10 := by decide +kernel
theorem d_306_0 : m_dn M_306 0 (.aload_n 0) 1 1 := by decide +kernel
theorem d_306_1 : m_dn M_306 1 (.getfield 131) 3 4 := by decide +kernel
theorem d_306_10 : m_dn M_306 10 (.iload_n 2) 1 11 := by decide +kernel
theorem d_306_100 : m_dn M_306 100 (.iconst 4) 1 101 := by decide +kernel
theorem d_306_101 : m_dn M_306 101 (.invokevirtual 431) 3 104 := by decide +kernel
theorem d_306_104 : m_dn M_306 104 (.iadd) 1 105 := by decide +kernel
theorem d_306_105 : m_dn M_306 105 (.if_icmp .ge 7) 3 108 := by decide +kernel
theorem d_306_108 : m_dn M_306 108 (.iconst 1) 1 109 := by decide +kernel
theorem d_306_109 : m_dn M_306 109 (.goto 4) 3 112 := by decide +kernel
theorem d_306_11 : m_dn M_306 11 (.invokevirtual 462) 3 14 := by decide +kernel
theorem d_306_112 : m_dn M_306 112 (.iconst 0) 1 113 := by decide +kernel
theorem d_306_113 : m_dn M_306 113 (.ireturn) 1 114 := by decide +kernel
theorem d_306_14 : m_dn M_306 14 (.istore 4) 2 16 := by decide +kernel
theorem d_306_16 : m_dn M_306 16 (.iload_n 3) 1 17 := by decide +kernel
theorem d_306_17 : m_dn M_306 17 (.iconst (-1)) 1 18 := by decide +kernel
theorem d_306_18 : m_dn M_306 18 (.if_icmp .eq 34) 3 21 := by decide +kernel
theorem d_306_21 : m_dn M_306 21 (.aload_n 0) 1 22 := by decide +kernel
theorem d_306_22 : m_dn M_306 22 (.iload_n 3) 1 23 := by decide +kernel
theorem d_306_23 : m_dn M_306 23 (.bipush 19) 2 25 := by decide +kernel
theorem d_306_25 : m_dn M_306 25 (.invokevirtual 436) 3 28 := by decide +kernel
theorem d_306_28 : m_dn M_306 28 (.iconst (-1)) 1 29 := by decide +kernel
theorem d_306_29 : m_dn M_306 29 (.if_icmp .eq 23) 3 32 := by decide +kernel
theorem d_306_32 : m_dn M_306 32 (.iload 4) 2 34 := by decide +kernel
theorem d_306_34 : m_dn M_306 34 (.aload_n 0) 1 35 := by decide +kernel
theorem d_306_35 : m_dn M_306 35 (.iload_n 2) 1 36 := by decide +kernel
theorem d_306_36 : m_dn M_306 36 (.invokevirtual 465) 3 39 := by decide +kernel
theorem d_306_39 : m_dn M_306 39 (.aload_n 0) 1 40 := by decide +kernel
theorem d_306_4 : m_dn M_306 4 (.iload_n 1) 1 5 := by decide +kernel
theorem d_306_40 : m_dn M_306 40 (.iload_n 3) 1 41 := by decide +kernel
theorem d_306_41 : m_dn M_306 41 (.bipush 19) 2 43 := by decide +kernel
theorem d_306_43 : m_dn M_306 43 (.invokevirtual 436) 3 46 := by decide +kernel
theorem d_306_46 : m_dn M_306 46 (.iadd) 1 47 := by decide +kernel
theorem d_306_47 : m_dn M_306 47 (.if_icmp .ge 5) 3 50 := by decide +kernel
theorem d_306_5 : m_dn M_306 5 (.iconst 2) 1 6 := by decide +kernel
theorem d_306_50 : m_dn M_306 50 (.iconst 1) 1 51 := by decide +kernel
theorem d_306_51 : m_dn M_306 51 (.ireturn) 1 52 := by decide +kernel
theorem d_306_52 : m_dn M_306 52 (.iload_n 3) 1 53 := by decide +kernel
theorem d_306_53 : m_dn M_306 53 (.iconst (-1)) 1 54 := by decide +kernel
theorem d_306_54 : m_dn M_306 54 (.if_icmp .eq 25) 3 57 := by decide +kernel
theorem d_306_57 : m_dn M_306 57 (.aload_n 0) 1 58 := by decide +kernel
theorem d_306_58 : m_dn M_306 58 (.iload_n 3) 1 59 := by decide +kernel
theorem d_306_59 : m_dn M_306 59 (.bipush 18) 2 61 := by decide +kernel
theorem d_306_6 : m_dn M_306 6 (.iadd) 1 7 := by decide +kernel
theorem d_306_61 : m_dn M_306 61 (.invokevirtual 436) 3 64 := by decide +kernel
theorem d_306_64 : m_dn M_306 64 (.iconst (-1)) 1 65 := by decide +kernel
theorem d_306_65 : m_dn M_306 65 (.if_icmp .ne 18) 3 68 := by decide +kernel
theorem d_306_68 : m_dn M_306 68 (.aload_n 0) 1 69 := by decide +kernel
theorem d_306_69 : m_dn M_306 69 (.iload_n 3) 1 70 := by decide +kernel
theorem d_306_7 : m_dn M_306 7 (.iaload) 1 8 := by decide +kernel
theorem d_306_70 : m_dn M_306 70 (.bipush 20) 2 72 := by decide +kernel
theorem d_306_72 : m_dn M_306 72 (.invokevirtual 436) 3 75 := by decide +kernel
theorem d_306_75 : m_dn M_306 75 (.iconst (-1)) 1 76 := by decide +kernel
theorem d_306_76 : m_dn M_306 76 (.if_icmp .ne 7) 3 79 := by decide +kernel
theorem d_306_79 : m_dn M_306 79 (.iconst 1) 1 80 := by decide +kernel
theorem d_306_8 : m_dn M_306 8 (.istore_n 3) 1 9 := by decide +kernel
theorem d_306_80 : m_dn M_306 80 (.goto 4) 3 83 := by decide +kernel
theorem d_306_83 : m_dn M_306 83 (.iconst 0) 1 84 := by decide +kernel
theorem d_306_84 : m_dn M_306 84 (.istore 5) 2 86 := by decide +kernel
theorem d_306_86 : m_dn M_306 86 (.iload 5) 2 88 := by decide +kernel
theorem d_306_88 : m_dn M_306 88 (.ifCond .eq 24) 3 91 := by decide +kernel
theorem d_306_9 : m_dn M_306 9 (.aload_n 0) 1 10 := by decide +kernel
theorem d_306_91 : m_dn M_306 91 (.iload 4) 2 93 := by decide +kernel
theorem d_306_93 : m_dn M_306 93 (.aload_n 0) 1 94 := by decide +kernel
theorem d_306_94 : m_dn M_306 94 (.iload_n 2) 1 95 := by decide +kernel
theorem d_306_95 : m_dn M_306 95 (.invokevirtual 465) 3 98 := by decide +kernel
theorem d_306_98 : m_dn M_306 98 (.aload_n 0) 1 99 := by decide +kernel
theorem d_306_99 : m_dn M_306 99 (.iload_n 2) 1 100 := by decide +kernel
def f_M (gm : Nat → Int32) : List Value := [.int (gm 0), .ref 584, .int (gm 2), .int (gm 3), .int (gm 4), .int (gm 5), .int (gm 6), .int (gm 7), .int (gm 8), .int (gm 9), .int (gm 10), .int (gm 11), .int (gm 12), .int (gm 13), .int (gm 14), .int (gm 15), .int (gm 16), .int (gm 17), .int (gm 18), .int (gm 19), .int (gm 20), .ref 585, .ref 586, .int (gm 23), .int (gm 24), .int (gm 25), .int (gm 26), .int (gm 27), .int (gm 28), .int (gm 29), .int (gm 30), .int (gm 31), .ref 587, .ref 588, .ref 589, .ref 590, .int (gm 36), .int (gm 37), .int (gm 38), .int (gm 39), .ref 591, .ref 592, .ref 593, .ref 594, .ref 595, .ref 596, .ref 597, .ref 598, .ref 599, .ref 600, .ref 601, .ref 602, .ref 603, .ref 604, .ref 605, .ref 606, .ref 607, .ref 608, .int (gm 58), .ref 609, .ref 610, .ref 611, .ref 612, .ref 613, .ref 614, .ref 615, .ref 616, .ref 617, .ref 618, .ref 619, .int (gm 70), .int (gm 71), .ref 620, .ref 621, .int (gm 74), .ref 622, .ref 623, .int (gm 77), .ref 624, .ref 625, .int (gm 80), .int (gm 81), .int (gm 82), .ref 626, .int (gm 84), .int (gm 85), .int (gm 86), .int (gm 87), .ref 627, .ref 628, .ref 629, .int (gm 91)]
def m_ix (y : Int32) (N : Nat) : Prop := ¬ y < 0 ∧ y.toNatClampNeg < N
def m_rd (t : Nat) (els : List (Nat × Value)) (y : Int32) : Int32 := m_toI (m_el t els y.toNatClampNeg)
theorem x_ldG {ic : mI → mF → Option mR} {I : mI} {pc pc' a N : Nat} {lv : List (Nat × Value)} {r : List Value} {w : List mM} {y : Int32} {t : Nat} {els : List (Nat × Value)} (hd : m_dn I pc .iaload 1 pc') (hw : m_at w a = some (.inl (t, N, els))) (ht : decide (t = 0) = true) (hi : m_ix y N) : m_nx ic I (pc, lv, .int y :: .ref a :: r, w) = some ((pc', lv, .int (m_rd t els y) :: r, w), 0, 0, 0, 0) := by
  refine x_hs hd rfl rfl rfl ?_
  have h0 : t = 0 := of_decide_eq_true ht
  subst h0
  have h2 : ¬ (y < 0 ∨ N ≤ y.toNatClampNeg) := fun h => h.elim hi.1 (fun h => absurd hi.2 (Nat.not_lt.mpr h))
  have e1 : ¬ ((0 : Nat) = 1) := by decide
  simp only [m_hs, m_ald, hw, m_rd, decide_true]
  rw [if_pos ⟨trivial, h2⟩, if_neg e1]
theorem x_bdG {ic : mI → mF → Option mR} {I : mI} {pc pc' a N : Nat} {lv : List (Nat × Value)} {r : List Value} {w : List mM} {y : Int32} {t : Nat} {els : List (Nat × Value)} (hd : m_dn I pc .baload 1 pc') (hw : m_at w a = some (.inl (t, N, els))) (ht : decide (t = 4) = true) (hi : m_ix y N) : m_nx ic I (pc, lv, .int y :: .ref a :: r, w) = some ((pc', lv, .int (m_rd t els y) :: r, w), 0, 0, 0, 0) := by
  refine x_hs hd rfl rfl rfl ?_
  have h0 : t = 4 := of_decide_eq_true ht
  subst h0
  have h2 : ¬ (y < 0 ∨ N ≤ y.toNatClampNeg) := fun h => h.elim hi.1 (fun h => absurd hi.2 (Nat.not_lt.mpr h))
  have e1 : ¬ ((4 : Nat) = 1) := by decide
  simp only [m_hs, m_ald, hw, m_rd]
  rw [if_pos ⟨by decide, h2⟩, if_neg e1]
def F_isDigit (ch : Int32) : Int32 := (cond (m_c2 .lt ch (48 : Int32)) (0 : Int32) (cond (m_c2 .gt ch (57 : Int32)) (0 : Int32) (1 : Int32)))
theorem P_isDigit {l : Launch} {w : List mM} {ch : Int32}  : m_Rs l M_251 (m_ent M_251 [.int ch] w) (fun v w' => v = some (.int (F_isDigit ch)) ∧ w' = w) 0 0 0 0 := by
  show m_Rs l M_251 (0, [(0, .int ch)], [], w) _ 0 0 0 0
  refine m_Rs.n0 b_251 (x_iload_n d_251_0 rfl) ?_
  refine m_Rs.n0 b_251 (x_bipush (z := 48) d_251_1 (by decide)) ?_
  cases hc1 : m_c2 .lt ch (48 : Int32) with
  | true =>
    refine m_Rs.n0 b_251 (x_ict d_251_3 rfl hc1) ?_
    refine m_Rs.n0 b_251 (x_iconst (z := 0) d_251_16 (by decide)) ?_
    refine m_Rs.ret b_251 (m_rt_ir d_251_17 rfl rfl) ?_
    exact ⟨by simp only [F_isDigit, hc1, cond_true, cond_false], rfl⟩
  | false =>
    refine m_Rs.n0 b_251 (x_icf d_251_3 rfl hc1) ?_
    refine m_Rs.n0 b_251 (x_iload_n d_251_6 rfl) ?_
    refine m_Rs.n0 b_251 (x_bipush (z := 57) d_251_7 (by decide)) ?_
    cases hc2 : m_c2 .gt ch (57 : Int32) with
    | true =>
      refine m_Rs.n0 b_251 (x_ict d_251_9 rfl hc2) ?_
      refine m_Rs.n0 b_251 (x_iconst (z := 0) d_251_16 (by decide)) ?_
      refine m_Rs.ret b_251 (m_rt_ir d_251_17 rfl rfl) ?_
      exact ⟨by simp only [F_isDigit, hc1, hc2, cond_true, cond_false], rfl⟩
    | false =>
      refine m_Rs.n0 b_251 (x_icf d_251_9 rfl hc2) ?_
      refine m_Rs.n0 b_251 (x_iconst (z := 1) d_251_12 (by decide)) ?_
      refine m_Rs.n0 b_251 (x_goto d_251_13 rfl) ?_
      refine m_Rs.ret b_251 (m_rt_ir d_251_17 rfl rfl) ?_
      exact ⟨by simp only [F_isDigit, hc1, hc2, cond_true, cond_false], rfl⟩
def F_isSmall (ch : Int32) : Int32 := (cond (m_c2 .lt ch (97 : Int32)) (cond (m_c2 .ne ch (45 : Int32)) (0 : Int32) (1 : Int32)) (cond (m_c2 .le ch (122 : Int32)) (1 : Int32) (cond (m_c2 .ne ch (45 : Int32)) (0 : Int32) (1 : Int32))))
theorem P_isSmall {l : Launch} {w : List mM} {ch : Int32}  : m_Rs l M_254 (m_ent M_254 [.int ch] w) (fun v w' => v = some (.int (F_isSmall ch)) ∧ w' = w) 0 0 0 0 := by
  show m_Rs l M_254 (0, [(0, .int ch)], [], w) _ 0 0 0 0
  refine m_Rs.n0 b_254 (x_iload_n d_254_0 rfl) ?_
  refine m_Rs.n0 b_254 (x_bipush (z := 97) d_254_1 (by decide)) ?_
  cases hc1 : m_c2 .lt ch (97 : Int32) with
  | true =>
    refine m_Rs.n0 b_254 (x_ict d_254_3 rfl hc1) ?_
    refine m_Rs.n0 b_254 (x_iload_n d_254_12 rfl) ?_
    refine m_Rs.n0 b_254 (x_bipush (z := 45) d_254_13 (by decide)) ?_
    cases hc2 : m_c2 .ne ch (45 : Int32) with
    | true =>
      refine m_Rs.n0 b_254 (x_ict d_254_15 rfl hc2) ?_
      refine m_Rs.n0 b_254 (x_iconst (z := 0) d_254_22 (by decide)) ?_
      refine m_Rs.ret b_254 (m_rt_ir d_254_23 rfl rfl) ?_
      exact ⟨by simp only [F_isSmall, hc1, hc2, cond_true, cond_false], rfl⟩
    | false =>
      refine m_Rs.n0 b_254 (x_icf d_254_15 rfl hc2) ?_
      refine m_Rs.n0 b_254 (x_iconst (z := 1) d_254_18 (by decide)) ?_
      refine m_Rs.n0 b_254 (x_goto d_254_19 rfl) ?_
      refine m_Rs.ret b_254 (m_rt_ir d_254_23 rfl rfl) ?_
      exact ⟨by simp only [F_isSmall, hc1, hc2, cond_true, cond_false], rfl⟩
  | false =>
    refine m_Rs.n0 b_254 (x_icf d_254_3 rfl hc1) ?_
    refine m_Rs.n0 b_254 (x_iload_n d_254_6 rfl) ?_
    refine m_Rs.n0 b_254 (x_bipush (z := 122) d_254_7 (by decide)) ?_
    cases hc3 : m_c2 .le ch (122 : Int32) with
    | true =>
      refine m_Rs.n0 b_254 (x_ict d_254_9 rfl hc3) ?_
      refine m_Rs.n0 b_254 (x_iconst (z := 1) d_254_18 (by decide)) ?_
      refine m_Rs.n0 b_254 (x_goto d_254_19 rfl) ?_
      refine m_Rs.ret b_254 (m_rt_ir d_254_23 rfl rfl) ?_
      exact ⟨by simp only [F_isSmall, hc1, hc3, cond_true, cond_false], rfl⟩
    | false =>
      refine m_Rs.n0 b_254 (x_icf d_254_9 rfl hc3) ?_
      refine m_Rs.n0 b_254 (x_iload_n d_254_12 rfl) ?_
      refine m_Rs.n0 b_254 (x_bipush (z := 45) d_254_13 (by decide)) ?_
      cases hc4 : m_c2 .ne ch (45 : Int32) with
      | true =>
        refine m_Rs.n0 b_254 (x_ict d_254_15 rfl hc4) ?_
        refine m_Rs.n0 b_254 (x_iconst (z := 0) d_254_22 (by decide)) ?_
        refine m_Rs.ret b_254 (m_rt_ir d_254_23 rfl rfl) ?_
        exact ⟨by simp only [F_isSmall, hc1, hc3, hc4, cond_true, cond_false], rfl⟩
      | false =>
        refine m_Rs.n0 b_254 (x_icf d_254_15 rfl hc4) ?_
        refine m_Rs.n0 b_254 (x_iconst (z := 1) d_254_18 (by decide)) ?_
        refine m_Rs.n0 b_254 (x_goto d_254_19 rfl) ?_
        refine m_Rs.ret b_254 (m_rt_ir d_254_23 rfl rfl) ?_
        exact ⟨by simp only [F_isSmall, hc1, hc3, hc4, cond_true, cond_false], rfl⟩
def F_mwhich (vary wants : Int32) : Int32 := (cond (m_c2 .ne (vary &&& (1 : Int32)) (1 : Int32)) (cond (m_c2 .ne (vary &&& (2 : Int32)) (2 : Int32)) ((0 : Int32) + (0 : Int32)) ((0 : Int32) + (wants &&& (4 : Int32)))) (cond (m_c2 .ne (vary &&& (2 : Int32)) (2 : Int32)) ((wants &&& (3 : Int32)) + (0 : Int32)) ((wants &&& (3 : Int32)) + (wants &&& (4 : Int32)))))
theorem P_mwhich {l : Launch} {w : List mM} {vary wants : Int32}  : m_Rs l M_279 (m_ent M_279 [.int vary, .int wants] w) (fun v w' => v = some (.int (F_mwhich vary wants)) ∧ w' = w) 0 0 0 0 := by
  show m_Rs l M_279 (0, [(0, .int vary), (1, .int wants)], [], w) _ 0 0 0 0
  refine m_Rs.n0 b_279 (x_iload_n d_279_0 rfl) ?_
  refine m_Rs.n0 b_279 (x_iconst (z := 1) d_279_1 (by decide)) ?_
  refine m_Rs.n0 b_279 (x_iand d_279_2 rfl) ?_
  refine m_Rs.n0 b_279 (x_iconst (z := 1) d_279_3 (by decide)) ?_
  cases hc1 : m_c2 .ne (vary &&& (1 : Int32)) (1 : Int32) with
  | true =>
    refine m_Rs.n0 b_279 (x_ict d_279_4 rfl hc1) ?_
    refine m_Rs.n0 b_279 (x_iconst (z := 0) d_279_13 (by decide)) ?_
    refine m_Rs.n0 b_279 (x_iload_n d_279_14 rfl) ?_
    refine m_Rs.n0 b_279 (x_iconst (z := 2) d_279_15 (by decide)) ?_
    refine m_Rs.n0 b_279 (x_iand d_279_16 rfl) ?_
    refine m_Rs.n0 b_279 (x_iconst (z := 2) d_279_17 (by decide)) ?_
    cases hc2 : m_c2 .ne (vary &&& (2 : Int32)) (2 : Int32) with
    | true =>
      refine m_Rs.n0 b_279 (x_ict d_279_18 rfl hc2) ?_
      refine m_Rs.n0 b_279 (x_iconst (z := 0) d_279_27 (by decide)) ?_
      refine m_Rs.n0 b_279 (x_iadd d_279_28 rfl) ?_
      refine m_Rs.ret b_279 (m_rt_ir d_279_29 rfl rfl) ?_
      exact ⟨by simp only [F_mwhich, hc1, hc2, cond_true, cond_false], rfl⟩
    | false =>
      refine m_Rs.n0 b_279 (x_icf d_279_18 rfl hc2) ?_
      refine m_Rs.n0 b_279 (x_iload_n d_279_21 rfl) ?_
      refine m_Rs.n0 b_279 (x_iconst (z := 4) d_279_22 (by decide)) ?_
      refine m_Rs.n0 b_279 (x_iand d_279_23 rfl) ?_
      refine m_Rs.n0 b_279 (x_goto d_279_24 rfl) ?_
      refine m_Rs.n0 b_279 (x_iadd d_279_28 rfl) ?_
      refine m_Rs.ret b_279 (m_rt_ir d_279_29 rfl rfl) ?_
      exact ⟨by simp only [F_mwhich, hc1, hc2, cond_true, cond_false], rfl⟩
  | false =>
    refine m_Rs.n0 b_279 (x_icf d_279_4 rfl hc1) ?_
    refine m_Rs.n0 b_279 (x_iload_n d_279_7 rfl) ?_
    refine m_Rs.n0 b_279 (x_iconst (z := 3) d_279_8 (by decide)) ?_
    refine m_Rs.n0 b_279 (x_iand d_279_9 rfl) ?_
    refine m_Rs.n0 b_279 (x_goto d_279_10 rfl) ?_
    refine m_Rs.n0 b_279 (x_iload_n d_279_14 rfl) ?_
    refine m_Rs.n0 b_279 (x_iconst (z := 2) d_279_15 (by decide)) ?_
    refine m_Rs.n0 b_279 (x_iand d_279_16 rfl) ?_
    refine m_Rs.n0 b_279 (x_iconst (z := 2) d_279_17 (by decide)) ?_
    cases hc3 : m_c2 .ne (vary &&& (2 : Int32)) (2 : Int32) with
    | true =>
      refine m_Rs.n0 b_279 (x_ict d_279_18 rfl hc3) ?_
      refine m_Rs.n0 b_279 (x_iconst (z := 0) d_279_27 (by decide)) ?_
      refine m_Rs.n0 b_279 (x_iadd d_279_28 rfl) ?_
      refine m_Rs.ret b_279 (m_rt_ir d_279_29 rfl rfl) ?_
      exact ⟨by simp only [F_mwhich, hc1, hc3, cond_true, cond_false], rfl⟩
    | false =>
      refine m_Rs.n0 b_279 (x_icf d_279_18 rfl hc3) ?_
      refine m_Rs.n0 b_279 (x_iload_n d_279_21 rfl) ?_
      refine m_Rs.n0 b_279 (x_iconst (z := 4) d_279_22 (by decide)) ?_
      refine m_Rs.n0 b_279 (x_iand d_279_23 rfl) ?_
      refine m_Rs.n0 b_279 (x_goto d_279_24 rfl) ?_
      refine m_Rs.n0 b_279 (x_iadd d_279_28 rfl) ?_
      refine m_Rs.ret b_279 (m_rt_ir d_279_29 rfl rfl) ?_
      exact ⟨by simp only [F_mwhich, hc1, hc3, cond_true, cond_false], rfl⟩
def F_mtold (E_entryTold : List (Nat × Value)) (en what : Int32) : Int32 := (m_rd 0 E_entryTold (((9 : Int32) * en) + what))
theorem P_mtold {l : Launch} {w : List mM} {gm : Nat → Int32} {E_entryTold : List (Nat × Value)} {en what : Int32} (h_583 : m_at w 583 = some (.inr (14, f_M gm))) (h_603 : m_at w 603 = some (.inl (0, 64512, E_entryTold))) (g1 : m_ix (((9 : Int32) * en) + what) 64512) : m_Rs l M_278 (m_ent M_278 [.ref 583, .int en, .int what] w) (fun v w' => v = some (.int (F_mtold E_entryTold en what)) ∧ w' = w) 0 0 0 0 := by
  show m_Rs l M_278 (0, [(0, .ref 583), (1, .int en), (2, .int what)], [], w) _ 0 0 0 0
  refine m_Rs.n0 b_278 (x_aload_n d_278_0 rfl) ?_
  refine m_Rs.n0 b_278 (x_getf d_278_1 rfl h_583 rfl) ?_
  refine m_Rs.n0 b_278 (x_bipush (z := 9) d_278_4 (by decide)) ?_
  refine m_Rs.n0 b_278 (x_iload_n d_278_6 rfl) ?_
  refine m_Rs.n0 b_278 (x_imul d_278_7 rfl) ?_
  refine m_Rs.n0 b_278 (x_iload_n d_278_8 rfl) ?_
  refine m_Rs.n0 b_278 (x_iadd d_278_9 rfl) ?_
  refine m_Rs.n0 b_278 (x_ldG d_278_10 h_603 rfl ((g1))) ?_
  refine m_Rs.ret b_278 (m_rt_ir d_278_11 rfl rfl) ?_
  exact ⟨by simp only [F_mtold], rfl⟩
def F_mage (gm : Nat → Int32) (E_age E_since : List (Nat × Value)) (en : Int32) : Int32 := (((m_rd 0 E_age en) + (gm 36)) - (m_rd 0 E_since en))
theorem P_mage {l : Launch} {w : List mM} {gm : Nat → Int32} {E_age E_since : List (Nat × Value)} {en : Int32} (h_583 : m_at w 583 = some (.inr (14, f_M gm))) (h_605 : m_at w 605 = some (.inl (0, 7168, E_age))) (h_606 : m_at w 606 = some (.inl (0, 7168, E_since))) (g1 : m_ix en 7168) (g2 : m_ix en 7168) : m_Rs l M_292 (m_ent M_292 [.ref 583, .int en] w) (fun v w' => v = some (.int (F_mage gm E_age E_since en)) ∧ w' = w) 0 0 0 0 := by
  show m_Rs l M_292 (0, [(0, .ref 583), (1, .int en)], [], w) _ 0 0 0 0
  refine m_Rs.n0 b_292 (x_aload_n d_292_0 rfl) ?_
  refine m_Rs.n0 b_292 (x_getf d_292_1 rfl h_583 rfl) ?_
  refine m_Rs.n0 b_292 (x_iload_n d_292_4 rfl) ?_
  refine m_Rs.n0 b_292 (x_ldG d_292_5 h_605 rfl ((g1))) ?_
  refine m_Rs.n0 b_292 (x_aload_n d_292_6 rfl) ?_
  refine m_Rs.n0 b_292 (x_getf d_292_7 rfl h_583 rfl) ?_
  refine m_Rs.n0 b_292 (x_iadd d_292_10 rfl) ?_
  refine m_Rs.n0 b_292 (x_aload_n d_292_11 rfl) ?_
  refine m_Rs.n0 b_292 (x_getf d_292_12 rfl h_583 rfl) ?_
  refine m_Rs.n0 b_292 (x_iload_n d_292_15 rfl) ?_
  refine m_Rs.n0 b_292 (x_ldG d_292_16 h_606 rfl ((g2))) ?_
  refine m_Rs.n0 b_292 (x_isub d_292_17 rfl) ?_
  refine m_Rs.ret b_292 (m_rt_ir d_292_18 rfl rfl) ?_
  exact ⟨by simp only [F_mage], rfl⟩
def F_mlife (E_entryTold : List (Nat × Value)) (en : Int32) : Int32 := (cond (m_c2 .ne (F_mtold E_entryTold en (6 : Int32)) (1 : Int32)) (F_mtold E_entryTold en (2 : Int32)) (0 : Int32))
theorem P_mlife {l : Launch} {w : List mM} {gm : Nat → Int32} {E_entryTold : List (Nat × Value)} {en : Int32} (h_583 : m_at w 583 = some (.inr (14, f_M gm))) (h_603 : m_at w 603 = some (.inl (0, 64512, E_entryTold))) (g1 : m_ix (((9 : Int32) * en) + (6 : Int32)) 64512) (g2 : m_c2 .ne (F_mtold E_entryTold en (6 : Int32)) (1 : Int32) = true → m_ix (((9 : Int32) * en) + (2 : Int32)) 64512) : m_Rs l M_293 (m_ent M_293 [.ref 583, .int en] w) (fun v w' => v = some (.int (F_mlife E_entryTold en)) ∧ w' = w) 0 0 1 100 := by
  show m_Rs l M_293 (0, [(0, .ref 583), (1, .int en)], [], w) _ 0 0 1 100
  refine m_Rs.n0 b_293 (x_aload_n d_293_0 rfl) ?_
  refine m_Rs.n0 b_293 (x_iload_n d_293_1 rfl) ?_
  refine m_Rs.n0 b_293 (x_bipush (z := 6) d_293_2 (by decide)) ?_
  refine m_Rs.callE b_293 (y_cv d_293_4 rfl q_278 (m_isRecv_of rfl h_583) (show m_takeI _ _ = some (_, [_, _, _], []) from rfl) (by simp only [m_okf, List.all_cons, List.all_nil, Bool.and_true, Bool.and_self, m_okv_i, m_okv_l, m_okv_0, m_okv_t, m_okv_at h_583]) rfl) (P_mtold h_583 h_603 (g1)) rfl ?_ (by decide) (by decide)
  refine m_Rs.n0 b_293 (x_iconst (z := 1) d_293_7 (by decide)) ?_
  cases hc1 : m_c2 .ne (F_mtold E_entryTold en (6 : Int32)) (1 : Int32) with
  | true =>
    refine m_Rs.n0 b_293 (x_ict d_293_8 rfl hc1) ?_
    refine m_Rs.n0 b_293 (x_aload_n d_293_15 rfl) ?_
    refine m_Rs.n0 b_293 (x_iload_n d_293_16 rfl) ?_
    refine m_Rs.n0 b_293 (x_iconst (z := 2) d_293_17 (by decide)) ?_
    refine m_Rs.callE b_293 (y_cv d_293_18 rfl q_278 (m_isRecv_of rfl h_583) (show m_takeI _ _ = some (_, [_, _, _], []) from rfl) (by simp only [m_okf, List.all_cons, List.all_nil, Bool.and_true, Bool.and_self, m_okv_i, m_okv_l, m_okv_0, m_okv_t, m_okv_at h_583]) rfl) (P_mtold h_583 h_603 (g2 hc1)) rfl ?_ (by decide) (by decide)
    refine m_Rs.ret b_293 (m_rt_ir d_293_21 rfl rfl) ?_
    exact ⟨by simp only [F_mlife, hc1, cond_true, cond_false], rfl⟩
  | false =>
    refine m_Rs.n0 b_293 (x_icf d_293_8 rfl hc1) ?_
    refine m_Rs.n0 b_293 (x_iconst (z := 0) d_293_11 (by decide)) ?_
    refine m_Rs.n0 b_293 (x_goto d_293_12 rfl) ?_
    refine m_Rs.ret b_293 (m_rt_ir d_293_21 rfl rfl) ?_
    exact ⟨by simp only [F_mlife, hc1, cond_true, cond_false], rfl⟩
def F_masks (E_requests : List (Nat × Value)) (rq what : Int32) : Int32 := (m_rd 0 E_requests (((23 : Int32) * rq) + what))
theorem P_masks {l : Launch} {w : List mM} {gm : Nat → Int32} {E_requests : List (Nat × Value)} {rq what : Int32} (h_583 : m_at w 583 = some (.inr (14, f_M gm))) (h_620 : m_at w 620 = some (.inl (0, 6900, E_requests))) (g1 : m_ix (((23 : Int32) * rq) + what) 6900) : m_Rs l M_282 (m_ent M_282 [.ref 583, .int rq, .int what] w) (fun v w' => v = some (.int (F_masks E_requests rq what)) ∧ w' = w) 0 0 0 0 := by
  show m_Rs l M_282 (0, [(0, .ref 583), (1, .int rq), (2, .int what)], [], w) _ 0 0 0 0
  refine m_Rs.n0 b_282 (x_aload_n d_282_0 rfl) ?_
  refine m_Rs.n0 b_282 (x_getf d_282_1 rfl h_583 rfl) ?_
  refine m_Rs.n0 b_282 (x_bipush (z := 23) d_282_4 (by decide)) ?_
  refine m_Rs.n0 b_282 (x_iload_n d_282_6 rfl) ?_
  refine m_Rs.n0 b_282 (x_imul d_282_7 rfl) ?_
  refine m_Rs.n0 b_282 (x_iload_n d_282_8 rfl) ?_
  refine m_Rs.n0 b_282 (x_iadd d_282_9 rfl) ?_
  refine m_Rs.n0 b_282 (x_ldG d_282_10 h_620 rfl ((g1))) ?_
  refine m_Rs.ret b_282 (m_rt_ir d_282_11 rfl rfl) ?_
  exact ⟨by simp only [F_masks], rfl⟩
def F_mrange (E_requests : List (Nat × Value)) (rq tag : Int32) : Int32 := (cond (m_c2 .eq (F_masks E_requests rq (21 : Int32)) ((-1) : Int32)) (F_masks E_requests rq (3 : Int32)) (cond (m_c2 .ne (F_masks E_requests rq (21 : Int32)) tag) (0 : Int32) (F_masks E_requests rq (3 : Int32))))
theorem P_mrange {l : Launch} {w : List mM} {gm : Nat → Int32} {E_requests : List (Nat × Value)} {rq tag : Int32} (h_583 : m_at w 583 = some (.inr (14, f_M gm))) (h_620 : m_at w 620 = some (.inl (0, 6900, E_requests))) (g1 : m_ix (((23 : Int32) * rq) + (21 : Int32)) 6900) (g2 : m_c2 .eq (F_masks E_requests rq (21 : Int32)) ((-1) : Int32) = true → m_ix (((23 : Int32) * rq) + (3 : Int32)) 6900) (g3 : m_c2 .eq (F_masks E_requests rq (21 : Int32)) ((-1) : Int32) = false → m_ix (((23 : Int32) * rq) + (21 : Int32)) 6900) (g4 : m_c2 .eq (F_masks E_requests rq (21 : Int32)) ((-1) : Int32) = false → m_c2 .ne (F_masks E_requests rq (21 : Int32)) tag = false → m_ix (((23 : Int32) * rq) + (3 : Int32)) 6900) : m_Rs l M_289 (m_ent M_289 [.ref 583, .int rq, .int tag] w) (fun v w' => v = some (.int (F_mrange E_requests rq tag)) ∧ w' = w) 0 0 1 100 := by
  show m_Rs l M_289 (0, [(0, .ref 583), (1, .int rq), (2, .int tag)], [], w) _ 0 0 1 100
  refine m_Rs.n0 b_289 (x_aload_n d_289_0 rfl) ?_
  refine m_Rs.n0 b_289 (x_iload_n d_289_1 rfl) ?_
  refine m_Rs.n0 b_289 (x_bipush (z := 21) d_289_2 (by decide)) ?_
  refine m_Rs.callE b_289 (y_cv d_289_4 rfl q_282 (m_isRecv_of rfl h_583) (show m_takeI _ _ = some (_, [_, _, _], []) from rfl) (by simp only [m_okf, List.all_cons, List.all_nil, Bool.and_true, Bool.and_self, m_okv_i, m_okv_l, m_okv_0, m_okv_t, m_okv_at h_583]) rfl) (P_masks h_583 h_620 (g1)) rfl ?_ (by decide) (by decide)
  refine m_Rs.n0 b_289 (x_iconst (z := (-1)) d_289_7 (by decide)) ?_
  cases hc1 : m_c2 .eq (F_masks E_requests rq (21 : Int32)) ((-1) : Int32) with
  | true =>
    refine m_Rs.n0 b_289 (x_ict d_289_8 rfl hc1) ?_
    refine m_Rs.n0 b_289 (x_aload_n d_289_22 rfl) ?_
    refine m_Rs.n0 b_289 (x_iload_n d_289_23 rfl) ?_
    refine m_Rs.n0 b_289 (x_iconst (z := 3) d_289_24 (by decide)) ?_
    refine m_Rs.callE b_289 (y_cv d_289_25 rfl q_282 (m_isRecv_of rfl h_583) (show m_takeI _ _ = some (_, [_, _, _], []) from rfl) (by simp only [m_okf, List.all_cons, List.all_nil, Bool.and_true, Bool.and_self, m_okv_i, m_okv_l, m_okv_0, m_okv_t, m_okv_at h_583]) rfl) (P_masks h_583 h_620 (g2 hc1)) rfl ?_ (by decide) (by decide)
    refine m_Rs.n0 b_289 (x_goto d_289_28 rfl) ?_
    refine m_Rs.ret b_289 (m_rt_ir d_289_32 rfl rfl) ?_
    exact ⟨by simp only [F_mrange, hc1, cond_true, cond_false], rfl⟩
  | false =>
    refine m_Rs.n0 b_289 (x_icf d_289_8 rfl hc1) ?_
    refine m_Rs.n0 b_289 (x_aload_n d_289_11 rfl) ?_
    refine m_Rs.n0 b_289 (x_iload_n d_289_12 rfl) ?_
    refine m_Rs.n0 b_289 (x_bipush (z := 21) d_289_13 (by decide)) ?_
    refine m_Rs.callE b_289 (y_cv d_289_15 rfl q_282 (m_isRecv_of rfl h_583) (show m_takeI _ _ = some (_, [_, _, _], []) from rfl) (by simp only [m_okf, List.all_cons, List.all_nil, Bool.and_true, Bool.and_self, m_okv_i, m_okv_l, m_okv_0, m_okv_t, m_okv_at h_583]) rfl) (P_masks h_583 h_620 (g3 hc1)) rfl ?_ (by decide) (by decide)
    refine m_Rs.n0 b_289 (x_iload_n d_289_18 rfl) ?_
    cases hc2 : m_c2 .ne (F_masks E_requests rq (21 : Int32)) tag with
    | true =>
      refine m_Rs.n0 b_289 (x_ict d_289_19 rfl hc2) ?_
      refine m_Rs.n0 b_289 (x_iconst (z := 0) d_289_31 (by decide)) ?_
      refine m_Rs.ret b_289 (m_rt_ir d_289_32 rfl rfl) ?_
      exact ⟨by simp only [F_mrange, hc1, hc2, cond_true, cond_false], rfl⟩
    | false =>
      refine m_Rs.n0 b_289 (x_icf d_289_19 rfl hc2) ?_
      refine m_Rs.n0 b_289 (x_aload_n d_289_22 rfl) ?_
      refine m_Rs.n0 b_289 (x_iload_n d_289_23 rfl) ?_
      refine m_Rs.n0 b_289 (x_iconst (z := 3) d_289_24 (by decide)) ?_
      refine m_Rs.callE b_289 (y_cv d_289_25 rfl q_282 (m_isRecv_of rfl h_583) (show m_takeI _ _ = some (_, [_, _, _], []) from rfl) (by simp only [m_okf, List.all_cons, List.all_nil, Bool.and_true, Bool.and_self, m_okv_i, m_okv_l, m_okv_0, m_okv_t, m_okv_at h_583]) rfl) (P_masks h_583 h_620 (g4 hc1 hc2)) rfl ?_ (by decide) (by decide)
      refine m_Rs.n0 b_289 (x_goto d_289_28 rfl) ?_
      refine m_Rs.ret b_289 (m_rt_ir d_289_32 rfl rfl) ?_
      exact ⟨by simp only [F_mrange, hc1, hc2, cond_true, cond_false], rfl⟩
def F_mfirst (E_requests : List (Nat × Value)) (rq size tag : Int32) : Int32 := (cond (m_c1 .ne (F_mrange E_requests rq tag)) (cond (m_c2 .ne (F_mrange E_requests rq tag) (3 : Int32)) (F_masks E_requests rq (4 : Int32)) (cond (m_c1 .ge (size - (F_masks E_requests rq (4 : Int32)))) (size - (F_masks E_requests rq (4 : Int32))) (0 : Int32))) (0 : Int32))
theorem P_mfirst {l : Launch} {w : List mM} {gm : Nat → Int32} {E_requests : List (Nat × Value)} {rq size tag : Int32} (h_583 : m_at w 583 = some (.inr (14, f_M gm))) (h_620 : m_at w 620 = some (.inl (0, 6900, E_requests))) (g1 : m_ix (((23 : Int32) * rq) + (21 : Int32)) 6900) (g2 : m_c2 .eq (F_masks E_requests rq (21 : Int32)) ((-1) : Int32) = true → m_ix (((23 : Int32) * rq) + (3 : Int32)) 6900) (g3 : m_c2 .eq (F_masks E_requests rq (21 : Int32)) ((-1) : Int32) = false → m_ix (((23 : Int32) * rq) + (21 : Int32)) 6900) (g4 : m_c2 .eq (F_masks E_requests rq (21 : Int32)) ((-1) : Int32) = false → m_c2 .ne (F_masks E_requests rq (21 : Int32)) tag = false → m_ix (((23 : Int32) * rq) + (3 : Int32)) 6900) (g5 : m_c1 .ne (F_mrange E_requests rq tag) = true → m_c2 .ne (F_mrange E_requests rq tag) (3 : Int32) = true → m_ix (((23 : Int32) * rq) + (4 : Int32)) 6900) (g6 : m_c1 .ne (F_mrange E_requests rq tag) = true → m_c2 .ne (F_mrange E_requests rq tag) (3 : Int32) = false → m_ix (((23 : Int32) * rq) + (4 : Int32)) 6900) (g7 : m_c1 .ne (F_mrange E_requests rq tag) = true → m_c2 .ne (F_mrange E_requests rq tag) (3 : Int32) = false → m_c1 .ge (size - (F_masks E_requests rq (4 : Int32))) = true → m_ix (((23 : Int32) * rq) + (4 : Int32)) 6900) : m_Rs l M_288 (m_ent M_288 [.ref 583, .int rq, .int size, .int tag] w) (fun v w' => v = some (.int (F_mfirst E_requests rq size tag)) ∧ w' = w) 0 0 2 200 := by
  show m_Rs l M_288 (0, [(0, .ref 583), (1, .int rq), (2, .int size), (3, .int tag)], [], w) _ 0 0 2 200
  refine m_Rs.n0 b_288 (x_aload_n d_288_0 rfl) ?_
  refine m_Rs.n0 b_288 (x_iload_n d_288_1 rfl) ?_
  refine m_Rs.n0 b_288 (x_iload_n d_288_2 rfl) ?_
  refine m_Rs.callE b_288 (y_cv d_288_3 rfl q_289 (m_isRecv_of rfl h_583) (show m_takeI _ _ = some (_, [_, _, _], []) from rfl) (by simp only [m_okf, List.all_cons, List.all_nil, Bool.and_true, Bool.and_self, m_okv_i, m_okv_l, m_okv_0, m_okv_t, m_okv_at h_583]) rfl) (P_mrange h_583 h_620 (g1) (g2) (g3) (g4)) rfl ?_ (by decide) (by decide)
  refine m_Rs.n0 b_288 (x_istore d_288_6 rfl (show m_put1 _ _ _ = [(4, _), (0, _), (1, _), (2, _), (3, _)] from rfl)) ?_
  refine m_Rs.n0 b_288 (x_iload d_288_8 rfl) ?_
  cases hc1 : m_c1 .ne (F_mrange E_requests rq tag) with
  | true =>
    refine m_Rs.n0 b_288 (x_ift d_288_10 rfl hc1) ?_
    refine m_Rs.n0 b_288 (x_iload d_288_17 rfl) ?_
    refine m_Rs.n0 b_288 (x_iconst (z := 3) d_288_19 (by decide)) ?_
    cases hc2 : m_c2 .ne (F_mrange E_requests rq tag) (3 : Int32) with
    | true =>
      refine m_Rs.n0 b_288 (x_ict d_288_20 rfl hc2) ?_
      refine m_Rs.n0 b_288 (x_aload_n d_288_49 rfl) ?_
      refine m_Rs.n0 b_288 (x_iload_n d_288_50 rfl) ?_
      refine m_Rs.n0 b_288 (x_iconst (z := 4) d_288_51 (by decide)) ?_
      refine m_Rs.callE b_288 (y_cv d_288_52 rfl q_282 (m_isRecv_of rfl h_583) (show m_takeI _ _ = some (_, [_, _, _], []) from rfl) (by simp only [m_okf, List.all_cons, List.all_nil, Bool.and_true, Bool.and_self, m_okv_i, m_okv_l, m_okv_0, m_okv_t, m_okv_at h_583]) rfl) (P_masks h_583 h_620 (g5 hc1 hc2)) rfl ?_ (by decide) (by decide)
      refine m_Rs.ret b_288 (m_rt_ir d_288_55 rfl rfl) ?_
      exact ⟨by simp only [F_mfirst, hc1, hc2, cond_true, cond_false], rfl⟩
    | false =>
      refine m_Rs.n0 b_288 (x_icf d_288_20 rfl hc2) ?_
      refine m_Rs.n0 b_288 (x_iload_n d_288_23 rfl) ?_
      refine m_Rs.n0 b_288 (x_aload_n d_288_24 rfl) ?_
      refine m_Rs.n0 b_288 (x_iload_n d_288_25 rfl) ?_
      refine m_Rs.n0 b_288 (x_iconst (z := 4) d_288_26 (by decide)) ?_
      refine m_Rs.callE b_288 (y_cv d_288_27 rfl q_282 (m_isRecv_of rfl h_583) (show m_takeI _ _ = some (_, [_, _, _], [_]) from rfl) (by simp only [m_okf, List.all_cons, List.all_nil, Bool.and_true, Bool.and_self, m_okv_i, m_okv_l, m_okv_0, m_okv_t, m_okv_at h_583]) rfl) (P_masks h_583 h_620 (g6 hc1 hc2)) rfl ?_ (by decide) (by decide)
      refine m_Rs.n0 b_288 (x_isub d_288_30 rfl) ?_
      cases hc3 : m_c1 .ge (size - (F_masks E_requests rq (4 : Int32))) with
      | true =>
        refine m_Rs.n0 b_288 (x_ift d_288_31 rfl hc3) ?_
        refine m_Rs.n0 b_288 (x_iload_n d_288_38 rfl) ?_
        refine m_Rs.n0 b_288 (x_aload_n d_288_39 rfl) ?_
        refine m_Rs.n0 b_288 (x_iload_n d_288_40 rfl) ?_
        refine m_Rs.n0 b_288 (x_iconst (z := 4) d_288_41 (by decide)) ?_
        refine m_Rs.callE b_288 (y_cv d_288_42 rfl q_282 (m_isRecv_of rfl h_583) (show m_takeI _ _ = some (_, [_, _, _], [_]) from rfl) (by simp only [m_okf, List.all_cons, List.all_nil, Bool.and_true, Bool.and_self, m_okv_i, m_okv_l, m_okv_0, m_okv_t, m_okv_at h_583]) rfl) (P_masks h_583 h_620 (g7 hc1 hc2 hc3)) rfl ?_ (by decide) (by decide)
        refine m_Rs.n0 b_288 (x_isub d_288_45 rfl) ?_
        refine m_Rs.n0 b_288 (x_goto d_288_46 rfl) ?_
        refine m_Rs.ret b_288 (m_rt_ir d_288_55 rfl rfl) ?_
        exact ⟨by simp only [F_mfirst, hc1, hc2, hc3, cond_true, cond_false], rfl⟩
      | false =>
        refine m_Rs.n0 b_288 (x_iff d_288_31 rfl hc3) ?_
        refine m_Rs.n0 b_288 (x_iconst (z := 0) d_288_34 (by decide)) ?_
        refine m_Rs.n0 b_288 (x_goto d_288_35 rfl) ?_
        refine m_Rs.ret b_288 (m_rt_ir d_288_55 rfl rfl) ?_
        exact ⟨by simp only [F_mfirst, hc1, hc2, hc3, cond_true, cond_false], rfl⟩
  | false =>
    refine m_Rs.n0 b_288 (x_iff d_288_10 rfl hc1) ?_
    refine m_Rs.n0 b_288 (x_iconst (z := 0) d_288_13 (by decide)) ?_
    refine m_Rs.n0 b_288 (x_goto d_288_14 rfl) ?_
    refine m_Rs.ret b_288 (m_rt_ir d_288_55 rfl rfl) ?_
    exact ⟨by simp only [F_mfirst, hc1, cond_true, cond_false], rfl⟩
def F_mend (E_requests : List (Nat × Value)) (rq size tag : Int32) : Int32 := (cond (m_c2 .ne (F_mrange E_requests rq tag) (1 : Int32)) size (cond (m_c2 .ge (F_masks E_requests rq (5 : Int32)) size) size ((F_masks E_requests rq (5 : Int32)) + (1 : Int32))))
theorem P_mend {l : Launch} {w : List mM} {gm : Nat → Int32} {E_requests : List (Nat × Value)} {rq size tag : Int32} (h_583 : m_at w 583 = some (.inr (14, f_M gm))) (h_620 : m_at w 620 = some (.inl (0, 6900, E_requests))) (g1 : m_ix (((23 : Int32) * rq) + (21 : Int32)) 6900) (g2 : m_c2 .eq (F_masks E_requests rq (21 : Int32)) ((-1) : Int32) = true → m_ix (((23 : Int32) * rq) + (3 : Int32)) 6900) (g3 : m_c2 .eq (F_masks E_requests rq (21 : Int32)) ((-1) : Int32) = false → m_ix (((23 : Int32) * rq) + (21 : Int32)) 6900) (g4 : m_c2 .eq (F_masks E_requests rq (21 : Int32)) ((-1) : Int32) = false → m_c2 .ne (F_masks E_requests rq (21 : Int32)) tag = false → m_ix (((23 : Int32) * rq) + (3 : Int32)) 6900) (g5 : m_c2 .ne (F_mrange E_requests rq tag) (1 : Int32) = false → m_ix (((23 : Int32) * rq) + (5 : Int32)) 6900) (g6 : m_c2 .ne (F_mrange E_requests rq tag) (1 : Int32) = false → m_c2 .ge (F_masks E_requests rq (5 : Int32)) size = false → m_ix (((23 : Int32) * rq) + (5 : Int32)) 6900) : m_Rs l M_290 (m_ent M_290 [.ref 583, .int rq, .int size, .int tag] w) (fun v w' => v = some (.int (F_mend E_requests rq size tag)) ∧ w' = w) 0 0 2 200 := by
  show m_Rs l M_290 (0, [(0, .ref 583), (1, .int rq), (2, .int size), (3, .int tag)], [], w) _ 0 0 2 200
  refine m_Rs.n0 b_290 (x_aload_n d_290_0 rfl) ?_
  refine m_Rs.n0 b_290 (x_iload_n d_290_1 rfl) ?_
  refine m_Rs.n0 b_290 (x_iload_n d_290_2 rfl) ?_
  refine m_Rs.callE b_290 (y_cv d_290_3 rfl q_289 (m_isRecv_of rfl h_583) (show m_takeI _ _ = some (_, [_, _, _], []) from rfl) (by simp only [m_okf, List.all_cons, List.all_nil, Bool.and_true, Bool.and_self, m_okv_i, m_okv_l, m_okv_0, m_okv_t, m_okv_at h_583]) rfl) (P_mrange h_583 h_620 (g1) (g2) (g3) (g4)) rfl ?_ (by decide) (by decide)
  refine m_Rs.n0 b_290 (x_iconst (z := 1) d_290_6 (by decide)) ?_
  cases hc1 : m_c2 .ne (F_mrange E_requests rq tag) (1 : Int32) with
  | true =>
    refine m_Rs.n0 b_290 (x_ict d_290_7 rfl hc1) ?_
    refine m_Rs.n0 b_290 (x_iload_n d_290_31 rfl) ?_
    refine m_Rs.ret b_290 (m_rt_ir d_290_32 rfl rfl) ?_
    exact ⟨by simp only [F_mend, hc1, cond_true, cond_false], rfl⟩
  | false =>
    refine m_Rs.n0 b_290 (x_icf d_290_7 rfl hc1) ?_
    refine m_Rs.n0 b_290 (x_aload_n d_290_10 rfl) ?_
    refine m_Rs.n0 b_290 (x_iload_n d_290_11 rfl) ?_
    refine m_Rs.n0 b_290 (x_iconst (z := 5) d_290_12 (by decide)) ?_
    refine m_Rs.callE b_290 (y_cv d_290_13 rfl q_282 (m_isRecv_of rfl h_583) (show m_takeI _ _ = some (_, [_, _, _], []) from rfl) (by simp only [m_okf, List.all_cons, List.all_nil, Bool.and_true, Bool.and_self, m_okv_i, m_okv_l, m_okv_0, m_okv_t, m_okv_at h_583]) rfl) (P_masks h_583 h_620 (g5 hc1)) rfl ?_ (by decide) (by decide)
    refine m_Rs.n0 b_290 (x_iload_n d_290_16 rfl) ?_
    cases hc2 : m_c2 .ge (F_masks E_requests rq (5 : Int32)) size with
    | true =>
      refine m_Rs.n0 b_290 (x_ict d_290_17 rfl hc2) ?_
      refine m_Rs.n0 b_290 (x_iload_n d_290_31 rfl) ?_
      refine m_Rs.ret b_290 (m_rt_ir d_290_32 rfl rfl) ?_
      exact ⟨by simp only [F_mend, hc1, hc2, cond_true, cond_false], rfl⟩
    | false =>
      refine m_Rs.n0 b_290 (x_icf d_290_17 rfl hc2) ?_
      refine m_Rs.n0 b_290 (x_aload_n d_290_20 rfl) ?_
      refine m_Rs.n0 b_290 (x_iload_n d_290_21 rfl) ?_
      refine m_Rs.n0 b_290 (x_iconst (z := 5) d_290_22 (by decide)) ?_
      refine m_Rs.callE b_290 (y_cv d_290_23 rfl q_282 (m_isRecv_of rfl h_583) (show m_takeI _ _ = some (_, [_, _, _], []) from rfl) (by simp only [m_okf, List.all_cons, List.all_nil, Bool.and_true, Bool.and_self, m_okv_i, m_okv_l, m_okv_0, m_okv_t, m_okv_at h_583]) rfl) (P_masks h_583 h_620 (g6 hc1 hc2)) rfl ?_ (by decide) (by decide)
      refine m_Rs.n0 b_290 (x_iconst (z := 1) d_290_26 (by decide)) ?_
      refine m_Rs.n0 b_290 (x_iadd d_290_27 rfl) ?_
      refine m_Rs.n0 b_290 (x_goto d_290_28 rfl) ?_
      refine m_Rs.ret b_290 (m_rt_ir d_290_32 rfl rfl) ?_
      exact ⟨by simp only [F_mend, hc1, hc2, cond_true, cond_false], rfl⟩
def F_mhas (E_requests : List (Nat × Value)) (rq size tag : Int32) : Int32 := (cond (m_c2 .ge (F_mfirst E_requests rq size tag) (F_mend E_requests rq size tag)) (0 : Int32) (1 : Int32))
theorem P_mhas {l : Launch} {w : List mM} {gm : Nat → Int32} {E_requests : List (Nat × Value)} {rq size tag : Int32} (h_583 : m_at w 583 = some (.inr (14, f_M gm))) (h_620 : m_at w 620 = some (.inl (0, 6900, E_requests))) (g1 : m_ix (((23 : Int32) * rq) + (21 : Int32)) 6900) (g2 : m_c2 .eq (F_masks E_requests rq (21 : Int32)) ((-1) : Int32) = true → m_ix (((23 : Int32) * rq) + (3 : Int32)) 6900) (g3 : m_c2 .eq (F_masks E_requests rq (21 : Int32)) ((-1) : Int32) = false → m_ix (((23 : Int32) * rq) + (21 : Int32)) 6900) (g4 : m_c2 .eq (F_masks E_requests rq (21 : Int32)) ((-1) : Int32) = false → m_c2 .ne (F_masks E_requests rq (21 : Int32)) tag = false → m_ix (((23 : Int32) * rq) + (3 : Int32)) 6900) (g5 : m_c1 .ne (F_mrange E_requests rq tag) = true → m_c2 .ne (F_mrange E_requests rq tag) (3 : Int32) = true → m_ix (((23 : Int32) * rq) + (4 : Int32)) 6900) (g6 : m_c1 .ne (F_mrange E_requests rq tag) = true → m_c2 .ne (F_mrange E_requests rq tag) (3 : Int32) = false → m_ix (((23 : Int32) * rq) + (4 : Int32)) 6900) (g7 : m_c1 .ne (F_mrange E_requests rq tag) = true → m_c2 .ne (F_mrange E_requests rq tag) (3 : Int32) = false → m_c1 .ge (size - (F_masks E_requests rq (4 : Int32))) = true → m_ix (((23 : Int32) * rq) + (4 : Int32)) 6900) (g8 : m_ix (((23 : Int32) * rq) + (21 : Int32)) 6900) (g9 : m_c2 .eq (F_masks E_requests rq (21 : Int32)) ((-1) : Int32) = true → m_ix (((23 : Int32) * rq) + (3 : Int32)) 6900) (g10 : m_c2 .eq (F_masks E_requests rq (21 : Int32)) ((-1) : Int32) = false → m_ix (((23 : Int32) * rq) + (21 : Int32)) 6900) (g11 : m_c2 .eq (F_masks E_requests rq (21 : Int32)) ((-1) : Int32) = false → m_c2 .ne (F_masks E_requests rq (21 : Int32)) tag = false → m_ix (((23 : Int32) * rq) + (3 : Int32)) 6900) (g12 : m_c2 .ne (F_mrange E_requests rq tag) (1 : Int32) = false → m_ix (((23 : Int32) * rq) + (5 : Int32)) 6900) (g13 : m_c2 .ne (F_mrange E_requests rq tag) (1 : Int32) = false → m_c2 .ge (F_masks E_requests rq (5 : Int32)) size = false → m_ix (((23 : Int32) * rq) + (5 : Int32)) 6900) : m_Rs l M_287 (m_ent M_287 [.ref 583, .int rq, .int size, .int tag] w) (fun v w' => v = some (.int (F_mhas E_requests rq size tag)) ∧ w' = w) 0 0 3 300 := by
  show m_Rs l M_287 (0, [(0, .ref 583), (1, .int rq), (2, .int size), (3, .int tag)], [], w) _ 0 0 3 300
  refine m_Rs.n0 b_287 (x_aload_n d_287_0 rfl) ?_
  refine m_Rs.n0 b_287 (x_iload_n d_287_1 rfl) ?_
  refine m_Rs.n0 b_287 (x_iload_n d_287_2 rfl) ?_
  refine m_Rs.n0 b_287 (x_iload_n d_287_3 rfl) ?_
  refine m_Rs.callE b_287 (y_cv d_287_4 rfl q_288 (m_isRecv_of rfl h_583) (show m_takeI _ _ = some (_, [_, _, _, _], []) from rfl) (by simp only [m_okf, List.all_cons, List.all_nil, Bool.and_true, Bool.and_self, m_okv_i, m_okv_l, m_okv_0, m_okv_t, m_okv_at h_583]) rfl) (P_mfirst h_583 h_620 (g1) (g2) (g3) (g4) (g5) (g6) (g7)) rfl ?_ (by decide) (by decide)
  refine m_Rs.n0 b_287 (x_aload_n d_287_7 rfl) ?_
  refine m_Rs.n0 b_287 (x_iload_n d_287_8 rfl) ?_
  refine m_Rs.n0 b_287 (x_iload_n d_287_9 rfl) ?_
  refine m_Rs.n0 b_287 (x_iload_n d_287_10 rfl) ?_
  refine m_Rs.callE b_287 (y_cv d_287_11 rfl q_290 (m_isRecv_of rfl h_583) (show m_takeI _ _ = some (_, [_, _, _, _], [_]) from rfl) (by simp only [m_okf, List.all_cons, List.all_nil, Bool.and_true, Bool.and_self, m_okv_i, m_okv_l, m_okv_0, m_okv_t, m_okv_at h_583]) rfl) (P_mend h_583 h_620 (g8) (g9) (g10) (g11) (g12) (g13)) rfl ?_ (by decide) (by decide)
  cases hc1 : m_c2 .ge (F_mfirst E_requests rq size tag) (F_mend E_requests rq size tag) with
  | true =>
    refine m_Rs.n0 b_287 (x_ict d_287_14 rfl hc1) ?_
    refine m_Rs.n0 b_287 (x_iconst (z := 0) d_287_21 (by decide)) ?_
    refine m_Rs.ret b_287 (m_rt_ir d_287_22 rfl rfl) ?_
    exact ⟨by simp only [F_mhas, hc1, cond_true, cond_false], rfl⟩
  | false =>
    refine m_Rs.n0 b_287 (x_icf d_287_14 rfl hc1) ?_
    refine m_Rs.n0 b_287 (x_iconst (z := 1) d_287_17 (by decide)) ?_
    refine m_Rs.n0 b_287 (x_goto d_287_18 rfl) ?_
    refine m_Rs.ret b_287 (m_rt_ir d_287_22 rfl rfl) ?_
    exact ⟨by simp only [F_mhas, hc1, cond_true, cond_false], rfl⟩
def F_msize (E_blocks : List (Nat × Value)) (en : Int32) : Int32 := ((16 : Int32) + ((16 : Int32) * (F_bc (m_rd 0 E_blocks en))))
theorem P_msize {l : Launch} {w : List mM} {gm : Nat → Int32} {E_blocks : List (Nat × Value)} {en : Int32} (h_583 : m_at w 583 = some (.inr (14, f_M gm))) (h_607 : m_at w 607 = some (.inl (0, 7168, E_blocks))) (g1 : m_ix en 7168) : m_Rs l M_298 (m_ent M_298 [.ref 583, .int en] w) (fun v w' => v = some (.int (F_msize E_blocks en)) ∧ w' = w) 0 0 1 100 := by
  show m_Rs l M_298 (0, [(0, .ref 583), (1, .int en)], [], w) _ 0 0 1 100
  refine m_Rs.n0 b_298 (x_bipush (z := 16) d_298_0 (by decide)) ?_
  refine m_Rs.n0 b_298 (x_bipush (z := 16) d_298_2 (by decide)) ?_
  refine m_Rs.n0 b_298 (x_aload_n d_298_4 rfl) ?_
  refine m_Rs.n0 b_298 (x_getf d_298_5 rfl h_583 rfl) ?_
  refine m_Rs.n0 b_298 (x_iload_n d_298_8 rfl) ?_
  refine m_Rs.n0 b_298 (x_ldG d_298_9 h_607 rfl ((g1))) ?_
  refine m_Rs.callE b_298 (y_cs d_298_10 rfl q_100 (show m_takeS _ _ = some (_, [_], [_, _]) from rfl) (by simp only [m_okf, List.all_cons, List.all_nil, Bool.and_true, Bool.and_self, m_okv_i, m_okv_l, m_okv_0, m_okv_t, m_okv_at h_583]) rfl) (P_bc) rfl ?_ (by decide) (by decide)
  refine m_Rs.n0 b_298 (x_imul d_298_13 rfl) ?_
  refine m_Rs.n0 b_298 (x_iadd d_298_14 rfl) ?_
  refine m_Rs.ret b_298 (m_rt_ir d_298_15 rfl rfl) ?_
  exact ⟨by simp only [F_msize], rfl⟩
def F_mshun (gm : Nat → Int32) (E_shunned : List (Nat × Value)) (n pa : Int32) : Int32 := (cond (m_c2 .ge (gm 36) (m_rd 0 E_shunned ((((2 : Int32) * n) + pa) - (1 : Int32)))) (0 : Int32) (1 : Int32))
theorem P_mshun {l : Launch} {w : List mM} {gm : Nat → Int32} {E_shunned : List (Nat × Value)} {n pa : Int32} (h_583 : m_at w 583 = some (.inr (14, f_M gm))) (h_619 : m_at w 619 = some (.inl (0, 14, E_shunned))) (g1 : m_ix ((((2 : Int32) * n) + pa) - (1 : Int32)) 14) : m_Rs l M_274 (m_ent M_274 [.ref 583, .int n, .int pa] w) (fun v w' => v = some (.int (F_mshun gm E_shunned n pa)) ∧ w' = w) 0 0 0 0 := by
  show m_Rs l M_274 (0, [(0, .ref 583), (1, .int n), (2, .int pa)], [], w) _ 0 0 0 0
  refine m_Rs.n0 b_274 (x_aload_n d_274_0 rfl) ?_
  refine m_Rs.n0 b_274 (x_getf d_274_1 rfl h_583 rfl) ?_
  refine m_Rs.n0 b_274 (x_aload_n d_274_4 rfl) ?_
  refine m_Rs.n0 b_274 (x_getf d_274_5 rfl h_583 rfl) ?_
  refine m_Rs.n0 b_274 (x_iconst (z := 2) d_274_8 (by decide)) ?_
  refine m_Rs.n0 b_274 (x_iload_n d_274_9 rfl) ?_
  refine m_Rs.n0 b_274 (x_imul d_274_10 rfl) ?_
  refine m_Rs.n0 b_274 (x_iload_n d_274_11 rfl) ?_
  refine m_Rs.n0 b_274 (x_iadd d_274_12 rfl) ?_
  refine m_Rs.n0 b_274 (x_iconst (z := 1) d_274_13 (by decide)) ?_
  refine m_Rs.n0 b_274 (x_isub d_274_14 rfl) ?_
  refine m_Rs.n0 b_274 (x_ldG d_274_15 h_619 rfl ((g1))) ?_
  cases hc1 : m_c2 .ge (gm 36) (m_rd 0 E_shunned ((((2 : Int32) * n) + pa) - (1 : Int32))) with
  | true =>
    refine m_Rs.n0 b_274 (x_ict d_274_16 rfl hc1) ?_
    refine m_Rs.n0 b_274 (x_iconst (z := 0) d_274_23 (by decide)) ?_
    refine m_Rs.ret b_274 (m_rt_ir d_274_24 rfl rfl) ?_
    exact ⟨by simp only [F_mshun, hc1, cond_true, cond_false], rfl⟩
  | false =>
    refine m_Rs.n0 b_274 (x_icf d_274_16 rfl hc1) ?_
    refine m_Rs.n0 b_274 (x_iconst (z := 1) d_274_19 (by decide)) ?_
    refine m_Rs.n0 b_274 (x_goto d_274_20 rfl) ?_
    refine m_Rs.ret b_274 (m_rt_ir d_274_24 rfl rfl) ?_
    exact ⟨by simp only [F_mshun, hc1, cond_true, cond_false], rfl⟩
def F_mnow (gm : Nat → Int32) (E_now : List (Nat × Value)) : Int32 := (((8 : Int32) * (m_rd 0 E_now (0 : Int32))) + (gm 87))
theorem P_mnow {l : Launch} {w : List mM} {gm : Nat → Int32} {E_now : List (Nat × Value)} (h_583 : m_at w 583 = some (.inr (14, f_M gm))) (h_626 : m_at w 626 = some (.inl (0, 9, E_now))) (g1 : m_ix (0 : Int32) 9) : m_Rs l M_303 (m_ent M_303 [.ref 583] w) (fun v w' => v = some (.int (F_mnow gm E_now)) ∧ w' = w) 0 0 0 0 := by
  show m_Rs l M_303 (0, [(0, .ref 583)], [], w) _ 0 0 0 0
  refine m_Rs.n0 b_303 (x_bipush (z := 8) d_303_0 (by decide)) ?_
  refine m_Rs.n0 b_303 (x_aload_n d_303_2 rfl) ?_
  refine m_Rs.n0 b_303 (x_getf d_303_3 rfl h_583 rfl) ?_
  refine m_Rs.n0 b_303 (x_iconst (z := 0) d_303_6 (by decide)) ?_
  refine m_Rs.n0 b_303 (x_ldG d_303_7 h_626 rfl ((g1))) ?_
  refine m_Rs.n0 b_303 (x_imul d_303_8 rfl) ?_
  refine m_Rs.n0 b_303 (x_aload_n d_303_9 rfl) ?_
  refine m_Rs.n0 b_303 (x_getf d_303_10 rfl h_583 rfl) ?_
  refine m_Rs.n0 b_303 (x_iadd d_303_13 rfl) ?_
  refine m_Rs.ret b_303 (m_rt_ir d_303_14 rfl rfl) ?_
  exact ⟨by simp only [F_mnow], rfl⟩
def F_mforced (E_requests E_wait : List (Nat × Value)) (wa : Int32) : Int32 := (cond (m_c2 .eq (m_rd 0 E_wait (wa + (8 : Int32))) (1 : Int32)) (1 : Int32) (cond (m_c2 .eq (m_rd 0 E_wait (wa + (2 : Int32))) ((-1) : Int32)) (0 : Int32) (cond (m_c2 .ne (F_masks E_requests (m_rd 0 E_wait (wa + (2 : Int32))) (16 : Int32)) (1 : Int32)) (0 : Int32) (1 : Int32))))
theorem P_mforced {l : Launch} {w : List mM} {gm : Nat → Int32} {E_requests E_wait : List (Nat × Value)} {wa : Int32} (h_583 : m_at w 583 = some (.inr (14, f_M gm))) (h_620 : m_at w 620 = some (.inl (0, 6900, E_requests))) (h_622 : m_at w 622 = some (.inl (0, 48000, E_wait))) (g1 : m_ix (wa + (8 : Int32)) 48000) (g2 : m_c2 .eq (m_rd 0 E_wait (wa + (8 : Int32))) (1 : Int32) = false → m_ix (wa + (2 : Int32)) 48000) (g3 : m_c2 .eq (m_rd 0 E_wait (wa + (8 : Int32))) (1 : Int32) = false → m_c2 .eq (m_rd 0 E_wait (wa + (2 : Int32))) ((-1) : Int32) = false → m_ix (wa + (2 : Int32)) 48000) (g4 : m_c2 .eq (m_rd 0 E_wait (wa + (8 : Int32))) (1 : Int32) = false → m_c2 .eq (m_rd 0 E_wait (wa + (2 : Int32))) ((-1) : Int32) = false → m_ix (((23 : Int32) * (m_rd 0 E_wait (wa + (2 : Int32)))) + (16 : Int32)) 6900) : m_Rs l M_281 (m_ent M_281 [.ref 583, .int wa] w) (fun v w' => v = some (.int (F_mforced E_requests E_wait wa)) ∧ w' = w) 0 0 1 100 := by
  show m_Rs l M_281 (0, [(0, .ref 583), (1, .int wa)], [], w) _ 0 0 1 100
  refine m_Rs.n0 b_281 (x_aload_n d_281_0 rfl) ?_
  refine m_Rs.n0 b_281 (x_getf d_281_1 rfl h_583 rfl) ?_
  refine m_Rs.n0 b_281 (x_iload_n d_281_4 rfl) ?_
  refine m_Rs.n0 b_281 (x_bipush (z := 8) d_281_5 (by decide)) ?_
  refine m_Rs.n0 b_281 (x_iadd d_281_7 rfl) ?_
  refine m_Rs.n0 b_281 (x_ldG d_281_8 h_622 rfl ((g1))) ?_
  refine m_Rs.n0 b_281 (x_iconst (z := 1) d_281_9 (by decide)) ?_
  cases hc1 : m_c2 .eq (m_rd 0 E_wait (wa + (8 : Int32))) (1 : Int32) with
  | true =>
    refine m_Rs.n0 b_281 (x_ict d_281_10 rfl hc1) ?_
    refine m_Rs.n0 b_281 (x_iconst (z := 1) d_281_43 (by decide)) ?_
    refine m_Rs.n0 b_281 (x_goto d_281_44 rfl) ?_
    refine m_Rs.ret b_281 (m_rt_ir d_281_48 rfl rfl) ?_
    exact ⟨by simp only [F_mforced, hc1, cond_true, cond_false], rfl⟩
  | false =>
    refine m_Rs.n0 b_281 (x_icf d_281_10 rfl hc1) ?_
    refine m_Rs.n0 b_281 (x_aload_n d_281_13 rfl) ?_
    refine m_Rs.n0 b_281 (x_getf d_281_14 rfl h_583 rfl) ?_
    refine m_Rs.n0 b_281 (x_iload_n d_281_17 rfl) ?_
    refine m_Rs.n0 b_281 (x_iconst (z := 2) d_281_18 (by decide)) ?_
    refine m_Rs.n0 b_281 (x_iadd d_281_19 rfl) ?_
    refine m_Rs.n0 b_281 (x_ldG d_281_20 h_622 rfl ((g2 hc1))) ?_
    refine m_Rs.n0 b_281 (x_iconst (z := (-1)) d_281_21 (by decide)) ?_
    cases hc2 : m_c2 .eq (m_rd 0 E_wait (wa + (2 : Int32))) ((-1) : Int32) with
    | true =>
      refine m_Rs.n0 b_281 (x_ict d_281_22 rfl hc2) ?_
      refine m_Rs.n0 b_281 (x_iconst (z := 0) d_281_47 (by decide)) ?_
      refine m_Rs.ret b_281 (m_rt_ir d_281_48 rfl rfl) ?_
      exact ⟨by simp only [F_mforced, hc1, hc2, cond_true, cond_false], rfl⟩
    | false =>
      refine m_Rs.n0 b_281 (x_icf d_281_22 rfl hc2) ?_
      refine m_Rs.n0 b_281 (x_aload_n d_281_25 rfl) ?_
      refine m_Rs.n0 b_281 (x_aload_n d_281_26 rfl) ?_
      refine m_Rs.n0 b_281 (x_getf d_281_27 rfl h_583 rfl) ?_
      refine m_Rs.n0 b_281 (x_iload_n d_281_30 rfl) ?_
      refine m_Rs.n0 b_281 (x_iconst (z := 2) d_281_31 (by decide)) ?_
      refine m_Rs.n0 b_281 (x_iadd d_281_32 rfl) ?_
      refine m_Rs.n0 b_281 (x_ldG d_281_33 h_622 rfl ((g3 hc1 hc2))) ?_
      refine m_Rs.n0 b_281 (x_bipush (z := 16) d_281_34 (by decide)) ?_
      refine m_Rs.callE b_281 (y_cv d_281_36 rfl q_282 (m_isRecv_of rfl h_583) (show m_takeI _ _ = some (_, [_, _, _], []) from rfl) (by simp only [m_okf, List.all_cons, List.all_nil, Bool.and_true, Bool.and_self, m_okv_i, m_okv_l, m_okv_0, m_okv_t, m_okv_at h_583]) rfl) (P_masks h_583 h_620 (g4 hc1 hc2)) rfl ?_ (by decide) (by decide)
      refine m_Rs.n0 b_281 (x_iconst (z := 1) d_281_39 (by decide)) ?_
      cases hc3 : m_c2 .ne (F_masks E_requests (m_rd 0 E_wait (wa + (2 : Int32))) (16 : Int32)) (1 : Int32) with
      | true =>
        refine m_Rs.n0 b_281 (x_ict d_281_40 rfl hc3) ?_
        refine m_Rs.n0 b_281 (x_iconst (z := 0) d_281_47 (by decide)) ?_
        refine m_Rs.ret b_281 (m_rt_ir d_281_48 rfl rfl) ?_
        exact ⟨by simp only [F_mforced, hc1, hc2, hc3, cond_true, cond_false], rfl⟩
      | false =>
        refine m_Rs.n0 b_281 (x_icf d_281_40 rfl hc3) ?_
        refine m_Rs.n0 b_281 (x_iconst (z := 1) d_281_43 (by decide)) ?_
        refine m_Rs.n0 b_281 (x_goto d_281_44 rfl) ?_
        refine m_Rs.ret b_281 (m_rt_ir d_281_48 rfl rfl) ?_
        exact ⟨by simp only [F_mforced, hc1, hc2, hc3, cond_true, cond_false], rfl⟩
def F_mmarked (E_mark E_wait : List (Nat × Value)) (wa en : Int32) : Int32 := (cond (m_c2 .eq en ((-1) : Int32)) (0 : Int32) (cond (m_c2 .lt (m_rd 0 E_mark en) (m_rd 0 E_wait (wa + (7 : Int32)))) (0 : Int32) (1 : Int32)))
theorem P_mmarked {l : Launch} {w : List mM} {gm : Nat → Int32} {E_mark E_wait : List (Nat × Value)} {wa en : Int32} (h_583 : m_at w 583 = some (.inr (14, f_M gm))) (h_604 : m_at w 604 = some (.inl (0, 7168, E_mark))) (h_622 : m_at w 622 = some (.inl (0, 48000, E_wait))) (g1 : m_c2 .eq en ((-1) : Int32) = false → m_ix en 7168) (g2 : m_c2 .eq en ((-1) : Int32) = false → m_ix (wa + (7 : Int32)) 48000) : m_Rs l M_280 (m_ent M_280 [.ref 583, .int wa, .int en] w) (fun v w' => v = some (.int (F_mmarked E_mark E_wait wa en)) ∧ w' = w) 0 0 0 0 := by
  show m_Rs l M_280 (0, [(0, .ref 583), (1, .int wa), (2, .int en)], [], w) _ 0 0 0 0
  refine m_Rs.n0 b_280 (x_iload_n d_280_0 rfl) ?_
  refine m_Rs.n0 b_280 (x_iconst (z := (-1)) d_280_1 (by decide)) ?_
  cases hc1 : m_c2 .eq en ((-1) : Int32) with
  | true =>
    refine m_Rs.n0 b_280 (x_ict d_280_2 rfl hc1) ?_
    refine m_Rs.n0 b_280 (x_iconst (z := 0) d_280_27 (by decide)) ?_
    refine m_Rs.ret b_280 (m_rt_ir d_280_28 rfl rfl) ?_
    exact ⟨by simp only [F_mmarked, hc1, cond_true, cond_false], rfl⟩
  | false =>
    refine m_Rs.n0 b_280 (x_icf d_280_2 rfl hc1) ?_
    refine m_Rs.n0 b_280 (x_aload_n d_280_5 rfl) ?_
    refine m_Rs.n0 b_280 (x_getf d_280_6 rfl h_583 rfl) ?_
    refine m_Rs.n0 b_280 (x_iload_n d_280_9 rfl) ?_
    refine m_Rs.n0 b_280 (x_ldG d_280_10 h_604 rfl ((g1 hc1))) ?_
    refine m_Rs.n0 b_280 (x_aload_n d_280_11 rfl) ?_
    refine m_Rs.n0 b_280 (x_getf d_280_12 rfl h_583 rfl) ?_
    refine m_Rs.n0 b_280 (x_iload_n d_280_15 rfl) ?_
    refine m_Rs.n0 b_280 (x_bipush (z := 7) d_280_16 (by decide)) ?_
    refine m_Rs.n0 b_280 (x_iadd d_280_18 rfl) ?_
    refine m_Rs.n0 b_280 (x_ldG d_280_19 h_622 rfl ((g2 hc1))) ?_
    cases hc2 : m_c2 .lt (m_rd 0 E_mark en) (m_rd 0 E_wait (wa + (7 : Int32))) with
    | true =>
      refine m_Rs.n0 b_280 (x_ict d_280_20 rfl hc2) ?_
      refine m_Rs.n0 b_280 (x_iconst (z := 0) d_280_27 (by decide)) ?_
      refine m_Rs.ret b_280 (m_rt_ir d_280_28 rfl rfl) ?_
      exact ⟨by simp only [F_mmarked, hc1, hc2, cond_true, cond_false], rfl⟩
    | false =>
      refine m_Rs.n0 b_280 (x_icf d_280_20 rfl hc2) ?_
      refine m_Rs.n0 b_280 (x_iconst (z := 1) d_280_23 (by decide)) ?_
      refine m_Rs.n0 b_280 (x_goto d_280_24 rfl) ?_
      refine m_Rs.ret b_280 (m_rt_ir d_280_28 rfl rfl) ?_
      exact ⟨by simp only [F_mmarked, hc1, hc2, cond_true, cond_false], rfl⟩
def F_mfresh (gm : Nat → Int32) (E_entryTold E_age E_since E_requests E_wait : List (Nat × Value)) (wa en : Int32) : Int32 := (cond (m_c2 .ge (F_mage gm E_age E_since en) (F_mlife E_entryTold en)) (cond (m_c2 .eq (m_rd 0 E_wait (wa + (2 : Int32))) ((-1) : Int32)) (0 : Int32) (cond (m_c2 .eq (F_masks E_requests (m_rd 0 E_wait (wa + (2 : Int32))) (18 : Int32)) ((-1) : Int32)) (cond (m_c2 .eq (F_masks E_requests (m_rd 0 E_wait (wa + (2 : Int32))) (20 : Int32)) ((-1) : Int32)) (0 : Int32) (0 : Int32)) (cond (m_c2 .eq (F_masks E_requests (m_rd 0 E_wait (wa + (2 : Int32))) (20 : Int32)) ((-1) : Int32)) (0 : Int32) (0 : Int32)))) (cond (m_c2 .eq (m_rd 0 E_wait (wa + (2 : Int32))) ((-1) : Int32)) (1 : Int32) (cond (m_c2 .eq (F_masks E_requests (m_rd 0 E_wait (wa + (2 : Int32))) (18 : Int32)) ((-1) : Int32)) (cond (m_c2 .eq (F_masks E_requests (m_rd 0 E_wait (wa + (2 : Int32))) (20 : Int32)) ((-1) : Int32)) (1 : Int32) (cond (m_c2 .ge ((F_mage gm E_age E_since en) + (F_masks E_requests (m_rd 0 E_wait (wa + (2 : Int32))) (20 : Int32))) (F_mlife E_entryTold en)) (0 : Int32) (1 : Int32))) (cond (m_c2 .gt (F_mage gm E_age E_since en) (F_masks E_requests (m_rd 0 E_wait (wa + (2 : Int32))) (18 : Int32))) (cond (m_c2 .eq (F_masks E_requests (m_rd 0 E_wait (wa + (2 : Int32))) (20 : Int32)) ((-1) : Int32)) (0 : Int32) (0 : Int32)) (cond (m_c2 .eq (F_masks E_requests (m_rd 0 E_wait (wa + (2 : Int32))) (20 : Int32)) ((-1) : Int32)) (1 : Int32) (cond (m_c2 .ge ((F_mage gm E_age E_since en) + (F_masks E_requests (m_rd 0 E_wait (wa + (2 : Int32))) (20 : Int32))) (F_mlife E_entryTold en)) (0 : Int32) (1 : Int32)))))))
theorem P_mfresh {l : Launch} {w : List mM} {gm : Nat → Int32} {E_entryTold E_age E_since E_requests E_wait : List (Nat × Value)} {wa en : Int32} (h_583 : m_at w 583 = some (.inr (14, f_M gm))) (h_603 : m_at w 603 = some (.inl (0, 64512, E_entryTold))) (h_605 : m_at w 605 = some (.inl (0, 7168, E_age))) (h_606 : m_at w 606 = some (.inl (0, 7168, E_since))) (h_620 : m_at w 620 = some (.inl (0, 6900, E_requests))) (h_622 : m_at w 622 = some (.inl (0, 48000, E_wait))) (g1 : m_ix (wa + (2 : Int32)) 48000) (g2 : m_ix en 7168) (g3 : m_ix en 7168) (g4 : m_ix (((9 : Int32) * en) + (6 : Int32)) 64512) (g5 : m_c2 .ne (F_mtold E_entryTold en (6 : Int32)) (1 : Int32) = true → m_ix (((9 : Int32) * en) + (2 : Int32)) 64512) (g6 : m_c2 .ge (F_mage gm E_age E_since en) (F_mlife E_entryTold en) = true → m_c2 .eq (m_rd 0 E_wait (wa + (2 : Int32))) ((-1) : Int32) = false → m_ix (((23 : Int32) * (m_rd 0 E_wait (wa + (2 : Int32)))) + (18 : Int32)) 6900) (g7 : m_c2 .ge (F_mage gm E_age E_since en) (F_mlife E_entryTold en) = true → m_c2 .eq (m_rd 0 E_wait (wa + (2 : Int32))) ((-1) : Int32) = false → m_c2 .eq (F_masks E_requests (m_rd 0 E_wait (wa + (2 : Int32))) (18 : Int32)) ((-1) : Int32) = true → m_ix (((23 : Int32) * (m_rd 0 E_wait (wa + (2 : Int32)))) + (20 : Int32)) 6900) (g8 : m_c2 .ge (F_mage gm E_age E_since en) (F_mlife E_entryTold en) = true → m_c2 .eq (m_rd 0 E_wait (wa + (2 : Int32))) ((-1) : Int32) = false → m_c2 .eq (F_masks E_requests (m_rd 0 E_wait (wa + (2 : Int32))) (18 : Int32)) ((-1) : Int32) = false → m_ix (((23 : Int32) * (m_rd 0 E_wait (wa + (2 : Int32)))) + (20 : Int32)) 6900) (g9 : m_c2 .ge (F_mage gm E_age E_since en) (F_mlife E_entryTold en) = false → m_c2 .eq (m_rd 0 E_wait (wa + (2 : Int32))) ((-1) : Int32) = false → m_ix (((23 : Int32) * (m_rd 0 E_wait (wa + (2 : Int32)))) + (18 : Int32)) 6900) (g10 : m_c2 .ge (F_mage gm E_age E_since en) (F_mlife E_entryTold en) = false → m_c2 .eq (m_rd 0 E_wait (wa + (2 : Int32))) ((-1) : Int32) = false → m_c2 .eq (F_masks E_requests (m_rd 0 E_wait (wa + (2 : Int32))) (18 : Int32)) ((-1) : Int32) = true → m_ix (((23 : Int32) * (m_rd 0 E_wait (wa + (2 : Int32)))) + (20 : Int32)) 6900) (g11 : m_c2 .ge (F_mage gm E_age E_since en) (F_mlife E_entryTold en) = false → m_c2 .eq (m_rd 0 E_wait (wa + (2 : Int32))) ((-1) : Int32) = false → m_c2 .eq (F_masks E_requests (m_rd 0 E_wait (wa + (2 : Int32))) (18 : Int32)) ((-1) : Int32) = true → m_c2 .eq (F_masks E_requests (m_rd 0 E_wait (wa + (2 : Int32))) (20 : Int32)) ((-1) : Int32) = false → m_ix (((23 : Int32) * (m_rd 0 E_wait (wa + (2 : Int32)))) + (20 : Int32)) 6900) (g12 : m_c2 .ge (F_mage gm E_age E_since en) (F_mlife E_entryTold en) = false → m_c2 .eq (m_rd 0 E_wait (wa + (2 : Int32))) ((-1) : Int32) = false → m_c2 .eq (F_masks E_requests (m_rd 0 E_wait (wa + (2 : Int32))) (18 : Int32)) ((-1) : Int32) = true → m_c2 .eq (F_masks E_requests (m_rd 0 E_wait (wa + (2 : Int32))) (20 : Int32)) ((-1) : Int32) = false → m_ix (((9 : Int32) * en) + (6 : Int32)) 64512) (g13 : m_c2 .ge (F_mage gm E_age E_since en) (F_mlife E_entryTold en) = false → m_c2 .eq (m_rd 0 E_wait (wa + (2 : Int32))) ((-1) : Int32) = false → m_c2 .eq (F_masks E_requests (m_rd 0 E_wait (wa + (2 : Int32))) (18 : Int32)) ((-1) : Int32) = true → m_c2 .eq (F_masks E_requests (m_rd 0 E_wait (wa + (2 : Int32))) (20 : Int32)) ((-1) : Int32) = false → m_c2 .ne (F_mtold E_entryTold en (6 : Int32)) (1 : Int32) = true → m_ix (((9 : Int32) * en) + (2 : Int32)) 64512) (g14 : m_c2 .ge (F_mage gm E_age E_since en) (F_mlife E_entryTold en) = false → m_c2 .eq (m_rd 0 E_wait (wa + (2 : Int32))) ((-1) : Int32) = false → m_c2 .eq (F_masks E_requests (m_rd 0 E_wait (wa + (2 : Int32))) (18 : Int32)) ((-1) : Int32) = false → m_ix (((23 : Int32) * (m_rd 0 E_wait (wa + (2 : Int32)))) + (18 : Int32)) 6900) (g15 : m_c2 .ge (F_mage gm E_age E_since en) (F_mlife E_entryTold en) = false → m_c2 .eq (m_rd 0 E_wait (wa + (2 : Int32))) ((-1) : Int32) = false → m_c2 .eq (F_masks E_requests (m_rd 0 E_wait (wa + (2 : Int32))) (18 : Int32)) ((-1) : Int32) = false → m_c2 .gt (F_mage gm E_age E_since en) (F_masks E_requests (m_rd 0 E_wait (wa + (2 : Int32))) (18 : Int32)) = true → m_ix (((23 : Int32) * (m_rd 0 E_wait (wa + (2 : Int32)))) + (20 : Int32)) 6900) (g16 : m_c2 .ge (F_mage gm E_age E_since en) (F_mlife E_entryTold en) = false → m_c2 .eq (m_rd 0 E_wait (wa + (2 : Int32))) ((-1) : Int32) = false → m_c2 .eq (F_masks E_requests (m_rd 0 E_wait (wa + (2 : Int32))) (18 : Int32)) ((-1) : Int32) = false → m_c2 .gt (F_mage gm E_age E_since en) (F_masks E_requests (m_rd 0 E_wait (wa + (2 : Int32))) (18 : Int32)) = false → m_ix (((23 : Int32) * (m_rd 0 E_wait (wa + (2 : Int32)))) + (20 : Int32)) 6900) (g17 : m_c2 .ge (F_mage gm E_age E_since en) (F_mlife E_entryTold en) = false → m_c2 .eq (m_rd 0 E_wait (wa + (2 : Int32))) ((-1) : Int32) = false → m_c2 .eq (F_masks E_requests (m_rd 0 E_wait (wa + (2 : Int32))) (18 : Int32)) ((-1) : Int32) = false → m_c2 .gt (F_mage gm E_age E_since en) (F_masks E_requests (m_rd 0 E_wait (wa + (2 : Int32))) (18 : Int32)) = false → m_c2 .eq (F_masks E_requests (m_rd 0 E_wait (wa + (2 : Int32))) (20 : Int32)) ((-1) : Int32) = false → m_ix (((23 : Int32) * (m_rd 0 E_wait (wa + (2 : Int32)))) + (20 : Int32)) 6900) (g18 : m_c2 .ge (F_mage gm E_age E_since en) (F_mlife E_entryTold en) = false → m_c2 .eq (m_rd 0 E_wait (wa + (2 : Int32))) ((-1) : Int32) = false → m_c2 .eq (F_masks E_requests (m_rd 0 E_wait (wa + (2 : Int32))) (18 : Int32)) ((-1) : Int32) = false → m_c2 .gt (F_mage gm E_age E_since en) (F_masks E_requests (m_rd 0 E_wait (wa + (2 : Int32))) (18 : Int32)) = false → m_c2 .eq (F_masks E_requests (m_rd 0 E_wait (wa + (2 : Int32))) (20 : Int32)) ((-1) : Int32) = false → m_ix (((9 : Int32) * en) + (6 : Int32)) 64512) (g19 : m_c2 .ge (F_mage gm E_age E_since en) (F_mlife E_entryTold en) = false → m_c2 .eq (m_rd 0 E_wait (wa + (2 : Int32))) ((-1) : Int32) = false → m_c2 .eq (F_masks E_requests (m_rd 0 E_wait (wa + (2 : Int32))) (18 : Int32)) ((-1) : Int32) = false → m_c2 .gt (F_mage gm E_age E_since en) (F_masks E_requests (m_rd 0 E_wait (wa + (2 : Int32))) (18 : Int32)) = false → m_c2 .eq (F_masks E_requests (m_rd 0 E_wait (wa + (2 : Int32))) (20 : Int32)) ((-1) : Int32) = false → m_c2 .ne (F_mtold E_entryTold en (6 : Int32)) (1 : Int32) = true → m_ix (((9 : Int32) * en) + (2 : Int32)) 64512) : m_Rs l M_291 (m_ent M_291 [.ref 583, .int wa, .int en] w) (fun v w' => v = some (.int (F_mfresh gm E_entryTold E_age E_since E_requests E_wait wa en)) ∧ w' = w) 0 0 2 200 := by
  show m_Rs l M_291 (0, [(0, .ref 583), (1, .int wa), (2, .int en)], [], w) _ 0 0 2 200
  refine m_Rs.n0 b_291 (x_aload_n d_291_0 rfl) ?_
  refine m_Rs.n0 b_291 (x_getf d_291_1 rfl h_583 rfl) ?_
  refine m_Rs.n0 b_291 (x_iload_n d_291_4 rfl) ?_
  refine m_Rs.n0 b_291 (x_iconst (z := 2) d_291_5 (by decide)) ?_
  refine m_Rs.n0 b_291 (x_iadd d_291_6 rfl) ?_
  refine m_Rs.n0 b_291 (x_ldG d_291_7 h_622 rfl ((g1))) ?_
  refine m_Rs.n0 b_291 (x_istore_n d_291_8 rfl (show m_put1 _ _ _ = [(3, _), (0, _), (1, _), (2, _)] from rfl)) ?_
  refine m_Rs.n0 b_291 (x_aload_n d_291_9 rfl) ?_
  refine m_Rs.n0 b_291 (x_iload_n d_291_10 rfl) ?_
  refine m_Rs.callE b_291 (y_cv d_291_11 rfl q_292 (m_isRecv_of rfl h_583) (show m_takeI _ _ = some (_, [_, _], []) from rfl) (by simp only [m_okf, List.all_cons, List.all_nil, Bool.and_true, Bool.and_self, m_okv_i, m_okv_l, m_okv_0, m_okv_t, m_okv_at h_583]) rfl) (P_mage h_583 h_605 h_606 (g2) (g3)) rfl ?_ (by decide) (by decide)
  refine m_Rs.n0 b_291 (x_istore d_291_14 rfl (show m_put1 _ _ _ = [(4, _), (3, _), (0, _), (1, _), (2, _)] from rfl)) ?_
  refine m_Rs.n0 b_291 (x_iload d_291_16 rfl) ?_
  refine m_Rs.n0 b_291 (x_aload_n d_291_18 rfl) ?_
  refine m_Rs.n0 b_291 (x_iload_n d_291_19 rfl) ?_
  refine m_Rs.callE b_291 (y_cv d_291_20 rfl q_293 (m_isRecv_of rfl h_583) (show m_takeI _ _ = some (_, [_, _], [_]) from rfl) (by simp only [m_okf, List.all_cons, List.all_nil, Bool.and_true, Bool.and_self, m_okv_i, m_okv_l, m_okv_0, m_okv_t, m_okv_at h_583]) rfl) (P_mlife h_583 h_603 (g4) (g5)) rfl ?_ (by decide) (by decide)
  cases hc1 : m_c2 .ge (F_mage gm E_age E_since en) (F_mlife E_entryTold en) with
  | true =>
    refine m_Rs.n0 b_291 (x_ict d_291_23 rfl hc1) ?_
    refine m_Rs.n0 b_291 (x_iconst (z := 0) d_291_30 (by decide)) ?_
    refine m_Rs.n0 b_291 (x_istore d_291_31 rfl (show m_put1 _ _ _ = [(5, _), (4, _), (3, _), (0, _), (1, _), (2, _)] from rfl)) ?_
    refine m_Rs.n0 b_291 (x_iload_n d_291_33 rfl) ?_
    refine m_Rs.n0 b_291 (x_iconst (z := (-1)) d_291_34 (by decide)) ?_
    cases hc2 : m_c2 .eq (m_rd 0 E_wait (wa + (2 : Int32))) ((-1) : Int32) with
    | true =>
      refine m_Rs.n0 b_291 (x_ict d_291_35 rfl hc2) ?_
      refine m_Rs.n0 b_291 (x_iload_n d_291_73 rfl) ?_
      refine m_Rs.n0 b_291 (x_iconst (z := (-1)) d_291_74 (by decide)) ?_
      refine m_Rs.n0 b_291 (x_ict d_291_75 rfl hc2) ?_
      refine m_Rs.n0 b_291 (x_iload d_291_119 rfl) ?_
      refine m_Rs.ret b_291 (m_rt_ir d_291_121 rfl rfl) ?_
      exact ⟨by simp only [F_mfresh, hc1, hc2, cond_true, cond_false], rfl⟩
    | false =>
      refine m_Rs.n0 b_291 (x_icf d_291_35 rfl hc2) ?_
      refine m_Rs.n0 b_291 (x_aload_n d_291_38 rfl) ?_
      refine m_Rs.n0 b_291 (x_iload_n d_291_39 rfl) ?_
      refine m_Rs.n0 b_291 (x_bipush (z := 18) d_291_40 (by decide)) ?_
      refine m_Rs.callE b_291 (y_cv d_291_42 rfl q_282 (m_isRecv_of rfl h_583) (show m_takeI _ _ = some (_, [_, _, _], []) from rfl) (by simp only [m_okf, List.all_cons, List.all_nil, Bool.and_true, Bool.and_self, m_okv_i, m_okv_l, m_okv_0, m_okv_t, m_okv_at h_583]) rfl) (P_masks h_583 h_620 (g6 hc1 hc2)) rfl ?_ (by decide) (by decide)
      refine m_Rs.n0 b_291 (x_iconst (z := (-1)) d_291_45 (by decide)) ?_
      cases hc3 : m_c2 .eq (F_masks E_requests (m_rd 0 E_wait (wa + (2 : Int32))) (18 : Int32)) ((-1) : Int32) with
      | true =>
        refine m_Rs.n0 b_291 (x_ict d_291_46 rfl hc3) ?_
        refine m_Rs.n0 b_291 (x_iload_n d_291_73 rfl) ?_
        refine m_Rs.n0 b_291 (x_iconst (z := (-1)) d_291_74 (by decide)) ?_
        refine m_Rs.n0 b_291 (x_icf d_291_75 rfl hc2) ?_
        refine m_Rs.n0 b_291 (x_aload_n d_291_78 rfl) ?_
        refine m_Rs.n0 b_291 (x_iload_n d_291_79 rfl) ?_
        refine m_Rs.n0 b_291 (x_bipush (z := 20) d_291_80 (by decide)) ?_
        refine m_Rs.callE b_291 (y_cv d_291_82 rfl q_282 (m_isRecv_of rfl h_583) (show m_takeI _ _ = some (_, [_, _, _], []) from rfl) (by simp only [m_okf, List.all_cons, List.all_nil, Bool.and_true, Bool.and_self, m_okv_i, m_okv_l, m_okv_0, m_okv_t, m_okv_at h_583]) rfl) (P_masks h_583 h_620 (g7 hc1 hc2 hc3)) rfl ?_ (by decide) (by decide)
        refine m_Rs.n0 b_291 (x_iconst (z := (-1)) d_291_85 (by decide)) ?_
        cases hc4 : m_c2 .eq (F_masks E_requests (m_rd 0 E_wait (wa + (2 : Int32))) (20 : Int32)) ((-1) : Int32) with
        | true =>
          refine m_Rs.n0 b_291 (x_ict d_291_86 rfl hc4) ?_
          refine m_Rs.n0 b_291 (x_iload d_291_119 rfl) ?_
          refine m_Rs.ret b_291 (m_rt_ir d_291_121 rfl rfl) ?_
          exact ⟨by simp only [F_mfresh, hc1, hc2, hc3, hc4, cond_true, cond_false], rfl⟩
        | false =>
          refine m_Rs.n0 b_291 (x_icf d_291_86 rfl hc4) ?_
          refine m_Rs.n0 b_291 (x_iload d_291_89 rfl) ?_
          refine m_Rs.n0 b_291 (x_ift d_291_91 rfl (by decide)) ?_
          refine m_Rs.n0 b_291 (x_iconst (z := 0) d_291_116 (by decide)) ?_
          refine m_Rs.n0 b_291 (x_istore d_291_117 rfl (show m_put1 _ _ _ = [(5, _), (4, _), (3, _), (0, _), (1, _), (2, _)] from rfl)) ?_
          refine m_Rs.n0 b_291 (x_iload d_291_119 rfl) ?_
          refine m_Rs.ret b_291 (m_rt_ir d_291_121 rfl rfl) ?_
          exact ⟨by simp only [F_mfresh, hc1, hc2, hc3, hc4, cond_true, cond_false], rfl⟩
      | false =>
        refine m_Rs.n0 b_291 (x_icf d_291_46 rfl hc3) ?_
        refine m_Rs.n0 b_291 (x_iload d_291_49 rfl) ?_
        refine m_Rs.n0 b_291 (x_ift d_291_51 rfl (by decide)) ?_
        refine m_Rs.n0 b_291 (x_iconst (z := 0) d_291_70 (by decide)) ?_
        refine m_Rs.n0 b_291 (x_istore d_291_71 rfl (show m_put1 _ _ _ = [(5, _), (4, _), (3, _), (0, _), (1, _), (2, _)] from rfl)) ?_
        refine m_Rs.n0 b_291 (x_iload_n d_291_73 rfl) ?_
        refine m_Rs.n0 b_291 (x_iconst (z := (-1)) d_291_74 (by decide)) ?_
        refine m_Rs.n0 b_291 (x_icf d_291_75 rfl hc2) ?_
        refine m_Rs.n0 b_291 (x_aload_n d_291_78 rfl) ?_
        refine m_Rs.n0 b_291 (x_iload_n d_291_79 rfl) ?_
        refine m_Rs.n0 b_291 (x_bipush (z := 20) d_291_80 (by decide)) ?_
        refine m_Rs.callE b_291 (y_cv d_291_82 rfl q_282 (m_isRecv_of rfl h_583) (show m_takeI _ _ = some (_, [_, _, _], []) from rfl) (by simp only [m_okf, List.all_cons, List.all_nil, Bool.and_true, Bool.and_self, m_okv_i, m_okv_l, m_okv_0, m_okv_t, m_okv_at h_583]) rfl) (P_masks h_583 h_620 (g8 hc1 hc2 hc3)) rfl ?_ (by decide) (by decide)
        refine m_Rs.n0 b_291 (x_iconst (z := (-1)) d_291_85 (by decide)) ?_
        cases hc5 : m_c2 .eq (F_masks E_requests (m_rd 0 E_wait (wa + (2 : Int32))) (20 : Int32)) ((-1) : Int32) with
        | true =>
          refine m_Rs.n0 b_291 (x_ict d_291_86 rfl hc5) ?_
          refine m_Rs.n0 b_291 (x_iload d_291_119 rfl) ?_
          refine m_Rs.ret b_291 (m_rt_ir d_291_121 rfl rfl) ?_
          exact ⟨by simp only [F_mfresh, hc1, hc2, hc3, hc5, cond_true, cond_false], rfl⟩
        | false =>
          refine m_Rs.n0 b_291 (x_icf d_291_86 rfl hc5) ?_
          refine m_Rs.n0 b_291 (x_iload d_291_89 rfl) ?_
          refine m_Rs.n0 b_291 (x_ift d_291_91 rfl (by decide)) ?_
          refine m_Rs.n0 b_291 (x_iconst (z := 0) d_291_116 (by decide)) ?_
          refine m_Rs.n0 b_291 (x_istore d_291_117 rfl (show m_put1 _ _ _ = [(5, _), (4, _), (3, _), (0, _), (1, _), (2, _)] from rfl)) ?_
          refine m_Rs.n0 b_291 (x_iload d_291_119 rfl) ?_
          refine m_Rs.ret b_291 (m_rt_ir d_291_121 rfl rfl) ?_
          exact ⟨by simp only [F_mfresh, hc1, hc2, hc3, hc5, cond_true, cond_false], rfl⟩
  | false =>
    refine m_Rs.n0 b_291 (x_icf d_291_23 rfl hc1) ?_
    refine m_Rs.n0 b_291 (x_iconst (z := 1) d_291_26 (by decide)) ?_
    refine m_Rs.n0 b_291 (x_goto d_291_27 rfl) ?_
    refine m_Rs.n0 b_291 (x_istore d_291_31 rfl (show m_put1 _ _ _ = [(5, _), (4, _), (3, _), (0, _), (1, _), (2, _)] from rfl)) ?_
    refine m_Rs.n0 b_291 (x_iload_n d_291_33 rfl) ?_
    refine m_Rs.n0 b_291 (x_iconst (z := (-1)) d_291_34 (by decide)) ?_
    cases hc6 : m_c2 .eq (m_rd 0 E_wait (wa + (2 : Int32))) ((-1) : Int32) with
    | true =>
      refine m_Rs.n0 b_291 (x_ict d_291_35 rfl hc6) ?_
      refine m_Rs.n0 b_291 (x_iload_n d_291_73 rfl) ?_
      refine m_Rs.n0 b_291 (x_iconst (z := (-1)) d_291_74 (by decide)) ?_
      refine m_Rs.n0 b_291 (x_ict d_291_75 rfl hc6) ?_
      refine m_Rs.n0 b_291 (x_iload d_291_119 rfl) ?_
      refine m_Rs.ret b_291 (m_rt_ir d_291_121 rfl rfl) ?_
      exact ⟨by simp only [F_mfresh, hc1, hc6, cond_true, cond_false], rfl⟩
    | false =>
      refine m_Rs.n0 b_291 (x_icf d_291_35 rfl hc6) ?_
      refine m_Rs.n0 b_291 (x_aload_n d_291_38 rfl) ?_
      refine m_Rs.n0 b_291 (x_iload_n d_291_39 rfl) ?_
      refine m_Rs.n0 b_291 (x_bipush (z := 18) d_291_40 (by decide)) ?_
      refine m_Rs.callE b_291 (y_cv d_291_42 rfl q_282 (m_isRecv_of rfl h_583) (show m_takeI _ _ = some (_, [_, _, _], []) from rfl) (by simp only [m_okf, List.all_cons, List.all_nil, Bool.and_true, Bool.and_self, m_okv_i, m_okv_l, m_okv_0, m_okv_t, m_okv_at h_583]) rfl) (P_masks h_583 h_620 (g9 hc1 hc6)) rfl ?_ (by decide) (by decide)
      refine m_Rs.n0 b_291 (x_iconst (z := (-1)) d_291_45 (by decide)) ?_
      cases hc7 : m_c2 .eq (F_masks E_requests (m_rd 0 E_wait (wa + (2 : Int32))) (18 : Int32)) ((-1) : Int32) with
      | true =>
        refine m_Rs.n0 b_291 (x_ict d_291_46 rfl hc7) ?_
        refine m_Rs.n0 b_291 (x_iload_n d_291_73 rfl) ?_
        refine m_Rs.n0 b_291 (x_iconst (z := (-1)) d_291_74 (by decide)) ?_
        refine m_Rs.n0 b_291 (x_icf d_291_75 rfl hc6) ?_
        refine m_Rs.n0 b_291 (x_aload_n d_291_78 rfl) ?_
        refine m_Rs.n0 b_291 (x_iload_n d_291_79 rfl) ?_
        refine m_Rs.n0 b_291 (x_bipush (z := 20) d_291_80 (by decide)) ?_
        refine m_Rs.callE b_291 (y_cv d_291_82 rfl q_282 (m_isRecv_of rfl h_583) (show m_takeI _ _ = some (_, [_, _, _], []) from rfl) (by simp only [m_okf, List.all_cons, List.all_nil, Bool.and_true, Bool.and_self, m_okv_i, m_okv_l, m_okv_0, m_okv_t, m_okv_at h_583]) rfl) (P_masks h_583 h_620 (g10 hc1 hc6 hc7)) rfl ?_ (by decide) (by decide)
        refine m_Rs.n0 b_291 (x_iconst (z := (-1)) d_291_85 (by decide)) ?_
        cases hc8 : m_c2 .eq (F_masks E_requests (m_rd 0 E_wait (wa + (2 : Int32))) (20 : Int32)) ((-1) : Int32) with
        | true =>
          refine m_Rs.n0 b_291 (x_ict d_291_86 rfl hc8) ?_
          refine m_Rs.n0 b_291 (x_iload d_291_119 rfl) ?_
          refine m_Rs.ret b_291 (m_rt_ir d_291_121 rfl rfl) ?_
          exact ⟨by simp only [F_mfresh, hc1, hc6, hc7, hc8, cond_true, cond_false], rfl⟩
        | false =>
          refine m_Rs.n0 b_291 (x_icf d_291_86 rfl hc8) ?_
          refine m_Rs.n0 b_291 (x_iload d_291_89 rfl) ?_
          refine m_Rs.n0 b_291 (x_iff d_291_91 rfl (by decide)) ?_
          refine m_Rs.n0 b_291 (x_iload d_291_94 rfl) ?_
          refine m_Rs.n0 b_291 (x_aload_n d_291_96 rfl) ?_
          refine m_Rs.n0 b_291 (x_iload_n d_291_97 rfl) ?_
          refine m_Rs.n0 b_291 (x_bipush (z := 20) d_291_98 (by decide)) ?_
          refine m_Rs.callE b_291 (y_cv d_291_100 rfl q_282 (m_isRecv_of rfl h_583) (show m_takeI _ _ = some (_, [_, _, _], [_]) from rfl) (by simp only [m_okf, List.all_cons, List.all_nil, Bool.and_true, Bool.and_self, m_okv_i, m_okv_l, m_okv_0, m_okv_t, m_okv_at h_583]) rfl) (P_masks h_583 h_620 (g11 hc1 hc6 hc7 hc8)) rfl ?_ (by decide) (by decide)
          refine m_Rs.n0 b_291 (x_iadd d_291_103 rfl) ?_
          refine m_Rs.n0 b_291 (x_aload_n d_291_104 rfl) ?_
          refine m_Rs.n0 b_291 (x_iload_n d_291_105 rfl) ?_
          refine m_Rs.callE b_291 (y_cv d_291_106 rfl q_293 (m_isRecv_of rfl h_583) (show m_takeI _ _ = some (_, [_, _], [_]) from rfl) (by simp only [m_okf, List.all_cons, List.all_nil, Bool.and_true, Bool.and_self, m_okv_i, m_okv_l, m_okv_0, m_okv_t, m_okv_at h_583]) rfl) (P_mlife h_583 h_603 (g12 hc1 hc6 hc7 hc8) (g13 hc1 hc6 hc7 hc8)) rfl ?_ (by decide) (by decide)
          cases hc9 : m_c2 .ge ((F_mage gm E_age E_since en) + (F_masks E_requests (m_rd 0 E_wait (wa + (2 : Int32))) (20 : Int32))) (F_mlife E_entryTold en) with
          | true =>
            refine m_Rs.n0 b_291 (x_ict d_291_109 rfl hc9) ?_
            refine m_Rs.n0 b_291 (x_iconst (z := 0) d_291_116 (by decide)) ?_
            refine m_Rs.n0 b_291 (x_istore d_291_117 rfl (show m_put1 _ _ _ = [(5, _), (4, _), (3, _), (0, _), (1, _), (2, _)] from rfl)) ?_
            refine m_Rs.n0 b_291 (x_iload d_291_119 rfl) ?_
            refine m_Rs.ret b_291 (m_rt_ir d_291_121 rfl rfl) ?_
            exact ⟨by simp only [F_mfresh, hc1, hc6, hc7, hc8, hc9, cond_true, cond_false], rfl⟩
          | false =>
            refine m_Rs.n0 b_291 (x_icf d_291_109 rfl hc9) ?_
            refine m_Rs.n0 b_291 (x_iconst (z := 1) d_291_112 (by decide)) ?_
            refine m_Rs.n0 b_291 (x_goto d_291_113 rfl) ?_
            refine m_Rs.n0 b_291 (x_istore d_291_117 rfl (show m_put1 _ _ _ = [(5, _), (4, _), (3, _), (0, _), (1, _), (2, _)] from rfl)) ?_
            refine m_Rs.n0 b_291 (x_iload d_291_119 rfl) ?_
            refine m_Rs.ret b_291 (m_rt_ir d_291_121 rfl rfl) ?_
            exact ⟨by simp only [F_mfresh, hc1, hc6, hc7, hc8, hc9, cond_true, cond_false], rfl⟩
      | false =>
        refine m_Rs.n0 b_291 (x_icf d_291_46 rfl hc7) ?_
        refine m_Rs.n0 b_291 (x_iload d_291_49 rfl) ?_
        refine m_Rs.n0 b_291 (x_iff d_291_51 rfl (by decide)) ?_
        refine m_Rs.n0 b_291 (x_iload d_291_54 rfl) ?_
        refine m_Rs.n0 b_291 (x_aload_n d_291_56 rfl) ?_
        refine m_Rs.n0 b_291 (x_iload_n d_291_57 rfl) ?_
        refine m_Rs.n0 b_291 (x_bipush (z := 18) d_291_58 (by decide)) ?_
        refine m_Rs.callE b_291 (y_cv d_291_60 rfl q_282 (m_isRecv_of rfl h_583) (show m_takeI _ _ = some (_, [_, _, _], [_]) from rfl) (by simp only [m_okf, List.all_cons, List.all_nil, Bool.and_true, Bool.and_self, m_okv_i, m_okv_l, m_okv_0, m_okv_t, m_okv_at h_583]) rfl) (P_masks h_583 h_620 (g14 hc1 hc6 hc7)) rfl ?_ (by decide) (by decide)
        cases hc10 : m_c2 .gt (F_mage gm E_age E_since en) (F_masks E_requests (m_rd 0 E_wait (wa + (2 : Int32))) (18 : Int32)) with
        | true =>
          refine m_Rs.n0 b_291 (x_ict d_291_63 rfl hc10) ?_
          refine m_Rs.n0 b_291 (x_iconst (z := 0) d_291_70 (by decide)) ?_
          refine m_Rs.n0 b_291 (x_istore d_291_71 rfl (show m_put1 _ _ _ = [(5, _), (4, _), (3, _), (0, _), (1, _), (2, _)] from rfl)) ?_
          refine m_Rs.n0 b_291 (x_iload_n d_291_73 rfl) ?_
          refine m_Rs.n0 b_291 (x_iconst (z := (-1)) d_291_74 (by decide)) ?_
          refine m_Rs.n0 b_291 (x_icf d_291_75 rfl hc6) ?_
          refine m_Rs.n0 b_291 (x_aload_n d_291_78 rfl) ?_
          refine m_Rs.n0 b_291 (x_iload_n d_291_79 rfl) ?_
          refine m_Rs.n0 b_291 (x_bipush (z := 20) d_291_80 (by decide)) ?_
          refine m_Rs.callE b_291 (y_cv d_291_82 rfl q_282 (m_isRecv_of rfl h_583) (show m_takeI _ _ = some (_, [_, _, _], []) from rfl) (by simp only [m_okf, List.all_cons, List.all_nil, Bool.and_true, Bool.and_self, m_okv_i, m_okv_l, m_okv_0, m_okv_t, m_okv_at h_583]) rfl) (P_masks h_583 h_620 (g15 hc1 hc6 hc7 hc10)) rfl ?_ (by decide) (by decide)
          refine m_Rs.n0 b_291 (x_iconst (z := (-1)) d_291_85 (by decide)) ?_
          cases hc11 : m_c2 .eq (F_masks E_requests (m_rd 0 E_wait (wa + (2 : Int32))) (20 : Int32)) ((-1) : Int32) with
          | true =>
            refine m_Rs.n0 b_291 (x_ict d_291_86 rfl hc11) ?_
            refine m_Rs.n0 b_291 (x_iload d_291_119 rfl) ?_
            refine m_Rs.ret b_291 (m_rt_ir d_291_121 rfl rfl) ?_
            exact ⟨by simp only [F_mfresh, hc1, hc6, hc7, hc10, hc11, cond_true, cond_false], rfl⟩
          | false =>
            refine m_Rs.n0 b_291 (x_icf d_291_86 rfl hc11) ?_
            refine m_Rs.n0 b_291 (x_iload d_291_89 rfl) ?_
            refine m_Rs.n0 b_291 (x_ift d_291_91 rfl (by decide)) ?_
            refine m_Rs.n0 b_291 (x_iconst (z := 0) d_291_116 (by decide)) ?_
            refine m_Rs.n0 b_291 (x_istore d_291_117 rfl (show m_put1 _ _ _ = [(5, _), (4, _), (3, _), (0, _), (1, _), (2, _)] from rfl)) ?_
            refine m_Rs.n0 b_291 (x_iload d_291_119 rfl) ?_
            refine m_Rs.ret b_291 (m_rt_ir d_291_121 rfl rfl) ?_
            exact ⟨by simp only [F_mfresh, hc1, hc6, hc7, hc10, hc11, cond_true, cond_false], rfl⟩
        | false =>
          refine m_Rs.n0 b_291 (x_icf d_291_63 rfl hc10) ?_
          refine m_Rs.n0 b_291 (x_iconst (z := 1) d_291_66 (by decide)) ?_
          refine m_Rs.n0 b_291 (x_goto d_291_67 rfl) ?_
          refine m_Rs.n0 b_291 (x_istore d_291_71 rfl (show m_put1 _ _ _ = [(5, _), (4, _), (3, _), (0, _), (1, _), (2, _)] from rfl)) ?_
          refine m_Rs.n0 b_291 (x_iload_n d_291_73 rfl) ?_
          refine m_Rs.n0 b_291 (x_iconst (z := (-1)) d_291_74 (by decide)) ?_
          refine m_Rs.n0 b_291 (x_icf d_291_75 rfl hc6) ?_
          refine m_Rs.n0 b_291 (x_aload_n d_291_78 rfl) ?_
          refine m_Rs.n0 b_291 (x_iload_n d_291_79 rfl) ?_
          refine m_Rs.n0 b_291 (x_bipush (z := 20) d_291_80 (by decide)) ?_
          refine m_Rs.callE b_291 (y_cv d_291_82 rfl q_282 (m_isRecv_of rfl h_583) (show m_takeI _ _ = some (_, [_, _, _], []) from rfl) (by simp only [m_okf, List.all_cons, List.all_nil, Bool.and_true, Bool.and_self, m_okv_i, m_okv_l, m_okv_0, m_okv_t, m_okv_at h_583]) rfl) (P_masks h_583 h_620 (g16 hc1 hc6 hc7 hc10)) rfl ?_ (by decide) (by decide)
          refine m_Rs.n0 b_291 (x_iconst (z := (-1)) d_291_85 (by decide)) ?_
          cases hc12 : m_c2 .eq (F_masks E_requests (m_rd 0 E_wait (wa + (2 : Int32))) (20 : Int32)) ((-1) : Int32) with
          | true =>
            refine m_Rs.n0 b_291 (x_ict d_291_86 rfl hc12) ?_
            refine m_Rs.n0 b_291 (x_iload d_291_119 rfl) ?_
            refine m_Rs.ret b_291 (m_rt_ir d_291_121 rfl rfl) ?_
            exact ⟨by simp only [F_mfresh, hc1, hc6, hc7, hc10, hc12, cond_true, cond_false], rfl⟩
          | false =>
            refine m_Rs.n0 b_291 (x_icf d_291_86 rfl hc12) ?_
            refine m_Rs.n0 b_291 (x_iload d_291_89 rfl) ?_
            refine m_Rs.n0 b_291 (x_iff d_291_91 rfl (by decide)) ?_
            refine m_Rs.n0 b_291 (x_iload d_291_94 rfl) ?_
            refine m_Rs.n0 b_291 (x_aload_n d_291_96 rfl) ?_
            refine m_Rs.n0 b_291 (x_iload_n d_291_97 rfl) ?_
            refine m_Rs.n0 b_291 (x_bipush (z := 20) d_291_98 (by decide)) ?_
            refine m_Rs.callE b_291 (y_cv d_291_100 rfl q_282 (m_isRecv_of rfl h_583) (show m_takeI _ _ = some (_, [_, _, _], [_]) from rfl) (by simp only [m_okf, List.all_cons, List.all_nil, Bool.and_true, Bool.and_self, m_okv_i, m_okv_l, m_okv_0, m_okv_t, m_okv_at h_583]) rfl) (P_masks h_583 h_620 (g17 hc1 hc6 hc7 hc10 hc12)) rfl ?_ (by decide) (by decide)
            refine m_Rs.n0 b_291 (x_iadd d_291_103 rfl) ?_
            refine m_Rs.n0 b_291 (x_aload_n d_291_104 rfl) ?_
            refine m_Rs.n0 b_291 (x_iload_n d_291_105 rfl) ?_
            refine m_Rs.callE b_291 (y_cv d_291_106 rfl q_293 (m_isRecv_of rfl h_583) (show m_takeI _ _ = some (_, [_, _], [_]) from rfl) (by simp only [m_okf, List.all_cons, List.all_nil, Bool.and_true, Bool.and_self, m_okv_i, m_okv_l, m_okv_0, m_okv_t, m_okv_at h_583]) rfl) (P_mlife h_583 h_603 (g18 hc1 hc6 hc7 hc10 hc12) (g19 hc1 hc6 hc7 hc10 hc12)) rfl ?_ (by decide) (by decide)
            cases hc13 : m_c2 .ge ((F_mage gm E_age E_since en) + (F_masks E_requests (m_rd 0 E_wait (wa + (2 : Int32))) (20 : Int32))) (F_mlife E_entryTold en) with
            | true =>
              refine m_Rs.n0 b_291 (x_ict d_291_109 rfl hc13) ?_
              refine m_Rs.n0 b_291 (x_iconst (z := 0) d_291_116 (by decide)) ?_
              refine m_Rs.n0 b_291 (x_istore d_291_117 rfl (show m_put1 _ _ _ = [(5, _), (4, _), (3, _), (0, _), (1, _), (2, _)] from rfl)) ?_
              refine m_Rs.n0 b_291 (x_iload d_291_119 rfl) ?_
              refine m_Rs.ret b_291 (m_rt_ir d_291_121 rfl rfl) ?_
              exact ⟨by simp only [F_mfresh, hc1, hc6, hc7, hc10, hc12, hc13, cond_true, cond_false], rfl⟩
            | false =>
              refine m_Rs.n0 b_291 (x_icf d_291_109 rfl hc13) ?_
              refine m_Rs.n0 b_291 (x_iconst (z := 1) d_291_112 (by decide)) ?_
              refine m_Rs.n0 b_291 (x_goto d_291_113 rfl) ?_
              refine m_Rs.n0 b_291 (x_istore d_291_117 rfl (show m_put1 _ _ _ = [(5, _), (4, _), (3, _), (0, _), (1, _), (2, _)] from rfl)) ?_
              refine m_Rs.n0 b_291 (x_iload d_291_119 rfl) ?_
              refine m_Rs.ret b_291 (m_rt_ir d_291_121 rfl rfl) ?_
              exact ⟨by simp only [F_mfresh, hc1, hc6, hc7, hc10, hc12, hc13, cond_true, cond_false], rfl⟩
def F_mstale (gm : Nat → Int32) (E_entryTold E_age E_since E_requests E_wait : List (Nat × Value)) (wa en : Int32) : Int32 := (cond (m_c2 .eq (m_rd 0 E_wait (wa + (2 : Int32))) ((-1) : Int32)) (cond (m_c2 .ge (F_mage gm E_age E_since en) ((F_mlife E_entryTold en) + (F_mtold E_entryTold en (4 : Int32)))) (0 : Int32) (1 : Int32)) (cond (m_c2 .eq (F_masks E_requests (m_rd 0 E_wait (wa + (2 : Int32))) (19 : Int32)) ((-1) : Int32)) (cond (m_c2 .ne (F_masks E_requests (m_rd 0 E_wait (wa + (2 : Int32))) (18 : Int32)) ((-1) : Int32)) (0 : Int32) (cond (m_c2 .ne (F_masks E_requests (m_rd 0 E_wait (wa + (2 : Int32))) (20 : Int32)) ((-1) : Int32)) (0 : Int32) (cond (m_c2 .ge (F_mage gm E_age E_since en) ((F_mlife E_entryTold en) + (F_mtold E_entryTold en (4 : Int32)))) (0 : Int32) (1 : Int32)))) (cond (m_c2 .ge (F_mage gm E_age E_since en) ((F_mlife E_entryTold en) + (F_masks E_requests (m_rd 0 E_wait (wa + (2 : Int32))) (19 : Int32)))) (cond (m_c2 .ne (F_masks E_requests (m_rd 0 E_wait (wa + (2 : Int32))) (18 : Int32)) ((-1) : Int32)) (0 : Int32) (cond (m_c2 .ne (F_masks E_requests (m_rd 0 E_wait (wa + (2 : Int32))) (20 : Int32)) ((-1) : Int32)) (0 : Int32) (cond (m_c2 .ge (F_mage gm E_age E_since en) ((F_mlife E_entryTold en) + (F_mtold E_entryTold en (4 : Int32)))) (0 : Int32) (1 : Int32)))) (1 : Int32))))
theorem P_mstale {l : Launch} {w : List mM} {gm : Nat → Int32} {E_entryTold E_age E_since E_requests E_wait : List (Nat × Value)} {wa en : Int32} (h_583 : m_at w 583 = some (.inr (14, f_M gm))) (h_603 : m_at w 603 = some (.inl (0, 64512, E_entryTold))) (h_605 : m_at w 605 = some (.inl (0, 7168, E_age))) (h_606 : m_at w 606 = some (.inl (0, 7168, E_since))) (h_620 : m_at w 620 = some (.inl (0, 6900, E_requests))) (h_622 : m_at w 622 = some (.inl (0, 48000, E_wait))) (g1 : m_ix (wa + (2 : Int32)) 48000) (g2 : m_ix en 7168) (g3 : m_ix en 7168) (g4 : m_c2 .eq (m_rd 0 E_wait (wa + (2 : Int32))) ((-1) : Int32) = true → m_ix (((9 : Int32) * en) + (6 : Int32)) 64512) (g5 : m_c2 .eq (m_rd 0 E_wait (wa + (2 : Int32))) ((-1) : Int32) = true → m_c2 .ne (F_mtold E_entryTold en (6 : Int32)) (1 : Int32) = true → m_ix (((9 : Int32) * en) + (2 : Int32)) 64512) (g6 : m_c2 .eq (m_rd 0 E_wait (wa + (2 : Int32))) ((-1) : Int32) = true → m_ix (((9 : Int32) * en) + (4 : Int32)) 64512) (g7 : m_c2 .eq (m_rd 0 E_wait (wa + (2 : Int32))) ((-1) : Int32) = false → m_ix (((23 : Int32) * (m_rd 0 E_wait (wa + (2 : Int32)))) + (19 : Int32)) 6900) (g8 : m_c2 .eq (m_rd 0 E_wait (wa + (2 : Int32))) ((-1) : Int32) = false → m_c2 .eq (F_masks E_requests (m_rd 0 E_wait (wa + (2 : Int32))) (19 : Int32)) ((-1) : Int32) = true → m_ix (((23 : Int32) * (m_rd 0 E_wait (wa + (2 : Int32)))) + (18 : Int32)) 6900) (g9 : m_c2 .eq (m_rd 0 E_wait (wa + (2 : Int32))) ((-1) : Int32) = false → m_c2 .eq (F_masks E_requests (m_rd 0 E_wait (wa + (2 : Int32))) (19 : Int32)) ((-1) : Int32) = true → m_c2 .ne (F_masks E_requests (m_rd 0 E_wait (wa + (2 : Int32))) (18 : Int32)) ((-1) : Int32) = false → m_ix (((23 : Int32) * (m_rd 0 E_wait (wa + (2 : Int32)))) + (20 : Int32)) 6900) (g10 : m_c2 .eq (m_rd 0 E_wait (wa + (2 : Int32))) ((-1) : Int32) = false → m_c2 .eq (F_masks E_requests (m_rd 0 E_wait (wa + (2 : Int32))) (19 : Int32)) ((-1) : Int32) = true → m_c2 .ne (F_masks E_requests (m_rd 0 E_wait (wa + (2 : Int32))) (18 : Int32)) ((-1) : Int32) = false → m_c2 .ne (F_masks E_requests (m_rd 0 E_wait (wa + (2 : Int32))) (20 : Int32)) ((-1) : Int32) = false → m_ix (((9 : Int32) * en) + (6 : Int32)) 64512) (g11 : m_c2 .eq (m_rd 0 E_wait (wa + (2 : Int32))) ((-1) : Int32) = false → m_c2 .eq (F_masks E_requests (m_rd 0 E_wait (wa + (2 : Int32))) (19 : Int32)) ((-1) : Int32) = true → m_c2 .ne (F_masks E_requests (m_rd 0 E_wait (wa + (2 : Int32))) (18 : Int32)) ((-1) : Int32) = false → m_c2 .ne (F_masks E_requests (m_rd 0 E_wait (wa + (2 : Int32))) (20 : Int32)) ((-1) : Int32) = false → m_c2 .ne (F_mtold E_entryTold en (6 : Int32)) (1 : Int32) = true → m_ix (((9 : Int32) * en) + (2 : Int32)) 64512) (g12 : m_c2 .eq (m_rd 0 E_wait (wa + (2 : Int32))) ((-1) : Int32) = false → m_c2 .eq (F_masks E_requests (m_rd 0 E_wait (wa + (2 : Int32))) (19 : Int32)) ((-1) : Int32) = true → m_c2 .ne (F_masks E_requests (m_rd 0 E_wait (wa + (2 : Int32))) (18 : Int32)) ((-1) : Int32) = false → m_c2 .ne (F_masks E_requests (m_rd 0 E_wait (wa + (2 : Int32))) (20 : Int32)) ((-1) : Int32) = false → m_ix (((9 : Int32) * en) + (4 : Int32)) 64512) (g13 : m_c2 .eq (m_rd 0 E_wait (wa + (2 : Int32))) ((-1) : Int32) = false → m_c2 .eq (F_masks E_requests (m_rd 0 E_wait (wa + (2 : Int32))) (19 : Int32)) ((-1) : Int32) = false → m_ix (((9 : Int32) * en) + (6 : Int32)) 64512) (g14 : m_c2 .eq (m_rd 0 E_wait (wa + (2 : Int32))) ((-1) : Int32) = false → m_c2 .eq (F_masks E_requests (m_rd 0 E_wait (wa + (2 : Int32))) (19 : Int32)) ((-1) : Int32) = false → m_c2 .ne (F_mtold E_entryTold en (6 : Int32)) (1 : Int32) = true → m_ix (((9 : Int32) * en) + (2 : Int32)) 64512) (g15 : m_c2 .eq (m_rd 0 E_wait (wa + (2 : Int32))) ((-1) : Int32) = false → m_c2 .eq (F_masks E_requests (m_rd 0 E_wait (wa + (2 : Int32))) (19 : Int32)) ((-1) : Int32) = false → m_ix (((23 : Int32) * (m_rd 0 E_wait (wa + (2 : Int32)))) + (19 : Int32)) 6900) (g16 : m_c2 .eq (m_rd 0 E_wait (wa + (2 : Int32))) ((-1) : Int32) = false → m_c2 .eq (F_masks E_requests (m_rd 0 E_wait (wa + (2 : Int32))) (19 : Int32)) ((-1) : Int32) = false → m_c2 .ge (F_mage gm E_age E_since en) ((F_mlife E_entryTold en) + (F_masks E_requests (m_rd 0 E_wait (wa + (2 : Int32))) (19 : Int32))) = true → m_ix (((23 : Int32) * (m_rd 0 E_wait (wa + (2 : Int32)))) + (18 : Int32)) 6900) (g17 : m_c2 .eq (m_rd 0 E_wait (wa + (2 : Int32))) ((-1) : Int32) = false → m_c2 .eq (F_masks E_requests (m_rd 0 E_wait (wa + (2 : Int32))) (19 : Int32)) ((-1) : Int32) = false → m_c2 .ge (F_mage gm E_age E_since en) ((F_mlife E_entryTold en) + (F_masks E_requests (m_rd 0 E_wait (wa + (2 : Int32))) (19 : Int32))) = true → m_c2 .ne (F_masks E_requests (m_rd 0 E_wait (wa + (2 : Int32))) (18 : Int32)) ((-1) : Int32) = false → m_ix (((23 : Int32) * (m_rd 0 E_wait (wa + (2 : Int32)))) + (20 : Int32)) 6900) (g18 : m_c2 .eq (m_rd 0 E_wait (wa + (2 : Int32))) ((-1) : Int32) = false → m_c2 .eq (F_masks E_requests (m_rd 0 E_wait (wa + (2 : Int32))) (19 : Int32)) ((-1) : Int32) = false → m_c2 .ge (F_mage gm E_age E_since en) ((F_mlife E_entryTold en) + (F_masks E_requests (m_rd 0 E_wait (wa + (2 : Int32))) (19 : Int32))) = true → m_c2 .ne (F_masks E_requests (m_rd 0 E_wait (wa + (2 : Int32))) (18 : Int32)) ((-1) : Int32) = false → m_c2 .ne (F_masks E_requests (m_rd 0 E_wait (wa + (2 : Int32))) (20 : Int32)) ((-1) : Int32) = false → m_ix (((9 : Int32) * en) + (6 : Int32)) 64512) (g19 : m_c2 .eq (m_rd 0 E_wait (wa + (2 : Int32))) ((-1) : Int32) = false → m_c2 .eq (F_masks E_requests (m_rd 0 E_wait (wa + (2 : Int32))) (19 : Int32)) ((-1) : Int32) = false → m_c2 .ge (F_mage gm E_age E_since en) ((F_mlife E_entryTold en) + (F_masks E_requests (m_rd 0 E_wait (wa + (2 : Int32))) (19 : Int32))) = true → m_c2 .ne (F_masks E_requests (m_rd 0 E_wait (wa + (2 : Int32))) (18 : Int32)) ((-1) : Int32) = false → m_c2 .ne (F_masks E_requests (m_rd 0 E_wait (wa + (2 : Int32))) (20 : Int32)) ((-1) : Int32) = false → m_c2 .ne (F_mtold E_entryTold en (6 : Int32)) (1 : Int32) = true → m_ix (((9 : Int32) * en) + (2 : Int32)) 64512) (g20 : m_c2 .eq (m_rd 0 E_wait (wa + (2 : Int32))) ((-1) : Int32) = false → m_c2 .eq (F_masks E_requests (m_rd 0 E_wait (wa + (2 : Int32))) (19 : Int32)) ((-1) : Int32) = false → m_c2 .ge (F_mage gm E_age E_since en) ((F_mlife E_entryTold en) + (F_masks E_requests (m_rd 0 E_wait (wa + (2 : Int32))) (19 : Int32))) = true → m_c2 .ne (F_masks E_requests (m_rd 0 E_wait (wa + (2 : Int32))) (18 : Int32)) ((-1) : Int32) = false → m_c2 .ne (F_masks E_requests (m_rd 0 E_wait (wa + (2 : Int32))) (20 : Int32)) ((-1) : Int32) = false → m_ix (((9 : Int32) * en) + (4 : Int32)) 64512) : m_Rs l M_306 (m_ent M_306 [.ref 583, .int wa, .int en] w) (fun v w' => v = some (.int (F_mstale gm E_entryTold E_age E_since E_requests E_wait wa en)) ∧ w' = w) 0 0 2 200 := by
  show m_Rs l M_306 (0, [(0, .ref 583), (1, .int wa), (2, .int en)], [], w) _ 0 0 2 200
  refine m_Rs.n0 b_306 (x_aload_n d_306_0 rfl) ?_
  refine m_Rs.n0 b_306 (x_getf d_306_1 rfl h_583 rfl) ?_
  refine m_Rs.n0 b_306 (x_iload_n d_306_4 rfl) ?_
  refine m_Rs.n0 b_306 (x_iconst (z := 2) d_306_5 (by decide)) ?_
  refine m_Rs.n0 b_306 (x_iadd d_306_6 rfl) ?_
  refine m_Rs.n0 b_306 (x_ldG d_306_7 h_622 rfl ((g1))) ?_
  refine m_Rs.n0 b_306 (x_istore_n d_306_8 rfl (show m_put1 _ _ _ = [(3, _), (0, _), (1, _), (2, _)] from rfl)) ?_
  refine m_Rs.n0 b_306 (x_aload_n d_306_9 rfl) ?_
  refine m_Rs.n0 b_306 (x_iload_n d_306_10 rfl) ?_
  refine m_Rs.callE b_306 (y_cv d_306_11 rfl q_292 (m_isRecv_of rfl h_583) (show m_takeI _ _ = some (_, [_, _], []) from rfl) (by simp only [m_okf, List.all_cons, List.all_nil, Bool.and_true, Bool.and_self, m_okv_i, m_okv_l, m_okv_0, m_okv_t, m_okv_at h_583]) rfl) (P_mage h_583 h_605 h_606 (g2) (g3)) rfl ?_ (by decide) (by decide)
  refine m_Rs.n0 b_306 (x_istore d_306_14 rfl (show m_put1 _ _ _ = [(4, _), (3, _), (0, _), (1, _), (2, _)] from rfl)) ?_
  refine m_Rs.n0 b_306 (x_iload_n d_306_16 rfl) ?_
  refine m_Rs.n0 b_306 (x_iconst (z := (-1)) d_306_17 (by decide)) ?_
  cases hc1 : m_c2 .eq (m_rd 0 E_wait (wa + (2 : Int32))) ((-1) : Int32) with
  | true =>
    refine m_Rs.n0 b_306 (x_ict d_306_18 rfl hc1) ?_
    refine m_Rs.n0 b_306 (x_iload_n d_306_52 rfl) ?_
    refine m_Rs.n0 b_306 (x_iconst (z := (-1)) d_306_53 (by decide)) ?_
    refine m_Rs.n0 b_306 (x_ict d_306_54 rfl hc1) ?_
    refine m_Rs.n0 b_306 (x_iconst (z := 1) d_306_79 (by decide)) ?_
    refine m_Rs.n0 b_306 (x_goto d_306_80 rfl) ?_
    refine m_Rs.n0 b_306 (x_istore d_306_84 rfl (show m_put1 _ _ _ = [(5, _), (4, _), (3, _), (0, _), (1, _), (2, _)] from rfl)) ?_
    refine m_Rs.n0 b_306 (x_iload d_306_86 rfl) ?_
    refine m_Rs.n0 b_306 (x_iff d_306_88 rfl (by decide)) ?_
    refine m_Rs.n0 b_306 (x_iload d_306_91 rfl) ?_
    refine m_Rs.n0 b_306 (x_aload_n d_306_93 rfl) ?_
    refine m_Rs.n0 b_306 (x_iload_n d_306_94 rfl) ?_
    refine m_Rs.callE b_306 (y_cv d_306_95 rfl q_293 (m_isRecv_of rfl h_583) (show m_takeI _ _ = some (_, [_, _], [_]) from rfl) (by simp only [m_okf, List.all_cons, List.all_nil, Bool.and_true, Bool.and_self, m_okv_i, m_okv_l, m_okv_0, m_okv_t, m_okv_at h_583]) rfl) (P_mlife h_583 h_603 (g4 hc1) (g5 hc1)) rfl ?_ (by decide) (by decide)
    refine m_Rs.n0 b_306 (x_aload_n d_306_98 rfl) ?_
    refine m_Rs.n0 b_306 (x_iload_n d_306_99 rfl) ?_
    refine m_Rs.n0 b_306 (x_iconst (z := 4) d_306_100 (by decide)) ?_
    refine m_Rs.callE b_306 (y_cv d_306_101 rfl q_278 (m_isRecv_of rfl h_583) (show m_takeI _ _ = some (_, [_, _, _], [_, _]) from rfl) (by simp only [m_okf, List.all_cons, List.all_nil, Bool.and_true, Bool.and_self, m_okv_i, m_okv_l, m_okv_0, m_okv_t, m_okv_at h_583]) rfl) (P_mtold h_583 h_603 (g6 hc1)) rfl ?_ (by decide) (by decide)
    refine m_Rs.n0 b_306 (x_iadd d_306_104 rfl) ?_
    cases hc2 : m_c2 .ge (F_mage gm E_age E_since en) ((F_mlife E_entryTold en) + (F_mtold E_entryTold en (4 : Int32))) with
    | true =>
      refine m_Rs.n0 b_306 (x_ict d_306_105 rfl hc2) ?_
      refine m_Rs.n0 b_306 (x_iconst (z := 0) d_306_112 (by decide)) ?_
      refine m_Rs.ret b_306 (m_rt_ir d_306_113 rfl rfl) ?_
      exact ⟨by simp only [F_mstale, hc1, hc2, cond_true, cond_false], rfl⟩
    | false =>
      refine m_Rs.n0 b_306 (x_icf d_306_105 rfl hc2) ?_
      refine m_Rs.n0 b_306 (x_iconst (z := 1) d_306_108 (by decide)) ?_
      refine m_Rs.n0 b_306 (x_goto d_306_109 rfl) ?_
      refine m_Rs.ret b_306 (m_rt_ir d_306_113 rfl rfl) ?_
      exact ⟨by simp only [F_mstale, hc1, hc2, cond_true, cond_false], rfl⟩
  | false =>
    refine m_Rs.n0 b_306 (x_icf d_306_18 rfl hc1) ?_
    refine m_Rs.n0 b_306 (x_aload_n d_306_21 rfl) ?_
    refine m_Rs.n0 b_306 (x_iload_n d_306_22 rfl) ?_
    refine m_Rs.n0 b_306 (x_bipush (z := 19) d_306_23 (by decide)) ?_
    refine m_Rs.callE b_306 (y_cv d_306_25 rfl q_282 (m_isRecv_of rfl h_583) (show m_takeI _ _ = some (_, [_, _, _], []) from rfl) (by simp only [m_okf, List.all_cons, List.all_nil, Bool.and_true, Bool.and_self, m_okv_i, m_okv_l, m_okv_0, m_okv_t, m_okv_at h_583]) rfl) (P_masks h_583 h_620 (g7 hc1)) rfl ?_ (by decide) (by decide)
    refine m_Rs.n0 b_306 (x_iconst (z := (-1)) d_306_28 (by decide)) ?_
    cases hc3 : m_c2 .eq (F_masks E_requests (m_rd 0 E_wait (wa + (2 : Int32))) (19 : Int32)) ((-1) : Int32) with
    | true =>
      refine m_Rs.n0 b_306 (x_ict d_306_29 rfl hc3) ?_
      refine m_Rs.n0 b_306 (x_iload_n d_306_52 rfl) ?_
      refine m_Rs.n0 b_306 (x_iconst (z := (-1)) d_306_53 (by decide)) ?_
      refine m_Rs.n0 b_306 (x_icf d_306_54 rfl hc1) ?_
      refine m_Rs.n0 b_306 (x_aload_n d_306_57 rfl) ?_
      refine m_Rs.n0 b_306 (x_iload_n d_306_58 rfl) ?_
      refine m_Rs.n0 b_306 (x_bipush (z := 18) d_306_59 (by decide)) ?_
      refine m_Rs.callE b_306 (y_cv d_306_61 rfl q_282 (m_isRecv_of rfl h_583) (show m_takeI _ _ = some (_, [_, _, _], []) from rfl) (by simp only [m_okf, List.all_cons, List.all_nil, Bool.and_true, Bool.and_self, m_okv_i, m_okv_l, m_okv_0, m_okv_t, m_okv_at h_583]) rfl) (P_masks h_583 h_620 (g8 hc1 hc3)) rfl ?_ (by decide) (by decide)
      refine m_Rs.n0 b_306 (x_iconst (z := (-1)) d_306_64 (by decide)) ?_
      cases hc4 : m_c2 .ne (F_masks E_requests (m_rd 0 E_wait (wa + (2 : Int32))) (18 : Int32)) ((-1) : Int32) with
      | true =>
        refine m_Rs.n0 b_306 (x_ict d_306_65 rfl hc4) ?_
        refine m_Rs.n0 b_306 (x_iconst (z := 0) d_306_83 (by decide)) ?_
        refine m_Rs.n0 b_306 (x_istore d_306_84 rfl (show m_put1 _ _ _ = [(5, _), (4, _), (3, _), (0, _), (1, _), (2, _)] from rfl)) ?_
        refine m_Rs.n0 b_306 (x_iload d_306_86 rfl) ?_
        refine m_Rs.n0 b_306 (x_ift d_306_88 rfl (by decide)) ?_
        refine m_Rs.n0 b_306 (x_iconst (z := 0) d_306_112 (by decide)) ?_
        refine m_Rs.ret b_306 (m_rt_ir d_306_113 rfl rfl) ?_
        exact ⟨by simp only [F_mstale, hc1, hc3, hc4, cond_true, cond_false], rfl⟩
      | false =>
        refine m_Rs.n0 b_306 (x_icf d_306_65 rfl hc4) ?_
        refine m_Rs.n0 b_306 (x_aload_n d_306_68 rfl) ?_
        refine m_Rs.n0 b_306 (x_iload_n d_306_69 rfl) ?_
        refine m_Rs.n0 b_306 (x_bipush (z := 20) d_306_70 (by decide)) ?_
        refine m_Rs.callE b_306 (y_cv d_306_72 rfl q_282 (m_isRecv_of rfl h_583) (show m_takeI _ _ = some (_, [_, _, _], []) from rfl) (by simp only [m_okf, List.all_cons, List.all_nil, Bool.and_true, Bool.and_self, m_okv_i, m_okv_l, m_okv_0, m_okv_t, m_okv_at h_583]) rfl) (P_masks h_583 h_620 (g9 hc1 hc3 hc4)) rfl ?_ (by decide) (by decide)
        refine m_Rs.n0 b_306 (x_iconst (z := (-1)) d_306_75 (by decide)) ?_
        cases hc5 : m_c2 .ne (F_masks E_requests (m_rd 0 E_wait (wa + (2 : Int32))) (20 : Int32)) ((-1) : Int32) with
        | true =>
          refine m_Rs.n0 b_306 (x_ict d_306_76 rfl hc5) ?_
          refine m_Rs.n0 b_306 (x_iconst (z := 0) d_306_83 (by decide)) ?_
          refine m_Rs.n0 b_306 (x_istore d_306_84 rfl (show m_put1 _ _ _ = [(5, _), (4, _), (3, _), (0, _), (1, _), (2, _)] from rfl)) ?_
          refine m_Rs.n0 b_306 (x_iload d_306_86 rfl) ?_
          refine m_Rs.n0 b_306 (x_ift d_306_88 rfl (by decide)) ?_
          refine m_Rs.n0 b_306 (x_iconst (z := 0) d_306_112 (by decide)) ?_
          refine m_Rs.ret b_306 (m_rt_ir d_306_113 rfl rfl) ?_
          exact ⟨by simp only [F_mstale, hc1, hc3, hc4, hc5, cond_true, cond_false], rfl⟩
        | false =>
          refine m_Rs.n0 b_306 (x_icf d_306_76 rfl hc5) ?_
          refine m_Rs.n0 b_306 (x_iconst (z := 1) d_306_79 (by decide)) ?_
          refine m_Rs.n0 b_306 (x_goto d_306_80 rfl) ?_
          refine m_Rs.n0 b_306 (x_istore d_306_84 rfl (show m_put1 _ _ _ = [(5, _), (4, _), (3, _), (0, _), (1, _), (2, _)] from rfl)) ?_
          refine m_Rs.n0 b_306 (x_iload d_306_86 rfl) ?_
          refine m_Rs.n0 b_306 (x_iff d_306_88 rfl (by decide)) ?_
          refine m_Rs.n0 b_306 (x_iload d_306_91 rfl) ?_
          refine m_Rs.n0 b_306 (x_aload_n d_306_93 rfl) ?_
          refine m_Rs.n0 b_306 (x_iload_n d_306_94 rfl) ?_
          refine m_Rs.callE b_306 (y_cv d_306_95 rfl q_293 (m_isRecv_of rfl h_583) (show m_takeI _ _ = some (_, [_, _], [_]) from rfl) (by simp only [m_okf, List.all_cons, List.all_nil, Bool.and_true, Bool.and_self, m_okv_i, m_okv_l, m_okv_0, m_okv_t, m_okv_at h_583]) rfl) (P_mlife h_583 h_603 (g10 hc1 hc3 hc4 hc5) (g11 hc1 hc3 hc4 hc5)) rfl ?_ (by decide) (by decide)
          refine m_Rs.n0 b_306 (x_aload_n d_306_98 rfl) ?_
          refine m_Rs.n0 b_306 (x_iload_n d_306_99 rfl) ?_
          refine m_Rs.n0 b_306 (x_iconst (z := 4) d_306_100 (by decide)) ?_
          refine m_Rs.callE b_306 (y_cv d_306_101 rfl q_278 (m_isRecv_of rfl h_583) (show m_takeI _ _ = some (_, [_, _, _], [_, _]) from rfl) (by simp only [m_okf, List.all_cons, List.all_nil, Bool.and_true, Bool.and_self, m_okv_i, m_okv_l, m_okv_0, m_okv_t, m_okv_at h_583]) rfl) (P_mtold h_583 h_603 (g12 hc1 hc3 hc4 hc5)) rfl ?_ (by decide) (by decide)
          refine m_Rs.n0 b_306 (x_iadd d_306_104 rfl) ?_
          cases hc6 : m_c2 .ge (F_mage gm E_age E_since en) ((F_mlife E_entryTold en) + (F_mtold E_entryTold en (4 : Int32))) with
          | true =>
            refine m_Rs.n0 b_306 (x_ict d_306_105 rfl hc6) ?_
            refine m_Rs.n0 b_306 (x_iconst (z := 0) d_306_112 (by decide)) ?_
            refine m_Rs.ret b_306 (m_rt_ir d_306_113 rfl rfl) ?_
            exact ⟨by simp only [F_mstale, hc1, hc3, hc4, hc5, hc6, cond_true, cond_false], rfl⟩
          | false =>
            refine m_Rs.n0 b_306 (x_icf d_306_105 rfl hc6) ?_
            refine m_Rs.n0 b_306 (x_iconst (z := 1) d_306_108 (by decide)) ?_
            refine m_Rs.n0 b_306 (x_goto d_306_109 rfl) ?_
            refine m_Rs.ret b_306 (m_rt_ir d_306_113 rfl rfl) ?_
            exact ⟨by simp only [F_mstale, hc1, hc3, hc4, hc5, hc6, cond_true, cond_false], rfl⟩
    | false =>
      refine m_Rs.n0 b_306 (x_icf d_306_29 rfl hc3) ?_
      refine m_Rs.n0 b_306 (x_iload d_306_32 rfl) ?_
      refine m_Rs.n0 b_306 (x_aload_n d_306_34 rfl) ?_
      refine m_Rs.n0 b_306 (x_iload_n d_306_35 rfl) ?_
      refine m_Rs.callE b_306 (y_cv d_306_36 rfl q_293 (m_isRecv_of rfl h_583) (show m_takeI _ _ = some (_, [_, _], [_]) from rfl) (by simp only [m_okf, List.all_cons, List.all_nil, Bool.and_true, Bool.and_self, m_okv_i, m_okv_l, m_okv_0, m_okv_t, m_okv_at h_583]) rfl) (P_mlife h_583 h_603 (g13 hc1 hc3) (g14 hc1 hc3)) rfl ?_ (by decide) (by decide)
      refine m_Rs.n0 b_306 (x_aload_n d_306_39 rfl) ?_
      refine m_Rs.n0 b_306 (x_iload_n d_306_40 rfl) ?_
      refine m_Rs.n0 b_306 (x_bipush (z := 19) d_306_41 (by decide)) ?_
      refine m_Rs.callE b_306 (y_cv d_306_43 rfl q_282 (m_isRecv_of rfl h_583) (show m_takeI _ _ = some (_, [_, _, _], [_, _]) from rfl) (by simp only [m_okf, List.all_cons, List.all_nil, Bool.and_true, Bool.and_self, m_okv_i, m_okv_l, m_okv_0, m_okv_t, m_okv_at h_583]) rfl) (P_masks h_583 h_620 (g15 hc1 hc3)) rfl ?_ (by decide) (by decide)
      refine m_Rs.n0 b_306 (x_iadd d_306_46 rfl) ?_
      cases hc7 : m_c2 .ge (F_mage gm E_age E_since en) ((F_mlife E_entryTold en) + (F_masks E_requests (m_rd 0 E_wait (wa + (2 : Int32))) (19 : Int32))) with
      | true =>
        refine m_Rs.n0 b_306 (x_ict d_306_47 rfl hc7) ?_
        refine m_Rs.n0 b_306 (x_iload_n d_306_52 rfl) ?_
        refine m_Rs.n0 b_306 (x_iconst (z := (-1)) d_306_53 (by decide)) ?_
        refine m_Rs.n0 b_306 (x_icf d_306_54 rfl hc1) ?_
        refine m_Rs.n0 b_306 (x_aload_n d_306_57 rfl) ?_
        refine m_Rs.n0 b_306 (x_iload_n d_306_58 rfl) ?_
        refine m_Rs.n0 b_306 (x_bipush (z := 18) d_306_59 (by decide)) ?_
        refine m_Rs.callE b_306 (y_cv d_306_61 rfl q_282 (m_isRecv_of rfl h_583) (show m_takeI _ _ = some (_, [_, _, _], []) from rfl) (by simp only [m_okf, List.all_cons, List.all_nil, Bool.and_true, Bool.and_self, m_okv_i, m_okv_l, m_okv_0, m_okv_t, m_okv_at h_583]) rfl) (P_masks h_583 h_620 (g16 hc1 hc3 hc7)) rfl ?_ (by decide) (by decide)
        refine m_Rs.n0 b_306 (x_iconst (z := (-1)) d_306_64 (by decide)) ?_
        cases hc8 : m_c2 .ne (F_masks E_requests (m_rd 0 E_wait (wa + (2 : Int32))) (18 : Int32)) ((-1) : Int32) with
        | true =>
          refine m_Rs.n0 b_306 (x_ict d_306_65 rfl hc8) ?_
          refine m_Rs.n0 b_306 (x_iconst (z := 0) d_306_83 (by decide)) ?_
          refine m_Rs.n0 b_306 (x_istore d_306_84 rfl (show m_put1 _ _ _ = [(5, _), (4, _), (3, _), (0, _), (1, _), (2, _)] from rfl)) ?_
          refine m_Rs.n0 b_306 (x_iload d_306_86 rfl) ?_
          refine m_Rs.n0 b_306 (x_ift d_306_88 rfl (by decide)) ?_
          refine m_Rs.n0 b_306 (x_iconst (z := 0) d_306_112 (by decide)) ?_
          refine m_Rs.ret b_306 (m_rt_ir d_306_113 rfl rfl) ?_
          exact ⟨by simp only [F_mstale, hc1, hc3, hc7, hc8, cond_true, cond_false], rfl⟩
        | false =>
          refine m_Rs.n0 b_306 (x_icf d_306_65 rfl hc8) ?_
          refine m_Rs.n0 b_306 (x_aload_n d_306_68 rfl) ?_
          refine m_Rs.n0 b_306 (x_iload_n d_306_69 rfl) ?_
          refine m_Rs.n0 b_306 (x_bipush (z := 20) d_306_70 (by decide)) ?_
          refine m_Rs.callE b_306 (y_cv d_306_72 rfl q_282 (m_isRecv_of rfl h_583) (show m_takeI _ _ = some (_, [_, _, _], []) from rfl) (by simp only [m_okf, List.all_cons, List.all_nil, Bool.and_true, Bool.and_self, m_okv_i, m_okv_l, m_okv_0, m_okv_t, m_okv_at h_583]) rfl) (P_masks h_583 h_620 (g17 hc1 hc3 hc7 hc8)) rfl ?_ (by decide) (by decide)
          refine m_Rs.n0 b_306 (x_iconst (z := (-1)) d_306_75 (by decide)) ?_
          cases hc9 : m_c2 .ne (F_masks E_requests (m_rd 0 E_wait (wa + (2 : Int32))) (20 : Int32)) ((-1) : Int32) with
          | true =>
            refine m_Rs.n0 b_306 (x_ict d_306_76 rfl hc9) ?_
            refine m_Rs.n0 b_306 (x_iconst (z := 0) d_306_83 (by decide)) ?_
            refine m_Rs.n0 b_306 (x_istore d_306_84 rfl (show m_put1 _ _ _ = [(5, _), (4, _), (3, _), (0, _), (1, _), (2, _)] from rfl)) ?_
            refine m_Rs.n0 b_306 (x_iload d_306_86 rfl) ?_
            refine m_Rs.n0 b_306 (x_ift d_306_88 rfl (by decide)) ?_
            refine m_Rs.n0 b_306 (x_iconst (z := 0) d_306_112 (by decide)) ?_
            refine m_Rs.ret b_306 (m_rt_ir d_306_113 rfl rfl) ?_
            exact ⟨by simp only [F_mstale, hc1, hc3, hc7, hc8, hc9, cond_true, cond_false], rfl⟩
          | false =>
            refine m_Rs.n0 b_306 (x_icf d_306_76 rfl hc9) ?_
            refine m_Rs.n0 b_306 (x_iconst (z := 1) d_306_79 (by decide)) ?_
            refine m_Rs.n0 b_306 (x_goto d_306_80 rfl) ?_
            refine m_Rs.n0 b_306 (x_istore d_306_84 rfl (show m_put1 _ _ _ = [(5, _), (4, _), (3, _), (0, _), (1, _), (2, _)] from rfl)) ?_
            refine m_Rs.n0 b_306 (x_iload d_306_86 rfl) ?_
            refine m_Rs.n0 b_306 (x_iff d_306_88 rfl (by decide)) ?_
            refine m_Rs.n0 b_306 (x_iload d_306_91 rfl) ?_
            refine m_Rs.n0 b_306 (x_aload_n d_306_93 rfl) ?_
            refine m_Rs.n0 b_306 (x_iload_n d_306_94 rfl) ?_
            refine m_Rs.callE b_306 (y_cv d_306_95 rfl q_293 (m_isRecv_of rfl h_583) (show m_takeI _ _ = some (_, [_, _], [_]) from rfl) (by simp only [m_okf, List.all_cons, List.all_nil, Bool.and_true, Bool.and_self, m_okv_i, m_okv_l, m_okv_0, m_okv_t, m_okv_at h_583]) rfl) (P_mlife h_583 h_603 (g18 hc1 hc3 hc7 hc8 hc9) (g19 hc1 hc3 hc7 hc8 hc9)) rfl ?_ (by decide) (by decide)
            refine m_Rs.n0 b_306 (x_aload_n d_306_98 rfl) ?_
            refine m_Rs.n0 b_306 (x_iload_n d_306_99 rfl) ?_
            refine m_Rs.n0 b_306 (x_iconst (z := 4) d_306_100 (by decide)) ?_
            refine m_Rs.callE b_306 (y_cv d_306_101 rfl q_278 (m_isRecv_of rfl h_583) (show m_takeI _ _ = some (_, [_, _, _], [_, _]) from rfl) (by simp only [m_okf, List.all_cons, List.all_nil, Bool.and_true, Bool.and_self, m_okv_i, m_okv_l, m_okv_0, m_okv_t, m_okv_at h_583]) rfl) (P_mtold h_583 h_603 (g20 hc1 hc3 hc7 hc8 hc9)) rfl ?_ (by decide) (by decide)
            refine m_Rs.n0 b_306 (x_iadd d_306_104 rfl) ?_
            cases hc10 : m_c2 .ge (F_mage gm E_age E_since en) ((F_mlife E_entryTold en) + (F_mtold E_entryTold en (4 : Int32))) with
            | true =>
              refine m_Rs.n0 b_306 (x_ict d_306_105 rfl hc10) ?_
              refine m_Rs.n0 b_306 (x_iconst (z := 0) d_306_112 (by decide)) ?_
              refine m_Rs.ret b_306 (m_rt_ir d_306_113 rfl rfl) ?_
              exact ⟨by simp only [F_mstale, hc1, hc3, hc7, hc8, hc9, hc10, cond_true, cond_false], rfl⟩
            | false =>
              refine m_Rs.n0 b_306 (x_icf d_306_105 rfl hc10) ?_
              refine m_Rs.n0 b_306 (x_iconst (z := 1) d_306_108 (by decide)) ?_
              refine m_Rs.n0 b_306 (x_goto d_306_109 rfl) ?_
              refine m_Rs.ret b_306 (m_rt_ir d_306_113 rfl rfl) ?_
              exact ⟨by simp only [F_mstale, hc1, hc3, hc7, hc8, hc9, hc10, cond_true, cond_false], rfl⟩
      | false =>
        refine m_Rs.n0 b_306 (x_icf d_306_47 rfl hc7) ?_
        refine m_Rs.n0 b_306 (x_iconst (z := 1) d_306_50 (by decide)) ?_
        refine m_Rs.ret b_306 (m_rt_ir d_306_51 rfl rfl) ?_
        exact ⟨by simp only [F_mstale, hc1, hc3, hc7, cond_true, cond_false], rfl⟩
