/-! Texts of the JDK as guarded functions. Written by wip/tool/textc.py. -/
theorem q_169 : m_mt[169]? = some M_169 := by rfl
theorem q_167 : m_mt[167]? = some M_167 := by rfl
theorem q_168 : m_mt[168]? = some M_168 := by rfl
theorem q_166 : m_mt[166]? = some M_166 := by rfl
theorem q_161 : m_mt[161]? = some M_161 := by rfl
theorem q_176 : m_mt[176]? = some M_176 := by rfl
theorem q_175 : m_mt[175]? = some M_175 := by rfl
theorem q_164 : m_mt[164]? = some M_164 := by rfl
theorem q_186 : m_mt[186]? = some M_186 := by rfl
theorem q_187 : m_mt[187]? = some M_187 := by rfl
theorem q_185 : m_mt[185]? = some M_185 := by rfl
theorem q_216 : m_mt[216]? = some M_216 := by rfl
theorem q_215 : m_mt[215]? = some M_215 := by rfl
theorem q_214 : m_mt[214]? = some M_214 := by rfl
theorem q_198 : m_mt[198]? = some M_198 := by rfl
theorem q_197 : m_mt[197]? = some M_197 := by rfl
theorem q_196 : m_mt[196]? = some M_196 := by rfl
theorem q_193 : m_mt[193]? = some M_193 := by rfl
theorem q_195 : m_mt[195]? = some M_195 := by rfl
theorem q_194 : m_mt[194]? = some M_194 := by rfl
theorem q_192 : m_mt[192]? = some M_192 := by rfl
theorem q_191 : m_mt[191]? = some M_191 := by rfl
theorem q_190 : m_mt[190]? = some M_190 := by rfl
theorem b_169 : m_bOk M_169 := (m_mt_ok M_169 (List.mem_of_getElem? q_169)).body
theorem b_167 : m_bOk M_167 := (m_mt_ok M_167 (List.mem_of_getElem? q_167)).body
theorem b_168 : m_bOk M_168 := (m_mt_ok M_168 (List.mem_of_getElem? q_168)).body
theorem b_166 : m_bOk M_166 := (m_mt_ok M_166 (List.mem_of_getElem? q_166)).body
theorem b_161 : m_bOk M_161 := (m_mt_ok M_161 (List.mem_of_getElem? q_161)).body
theorem b_176 : m_bOk M_176 := (m_mt_ok M_176 (List.mem_of_getElem? q_176)).body
theorem b_175 : m_bOk M_175 := (m_mt_ok M_175 (List.mem_of_getElem? q_175)).body
theorem b_164 : m_bOk M_164 := (m_mt_ok M_164 (List.mem_of_getElem? q_164)).body
theorem b_186 : m_bOk M_186 := (m_mt_ok M_186 (List.mem_of_getElem? q_186)).body
theorem b_187 : m_bOk M_187 := (m_mt_ok M_187 (List.mem_of_getElem? q_187)).body
theorem b_185 : m_bOk M_185 := (m_mt_ok M_185 (List.mem_of_getElem? q_185)).body
theorem b_216 : m_bOk M_216 := (m_mt_ok M_216 (List.mem_of_getElem? q_216)).body
theorem b_215 : m_bOk M_215 := (m_mt_ok M_215 (List.mem_of_getElem? q_215)).body
theorem b_214 : m_bOk M_214 := (m_mt_ok M_214 (List.mem_of_getElem? q_214)).body
theorem b_198 : m_bOk M_198 := (m_mt_ok M_198 (List.mem_of_getElem? q_198)).body
theorem b_197 : m_bOk M_197 := (m_mt_ok M_197 (List.mem_of_getElem? q_197)).body
theorem b_196 : m_bOk M_196 := (m_mt_ok M_196 (List.mem_of_getElem? q_196)).body
theorem b_193 : m_bOk M_193 := (m_mt_ok M_193 (List.mem_of_getElem? q_193)).body
theorem b_195 : m_bOk M_195 := (m_mt_ok M_195 (List.mem_of_getElem? q_195)).body
theorem b_194 : m_bOk M_194 := (m_mt_ok M_194 (List.mem_of_getElem? q_194)).body
theorem b_192 : m_bOk M_192 := (m_mt_ok M_192 (List.mem_of_getElem? q_192)).body
theorem b_191 : m_bOk M_191 := (m_mt_ok M_191 (List.mem_of_getElem? q_191)).body
theorem b_190 : m_bOk M_190 := (m_mt_ok M_190 (List.mem_of_getElem? q_190)).body
theorem d_160_0 : m_dn M_160 0 (.aload_n 0) 1 1 := by decide +kernel
theorem d_160_1 : m_dn M_160 1 (.iload_n 1) 1 2 := by decide +kernel
theorem d_160_2 : m_dn M_160 2 (.invokespecial 333) 3 5 := by decide +kernel
theorem d_160_5 : m_dn M_160 5 (.return_) 1 6 := by decide +kernel
theorem d_161_0 : m_dn M_161 0 (.iload_n 1) 1 1 := by decide +kernel
theorem d_161_1 : m_dn M_161 1 (.ifCond .ge 12) 3 4 := by decide +kernel
theorem d_161_13 : m_dn M_161 13 (.aload_n 0) 1 14 := by decide +kernel
theorem d_161_14 : m_dn M_161 14 (.iload_n 1) 1 15 := by decide +kernel
theorem d_161_15 : m_dn M_161 15 (.invokevirtual 100) 3 18 := by decide +kernel
theorem d_161_18 : m_dn M_161 18 (.aload_n 0) 1 19 := by decide +kernel
theorem d_161_19 : m_dn M_161 19 (.getfield 79) 3 22 := by decide +kernel
theorem d_161_22 : m_dn M_161 22 (.iload_n 1) 1 23 := by decide +kernel
theorem d_161_23 : m_dn M_161 23 (.if_icmp .ge 40) 3 26 := by decide +kernel
theorem d_161_63 : m_dn M_161 63 (.aload_n 0) 1 64 := by decide +kernel
theorem d_161_64 : m_dn M_161 64 (.getfield 79) 3 67 := by decide +kernel
theorem d_161_67 : m_dn M_161 67 (.iload_n 1) 1 68 := by decide +kernel
theorem d_161_68 : m_dn M_161 68 (.if_icmp .le 8) 3 71 := by decide +kernel
theorem d_161_71 : m_dn M_161 71 (.aload_n 0) 1 72 := by decide +kernel
theorem d_161_72 : m_dn M_161 72 (.iconst 1) 1 73 := by decide +kernel
theorem d_161_73 : m_dn M_161 73 (.putfield 73) 3 76 := by decide +kernel
theorem d_161_76 : m_dn M_161 76 (.aload_n 0) 1 77 := by decide +kernel
theorem d_161_77 : m_dn M_161 77 (.iload_n 1) 1 78 := by decide +kernel
theorem d_161_78 : m_dn M_161 78 (.putfield 79) 3 81 := by decide +kernel
theorem d_161_81 : m_dn M_161 81 (.return_) 1 82 := by decide +kernel
theorem d_163_0 : m_dn M_163 0 (.aload_n 0) 1 1 := by decide +kernel
theorem d_163_1 : m_dn M_163 1 (.aload_n 1) 1 2 := by decide +kernel
theorem d_163_2 : m_dn M_163 2 (.invokespecial 29) 3 5 := by decide +kernel
theorem d_163_5 : m_dn M_163 5 (.pop) 1 6 := by decide +kernel
theorem d_163_6 : m_dn M_163 6 (.aload_n 0) 1 7 := by decide +kernel
theorem d_163_7 : m_dn M_163 7 (.areturn) 1 8 := by decide +kernel
theorem d_164_0 : m_dn M_164 0 (.aload_n 1) 1 1 := by decide +kernel
theorem d_164_1 : m_dn M_164 1 (.ifnonnull 8) 3 4 := by decide +kernel
theorem d_164_10 : m_dn M_164 10 (.invokevirtual 32) 3 13 := by decide +kernel
theorem d_164_13 : m_dn M_164 13 (.istore_n 2) 1 14 := by decide +kernel
theorem d_164_14 : m_dn M_164 14 (.aload_n 0) 1 15 := by decide +kernel
theorem d_164_15 : m_dn M_164 15 (.aload_n 0) 1 16 := by decide +kernel
theorem d_164_16 : m_dn M_164 16 (.getfield 79) 3 19 := by decide +kernel
theorem d_164_19 : m_dn M_164 19 (.iload_n 2) 1 20 := by decide +kernel
theorem d_164_20 : m_dn M_164 20 (.iadd) 1 21 := by decide +kernel
theorem d_164_21 : m_dn M_164 21 (.invokevirtual 100) 3 24 := by decide +kernel
theorem d_164_24 : m_dn M_164 24 (.aload_n 0) 1 25 := by decide +kernel
theorem d_164_25 : m_dn M_164 25 (.aload_n 0) 1 26 := by decide +kernel
theorem d_164_26 : m_dn M_164 26 (.getfield 79) 3 29 := by decide +kernel
theorem d_164_29 : m_dn M_164 29 (.aload_n 1) 1 30 := by decide +kernel
theorem d_164_30 : m_dn M_164 30 (.invokevirtual 208) 3 33 := by decide +kernel
theorem d_164_33 : m_dn M_164 33 (.aload_n 0) 1 34 := by decide +kernel
theorem d_164_34 : m_dn M_164 34 (.dup) 1 35 := by decide +kernel
theorem d_164_35 : m_dn M_164 35 (.getfield 79) 3 38 := by decide +kernel
theorem d_164_38 : m_dn M_164 38 (.iload_n 2) 1 39 := by decide +kernel
theorem d_164_39 : m_dn M_164 39 (.iadd) 1 40 := by decide +kernel
theorem d_164_40 : m_dn M_164 40 (.putfield 79) 3 43 := by decide +kernel
theorem d_164_43 : m_dn M_164 43 (.aload_n 0) 1 44 := by decide +kernel
theorem d_164_44 : m_dn M_164 44 (.areturn) 1 45 := by decide +kernel
theorem d_164_9 : m_dn M_164 9 (.aload_n 1) 1 10 := by decide +kernel
theorem d_166_0 : m_dn M_166 0 (.aload_n 0) 1 1 := by decide +kernel
theorem d_166_1 : m_dn M_166 1 (.getfield 15) 3 4 := by decide +kernel
theorem d_166_10 : m_dn M_166 10 (.istore_n 2) 1 11 := by decide +kernel
theorem d_166_11 : m_dn M_166 11 (.iload_n 1) 1 12 := by decide +kernel
theorem d_166_12 : m_dn M_166 12 (.iload_n 2) 1 13 := by decide +kernel
theorem d_166_13 : m_dn M_166 13 (.isub) 1 14 := by decide +kernel
theorem d_166_14 : m_dn M_166 14 (.ifCond .le 24) 3 17 := by decide +kernel
theorem d_166_17 : m_dn M_166 17 (.aload_n 0) 1 18 := by decide +kernel
theorem d_166_18 : m_dn M_166 18 (.aload_n 0) 1 19 := by decide +kernel
theorem d_166_19 : m_dn M_166 19 (.getfield 15) 3 22 := by decide +kernel
theorem d_166_22 : m_dn M_166 22 (.aload_n 0) 1 23 := by decide +kernel
theorem d_166_23 : m_dn M_166 23 (.iload_n 1) 1 24 := by decide +kernel
theorem d_166_24 : m_dn M_166 24 (.invokevirtual 104) 3 27 := by decide +kernel
theorem d_166_27 : m_dn M_166 27 (.aload_n 0) 1 28 := by decide +kernel
theorem d_166_28 : m_dn M_166 28 (.getfield 22) 3 31 := by decide +kernel
theorem d_166_31 : m_dn M_166 31 (.ishl) 1 32 := by decide +kernel
theorem d_166_32 : m_dn M_166 32 (.invokestatic 108) 3 35 := by decide +kernel
theorem d_166_35 : m_dn M_166 35 (.putfield 15) 3 38 := by decide +kernel
theorem d_166_38 : m_dn M_166 38 (.return_) 1 39 := by decide +kernel
theorem d_166_4 : m_dn M_166 4 (.arraylength) 1 5 := by decide +kernel
theorem d_166_5 : m_dn M_166 5 (.aload_n 0) 1 6 := by decide +kernel
theorem d_166_6 : m_dn M_166 6 (.getfield 22) 3 9 := by decide +kernel
theorem d_166_9 : m_dn M_166 9 (.ishr) 1 10 := by decide +kernel
theorem d_167_0 : m_dn M_167 0 (.aload_n 0) 1 1 := by decide +kernel
theorem d_167_1 : m_dn M_167 1 (.getfield 15) 3 4 := by decide +kernel
theorem d_167_11 : m_dn M_167 11 (.ishl) 1 12 := by decide +kernel
theorem d_167_12 : m_dn M_167 12 (.istore_n 3) 1 13 := by decide +kernel
theorem d_167_13 : m_dn M_167 13 (.iload_n 3) 1 14 := by decide +kernel
theorem d_167_14 : m_dn M_167 14 (.iload_n 2) 1 15 := by decide +kernel
theorem d_167_15 : m_dn M_167 15 (.isub) 1 16 := by decide +kernel
theorem d_167_16 : m_dn M_167 16 (.istore 4) 2 18 := by decide +kernel
theorem d_167_18 : m_dn M_167 18 (.iload_n 2) 1 19 := by decide +kernel
theorem d_167_19 : m_dn M_167 19 (.iload 4) 2 21 := by decide +kernel
theorem d_167_21 : m_dn M_167 21 (.iload_n 2) 1 22 := by decide +kernel
theorem d_167_22 : m_dn M_167 22 (.iconst 2) 1 23 := by decide +kernel
theorem d_167_23 : m_dn M_167 23 (.aload_n 0) 1 24 := by decide +kernel
theorem d_167_24 : m_dn M_167 24 (.getfield 22) 3 27 := by decide +kernel
theorem d_167_27 : m_dn M_167 27 (.ishl) 1 28 := by decide +kernel
theorem d_167_28 : m_dn M_167 28 (.iadd) 1 29 := by decide +kernel
theorem d_167_29 : m_dn M_167 29 (.invokestatic 114) 3 32 := by decide +kernel
theorem d_167_32 : m_dn M_167 32 (.istore 5) 2 34 := by decide +kernel
theorem d_167_34 : m_dn M_167 34 (.iload 5) 2 36 := by decide +kernel
theorem d_167_36 : m_dn M_167 36 (.ldc 39) 2 38 := by decide +kernel
theorem d_167_38 : m_dn M_167 38 (.if_icmp .ne 13) 3 41 := by decide +kernel
theorem d_167_4 : m_dn M_167 4 (.arraylength) 1 5 := by decide +kernel
theorem d_167_5 : m_dn M_167 5 (.istore_n 2) 1 6 := by decide +kernel
theorem d_167_51 : m_dn M_167 51 (.iload 5) 2 53 := by decide +kernel
theorem d_167_53 : m_dn M_167 53 (.aload_n 0) 1 54 := by decide +kernel
theorem d_167_54 : m_dn M_167 54 (.getfield 22) 3 57 := by decide +kernel
theorem d_167_57 : m_dn M_167 57 (.ishr) 1 58 := by decide +kernel
theorem d_167_58 : m_dn M_167 58 (.ireturn) 1 59 := by decide +kernel
theorem d_167_6 : m_dn M_167 6 (.iload_n 1) 1 7 := by decide +kernel
theorem d_167_7 : m_dn M_167 7 (.aload_n 0) 1 8 := by decide +kernel
theorem d_167_8 : m_dn M_167 8 (.getfield 22) 3 11 := by decide +kernel
theorem d_168_0 : m_dn M_168 0 (.iload_n 1) 1 1 := by decide +kernel
theorem d_168_1 : m_dn M_168 1 (.aload_n 0) 1 2 := by decide +kernel
theorem d_168_10 : m_dn M_168 10 (.checkcast 311) 3 13 := by decide +kernel
theorem d_168_13 : m_dn M_168 13 (.areturn) 1 14 := by decide +kernel
theorem d_168_14 : m_dn M_168 14 (.iload_n 1) 1 15 := by decide +kernel
theorem d_168_15 : m_dn M_168 15 (.newarray .byte) 2 17 := by decide +kernel
theorem d_168_17 : m_dn M_168 17 (.astore_n 2) 1 18 := by decide +kernel
theorem d_168_18 : m_dn M_168 18 (.aload_n 0) 1 19 := by decide +kernel
theorem d_168_19 : m_dn M_168 19 (.iconst 0) 1 20 := by decide +kernel
theorem d_168_2 : m_dn M_168 2 (.arraylength) 1 3 := by decide +kernel
theorem d_168_20 : m_dn M_168 20 (.aload_n 2) 1 21 := by decide +kernel
theorem d_168_21 : m_dn M_168 21 (.iconst 0) 1 22 := by decide +kernel
theorem d_168_22 : m_dn M_168 22 (.aload_n 0) 1 23 := by decide +kernel
theorem d_168_23 : m_dn M_168 23 (.arraylength) 1 24 := by decide +kernel
theorem d_168_24 : m_dn M_168 24 (.iload_n 1) 1 25 := by decide +kernel
theorem d_168_25 : m_dn M_168 25 (.invokestatic 304) 3 28 := by decide +kernel
theorem d_168_28 : m_dn M_168 28 (.invokestatic 150) 3 31 := by decide +kernel
theorem d_168_3 : m_dn M_168 3 (.if_icmp .ne 11) 3 6 := by decide +kernel
theorem d_168_31 : m_dn M_168 31 (.aload_n 2) 1 32 := by decide +kernel
theorem d_168_32 : m_dn M_168 32 (.areturn) 1 33 := by decide +kernel
theorem d_168_6 : m_dn M_168 6 (.aload_n 0) 1 7 := by decide +kernel
theorem d_168_7 : m_dn M_168 7 (.invokevirtual 310) 3 10 := by decide +kernel
theorem d_169_0 : m_dn M_169 0 (.getstatic 18) 3 3 := by decide +kernel
theorem d_169_10 : m_dn M_169 10 (.ifCond .ne 7) 3 13 := by decide +kernel
theorem d_169_13 : m_dn M_169 13 (.iconst 1) 1 14 := by decide +kernel
theorem d_169_14 : m_dn M_169 14 (.goto 4) 3 17 := by decide +kernel
theorem d_169_17 : m_dn M_169 17 (.iconst 0) 1 18 := by decide +kernel
theorem d_169_18 : m_dn M_169 18 (.ireturn) 1 19 := by decide +kernel
theorem d_169_3 : m_dn M_169 3 (.ifCond .eq 14) 3 6 := by decide +kernel
theorem d_169_6 : m_dn M_169 6 (.aload_n 0) 1 7 := by decide +kernel
theorem d_169_7 : m_dn M_169 7 (.getfield 22) 3 10 := by decide +kernel
theorem d_175_0 : m_dn M_175 0 (.aload_n 0) 1 1 := by decide +kernel
theorem d_175_1 : m_dn M_175 1 (.aload_n 2) 1 2 := by decide +kernel
theorem d_175_10 : m_dn M_175 10 (.iload_n 1) 1 11 := by decide +kernel
theorem d_175_11 : m_dn M_175 11 (.aload_n 0) 1 12 := by decide +kernel
theorem d_175_12 : m_dn M_175 12 (.getfield 22) 3 15 := by decide +kernel
theorem d_175_15 : m_dn M_175 15 (.invokevirtual 399) 3 18 := by decide +kernel
theorem d_175_18 : m_dn M_175 18 (.return_) 1 19 := by decide +kernel
theorem d_175_2 : m_dn M_175 2 (.invokevirtual 397) 3 5 := by decide +kernel
theorem d_175_5 : m_dn M_175 5 (.aload_n 2) 1 6 := by decide +kernel
theorem d_175_6 : m_dn M_175 6 (.aload_n 0) 1 7 := by decide +kernel
theorem d_175_7 : m_dn M_175 7 (.getfield 15) 3 10 := by decide +kernel
theorem d_176_0 : m_dn M_176 0 (.getstatic 18) 3 3 := by decide +kernel
theorem d_176_10 : m_dn M_176 10 (.aload_n 1) 1 11 := by decide +kernel
theorem d_176_11 : m_dn M_176 11 (.invokevirtual 40) 3 14 := by decide +kernel
theorem d_176_14 : m_dn M_176 14 (.if_icmp .eq 7) 3 17 := by decide +kernel
theorem d_176_21 : m_dn M_176 21 (.return_) 1 22 := by decide +kernel
theorem d_176_3 : m_dn M_176 3 (.ifCond .eq 18) 3 6 := by decide +kernel
theorem d_176_6 : m_dn M_176 6 (.aload_n 0) 1 7 := by decide +kernel
theorem d_176_7 : m_dn M_176 7 (.getfield 22) 3 10 := by decide +kernel
theorem d_184_0 : m_dn M_184 0 (.aload_n 0) 1 1 := by decide +kernel
theorem d_184_1 : m_dn M_184 1 (.iload_n 1) 1 2 := by decide +kernel
theorem d_184_2 : m_dn M_184 2 (.invokespecial 53) 3 5 := by decide +kernel
theorem d_184_5 : m_dn M_184 5 (.pop) 1 6 := by decide +kernel
theorem d_184_6 : m_dn M_184 6 (.aload_n 0) 1 7 := by decide +kernel
theorem d_184_7 : m_dn M_184 7 (.areturn) 1 8 := by decide +kernel
theorem d_185_0 : m_dn M_185 0 (.aload_n 0) 1 1 := by decide +kernel
theorem d_185_1 : m_dn M_185 1 (.getfield 79) 3 4 := by decide +kernel
theorem d_185_10 : m_dn M_185 10 (.iadd) 1 11 := by decide +kernel
theorem d_185_11 : m_dn M_185 11 (.istore_n 3) 1 12 := by decide +kernel
theorem d_185_12 : m_dn M_185 12 (.aload_n 0) 1 13 := by decide +kernel
theorem d_185_13 : m_dn M_185 13 (.iload_n 3) 1 14 := by decide +kernel
theorem d_185_14 : m_dn M_185 14 (.invokevirtual 100) 3 17 := by decide +kernel
theorem d_185_17 : m_dn M_185 17 (.aload_n 0) 1 18 := by decide +kernel
theorem d_185_18 : m_dn M_185 18 (.invokevirtual 83) 3 21 := by decide +kernel
theorem d_185_21 : m_dn M_185 21 (.ifCond .eq 16) 3 24 := by decide +kernel
theorem d_185_24 : m_dn M_185 24 (.iload_n 1) 1 25 := by decide +kernel
theorem d_185_25 : m_dn M_185 25 (.iload_n 3) 1 26 := by decide +kernel
theorem d_185_26 : m_dn M_185 26 (.aload_n 0) 1 27 := by decide +kernel
theorem d_185_27 : m_dn M_185 27 (.getfield 15) 3 30 := by decide +kernel
theorem d_185_30 : m_dn M_185 30 (.invokestatic 248) 3 33 := by decide +kernel
theorem d_185_33 : m_dn M_185 33 (.pop) 1 34 := by decide +kernel
theorem d_185_34 : m_dn M_185 34 (.goto 14) 3 37 := by decide +kernel
theorem d_185_4 : m_dn M_185 4 (.istore_n 2) 1 5 := by decide +kernel
theorem d_185_48 : m_dn M_185 48 (.aload_n 0) 1 49 := by decide +kernel
theorem d_185_49 : m_dn M_185 49 (.iload_n 3) 1 50 := by decide +kernel
theorem d_185_5 : m_dn M_185 5 (.iload_n 2) 1 6 := by decide +kernel
theorem d_185_50 : m_dn M_185 50 (.putfield 79) 3 53 := by decide +kernel
theorem d_185_53 : m_dn M_185 53 (.aload_n 0) 1 54 := by decide +kernel
theorem d_185_54 : m_dn M_185 54 (.areturn) 1 55 := by decide +kernel
theorem d_185_6 : m_dn M_185 6 (.iload_n 1) 1 7 := by decide +kernel
theorem d_185_7 : m_dn M_185 7 (.invokestatic 245) 3 10 := by decide +kernel
theorem d_186_0 : m_dn M_186 0 (.iconst 1) 1 1 := by decide +kernel
theorem d_186_1 : m_dn M_186 1 (.istore_n 1) 1 2 := by decide +kernel
theorem d_186_10 : m_dn M_186 10 (.istore_n 0) 1 11 := by decide +kernel
theorem d_186_11 : m_dn M_186 11 (.bipush (-10)) 2 13 := by decide +kernel
theorem d_186_13 : m_dn M_186 13 (.istore_n 2) 1 14 := by decide +kernel
theorem d_186_14 : m_dn M_186 14 (.iconst 1) 1 15 := by decide +kernel
theorem d_186_15 : m_dn M_186 15 (.istore_n 3) 1 16 := by decide +kernel
theorem d_186_16 : m_dn M_186 16 (.iload_n 3) 1 17 := by decide +kernel
theorem d_186_17 : m_dn M_186 17 (.bipush 10) 2 19 := by decide +kernel
theorem d_186_19 : m_dn M_186 19 (.if_icmp .ge 23) 3 22 := by decide +kernel
theorem d_186_2 : m_dn M_186 2 (.iload_n 0) 1 3 := by decide +kernel
theorem d_186_22 : m_dn M_186 22 (.iload_n 0) 1 23 := by decide +kernel
theorem d_186_23 : m_dn M_186 23 (.iload_n 2) 1 24 := by decide +kernel
theorem d_186_24 : m_dn M_186 24 (.if_icmp .le 7) 3 27 := by decide +kernel
theorem d_186_27 : m_dn M_186 27 (.iload_n 3) 1 28 := by decide +kernel
theorem d_186_28 : m_dn M_186 28 (.iload_n 1) 1 29 := by decide +kernel
theorem d_186_29 : m_dn M_186 29 (.iadd) 1 30 := by decide +kernel
theorem d_186_3 : m_dn M_186 3 (.ifCond .lt 8) 3 6 := by decide +kernel
theorem d_186_30 : m_dn M_186 30 (.ireturn) 1 31 := by decide +kernel
theorem d_186_31 : m_dn M_186 31 (.bipush 10) 2 33 := by decide +kernel
theorem d_186_33 : m_dn M_186 33 (.iload_n 2) 1 34 := by decide +kernel
theorem d_186_34 : m_dn M_186 34 (.imul) 1 35 := by decide +kernel
theorem d_186_35 : m_dn M_186 35 (.istore_n 2) 1 36 := by decide +kernel
theorem d_186_36 : m_dn M_186 36 (.iinc 3 1) 3 39 := by decide +kernel
theorem d_186_39 : m_dn M_186 39 (.goto (-23)) 3 42 := by decide +kernel
theorem d_186_42 : m_dn M_186 42 (.bipush 10) 2 44 := by decide +kernel
theorem d_186_44 : m_dn M_186 44 (.iload_n 1) 1 45 := by decide +kernel
theorem d_186_45 : m_dn M_186 45 (.iadd) 1 46 := by decide +kernel
theorem d_186_46 : m_dn M_186 46 (.ireturn) 1 47 := by decide +kernel
theorem d_186_6 : m_dn M_186 6 (.iconst 0) 1 7 := by decide +kernel
theorem d_186_7 : m_dn M_186 7 (.istore_n 1) 1 8 := by decide +kernel
theorem d_186_8 : m_dn M_186 8 (.iload_n 0) 1 9 := by decide +kernel
theorem d_186_9 : m_dn M_186 9 (.ineg) 1 10 := by decide +kernel
theorem d_187_0 : m_dn M_187 0 (.iload_n 1) 1 1 := by decide +kernel
theorem d_187_1 : m_dn M_187 1 (.istore 5) 2 3 := by decide +kernel
theorem d_187_100 : m_dn M_187 100 (.iload_n 0) 1 101 := by decide +kernel
theorem d_187_101 : m_dn M_187 101 (.ineg) 1 102 := by decide +kernel
theorem d_187_102 : m_dn M_187 102 (.baload) 1 103 := by decide +kernel
theorem d_187_103 : m_dn M_187 103 (.bastore) 1 104 := by decide +kernel
theorem d_187_104 : m_dn M_187 104 (.iload 6) 2 106 := by decide +kernel
theorem d_187_106 : m_dn M_187 106 (.ifCond .eq 12) 3 109 := by decide +kernel
theorem d_187_109 : m_dn M_187 109 (.aload_n 2) 1 110 := by decide +kernel
theorem d_187_11 : m_dn M_187 11 (.iconst 0) 1 12 := by decide +kernel
theorem d_187_110 : m_dn M_187 110 (.iinc 5 (-1)) 3 113 := by decide +kernel
theorem d_187_113 : m_dn M_187 113 (.iload 5) 2 115 := by decide +kernel
theorem d_187_115 : m_dn M_187 115 (.bipush 45) 2 117 := by decide +kernel
theorem d_187_117 : m_dn M_187 117 (.bastore) 1 118 := by decide +kernel
theorem d_187_118 : m_dn M_187 118 (.iload 5) 2 120 := by decide +kernel
theorem d_187_12 : m_dn M_187 12 (.istore 6) 2 14 := by decide +kernel
theorem d_187_120 : m_dn M_187 120 (.ireturn) 1 121 := by decide +kernel
theorem d_187_14 : m_dn M_187 14 (.iload 6) 2 16 := by decide +kernel
theorem d_187_16 : m_dn M_187 16 (.ifCond .ne 6) 3 19 := by decide +kernel
theorem d_187_19 : m_dn M_187 19 (.iload_n 0) 1 20 := by decide +kernel
theorem d_187_20 : m_dn M_187 20 (.ineg) 1 21 := by decide +kernel
theorem d_187_21 : m_dn M_187 21 (.istore_n 0) 1 22 := by decide +kernel
theorem d_187_22 : m_dn M_187 22 (.iload_n 0) 1 23 := by decide +kernel
theorem d_187_23 : m_dn M_187 23 (.bipush (-100)) 2 25 := by decide +kernel
theorem d_187_25 : m_dn M_187 25 (.if_icmp .gt 47) 3 28 := by decide +kernel
theorem d_187_28 : m_dn M_187 28 (.iload_n 0) 1 29 := by decide +kernel
theorem d_187_29 : m_dn M_187 29 (.bipush 100) 2 31 := by decide +kernel
theorem d_187_3 : m_dn M_187 3 (.iload_n 0) 1 4 := by decide +kernel
theorem d_187_31 : m_dn M_187 31 (.idiv) 1 32 := by decide +kernel
theorem d_187_32 : m_dn M_187 32 (.istore_n 3) 1 33 := by decide +kernel
theorem d_187_33 : m_dn M_187 33 (.iload_n 3) 1 34 := by decide +kernel
theorem d_187_34 : m_dn M_187 34 (.bipush 100) 2 36 := by decide +kernel
theorem d_187_36 : m_dn M_187 36 (.imul) 1 37 := by decide +kernel
theorem d_187_37 : m_dn M_187 37 (.iload_n 0) 1 38 := by decide +kernel
theorem d_187_38 : m_dn M_187 38 (.isub) 1 39 := by decide +kernel
theorem d_187_39 : m_dn M_187 39 (.istore 4) 2 41 := by decide +kernel
theorem d_187_4 : m_dn M_187 4 (.ifCond .ge 7) 3 7 := by decide +kernel
theorem d_187_41 : m_dn M_187 41 (.iload_n 3) 1 42 := by decide +kernel
theorem d_187_42 : m_dn M_187 42 (.istore_n 0) 1 43 := by decide +kernel
theorem d_187_43 : m_dn M_187 43 (.aload_n 2) 1 44 := by decide +kernel
theorem d_187_44 : m_dn M_187 44 (.iinc 5 (-1)) 3 47 := by decide +kernel
theorem d_187_47 : m_dn M_187 47 (.iload 5) 2 49 := by decide +kernel
theorem d_187_49 : m_dn M_187 49 (.getstatic 83) 3 52 := by decide +kernel
theorem d_187_52 : m_dn M_187 52 (.iload 4) 2 54 := by decide +kernel
theorem d_187_54 : m_dn M_187 54 (.baload) 1 55 := by decide +kernel
theorem d_187_55 : m_dn M_187 55 (.bastore) 1 56 := by decide +kernel
theorem d_187_56 : m_dn M_187 56 (.aload_n 2) 1 57 := by decide +kernel
theorem d_187_57 : m_dn M_187 57 (.iinc 5 (-1)) 3 60 := by decide +kernel
theorem d_187_60 : m_dn M_187 60 (.iload 5) 2 62 := by decide +kernel
theorem d_187_62 : m_dn M_187 62 (.getstatic 87) 3 65 := by decide +kernel
theorem d_187_65 : m_dn M_187 65 (.iload 4) 2 67 := by decide +kernel
theorem d_187_67 : m_dn M_187 67 (.baload) 1 68 := by decide +kernel
theorem d_187_68 : m_dn M_187 68 (.bastore) 1 69 := by decide +kernel
theorem d_187_69 : m_dn M_187 69 (.goto (-47)) 3 72 := by decide +kernel
theorem d_187_7 : m_dn M_187 7 (.iconst 1) 1 8 := by decide +kernel
theorem d_187_72 : m_dn M_187 72 (.aload_n 2) 1 73 := by decide +kernel
theorem d_187_73 : m_dn M_187 73 (.iinc 5 (-1)) 3 76 := by decide +kernel
theorem d_187_76 : m_dn M_187 76 (.iload 5) 2 78 := by decide +kernel
theorem d_187_78 : m_dn M_187 78 (.getstatic 83) 3 81 := by decide +kernel
theorem d_187_8 : m_dn M_187 8 (.goto 4) 3 11 := by decide +kernel
theorem d_187_81 : m_dn M_187 81 (.iload_n 0) 1 82 := by decide +kernel
theorem d_187_82 : m_dn M_187 82 (.ineg) 1 83 := by decide +kernel
theorem d_187_83 : m_dn M_187 83 (.baload) 1 84 := by decide +kernel
theorem d_187_84 : m_dn M_187 84 (.bastore) 1 85 := by decide +kernel
theorem d_187_85 : m_dn M_187 85 (.iload_n 0) 1 86 := by decide +kernel
theorem d_187_86 : m_dn M_187 86 (.bipush (-9)) 2 88 := by decide +kernel
theorem d_187_88 : m_dn M_187 88 (.if_icmp .ge 16) 3 91 := by decide +kernel
theorem d_187_91 : m_dn M_187 91 (.aload_n 2) 1 92 := by decide +kernel
theorem d_187_92 : m_dn M_187 92 (.iinc 5 (-1)) 3 95 := by decide +kernel
theorem d_187_95 : m_dn M_187 95 (.iload 5) 2 97 := by decide +kernel
theorem d_187_97 : m_dn M_187 97 (.getstatic 87) 3 100 := by decide +kernel
theorem d_190_0 : m_dn M_190 0 (.new 18) 3 3 := by decide +kernel
theorem d_190_3 : m_dn M_190 3 (.dup) 1 4 := by decide +kernel
theorem d_190_4 : m_dn M_190 4 (.aload_n 0) 1 5 := by decide +kernel
theorem d_190_5 : m_dn M_190 5 (.invokespecial 137) 3 8 := by decide +kernel
theorem d_190_8 : m_dn M_190 8 (.areturn) 1 9 := by decide +kernel
theorem d_191_0 : m_dn M_191 0 (.aload_n 0) 1 1 := by decide +kernel
theorem d_191_1 : m_dn M_191 1 (.aload_n 1) 1 2 := by decide +kernel
theorem d_191_2 : m_dn M_191 2 (.aconst_null) 1 3 := by decide +kernel
theorem d_191_3 : m_dn M_191 3 (.invokespecial 489) 3 6 := by decide +kernel
theorem d_191_6 : m_dn M_191 6 (.return_) 1 7 := by decide +kernel
theorem d_192_0 : m_dn M_192 0 (.aload_n 0) 1 1 := by decide +kernel
theorem d_192_1 : m_dn M_192 1 (.invokespecial 1) 3 4 := by decide +kernel
theorem d_192_10 : m_dn M_192 10 (.invokevirtual 549) 3 13 := by decide +kernel
theorem d_192_13 : m_dn M_192 13 (.istore 4) 2 15 := by decide +kernel
theorem d_192_15 : m_dn M_192 15 (.aload_n 1) 1 16 := by decide +kernel
theorem d_192_16 : m_dn M_192 16 (.invokevirtual 1047) 3 19 := by decide +kernel
theorem d_192_19 : m_dn M_192 19 (.ifCond .eq 22) 3 22 := by decide +kernel
theorem d_192_22 : m_dn M_192 22 (.aload_n 0) 1 23 := by decide +kernel
theorem d_192_23 : m_dn M_192 23 (.iconst 0) 1 24 := by decide +kernel
theorem d_192_24 : m_dn M_192 24 (.putfield 15) 3 27 := by decide +kernel
theorem d_192_27 : m_dn M_192 27 (.aload_n 0) 1 28 := by decide +kernel
theorem d_192_28 : m_dn M_192 28 (.aload_n 3) 1 29 := by decide +kernel
theorem d_192_29 : m_dn M_192 29 (.iconst 0) 1 30 := by decide +kernel
theorem d_192_30 : m_dn M_192 30 (.iload 4) 2 32 := by decide +kernel
theorem d_192_32 : m_dn M_192 32 (.invokestatic 54) 3 35 := by decide +kernel
theorem d_192_35 : m_dn M_192 35 (.putfield 9) 3 38 := by decide +kernel
theorem d_192_38 : m_dn M_192 38 (.goto 59) 3 41 := by decide +kernel
theorem d_192_4 : m_dn M_192 4 (.aload_n 1) 1 5 := by decide +kernel
theorem d_192_5 : m_dn M_192 5 (.invokevirtual 552) 3 8 := by decide +kernel
theorem d_192_8 : m_dn M_192 8 (.astore_n 3) 1 9 := by decide +kernel
theorem d_192_9 : m_dn M_192 9 (.aload_n 1) 1 10 := by decide +kernel
theorem d_192_97 : m_dn M_192 97 (.return_) 1 98 := by decide +kernel
theorem d_193_0 : m_dn M_193 0 (.aload_n 0) 1 1 := by decide +kernel
theorem d_193_1 : m_dn M_193 1 (.getfield 15) 3 4 := by decide +kernel
theorem d_193_4 : m_dn M_193 4 (.areturn) 1 5 := by decide +kernel
theorem d_194_0 : m_dn M_194 0 (.aload_n 0) 1 1 := by decide +kernel
theorem d_194_1 : m_dn M_194 1 (.invokespecial 343) 3 4 := by decide +kernel
theorem d_194_4 : m_dn M_194 4 (.ireturn) 1 5 := by decide +kernel
theorem d_195_0 : m_dn M_195 0 (.aload_n 0) 1 1 := by decide +kernel
theorem d_195_1 : m_dn M_195 1 (.getfield 79) 3 4 := by decide +kernel
theorem d_195_4 : m_dn M_195 4 (.ireturn) 1 5 := by decide +kernel
theorem d_196_0 : m_dn M_196 0 (.iload_n 1) 1 1 := by decide +kernel
theorem d_196_1 : m_dn M_196 1 (.ifCond .ne 9) 3 4 := by decide +kernel
theorem d_196_10 : m_dn M_196 10 (.aload_n 0) 1 11 := by decide +kernel
theorem d_196_11 : m_dn M_196 11 (.iload_n 1) 1 12 := by decide +kernel
theorem d_196_12 : m_dn M_196 12 (.iload_n 2) 1 13 := by decide +kernel
theorem d_196_13 : m_dn M_196 13 (.invokestatic 339) 3 16 := by decide +kernel
theorem d_196_16 : m_dn M_196 16 (.areturn) 1 17 := by decide +kernel
theorem d_196_17 : m_dn M_196 17 (.aload_n 0) 1 18 := by decide +kernel
theorem d_196_18 : m_dn M_196 18 (.invokevirtual 310) 3 21 := by decide +kernel
theorem d_196_21 : m_dn M_196 21 (.checkcast 311) 3 24 := by decide +kernel
theorem d_196_24 : m_dn M_196 24 (.areturn) 1 25 := by decide +kernel
theorem d_196_4 : m_dn M_196 4 (.iload_n 2) 1 5 := by decide +kernel
theorem d_196_5 : m_dn M_196 5 (.aload_n 0) 1 6 := by decide +kernel
theorem d_196_6 : m_dn M_196 6 (.arraylength) 1 7 := by decide +kernel
theorem d_196_7 : m_dn M_196 7 (.if_icmp .eq 10) 3 10 := by decide +kernel
theorem d_197_0 : m_dn M_197 0 (.iload_n 1) 1 1 := by decide +kernel
theorem d_197_1 : m_dn M_197 1 (.iload_n 2) 1 2 := by decide +kernel
theorem d_197_10 : m_dn M_197 10 (.newarray .byte) 2 12 := by decide +kernel
theorem d_197_12 : m_dn M_197 12 (.astore 4) 2 14 := by decide +kernel
theorem d_197_14 : m_dn M_197 14 (.aload_n 0) 1 15 := by decide +kernel
theorem d_197_15 : m_dn M_197 15 (.iload_n 1) 1 16 := by decide +kernel
theorem d_197_16 : m_dn M_197 16 (.aload 4) 2 18 := by decide +kernel
theorem d_197_18 : m_dn M_197 18 (.iconst 0) 1 19 := by decide +kernel
theorem d_197_19 : m_dn M_197 19 (.aload_n 0) 1 20 := by decide +kernel
theorem d_197_2 : m_dn M_197 2 (.invokestatic 343) 3 5 := by decide +kernel
theorem d_197_20 : m_dn M_197 20 (.arraylength) 1 21 := by decide +kernel
theorem d_197_21 : m_dn M_197 21 (.iload_n 1) 1 22 := by decide +kernel
theorem d_197_22 : m_dn M_197 22 (.isub) 1 23 := by decide +kernel
theorem d_197_23 : m_dn M_197 23 (.iload_n 3) 1 24 := by decide +kernel
theorem d_197_24 : m_dn M_197 24 (.invokestatic 304) 3 27 := by decide +kernel
theorem d_197_27 : m_dn M_197 27 (.invokestatic 150) 3 30 := by decide +kernel
theorem d_197_30 : m_dn M_197 30 (.aload 4) 2 32 := by decide +kernel
theorem d_197_32 : m_dn M_197 32 (.areturn) 1 33 := by decide +kernel
theorem d_197_5 : m_dn M_197 5 (.iload_n 2) 1 6 := by decide +kernel
theorem d_197_6 : m_dn M_197 6 (.iload_n 1) 1 7 := by decide +kernel
theorem d_197_7 : m_dn M_197 7 (.isub) 1 8 := by decide +kernel
theorem d_197_8 : m_dn M_197 8 (.istore_n 3) 1 9 := by decide +kernel
theorem d_197_9 : m_dn M_197 9 (.iload_n 3) 1 10 := by decide +kernel
theorem d_198_0 : m_dn M_198 0 (.iload_n 1) 1 1 := by decide +kernel
theorem d_198_1 : m_dn M_198 1 (.iload_n 0) 1 2 := by decide +kernel
theorem d_198_2 : m_dn M_198 2 (.if_icmp .ge 35) 3 5 := by decide +kernel
theorem d_198_37 : m_dn M_198 37 (.return_) 1 38 := by decide +kernel
theorem d_214_0 : m_dn M_214 0 (.aload_n 0) 1 1 := by decide +kernel
theorem d_214_1 : m_dn M_214 1 (.iload_n 1) 1 2 := by decide +kernel
theorem d_214_2 : m_dn M_214 2 (.invokespecial 50) 3 5 := by decide +kernel
theorem d_214_5 : m_dn M_214 5 (.pop) 1 6 := by decide +kernel
theorem d_214_6 : m_dn M_214 6 (.aload_n 0) 1 7 := by decide +kernel
theorem d_214_7 : m_dn M_214 7 (.areturn) 1 8 := by decide +kernel
theorem d_215_0 : m_dn M_215 0 (.aload_n 0) 1 1 := by decide +kernel
theorem d_215_1 : m_dn M_215 1 (.aload_n 0) 1 2 := by decide +kernel
theorem d_215_10 : m_dn M_215 10 (.aload_n 0) 1 11 := by decide +kernel
theorem d_215_11 : m_dn M_215 11 (.invokevirtual 83) 3 14 := by decide +kernel
theorem d_215_14 : m_dn M_215 14 (.ifCond .eq 31) 3 17 := by decide +kernel
theorem d_215_17 : m_dn M_215 17 (.iload_n 1) 1 18 := by decide +kernel
theorem d_215_18 : m_dn M_215 18 (.invokestatic 191) 3 21 := by decide +kernel
theorem d_215_2 : m_dn M_215 2 (.getfield 79) 3 5 := by decide +kernel
theorem d_215_21 : m_dn M_215 21 (.ifCond .eq 24) 3 24 := by decide +kernel
theorem d_215_24 : m_dn M_215 24 (.aload_n 0) 1 25 := by decide +kernel
theorem d_215_25 : m_dn M_215 25 (.getfield 15) 3 28 := by decide +kernel
theorem d_215_28 : m_dn M_215 28 (.aload_n 0) 1 29 := by decide +kernel
theorem d_215_29 : m_dn M_215 29 (.dup) 1 30 := by decide +kernel
theorem d_215_30 : m_dn M_215 30 (.getfield 79) 3 33 := by decide +kernel
theorem d_215_33 : m_dn M_215 33 (.dup_x1) 1 34 := by decide +kernel
theorem d_215_34 : m_dn M_215 34 (.iconst 1) 1 35 := by decide +kernel
theorem d_215_35 : m_dn M_215 35 (.iadd) 1 36 := by decide +kernel
theorem d_215_36 : m_dn M_215 36 (.putfield 79) 3 39 := by decide +kernel
theorem d_215_39 : m_dn M_215 39 (.iload_n 1) 1 40 := by decide +kernel
theorem d_215_40 : m_dn M_215 40 (.i2b) 1 41 := by decide +kernel
theorem d_215_41 : m_dn M_215 41 (.bastore) 1 42 := by decide +kernel
theorem d_215_42 : m_dn M_215 42 (.goto 33) 3 45 := by decide +kernel
theorem d_215_5 : m_dn M_215 5 (.iconst 1) 1 6 := by decide +kernel
theorem d_215_6 : m_dn M_215 6 (.iadd) 1 7 := by decide +kernel
theorem d_215_7 : m_dn M_215 7 (.invokevirtual 100) 3 10 := by decide +kernel
theorem d_215_75 : m_dn M_215 75 (.aload_n 0) 1 76 := by decide +kernel
theorem d_215_76 : m_dn M_215 76 (.areturn) 1 77 := by decide +kernel
theorem d_216_0 : m_dn M_216 0 (.iload_n 0) 1 1 := by decide +kernel
theorem d_216_1 : m_dn M_216 1 (.sipush 255) 3 4 := by decide +kernel
theorem d_216_11 : m_dn M_216 11 (.iconst 0) 1 12 := by decide +kernel
theorem d_216_12 : m_dn M_216 12 (.ireturn) 1 13 := by decide +kernel
theorem d_216_4 : m_dn M_216 4 (.if_icmp .gt 7) 3 7 := by decide +kernel
theorem d_216_7 : m_dn M_216 7 (.iconst 1) 1 8 := by decide +kernel
theorem d_216_8 : m_dn M_216 8 (.goto 4) 3 11 := by decide +kernel
theorem d_25_13 : m_dn M_25 13 (.iconst 1) 1 14 := by decide +kernel
theorem d_27_17 : m_dn M_27 17 (.iconst 0) 1 18 := by decide +kernel
def D_c_AbstractStringBuilder_isLatin1 (F : Nat) (a0 : Nat) (T0 : tT) : Option (Int32) := (cond (m_c1 .eq (1 : Int32)) (some (0 : Int32)) ((tgi T0 a0 3 1).bind fun v5 => cond (m_c1 .ne v5) (some (0 : Int32)) (some (1 : Int32)))).bind fun v10 => (bret v10).bind fun v13 => some v13
theorem T_c_AbstractStringBuilder_isLatin1 {l : Launch} {w : List mM} {F : Nat} {a0 : Nat} {T0 : tT} {yz : Int32} (ha0 : okr T0.2.1 (some a0)) (h : RT T0 w) (h0 : D_c_AbstractStringBuilder_isLatin1 F a0 T0 = some yz) : m_Rb l M_169 (m_ent M_169 [.ref a0] w) (fun v w' => v = some (.int yz) ∧ RT T0 w' ∧ m_Fm w w') T0 T0 0 0 := by
  rw [show m_ent M_169 [.ref a0] w = (0, [(0, .ref a0)], [], w) from by first | rfl | (simp only [m_ent, lv_args_r, lv_args_a, lv_args_i, lv_args_l, lv_args_0]; done) | (simp only [m_ent, lv_args_r, lv_args_a, lv_args_i, lv_args_l, lv_args_0]; rfl)]
  generalize hw0 : w = w0 at h ⊢
  have hF : m_Fm w0 w0 := m_Fm.refl
  rw [D_c_AbstractStringBuilder_isLatin1] at h0
  refine m_Rb.n0 b_169 (x_gst d_169_0 rfl) ?_
  obtain ⟨v10, e2, j11⟩ := bS h0
  have kk1 : ∀ (xz : Int32) (w1 : List mM), xz = v10 → RT T0 w1 → m_Fm w0 w1 → m_Rb l M_169 (18, [(0, .ref a0)], [.int xz], w1) (fun v w' => v = some (.int yz) ∧ RT T0 w' ∧ m_Fm w0 w') T0 T0 0 0 := by
    intro xz w12 ez h12 f12
    rw [ez]
    obtain ⟨v13, e14, j15⟩ := bS j11
    cases j15
    exact m_Rb.retb b_169 d_169_18 rfl e14 ⟨rfl, h12, f12⟩
  cases hc3 : m_c1 .eq (1 : Int32) with
  | true =>
    have j4 := cT hc3 e2
    refine m_Rb.n0 b_169 (x_ift d_169_3 rfl hc3) ?_
    refine m_Rb.n0 b_169 (x_iconst (z := 0) d_169_17 (by decide)) ?_
    exact kk1 _ _ (Option.some.inj j4) h hF
  | false =>
    have j4 := cF hc3 e2
    refine m_Rb.n0 b_169 (x_iff d_169_3 rfl hc3) ?_
    refine m_Rb.n0 b_169 (x_aload_n d_169_6 rfl) ?_
    obtain ⟨v5, e6, j7⟩ := bS j4
    refine m_Rb.tgetI b_169 d_169_7 rfl h e6 ?_
    cases hc8 : m_c1 .ne v5 with
    | true =>
      have j9 := cT hc8 j7
      refine m_Rb.n0 b_169 (x_ift d_169_10 rfl hc8) ?_
      refine m_Rb.n0 b_169 (x_iconst (z := 0) d_169_17 (by decide)) ?_
      exact kk1 _ _ (Option.some.inj j9) h hF
    | false =>
      have j9 := cF hc8 j7
      refine m_Rb.n0 b_169 (x_iff d_169_10 rfl hc8) ?_
      refine m_Rb.n0 b_169 (x_iconst (z := 1) d_169_13 (by decide)) ?_
      refine m_Rb.n0 b_169 (x_goto d_169_14 rfl) ?_
      exact kk1 _ _ (Option.some.inj j9) h hF
def D_c_ArraysSupport_newLength_21 (F : Nat) (T0 : tT) : Option (Int32) := none
theorem T_c_ArraysSupport_newLength_21 {l : Launch} {w0 : List mM} {F : Nat} {T0 : tT} {w : List mM} {yz : Int32} (h : RT T0 w) (hF : m_Fm w0 w) (h0 : D_c_ArraysSupport_newLength_21 F T0 = some yz) : m_Rb l M_66 (21, [], [], w) (fun v w' => v = some (.int yz) ∧ RT T0 w' ∧ m_Fm w0 w') T0 T0 1 100 := by
  rw [D_c_ArraysSupport_newLength_21] at h0
  cases h0
def D_c_ArraysSupport_newLength (F : Nat) (p0 : Int32) (p1 : Int32) (p2 : Int32) (T0 : tT) : Option (Int32) := cond (m_c2 .ge (0 : Int32) (p0 + (if p1 < p2 then p2 else p1))) (D_c_ArraysSupport_newLength_21 F T0) (cond (m_c2 .gt (p0 + (if p1 < p2 then p2 else p1)) (2147483639 : Int32)) (D_c_ArraysSupport_newLength_21 F T0) (some (p0 + (if p1 < p2 then p2 else p1))))
theorem T_c_ArraysSupport_newLength {l : Launch} {w : List mM} {F : Nat} {p0 : Int32} {p1 : Int32} {p2 : Int32} {T0 : tT} {yz : Int32} (h : RT T0 w) (h0 : D_c_ArraysSupport_newLength F p0 p1 p2 T0 = some yz) : m_Rb l M_66 (m_ent M_66 [.int p0, .int p1, .int p2] w) (fun v w' => v = some (.int yz) ∧ RT T0 w' ∧ m_Fm w w') T0 T0 1 100 := by
  rw [show m_ent M_66 [.int p0, .int p1, .int p2] w = (0, [(0, .int p0), (1, .int p1), (2, .int p2)], [], w) from by first | rfl | (simp only [m_ent, lv_args_r, lv_args_a, lv_args_i, lv_args_l, lv_args_0]; done) | (simp only [m_ent, lv_args_r, lv_args_a, lv_args_i, lv_args_l, lv_args_0]; rfl)]
  generalize hw0 : w = w0 at h ⊢
  have hF : m_Fm w0 w0 := m_Fm.refl
  rw [D_c_ArraysSupport_newLength] at h0
  refine m_Rb.n0 b_66 (x_iload_n d_66_0 rfl) ?_
  refine m_Rb.n0 b_66 (x_iload_n d_66_1 rfl) ?_
  refine m_Rb.n0 b_66 (x_iload_n d_66_2 rfl) ?_
  refine m_Rb.nz b_66 (x_max d_66_3 rfl (catL (Nat.le_of_ble_eq_true rfl)) rfl) ?_ (by decide) (by decide)
  refine m_Rb.n0 b_66 (x_iadd d_66_6 rfl) ?_
  refine m_Rb.n0 b_66 (x_istore_n d_66_7 rfl (show m_put1 _ _ _ = [(3, _), (0, _), (1, _), (2, _)] from rfl)) ?_
  refine m_Rb.n0 b_66 (x_iconst (z := 0) d_66_8 (by decide)) ?_
  refine m_Rb.n0 b_66 (x_iload_n d_66_9 rfl) ?_
  cases hc1 : m_c2 .ge (0 : Int32) (p0 + (if p1 < p2 then p2 else p1)) with
  | true =>
    have j2 := cT hc1 h0
    refine m_Rb.n0 b_66 (x_ict d_66_10 rfl hc1) ?_
    exact m_Rb.pick [] rfl (T_c_ArraysSupport_newLength_21 h hF j2)
  | false =>
    have j2 := cF hc1 h0
    refine m_Rb.n0 b_66 (x_icf d_66_10 rfl hc1) ?_
    refine m_Rb.n0 b_66 (x_iload_n d_66_13 rfl) ?_
    refine m_Rb.n0 b_66 (x_ldc (v := .int 2147483639) d_66_14 rfl) ?_
    cases hc3 : m_c2 .gt (p0 + (if p1 < p2 then p2 else p1)) (2147483639 : Int32) with
    | true =>
      have j4 := cT hc3 j2
      refine m_Rb.n0 b_66 (x_ict d_66_16 rfl hc3) ?_
      exact m_Rb.pick [] rfl (T_c_ArraysSupport_newLength_21 h hF j4)
    | false =>
      have j4 := cF hc3 j2
      refine m_Rb.n0 b_66 (x_icf d_66_16 rfl hc3) ?_
      refine m_Rb.n0 b_66 (x_iload_n d_66_19 rfl) ?_
      cases j4
      exact m_Rb.ret b_66 (m_rt_ir d_66_20 rfl rfl) ⟨rfl, h, hF⟩
def D_c_AbstractStringBuilder_newCapacity (F : Nat) (a0 : Nat) (p0 : Int32) (T0 : tT) : Option (Int32) := (tgr T0 a0 3 0).bind fun v1 => (v1).bind fun a5 => (tal T0 a5).bind fun v8 => (tgi T0 a0 3 1).bind fun v11 => (tgi T0 a0 3 1).bind fun v14 => (D_c_ArraysSupport_newLength F v8 ((p0 <<< (v11 &&& 31)) - v8) (v8 + ((2 : Int32) <<< (v14 &&& 31))) T0).bind fun v17 => cond (m_c2 .ne v17 (2147483647 : Int32)) ((tgi T0 a0 3 1).bind fun v23 => some (v17 >>> (v23 &&& 31))) (none)
theorem T_c_AbstractStringBuilder_newCapacity {l : Launch} {w : List mM} {F : Nat} {a0 : Nat} {p0 : Int32} {T0 : tT} {yz : Int32} (ha0 : okr T0.2.1 (some a0)) (h : RT T0 w) (h0 : D_c_AbstractStringBuilder_newCapacity F a0 p0 T0 = some yz) : m_Rb l M_167 (m_ent M_167 [.ref a0, .int p0] w) (fun v w' => v = some (.int yz) ∧ RT T0 w' ∧ m_Fm w w') T0 T0 2 200 := by
  rw [show m_ent M_167 [.ref a0, .int p0] w = (0, [(0, .ref a0), (1, .int p0)], [], w) from by first | rfl | (simp only [m_ent, lv_args_r, lv_args_a, lv_args_i, lv_args_l, lv_args_0]; done) | (simp only [m_ent, lv_args_r, lv_args_a, lv_args_i, lv_args_l, lv_args_0]; rfl)]
  generalize hw0 : w = w0 at h ⊢
  have hF : m_Fm w0 w0 := m_Fm.refl
  rw [D_c_AbstractStringBuilder_newCapacity] at h0
  refine m_Rb.n0 b_167 (x_aload_n d_167_0 rfl) ?_
  obtain ⟨v1, e2, j3⟩ := bS h0
  refine m_Rb.tgetR b_167 d_167_1 rfl h e2 (fun o4 => ?_)
  obtain ⟨a5, e6, j7⟩ := bS j3
  subst e6
  obtain ⟨v8, e9, j10⟩ := bS j7
  refine m_Rb.talen b_167 d_167_4 h e9 ?_
  refine m_Rb.n0 b_167 (x_istore_n d_167_5 rfl (show m_put1 _ _ _ = [(2, _), (0, _), (1, _)] from rfl)) ?_
  refine m_Rb.n0 b_167 (x_iload_n d_167_6 rfl) ?_
  refine m_Rb.n0 b_167 (x_aload_n d_167_7 rfl) ?_
  obtain ⟨v11, e12, j13⟩ := bS j10
  refine m_Rb.tgetI b_167 d_167_8 rfl h e12 ?_
  refine m_Rb.n0 b_167 (x_ishl d_167_11 rfl) ?_
  refine m_Rb.n0 b_167 (x_istore_n d_167_12 rfl (show m_put1 _ _ _ = [(3, _), (2, _), (0, _), (1, _)] from rfl)) ?_
  refine m_Rb.n0 b_167 (x_iload_n d_167_13 rfl) ?_
  refine m_Rb.n0 b_167 (x_iload_n d_167_14 rfl) ?_
  refine m_Rb.n0 b_167 (x_isub d_167_15 rfl) ?_
  refine m_Rb.n0 b_167 (x_istore d_167_16 rfl (show m_put1 _ _ _ = [(4, _), (3, _), (2, _), (0, _), (1, _)] from rfl)) ?_
  refine m_Rb.n0 b_167 (x_iload_n d_167_18 rfl) ?_
  refine m_Rb.n0 b_167 (x_iload d_167_19 rfl) ?_
  refine m_Rb.n0 b_167 (x_iload_n d_167_21 rfl) ?_
  refine m_Rb.n0 b_167 (x_iconst (z := 2) d_167_22 (by decide)) ?_
  refine m_Rb.n0 b_167 (x_aload_n d_167_23 rfl) ?_
  obtain ⟨v14, e15, j16⟩ := bS j13
  refine m_Rb.tgetI b_167 d_167_24 rfl h e15 ?_
  refine m_Rb.n0 b_167 (x_ishl d_167_27 rfl) ?_
  refine m_Rb.n0 b_167 (x_iadd d_167_28 rfl) ?_
  obtain ⟨v17, e18, j19⟩ := bS j16
  refine m_Rb.callI b_167 (y_cs d_167_29 rfl q_66 (show m_takeS _ _ = some (_, [_, _, _], []) from m_takeS_of (Nat.le_of_ble_eq_true rfl) rfl rfl (Nat.le_of_ble_eq_true rfl)) (by simp only [m_okf, List.all_cons, List.all_nil, Bool.and_true, Bool.and_self, m_okv_i, m_okv_l, m_okv_0, m_okv_n0, m_okv_t, RT.okn h ha0, RT.okv h ha0]) rfl) (T_c_ArraysSupport_newLength h e18) hF rfl (fun w20 h20 f20 k20 => ?_) (by decide) (by decide)
  refine m_Rb.n0 b_167 (x_istore d_167_32 rfl (show m_put1 _ _ _ = [(5, _), (4, _), (3, _), (2, _), (0, _), (1, _)] from rfl)) ?_
  refine m_Rb.n0 b_167 (x_iload d_167_34 rfl) ?_
  refine m_Rb.n0 b_167 (x_ldc (v := .int 2147483647) d_167_36 rfl) ?_
  cases hc21 : m_c2 .ne v17 (2147483647 : Int32) with
  | true =>
    have j22 := cT hc21 j19
    refine m_Rb.n0 b_167 (x_ict d_167_38 rfl hc21) ?_
    refine m_Rb.n0 b_167 (x_iload d_167_51 rfl) ?_
    refine m_Rb.n0 b_167 (x_aload_n d_167_53 rfl) ?_
    obtain ⟨v23, e24, j25⟩ := bS j22
    refine m_Rb.tgetI b_167 d_167_54 rfl h20 e24 ?_
    refine m_Rb.n0 b_167 (x_ishr d_167_57 rfl) ?_
    cases j25
    exact m_Rb.ret b_167 (m_rt_ir d_167_58 rfl rfl) ⟨rfl, h20, f20⟩
  | false =>
    have j22 := cF hc21 j19
    refine m_Rb.n0 b_167 (x_icf d_167_38 rfl hc21) ?_
    cases j22
def D_c_Arrays_copyOf (F : Nat) (p0 : Option Nat) (p1 : Int32) (T : tT) : Option (Option Nat × tT) := (p0).bind fun a1 => (tal T a1).bind fun v4 => cond (m_c2 .ne p1 v4) (bd2 (tna T 3 p1) fun a9 T10 => (tal T10 a1).bind fun v14 => (tcb T10 a1 (0 : Int32) a9 (0 : Int32) (if p1 < v14 then p1 else v14)).bind fun T17 => some ((some a9), T17)) (bd2 (tcln T a1) fun a21 T22 => (tba T22 a21).bind fun _ => some ((some a21), T22))
theorem T_c_Arrays_copyOf {l : Launch} {w : List mM} {F : Nat} {p0 : Option Nat} {p1 : Int32} {T : tT} {yz : Option Nat} {Tz : tT} (hp0 : okr T.2.1 p0) (h : RT T w) (h0 : D_c_Arrays_copyOf F p0 p1 T = some (yz, Tz)) : m_Rb l M_168 (m_ent M_168 [rv p0, .int p1] w) (fun v w' => v = some (rv yz) ∧ okr Tz.2.1 yz ∧ RT Tz w' ∧ m_Fm w w') T Tz 1 100 := by
  rw [show m_ent M_168 [rv p0, .int p1] w = (0, [(0, rv p0), (1, .int p1)], [], w) from by first | rfl | (simp only [m_ent, lv_args_r, lv_args_a, lv_args_i, lv_args_l, lv_args_0]; done) | (simp only [m_ent, lv_args_r, lv_args_a, lv_args_i, lv_args_l, lv_args_0]; rfl)]
  generalize hw0 : w = w0 at h ⊢
  have hF : m_Fm w0 w0 := m_Fm.refl
  rw [D_c_Arrays_copyOf] at h0
  refine m_Rb.n0 b_168 (x_iload_n d_168_0 rfl) ?_
  refine m_Rb.n0 b_168 (x_aloadr_n (x := p0) d_168_1 rfl) ?_
  obtain ⟨a1, e2, j3⟩ := bS h0
  subst e2
  obtain ⟨v4, e5, j6⟩ := bS j3
  refine m_Rb.talen b_168 d_168_2 h e5 ?_
  cases hc7 : m_c2 .ne p1 v4 with
  | true =>
    have j8 := cT hc7 j6
    refine m_Rb.n0 b_168 (x_ict d_168_3 rfl hc7) ?_
    refine m_Rb.n0 b_168 (x_iload_n d_168_14 rfl) ?_
    obtain ⟨a9, T10, e11, j12⟩ := bS2 j8
    refine m_Rb.tnewa b_168 d_168_15 rfl (by simp only [m_okf, List.all_cons, List.all_nil, Bool.and_true, Bool.and_self, m_okv_i, m_okv_l, m_okv_0, m_okv_n0, m_okv_t, RT.okn h hp0, RT.okv h hp0]) h hF e11 (fun w13 o13 h13 f13 k13 => ?_)
    refine m_Rb.n0 b_168 (x_astore_n d_168_17 rfl (show m_put1 _ _ _ = [(2, _), (0, _), (1, _)] from rfl)) ?_
    refine m_Rb.n0 b_168 (x_aload_n d_168_18 rfl) ?_
    refine m_Rb.n0 b_168 (x_iconst (z := 0) d_168_19 (by decide)) ?_
    refine m_Rb.n0 b_168 (x_aload_n d_168_20 rfl) ?_
    refine m_Rb.n0 b_168 (x_iconst (z := 0) d_168_21 (by decide)) ?_
    refine m_Rb.n0 b_168 (x_aload_n d_168_22 rfl) ?_
    obtain ⟨v14, e15, j16⟩ := bS j12
    refine m_Rb.talen b_168 d_168_23 h13 e15 ?_
    refine m_Rb.n0 b_168 (x_iload_n d_168_24 rfl) ?_
    refine m_Rb.nz b_168 (x_min d_168_25 rfl (catL (Nat.le_of_ble_eq_true rfl)) rfl) ?_ (by decide) (by decide)
    obtain ⟨T17, e18, j19⟩ := bS j16
    refine m_Rb.tcopy b_168 d_168_28 (m_gi4 41 rfl rfl) (Nat.le_of_ble_eq_true rfl) h13 f13 e18 (fun w20 h20 f20 k20 => ?_) (by decide) (by decide)
    refine m_Rb.n0 b_168 (x_aload_n d_168_31 rfl) ?_
    have o9 : okr T17.2.1 (some a9) := (okm o13 k20)
    cases j19
    exact m_Rb.ret b_168 (m_rt_rra (x := (some a9)) d_168_32 rfl) ⟨rfl, o9, h20, f20⟩
  | false =>
    have j8 := cF hc7 j6
    refine m_Rb.n0 b_168 (x_icf d_168_3 rfl hc7) ?_
    refine m_Rb.n0 b_168 (x_aload_n d_168_6 rfl) ?_
    obtain ⟨a21, T22, e23, j24⟩ := bS2 j8
    refine m_Rb.tclone b_168 d_168_7 (m_gi6 202 rfl rfl) (Nat.le_of_ble_eq_true rfl) (by simp only [m_okf, List.all_cons, List.all_nil, Bool.and_true, Bool.and_self, m_okv_i, m_okv_l, m_okv_0, m_okv_n0, m_okv_t, RT.okn h hp0, RT.okv h hp0]) h hF e23 (fun w25 o25 h25 f25 k25 => ?_) (by decide) (by decide)
    obtain ⟨_, e26, j27⟩ := bS j24
    refine m_Rb.tcastB b_168 d_168_10 (m_gi6 208 rfl rfl) h25 e26 ?_
    have o9 : okr T22.2.1 (some a21) := o25
    cases j27
    exact m_Rb.ret b_168 (m_rt_rra (x := (some a21)) d_168_13 rfl) ⟨rfl, o9, h25, f25⟩
def D_c_AbstractStringBuilder_ensureCapacityInternal (F : Nat) (a0 : Nat) (p0 : Int32) (T : tT) : Option (tT) := (tgr T a0 3 0).bind fun v1 => (v1).bind fun a5 => (tal T a5).bind fun v8 => (tgi T a0 3 1).bind fun v11 => cond (m_c1 .le (p0 - (v8 >>> (v11 &&& 31)))) (some T) ((tgr T a0 3 0).bind fun v20 => (tcl T a0 3).bind fun _ => (D_c_AbstractStringBuilder_newCapacity F a0 p0 T).bind fun v27 => (tgi T a0 3 1).bind fun v31 => bd2 (D_c_Arrays_copyOf F v20 (v27 <<< (v31 &&& 31)) T) fun v34 T35 => (tpr T35 a0 3 0 v34).bind fun T39 => some T39)
theorem T_c_AbstractStringBuilder_ensureCapacityInternal {l : Launch} {w : List mM} {F : Nat} {a0 : Nat} {p0 : Int32} {T : tT} {Tz : tT} (ha0 : okr T.2.1 (some a0)) (h : RT T w) (h0 : D_c_AbstractStringBuilder_ensureCapacityInternal F a0 p0 T = some Tz) : m_Rb l M_166 (m_ent M_166 [.ref a0, .int p0] w) (fun v w' => v = none ∧ RT Tz w' ∧ m_Fm w w') T Tz 3 300 := by
  rw [show m_ent M_166 [.ref a0, .int p0] w = (0, [(0, .ref a0), (1, .int p0)], [], w) from by first | rfl | (simp only [m_ent, lv_args_r, lv_args_a, lv_args_i, lv_args_l, lv_args_0]; done) | (simp only [m_ent, lv_args_r, lv_args_a, lv_args_i, lv_args_l, lv_args_0]; rfl)]
  generalize hw0 : w = w0 at h ⊢
  have hF : m_Fm w0 w0 := m_Fm.refl
  rw [D_c_AbstractStringBuilder_ensureCapacityInternal] at h0
  refine m_Rb.n0 b_166 (x_aload_n d_166_0 rfl) ?_
  obtain ⟨v1, e2, j3⟩ := bS h0
  refine m_Rb.tgetR b_166 d_166_1 rfl h e2 (fun o4 => ?_)
  obtain ⟨a5, e6, j7⟩ := bS j3
  subst e6
  obtain ⟨v8, e9, j10⟩ := bS j7
  refine m_Rb.talen b_166 d_166_4 h e9 ?_
  refine m_Rb.n0 b_166 (x_aload_n d_166_5 rfl) ?_
  obtain ⟨v11, e12, j13⟩ := bS j10
  refine m_Rb.tgetI b_166 d_166_6 rfl h e12 ?_
  refine m_Rb.n0 b_166 (x_ishr d_166_9 rfl) ?_
  refine m_Rb.n0 b_166 (x_istore_n d_166_10 rfl (show m_put1 _ _ _ = [(2, _), (0, _), (1, _)] from rfl)) ?_
  refine m_Rb.n0 b_166 (x_iload_n d_166_11 rfl) ?_
  refine m_Rb.n0 b_166 (x_iload_n d_166_12 rfl) ?_
  refine m_Rb.n0 b_166 (x_isub d_166_13 rfl) ?_
  cases hc18 : m_c1 .le (p0 - (v8 >>> (v11 &&& 31))) with
  | true =>
    have j19 := cT hc18 j13
    refine m_Rb.n0 b_166 (x_ift d_166_14 rfl hc18) ?_
    cases j19
    exact m_Rb.ret b_166 (m_rt_vr d_166_38 rfl) ⟨rfl, h, hF⟩
  | false =>
    have j19 := cF hc18 j13
    refine m_Rb.n0 b_166 (x_iff d_166_14 rfl hc18) ?_
    refine m_Rb.n0 b_166 (x_aload_n d_166_17 rfl) ?_
    refine m_Rb.n0 b_166 (x_aload_n d_166_18 rfl) ?_
    obtain ⟨v20, e21, j22⟩ := bS j19
    refine m_Rb.tgetR b_166 d_166_19 rfl h e21 (fun o23 => ?_)
    refine m_Rb.n0 b_166 (x_aload_n d_166_22 rfl) ?_
    refine m_Rb.n0 b_166 (x_iload_n d_166_23 rfl) ?_
    obtain ⟨_, e24, j25⟩ := bS j22
    obtain ⟨_, g26⟩ := RT.cls h e24
    obtain ⟨v27, e28, j29⟩ := bS j25
    refine m_Rb.callUI (J := M_167) (m_mtm q_167) rfl (fun r9 hM => m_Step.virtK l b_166 (x := ⟨"java/lang/AbstractStringBuilder", "newCapacity", "(I)I"⟩) (owner := "java/lang/AbstractStringBuilder") d_166_24.1 (m_mtm q_167) (m_gi6 193 rfl rfl) (m_gi12 41 rfl rfl) (fun args s hts => m_declI (m_gi6 195 rfl rfl) (m_gi6 196 rfl rfl) args s hts) (m_selPK (z := ⟨"java/lang/AbstractStringBuilder", "isLatin1", "()Z"⟩) (m_gi6 212 rfl rfl) rfl f_pv_167 (m_gi6 195 rfl rfl) (by decide)) (m_gi6 195 rfl rfl) (by decide +kernel) (by decide) (show m_takeI _ _ = some (_, [_, _], [_, _]) from m_takeI_of rfl rfl rfl (Nat.le_of_ble_eq_true rfl)) rfl g26 rfl (by simp only [m_okf, List.all_cons, List.all_nil, Bool.and_true, Bool.and_self, m_okv_i, m_okv_l, m_okv_0, m_okv_n0, m_okv_t, RT.okn h ha0, RT.okv h ha0, RT.okv h o23]) hM) (T_c_AbstractStringBuilder_newCapacity ha0 h e28) hF rfl (fun w30 h30 f30 k30 => ?_) (by decide) (by decide)
    refine m_Rb.n0 b_166 (x_aload_n d_166_27 rfl) ?_
    obtain ⟨v31, e32, j33⟩ := bS j29
    refine m_Rb.tgetI b_166 d_166_28 rfl h30 e32 ?_
    refine m_Rb.n0 b_166 (x_ishl d_166_31 rfl) ?_
    obtain ⟨v34, T35, e36, j37⟩ := bS2 j33
    refine m_Rb.callR b_166 (y_cs d_166_32 rfl q_168 (show m_takeS _ _ = some (_, [_, _], [_]) from m_takeS_of (Nat.le_of_ble_eq_true rfl) rfl rfl (Nat.le_of_ble_eq_true rfl)) (by simp only [m_okf, List.all_cons, List.all_nil, Bool.and_true, Bool.and_self, m_okv_i, m_okv_l, m_okv_0, m_okv_n0, m_okv_t, RT.okn h30 ha0, RT.okv h30 ha0, RT.okv h30 o23]) (decide_eq_true (by simp only [lgs_r, lgs_a, lgs_i, lgs_l, lgs_0]; exact Nat.le_of_ble_eq_true rfl))) (T_c_Arrays_copyOf o23 h30 e36) f30 rfl (fun w38 o38 h38 f38 k38 => ?_) (by decide) (by decide)
    obtain ⟨T39, e40, j41⟩ := bS j37
    refine m_Rb.tputA (z := v34) b_166 d_166_35 rfl rfl (by decide) h38 f38 e40 o38 (fun w42 h42 f42 k42 => ?_)
    cases j41
    exact m_Rb.ret b_166 (m_rt_vr d_166_38 rfl) ⟨rfl, h42, f42⟩
def D_c_AbstractStringBuilder_setLength_76 (F : Nat) (x0 : Nat) (x1 : Int32) (T : tT) : Option (tT) := (tpi T x0 3 3 x1).bind fun T28 => some T28
theorem T_c_AbstractStringBuilder_setLength_76 {l : Launch} {w0 : List mM} {F : Nat} {x0 : Nat} {x1 : Int32} {T : tT} {w : List mM} {Tz : tT} (hx0 : okr T.2.1 (some x0)) (h : RT T w) (hF : m_Fm w0 w) (h0 : D_c_AbstractStringBuilder_setLength_76 F x0 x1 T = some Tz) : m_Rb l M_161 (76, [(0, .ref x0), (1, .int x1)], [], w) (fun v w' => v = none ∧ RT Tz w' ∧ m_Fm w0 w') T Tz 4 400 := by
  rw [D_c_AbstractStringBuilder_setLength_76] at h0
  refine m_Rb.n0 b_161 (x_aload_n d_161_76 rfl) ?_
  refine m_Rb.n0 b_161 (x_iload_n d_161_77 rfl) ?_
  obtain ⟨T28, e29, j30⟩ := bS h0
  refine m_Rb.tputI b_161 d_161_78 rfl rfl (by decide) h hF e29 (fun w31 h31 f31 k31 => ?_)
  cases j30
  exact m_Rb.ret b_161 (m_rt_vr d_161_81 rfl) ⟨rfl, h31, f31⟩
def D_c_AbstractStringBuilder_setLength (F : Nat) (a0 : Nat) (p0 : Int32) (T : tT) : Option (tT) := cond (m_c1 .ge p0) ((tcl T a0 3).bind fun _ => (D_c_AbstractStringBuilder_ensureCapacityInternal F a0 p0 T).bind fun T6 => (tgi T6 a0 3 3).bind fun v10 => cond (m_c2 .ge v10 p0) ((tgi T6 a0 3 3).bind fun v15 => cond (m_c2 .le v15 p0) (D_c_AbstractStringBuilder_setLength_76 F a0 p0 T6) ((tpz T6 a0 3 2 (1 : Int32)).bind fun T24 => D_c_AbstractStringBuilder_setLength_76 F a0 p0 T24)) (none)) (none)
theorem T_c_AbstractStringBuilder_setLength {l : Launch} {w : List mM} {F : Nat} {a0 : Nat} {p0 : Int32} {T : tT} {Tz : tT} (ha0 : okr T.2.1 (some a0)) (h : RT T w) (h0 : D_c_AbstractStringBuilder_setLength F a0 p0 T = some Tz) : m_Rb l M_161 (m_ent M_161 [.ref a0, .int p0] w) (fun v w' => v = none ∧ RT Tz w' ∧ m_Fm w w') T Tz 4 400 := by
  rw [show m_ent M_161 [.ref a0, .int p0] w = (0, [(0, .ref a0), (1, .int p0)], [], w) from by first | rfl | (simp only [m_ent, lv_args_r, lv_args_a, lv_args_i, lv_args_l, lv_args_0]; done) | (simp only [m_ent, lv_args_r, lv_args_a, lv_args_i, lv_args_l, lv_args_0]; rfl)]
  generalize hw0 : w = w0 at h ⊢
  have hF : m_Fm w0 w0 := m_Fm.refl
  rw [D_c_AbstractStringBuilder_setLength] at h0
  refine m_Rb.n0 b_161 (x_iload_n d_161_0 rfl) ?_
  cases hc1 : m_c1 .ge p0 with
  | true =>
    have j2 := cT hc1 h0
    refine m_Rb.n0 b_161 (x_ift d_161_1 rfl hc1) ?_
    refine m_Rb.n0 b_161 (x_aload_n d_161_13 rfl) ?_
    refine m_Rb.n0 b_161 (x_iload_n d_161_14 rfl) ?_
    obtain ⟨_, e3, j4⟩ := bS j2
    obtain ⟨_, g5⟩ := RT.cls h e3
    obtain ⟨T6, e7, j8⟩ := bS j4
    refine m_Rb.callUV (J := M_166) (m_mtm q_166) rfl (fun r9 hM => m_Step.virtK l b_161 (x := ⟨"java/lang/AbstractStringBuilder", "ensureCapacityInternal", "(I)V"⟩) (owner := "java/lang/AbstractStringBuilder") d_161_15.1 (m_mtm q_166) (m_gi6 189 rfl rfl) (m_gi12 40 rfl rfl) (fun args s hts => m_declI (m_gi6 191 rfl rfl) (m_gi6 192 rfl rfl) args s hts) (m_selPK (z := ⟨"java/lang/AbstractStringBuilder", "isLatin1", "()Z"⟩) (m_gi6 212 rfl rfl) rfl f_pv_166 (m_gi6 191 rfl rfl) (by decide)) (m_gi6 191 rfl rfl) (by decide +kernel) (by decide) (show m_takeI _ _ = some (_, [_, _], []) from m_takeI_of rfl rfl rfl (Nat.le_of_ble_eq_true rfl)) rfl g5 rfl (by simp only [m_okf, List.all_cons, List.all_nil, Bool.and_true, Bool.and_self, m_okv_i, m_okv_l, m_okv_0, m_okv_n0, m_okv_t, RT.okn h ha0, RT.okv h ha0]) hM) (T_c_AbstractStringBuilder_ensureCapacityInternal ha0 h e7) hF rfl (fun w9 h9 f9 k9 => ?_) (by decide) (by decide)
    refine m_Rb.n0 b_161 (x_aload_n d_161_18 rfl) ?_
    obtain ⟨v10, e11, j12⟩ := bS j8
    refine m_Rb.tgetI b_161 d_161_19 rfl h9 e11 ?_
    refine m_Rb.n0 b_161 (x_iload_n d_161_22 rfl) ?_
    cases hc13 : m_c2 .ge v10 p0 with
    | true =>
      have j14 := cT hc13 j12
      refine m_Rb.n0 b_161 (x_ict d_161_23 rfl hc13) ?_
      refine m_Rb.n0 b_161 (x_aload_n d_161_63 rfl) ?_
      obtain ⟨v15, e16, j17⟩ := bS j14
      refine m_Rb.tgetI b_161 d_161_64 rfl h9 e16 ?_
      refine m_Rb.n0 b_161 (x_iload_n d_161_67 rfl) ?_
      cases hc22 : m_c2 .le v15 p0 with
      | true =>
        have j23 := cT hc22 j17
        refine m_Rb.n0 b_161 (x_ict d_161_68 rfl hc22) ?_
        exact m_Rb.pick [0, 1] rfl (T_c_AbstractStringBuilder_setLength_76 (okm ha0 k9) h9 f9 j23)
      | false =>
        have j23 := cF hc22 j17
        refine m_Rb.n0 b_161 (x_icf d_161_68 rfl hc22) ?_
        refine m_Rb.n0 b_161 (x_aload_n d_161_71 rfl) ?_
        refine m_Rb.n0 b_161 (x_iconst (z := 1) d_161_72 (by decide)) ?_
        obtain ⟨T24, e25, j26⟩ := bS j23
        refine m_Rb.tputZ b_161 d_161_73 rfl rfl (by decide) h9 f9 e25 (fun w27 h27 f27 k27 => ?_)
        exact m_Rb.pick [0, 1] rfl (T_c_AbstractStringBuilder_setLength_76 (okm (okm ha0 k9) k27) h27 f27 j26)
    | false =>
      have j14 := cF hc13 j12
      refine m_Rb.n0 b_161 (x_icf d_161_23 rfl hc13) ?_
      cases j14
  | false =>
    have j2 := cF hc1 h0
    refine m_Rb.n0 b_161 (x_iff d_161_1 rfl hc1) ?_
    cases j2
def D_c_StringBuilder_setLength (F : Nat) (a0 : Nat) (p0 : Int32) (T : tT) : Option (tT) := (tcl T a0 3).bind fun _ => (D_c_AbstractStringBuilder_setLength F a0 p0 T).bind fun T4 => some T4
theorem T_c_StringBuilder_setLength {l : Launch} {w : List mM} {F : Nat} {a0 : Nat} {p0 : Int32} {T : tT} {Tz : tT} (ha0 : okr T.2.1 (some a0)) (h : RT T w) (h0 : D_c_StringBuilder_setLength F a0 p0 T = some Tz) : m_Rb l M_160 (m_ent M_160 [.ref a0, .int p0] w) (fun v w' => v = none ∧ RT Tz w' ∧ m_Fm w w') T Tz 5 500 := by
  rw [show m_ent M_160 [.ref a0, .int p0] w = (0, [(0, .ref a0), (1, .int p0)], [], w) from by first | rfl | (simp only [m_ent, lv_args_r, lv_args_a, lv_args_i, lv_args_l, lv_args_0]; done) | (simp only [m_ent, lv_args_r, lv_args_a, lv_args_i, lv_args_l, lv_args_0]; rfl)]
  generalize hw0 : w = w0 at h ⊢
  have hF : m_Fm w0 w0 := m_Fm.refl
  rw [D_c_StringBuilder_setLength] at h0
  refine m_Rb.n0 b_160 (x_aload_n d_160_0 rfl) ?_
  refine m_Rb.n0 b_160 (x_iload_n d_160_1 rfl) ?_
  obtain ⟨_, e1, j2⟩ := bS h0
  obtain ⟨_, g3⟩ := RT.cls h e1
  obtain ⟨T4, e5, j6⟩ := bS j2
  refine m_Rb.callUV (J := M_161) (m_mtm q_161) rfl (fun r9 hM => m_Step.sup l b_160 d_160_2.1 (m_mtm q_161) (m_gi6 167 rfl rfl) (m_gi12 37 rfl rfl) (m_gi1 163 rfl rfl) (m_gi6 168 rfl rfl) (by decide) (show m_takeI _ _ = some (_, [_, _], []) from m_takeI_of rfl rfl rfl (Nat.le_of_ble_eq_true rfl)) rfl g3 rfl (by simp only [m_okf, List.all_cons, List.all_nil, Bool.and_true, Bool.and_self, m_okv_i, m_okv_l, m_okv_0, m_okv_n0, m_okv_t, RT.okn h ha0, RT.okv h ha0]) hM) (T_c_AbstractStringBuilder_setLength ha0 h e5) hF rfl (fun w7 h7 f7 k7 => ?_) (by decide) (by decide)
  cases j6
  exact m_Rb.ret b_160 (m_rt_vr d_160_5 rfl) ⟨rfl, h7, f7⟩
def D_c_AbstractStringBuilder_inflateIfNeededFor (F : Nat) (a0 : Nat) (p0 : Nat) (T : tT) : Option (tT) := cond (m_c1 .eq (1 : Int32)) (some T) ((tgi T a0 3 1).bind fun v3 => (xcod p0).bind fun v6 => cond (m_c2 .eq v3 v6) (some T) (none))
theorem T_c_AbstractStringBuilder_inflateIfNeededFor {l : Launch} {w : List mM} {F : Nat} {a0 : Nat} {p0 : Nat} {T : tT} {Tz : tT} (ha0 : okr T.2.1 (some a0)) (hp0 : p0 < 512) (h : RT T w) (h0 : D_c_AbstractStringBuilder_inflateIfNeededFor F a0 p0 T = some Tz) : m_Rb l M_176 (m_ent M_176 [.ref a0, .ref p0] w) (fun v w' => v = none ∧ RT Tz w' ∧ m_Fm w w') T Tz 6 600 := by
  rw [show m_ent M_176 [.ref a0, .ref p0] w = (0, [(0, .ref a0), (1, .ref p0)], [], w) from by first | rfl | (simp only [m_ent, lv_args_r, lv_args_a, lv_args_i, lv_args_l, lv_args_0]; done) | (simp only [m_ent, lv_args_r, lv_args_a, lv_args_i, lv_args_l, lv_args_0]; rfl)]
  generalize hw0 : w = w0 at h ⊢
  have hF : m_Fm w0 w0 := m_Fm.refl
  rw [D_c_AbstractStringBuilder_inflateIfNeededFor] at h0
  refine m_Rb.n0 b_176 (x_gst d_176_0 rfl) ?_
  cases hc1 : m_c1 .eq (1 : Int32) with
  | true =>
    have j2 := cT hc1 h0
    refine m_Rb.n0 b_176 (x_ift d_176_3 rfl hc1) ?_
    cases j2
    exact m_Rb.ret b_176 (m_rt_vr d_176_21 rfl) ⟨rfl, h, hF⟩
  | false =>
    have j2 := cF hc1 h0
    refine m_Rb.n0 b_176 (x_iff d_176_3 rfl hc1) ?_
    refine m_Rb.n0 b_176 (x_aload_n d_176_6 rfl) ?_
    obtain ⟨v3, e4, j5⟩ := bS j2
    refine m_Rb.tgetI b_176 d_176_7 rfl h e4 ?_
    refine m_Rb.n0 b_176 (x_aload_n d_176_10 rfl) ?_
    obtain ⟨v6, e7, j8⟩ := bS j5
    refine m_Rb.lift (fun c s k9 => m_Rs.cxcod b_176 d_176_11 rfl (by simp only [m_okf, List.all_cons, List.all_nil, Bool.and_true, Bool.and_self, m_okv_i, m_okv_l, m_okv_0, m_okv_n0, m_okv_t, RT.okn h ha0, RT.okv h ha0, m_okv_out (a := p0) hp0]) e7 k9 (catL (Nat.le_of_ble_eq_true rfl)) (by decide) (by decide)) ?_
    cases hc9 : m_c2 .eq v3 v6 with
    | true =>
      have j10 := cT hc9 j8
      refine m_Rb.n0 b_176 (x_ict d_176_14 rfl hc9) ?_
      cases j10
      exact m_Rb.ret b_176 (m_rt_vr d_176_21 rfl) ⟨rfl, h, hF⟩
    | false =>
      have j10 := cF hc9 j8
      refine m_Rb.n0 b_176 (x_icf d_176_14 rfl hc9) ?_
      cases j10
def D_c_AbstractStringBuilder_putStringAt (F : Nat) (a0 : Nat) (p0 : Int32) (p1 : Nat) (T : tT) : Option (tT) := (tcl T a0 3).bind fun _ => (D_c_AbstractStringBuilder_inflateIfNeededFor F a0 p1 T).bind fun T4 => (tgr T4 a0 3 0).bind fun v8 => (tgi T4 a0 3 1).bind fun v12 => (v8).bind fun a15 => (xgb T4 p1 a15 p0 v12).bind fun T18 => some T18
theorem T_c_AbstractStringBuilder_putStringAt {l : Launch} {w : List mM} {F : Nat} {a0 : Nat} {p0 : Int32} {p1 : Nat} {T : tT} {Tz : tT} (ha0 : okr T.2.1 (some a0)) (hp1 : p1 < 512) (h : RT T w) (h0 : D_c_AbstractStringBuilder_putStringAt F a0 p0 p1 T = some Tz) : m_Rb l M_175 (m_ent M_175 [.ref a0, .int p0, .ref p1] w) (fun v w' => v = none ∧ RT Tz w' ∧ m_Fm w w') T Tz 7 700 := by
  rw [show m_ent M_175 [.ref a0, .int p0, .ref p1] w = (0, [(0, .ref a0), (1, .int p0), (2, .ref p1)], [], w) from by first | rfl | (simp only [m_ent, lv_args_r, lv_args_a, lv_args_i, lv_args_l, lv_args_0]; done) | (simp only [m_ent, lv_args_r, lv_args_a, lv_args_i, lv_args_l, lv_args_0]; rfl)]
  generalize hw0 : w = w0 at h ⊢
  have hF : m_Fm w0 w0 := m_Fm.refl
  rw [D_c_AbstractStringBuilder_putStringAt] at h0
  refine m_Rb.n0 b_175 (x_aload_n d_175_0 rfl) ?_
  refine m_Rb.n0 b_175 (x_aload_n d_175_1 rfl) ?_
  obtain ⟨_, e1, j2⟩ := bS h0
  obtain ⟨_, g3⟩ := RT.cls h e1
  obtain ⟨T4, e5, j6⟩ := bS j2
  refine m_Rb.callUV (J := M_176) (m_mtm q_176) rfl (fun r9 hM => m_Step.virtK l b_175 (x := ⟨"java/lang/AbstractStringBuilder", "inflateIfNeededFor", "(Ljava/lang/String;)V"⟩) (owner := "java/lang/AbstractStringBuilder") d_175_2.1 (m_mtm q_176) (m_gi6 234 rfl rfl) (m_gi12 43 rfl rfl) (fun args s hts => m_declI (m_gi6 236 rfl rfl) (m_gi6 237 rfl rfl) args s hts) (m_selPK (z := ⟨"java/lang/AbstractStringBuilder", "isLatin1", "()Z"⟩) (m_gi6 212 rfl rfl) rfl f_pv_176 (m_gi6 236 rfl rfl) (by decide)) (m_gi6 236 rfl rfl) (by decide +kernel) (by decide) (show m_takeI _ _ = some (_, [_, _], []) from m_takeI_of rfl rfl rfl (Nat.le_of_ble_eq_true rfl)) rfl g3 rfl (by simp only [m_okf, List.all_cons, List.all_nil, Bool.and_true, Bool.and_self, m_okv_i, m_okv_l, m_okv_0, m_okv_n0, m_okv_t, RT.okn h ha0, RT.okv h ha0, m_okv_out (a := p1) hp1]) hM) (T_c_AbstractStringBuilder_inflateIfNeededFor ha0 hp1 h e5) hF rfl (fun w7 h7 f7 k7 => ?_) (by decide) (by decide)
  refine m_Rb.n0 b_175 (x_aload_n d_175_5 rfl) ?_
  refine m_Rb.n0 b_175 (x_aload_n d_175_6 rfl) ?_
  obtain ⟨v8, e9, j10⟩ := bS j6
  refine m_Rb.tgetR b_175 d_175_7 rfl h7 e9 (fun o11 => ?_)
  refine m_Rb.n0 b_175 (x_iload_n d_175_10 rfl) ?_
  refine m_Rb.n0 b_175 (x_aload_n d_175_11 rfl) ?_
  obtain ⟨v12, e13, j14⟩ := bS j10
  refine m_Rb.tgetI b_175 d_175_12 rfl h7 e13 ?_
  obtain ⟨a15, e16, j17⟩ := bS j14
  subst e16
  obtain ⟨T18, e19, j20⟩ := bS j17
  refine m_Rb.rxgb b_175 d_175_15 rfl (by simp only [m_okf, List.all_cons, List.all_nil, Bool.and_true, Bool.and_self, m_okv_i, m_okv_l, m_okv_0, m_okv_n0, m_okv_t, RT.okn h7 (okm ha0 k7), RT.okv h7 (okm ha0 k7), m_okv_out (a := p1) hp1, RT.okn h7 o11, RT.okv h7 o11]) (Nat.le_of_ble_eq_true rfl) h7 f7 e19 (fun w21 h21 f21 k21 => ?_) (by decide) (by decide)
  cases j20
  exact m_Rb.ret b_175 (m_rt_vr d_175_18 rfl) ⟨rfl, h21, f21⟩
def D_c_AbstractStringBuilder_append (F : Nat) (a0 : Nat) (p0 : Nat) (T : tT) : Option (Option Nat × tT) := (xlen p0).bind fun v1 => (tgi T a0 3 3).bind fun v4 => (tcl T a0 3).bind fun _ => (D_c_AbstractStringBuilder_ensureCapacityInternal F a0 (v4 + v1) T).bind fun T10 => (tgi T10 a0 3 3).bind fun v14 => (tcl T10 a0 3).bind fun _ => (D_c_AbstractStringBuilder_putStringAt F a0 v14 p0 T10).bind fun T20 => (tgi T20 a0 3 3).bind fun v24 => (tpi T20 a0 3 3 (v24 + v1)).bind fun T27 => some ((some a0), T27)
theorem T_c_AbstractStringBuilder_append {l : Launch} {w : List mM} {F : Nat} {a0 : Nat} {p0 : Nat} {T : tT} {yz : Option Nat} {Tz : tT} (ha0 : okr T.2.1 (some a0)) (hp0 : p0 < 512) (h : RT T w) (h0 : D_c_AbstractStringBuilder_append F a0 p0 T = some (yz, Tz)) : m_Rb l M_164 (m_ent M_164 [.ref a0, .ref p0] w) (fun v w' => v = some (rv yz) ∧ okr Tz.2.1 yz ∧ RT Tz w' ∧ m_Fm w w') T Tz 8 800 := by
  rw [show m_ent M_164 [.ref a0, .ref p0] w = (0, [(0, .ref a0), (1, .ref p0)], [], w) from by first | rfl | (simp only [m_ent, lv_args_r, lv_args_a, lv_args_i, lv_args_l, lv_args_0]; done) | (simp only [m_ent, lv_args_r, lv_args_a, lv_args_i, lv_args_l, lv_args_0]; rfl)]
  generalize hw0 : w = w0 at h ⊢
  have hF : m_Fm w0 w0 := m_Fm.refl
  rw [D_c_AbstractStringBuilder_append] at h0
  refine m_Rb.n0 b_164 (x_aload_n d_164_0 rfl) ?_
  refine m_Rb.n0 b_164 (x_ifnonnull1 d_164_1 rfl) ?_
  refine m_Rb.n0 b_164 (x_aload_n d_164_9 rfl) ?_
  obtain ⟨v1, e2, j3⟩ := bS h0
  refine m_Rb.lift (fun c s k9 => m_Rs.cxlen b_164 d_164_10 rfl (by simp only [m_okf, List.all_cons, List.all_nil, Bool.and_true, Bool.and_self, m_okv_i, m_okv_l, m_okv_0, m_okv_n0, m_okv_t, RT.okn h ha0, RT.okv h ha0, m_okv_out (a := p0) hp0]) e2 k9 (catL (Nat.le_of_ble_eq_true rfl)) (by decide) (by decide)) ?_
  refine m_Rb.n0 b_164 (x_istore_n d_164_13 rfl (show m_put1 _ _ _ = [(2, _), (0, _), (1, _)] from rfl)) ?_
  refine m_Rb.n0 b_164 (x_aload_n d_164_14 rfl) ?_
  refine m_Rb.n0 b_164 (x_aload_n d_164_15 rfl) ?_
  obtain ⟨v4, e5, j6⟩ := bS j3
  refine m_Rb.tgetI b_164 d_164_16 rfl h e5 ?_
  refine m_Rb.n0 b_164 (x_iload_n d_164_19 rfl) ?_
  refine m_Rb.n0 b_164 (x_iadd d_164_20 rfl) ?_
  obtain ⟨_, e7, j8⟩ := bS j6
  obtain ⟨_, g9⟩ := RT.cls h e7
  obtain ⟨T10, e11, j12⟩ := bS j8
  refine m_Rb.callUV (J := M_166) (m_mtm q_166) rfl (fun r9 hM => m_Step.virtK l b_164 (x := ⟨"java/lang/AbstractStringBuilder", "ensureCapacityInternal", "(I)V"⟩) (owner := "java/lang/AbstractStringBuilder") d_164_21.1 (m_mtm q_166) (m_gi6 189 rfl rfl) (m_gi12 40 rfl rfl) (fun args s hts => m_declI (m_gi6 191 rfl rfl) (m_gi6 192 rfl rfl) args s hts) (m_selPK (z := ⟨"java/lang/AbstractStringBuilder", "isLatin1", "()Z"⟩) (m_gi6 212 rfl rfl) rfl f_pv_166 (m_gi6 191 rfl rfl) (by decide)) (m_gi6 191 rfl rfl) (by decide +kernel) (by decide) (show m_takeI _ _ = some (_, [_, _], []) from m_takeI_of rfl rfl rfl (Nat.le_of_ble_eq_true rfl)) rfl g9 rfl (by simp only [m_okf, List.all_cons, List.all_nil, Bool.and_true, Bool.and_self, m_okv_i, m_okv_l, m_okv_0, m_okv_n0, m_okv_t, RT.okn h ha0, RT.okv h ha0, m_okv_out (a := p0) hp0]) hM) (T_c_AbstractStringBuilder_ensureCapacityInternal ha0 h e11) hF rfl (fun w13 h13 f13 k13 => ?_) (by decide) (by decide)
  refine m_Rb.n0 b_164 (x_aload_n d_164_24 rfl) ?_
  refine m_Rb.n0 b_164 (x_aload_n d_164_25 rfl) ?_
  obtain ⟨v14, e15, j16⟩ := bS j12
  refine m_Rb.tgetI b_164 d_164_26 rfl h13 e15 ?_
  refine m_Rb.n0 b_164 (x_aload_n d_164_29 rfl) ?_
  obtain ⟨_, e17, j18⟩ := bS j16
  obtain ⟨_, g19⟩ := RT.cls h13 e17
  obtain ⟨T20, e21, j22⟩ := bS j18
  refine m_Rb.callUV (J := M_175) (m_mtm q_175) rfl (fun r9 hM => m_Step.virtK l b_164 (x := ⟨"java/lang/AbstractStringBuilder", "putStringAt", "(ILjava/lang/String;)V"⟩) (owner := "java/lang/AbstractStringBuilder") d_164_30.1 (m_mtm q_175) (m_gi6 230 rfl rfl) (m_gi12 42 rfl rfl) (fun args s hts => m_declI (m_gi6 232 rfl rfl) (m_gi6 233 rfl rfl) args s hts) (m_selPK (z := ⟨"java/lang/AbstractStringBuilder", "isLatin1", "()Z"⟩) (m_gi6 212 rfl rfl) rfl f_pv_175 (m_gi6 232 rfl rfl) (by decide)) (m_gi6 232 rfl rfl) (by decide +kernel) (by decide) (show m_takeI _ _ = some (_, [_, _, _], []) from m_takeI_of rfl rfl rfl (Nat.le_of_ble_eq_true rfl)) rfl g19 rfl (by simp only [m_okf, List.all_cons, List.all_nil, Bool.and_true, Bool.and_self, m_okv_i, m_okv_l, m_okv_0, m_okv_n0, m_okv_t, RT.okn h13 (okm ha0 k13), RT.okv h13 (okm ha0 k13), m_okv_out (a := p0) hp0]) hM) (T_c_AbstractStringBuilder_putStringAt (okm ha0 k13) hp0 h13 e21) f13 rfl (fun w23 h23 f23 k23 => ?_) (by decide) (by decide)
  refine m_Rb.n0 b_164 (x_aload_n d_164_33 rfl) ?_
  refine m_Rb.n0 b_164 (x_dup d_164_34 rfl) ?_
  obtain ⟨v24, e25, j26⟩ := bS j22
  refine m_Rb.tgetI b_164 d_164_35 rfl h23 e25 ?_
  refine m_Rb.n0 b_164 (x_iload_n d_164_38 rfl) ?_
  refine m_Rb.n0 b_164 (x_iadd d_164_39 rfl) ?_
  obtain ⟨T27, e28, j29⟩ := bS j26
  refine m_Rb.tputI b_164 d_164_40 rfl rfl (by decide) h23 f23 e28 (fun w30 h30 f30 k30 => ?_)
  refine m_Rb.n0 b_164 (x_aload_n d_164_43 rfl) ?_
  have o9 : okr T27.2.1 (some a0) := (okm (okm (okm ha0 k13) k23) k30)
  cases j29
  exact m_Rb.ret b_164 (m_rt_rr (x := (some a0)) d_164_44 rfl) ⟨rfl, o9, h30, f30⟩
def D_c_StringBuilder_append (F : Nat) (a0 : Nat) (p0 : Nat) (T : tT) : Option (Option Nat × tT) := (tcl T a0 3).bind fun _ => bd2 (D_c_AbstractStringBuilder_append F a0 p0 T) fun v4 T5 => some ((some a0), T5)
theorem T_c_StringBuilder_append {l : Launch} {w : List mM} {F : Nat} {a0 : Nat} {p0 : Nat} {T : tT} {yz : Option Nat} {Tz : tT} (ha0 : okr T.2.1 (some a0)) (hp0 : p0 < 512) (h : RT T w) (h0 : D_c_StringBuilder_append F a0 p0 T = some (yz, Tz)) : m_Rb l M_163 (m_ent M_163 [.ref a0, .ref p0] w) (fun v w' => v = some (rv yz) ∧ okr Tz.2.1 yz ∧ RT Tz w' ∧ m_Fm w w') T Tz 9 900 := by
  rw [show m_ent M_163 [.ref a0, .ref p0] w = (0, [(0, .ref a0), (1, .ref p0)], [], w) from by first | rfl | (simp only [m_ent, lv_args_r, lv_args_a, lv_args_i, lv_args_l, lv_args_0]; done) | (simp only [m_ent, lv_args_r, lv_args_a, lv_args_i, lv_args_l, lv_args_0]; rfl)]
  generalize hw0 : w = w0 at h ⊢
  have hF : m_Fm w0 w0 := m_Fm.refl
  rw [D_c_StringBuilder_append] at h0
  refine m_Rb.n0 b_163 (x_aload_n d_163_0 rfl) ?_
  refine m_Rb.n0 b_163 (x_aload_n d_163_1 rfl) ?_
  obtain ⟨_, e1, j2⟩ := bS h0
  obtain ⟨_, g3⟩ := RT.cls h e1
  obtain ⟨v4, T5, e6, j7⟩ := bS2 j2
  refine m_Rb.callUR (J := M_164) (m_mtm q_164) rfl (fun r9 hM => m_Step.sup l b_163 d_163_2.1 (m_mtm q_164) (m_gi6 182 rfl rfl) (m_gi12 38 rfl rfl) (m_gi1 163 rfl rfl) (m_gi6 183 rfl rfl) (by decide) (show m_takeI _ _ = some (_, [_, _], []) from m_takeI_of rfl rfl rfl (Nat.le_of_ble_eq_true rfl)) rfl g3 rfl (by simp only [m_okf, List.all_cons, List.all_nil, Bool.and_true, Bool.and_self, m_okv_i, m_okv_l, m_okv_0, m_okv_n0, m_okv_t, RT.okn h ha0, RT.okv h ha0, m_okv_out (a := p0) hp0]) hM) (T_c_AbstractStringBuilder_append ha0 hp0 h e6) hF rfl (fun w8 o8 h8 f8 k8 => ?_) (by decide) (by decide)
  refine m_Rb.n0 b_163 (x_pop d_163_5 (cat_rv v4)) ?_
  refine m_Rb.n0 b_163 (x_aload_n d_163_6 rfl) ?_
  have o9 : okr T5.2.1 (some a0) := (okm ha0 k8)
  cases j7
  exact m_Rb.ret b_163 (m_rt_rr (x := (some a0)) d_163_7 rfl) ⟨rfl, o9, h8, f8⟩
def D_c_Integer_stringSize_16 (F : Nat) : Nat → Int32 → Int32 → Int32 → Int32 → tT → Option (Int32)
  | 0, _, _, _, _, _ => none
  | n + 1, x0, x1, x2, x3, T0 => cond (m_c2 .ge x3 (10 : Int32)) (some ((10 : Int32) + x1)) (cond (m_c2 .le x0 x2) (D_c_Integer_stringSize_16 F n x0 x1 ((10 : Int32) * x2) (x3 + Int32.ofInt 1) T0) (some (x3 + x1)))
theorem T_c_Integer_stringSize_16 {l : Launch} {w0 : List mM} {F : Nat} {T0 : tT} : ∀ (n : Nat) {x0 : Int32} {x1 : Int32} {x2 : Int32} {x3 : Int32} {w : List mM} {yz : Int32}, RT T0 w → m_Fm w0 w → D_c_Integer_stringSize_16 F n x0 x1 x2 x3 T0 = some yz → m_Rb l M_186 (16, [(0, .int x0), (1, .int x1), (2, .int x2), (3, .int x3)], [], w) (fun v w' => v = some (.int yz) ∧ RT T0 w' ∧ m_Fm w0 w') T0 T0 0 0 := by
  intro n
  induction n with
  | zero => intro x0 x1 x2 x3 w yz h hF h0; cases h0
  | succ n ih =>
    intro x0 x1 x2 x3 w yz h hF h0
    rw [D_c_Integer_stringSize_16] at h0
    refine m_Rb.n0 b_186 (x_iload_n d_186_16 rfl) ?_
    refine m_Rb.n0 b_186 (x_bipush (z := 10) d_186_17 (by decide)) ?_
    cases hc7 : m_c2 .ge x3 (10 : Int32) with
    | true =>
      have j8 := cT hc7 h0
      refine m_Rb.n0 b_186 (x_ict d_186_19 rfl hc7) ?_
      refine m_Rb.n0 b_186 (x_bipush (z := 10) d_186_42 (by decide)) ?_
      refine m_Rb.n0 b_186 (x_iload_n d_186_44 rfl) ?_
      refine m_Rb.n0 b_186 (x_iadd d_186_45 rfl) ?_
      cases j8
      exact m_Rb.ret b_186 (m_rt_ir d_186_46 rfl rfl) ⟨rfl, h, hF⟩
    | false =>
      have j8 := cF hc7 h0
      refine m_Rb.n0 b_186 (x_icf d_186_19 rfl hc7) ?_
      refine m_Rb.n0 b_186 (x_iload_n d_186_22 rfl) ?_
      refine m_Rb.n0 b_186 (x_iload_n d_186_23 rfl) ?_
      cases hc9 : m_c2 .le x0 x2 with
      | true =>
        have j10 := cT hc9 j8
        refine m_Rb.n0 b_186 (x_ict d_186_24 rfl hc9) ?_
        refine m_Rb.n0 b_186 (x_bipush (z := 10) d_186_31 (by decide)) ?_
        refine m_Rb.n0 b_186 (x_iload_n d_186_33 rfl) ?_
        refine m_Rb.n0 b_186 (x_imul d_186_34 rfl) ?_
        refine m_Rb.n0 b_186 (x_istore_n d_186_35 rfl (show m_put1 _ _ _ = [(2, _), (0, _), (1, _), (3, _)] from rfl)) ?_
        refine m_Rb.n0 b_186 (x_iinc d_186_36 rfl rfl rfl (show m_put1 _ _ _ = [(3, _), (2, _), (0, _), (1, _)] from rfl)) ?_
        refine m_Rb.n0 b_186 (x_goto d_186_39 rfl) ?_
        exact m_Rb.pick [2, 3, 1, 0] rfl (ih h hF j10)
      | false =>
        have j10 := cF hc9 j8
        refine m_Rb.n0 b_186 (x_icf d_186_24 rfl hc9) ?_
        refine m_Rb.n0 b_186 (x_iload_n d_186_27 rfl) ?_
        refine m_Rb.n0 b_186 (x_iload_n d_186_28 rfl) ?_
        refine m_Rb.n0 b_186 (x_iadd d_186_29 rfl) ?_
        cases j10
        exact m_Rb.ret b_186 (m_rt_ir d_186_30 rfl rfl) ⟨rfl, h, hF⟩
def D_c_Integer_stringSize_11 (F : Nat) (x0 : Int32) (x1 : Int32) (T0 : tT) : Option (Int32) := D_c_Integer_stringSize_16 F F x0 x1 ((-10) : Int32) (1 : Int32) T0
theorem T_c_Integer_stringSize_11 {l : Launch} {w0 : List mM} {F : Nat} {T0 : tT} {x0 : Int32} {x1 : Int32} {w : List mM} {yz : Int32} (h : RT T0 w) (hF : m_Fm w0 w) (h0 : D_c_Integer_stringSize_11 F x0 x1 T0 = some yz) : m_Rb l M_186 (11, [(0, .int x0), (1, .int x1)], [], w) (fun v w' => v = some (.int yz) ∧ RT T0 w' ∧ m_Fm w0 w') T0 T0 0 0 := by
  rw [D_c_Integer_stringSize_11] at h0
  refine m_Rb.n0 b_186 (x_bipush (z := (-10)) d_186_11 (by decide)) ?_
  refine m_Rb.n0 b_186 (x_istore_n d_186_13 rfl (show m_put1 _ _ _ = [(2, _), (0, _), (1, _)] from rfl)) ?_
  refine m_Rb.n0 b_186 (x_iconst (z := 1) d_186_14 (by decide)) ?_
  refine m_Rb.n0 b_186 (x_istore_n d_186_15 rfl (show m_put1 _ _ _ = [(3, _), (2, _), (0, _), (1, _)] from rfl)) ?_
  exact m_Rb.pick [2, 3, 1, 0] rfl (T_c_Integer_stringSize_16 F h hF h0)
def D_c_Integer_stringSize (F : Nat) (p0 : Int32) (T0 : tT) : Option (Int32) := cond (m_c1 .lt p0) (D_c_Integer_stringSize_11 F p0 (1 : Int32) T0) (D_c_Integer_stringSize_11 F (-p0) (0 : Int32) T0)
theorem T_c_Integer_stringSize {l : Launch} {w : List mM} {F : Nat} {p0 : Int32} {T0 : tT} {yz : Int32} (h : RT T0 w) (h0 : D_c_Integer_stringSize F p0 T0 = some yz) : m_Rb l M_186 (m_ent M_186 [.int p0] w) (fun v w' => v = some (.int yz) ∧ RT T0 w' ∧ m_Fm w w') T0 T0 0 0 := by
  rw [show m_ent M_186 [.int p0] w = (0, [(0, .int p0)], [], w) from by first | rfl | (simp only [m_ent, lv_args_r, lv_args_a, lv_args_i, lv_args_l, lv_args_0]; done) | (simp only [m_ent, lv_args_r, lv_args_a, lv_args_i, lv_args_l, lv_args_0]; rfl)]
  generalize hw0 : w = w0 at h ⊢
  have hF : m_Fm w0 w0 := m_Fm.refl
  rw [D_c_Integer_stringSize] at h0
  refine m_Rb.n0 b_186 (x_iconst (z := 1) d_186_0 (by decide)) ?_
  refine m_Rb.n0 b_186 (x_istore_n d_186_1 rfl (show m_put1 _ _ _ = [(1, _), (0, _)] from rfl)) ?_
  refine m_Rb.n0 b_186 (x_iload_n d_186_2 rfl) ?_
  cases hc5 : m_c1 .lt p0 with
  | true =>
    have j6 := cT hc5 h0
    refine m_Rb.n0 b_186 (x_ift d_186_3 rfl hc5) ?_
    exact m_Rb.pick [1, 0] rfl (T_c_Integer_stringSize_11 h hF j6)
  | false =>
    have j6 := cF hc5 h0
    refine m_Rb.n0 b_186 (x_iff d_186_3 rfl hc5) ?_
    refine m_Rb.n0 b_186 (x_iconst (z := 0) d_186_6 (by decide)) ?_
    refine m_Rb.n0 b_186 (x_istore_n d_186_7 rfl (show m_put1 _ _ _ = [(1, _), (0, _)] from rfl)) ?_
    refine m_Rb.n0 b_186 (x_iload_n d_186_8 rfl) ?_
    refine m_Rb.n0 b_186 (x_ineg d_186_9 rfl) ?_
    refine m_Rb.n0 b_186 (x_istore_n d_186_10 rfl (show m_put1 _ _ _ = [(0, _), (1, _)] from rfl)) ?_
    exact m_Rb.pick [0, 1] rfl (T_c_Integer_stringSize_11 h hF j6)
def D_c_Integer_getChars_104 (F : Nat) (x2 : Option Nat) (x5 : Int32) (x6 : Int32) (T : tT) : Option (Int32 × tT) := cond (m_c1 .eq x6) (some (x5, T)) ((x2).bind fun a58 => (tasb T a58 (x5 + Int32.ofInt (-1)) (45 : Int32)).bind fun T61 => some ((x5 + Int32.ofInt (-1)), T61))
theorem T_c_Integer_getChars_104 {l : Launch} {w0 : List mM} {F : Nat} {x2 : Option Nat} {x5 : Int32} {x6 : Int32} {T : tT} {w : List mM} {yz : Int32} {Tz : tT} (hx2 : okr T.2.1 x2) (h : RT T w) (hF : m_Fm w0 w) (h0 : D_c_Integer_getChars_104 F x2 x5 x6 T = some (yz, Tz)) : m_Rb l M_187 (104, [(2, rv x2), (5, .int x5), (6, .int x6)], [], w) (fun v w' => v = some (.int yz) ∧ RT Tz w' ∧ m_Fm w0 w') T Tz 0 0 := by
  rw [D_c_Integer_getChars_104] at h0
  refine m_Rb.n0 b_187 (x_iload d_187_104 rfl) ?_
  cases hc56 : m_c1 .eq x6 with
  | true =>
    have j57 := cT hc56 h0
    refine m_Rb.n0 b_187 (x_ift d_187_106 rfl hc56) ?_
    refine m_Rb.n0 b_187 (x_iload d_187_118 rfl) ?_
    cases j57
    exact m_Rb.ret b_187 (m_rt_ir d_187_120 rfl rfl) ⟨rfl, h, hF⟩
  | false =>
    have j57 := cF hc56 h0
    refine m_Rb.n0 b_187 (x_iff d_187_106 rfl hc56) ?_
    refine m_Rb.n0 b_187 (x_aloadr_n (x := x2) d_187_109 rfl) ?_
    refine m_Rb.n0 b_187 (x_iinc d_187_110 rfl rfl rfl (show m_put1 _ _ _ = [(5, _), (2, _), (6, _)] from rfl)) ?_
    refine m_Rb.n0 b_187 (x_iload d_187_113 rfl) ?_
    refine m_Rb.n0 b_187 (x_bipush (z := 45) d_187_115 (by decide)) ?_
    obtain ⟨a58, e59, j60⟩ := bS j57
    subst e59
    obtain ⟨T61, e62, j63⟩ := bS j60
    refine m_Rb.tputAB b_187 d_187_117 h hF e62 (fun w64 h64 f64 k64 => ?_)
    refine m_Rb.n0 b_187 (x_iload d_187_118 rfl) ?_
    obtain ⟨e8, e9⟩ := Prod.mk.inj (Option.some.inj j63)
    subst e9
    subst e8
    exact m_Rb.ret b_187 (m_rt_ir d_187_120 rfl rfl) ⟨rfl, h64, f64⟩
def D_c_Integer_getChars_22 (F : Nat) : Nat → Int32 → Option Nat → Int32 → Int32 → tT → Option (Int32 × tT)
  | 0, _, _, _, _, _ => none
  | n + 1, x0, x2, x5, x6, T => cond (m_c2 .gt x0 ((-100) : Int32)) ((dgo (-x0)).bind fun v12 => (x2).bind fun a15 => (tasb T a15 (x5 + Int32.ofInt (-1)) v12).bind fun T18 => cond (m_c2 .ge x0 ((-9) : Int32)) (D_c_Integer_getChars_104 F (some a15) (x5 + Int32.ofInt (-1)) x6 T18) ((dgt (-x0)).bind fun v28 => (tasb T18 a15 ((x5 + Int32.ofInt (-1)) + Int32.ofInt (-1)) v28).bind fun T31 => D_c_Integer_getChars_104 F (some a15) ((x5 + Int32.ofInt (-1)) + Int32.ofInt (-1)) x6 T31)) ((dgo (((x0 / (100 : Int32)) * (100 : Int32)) - x0)).bind fun v35 => (x2).bind fun a38 => (tasb T a38 (x5 + Int32.ofInt (-1)) v35).bind fun T41 => (dgt (((x0 / (100 : Int32)) * (100 : Int32)) - x0)).bind fun v45 => (tasb T41 a38 ((x5 + Int32.ofInt (-1)) + Int32.ofInt (-1)) v45).bind fun T48 => D_c_Integer_getChars_22 F n (x0 / (100 : Int32)) (some a38) ((x5 + Int32.ofInt (-1)) + Int32.ofInt (-1)) x6 T48)
set_option maxRecDepth 8000 in
theorem T_c_Integer_getChars_22 {l : Launch} {w0 : List mM} {F : Nat} : ∀ (n : Nat) {x0 : Int32} {x2 : Option Nat} {x5 : Int32} {x6 : Int32} {T : tT} {w : List mM} {yz : Int32} {Tz : tT}, okr T.2.1 x2 → RT T w → m_Fm w0 w → D_c_Integer_getChars_22 F n x0 x2 x5 x6 T = some (yz, Tz) → m_Rb l M_187 (22, [(0, .int x0), (2, rv x2), (5, .int x5), (6, .int x6)], [], w) (fun v w' => v = some (.int yz) ∧ RT Tz w' ∧ m_Fm w0 w') T Tz 0 0 := by
  intro n
  induction n with
  | zero => intro x0 x2 x5 x6 T w yz Tz hx2 h hF h0; cases h0
  | succ n ih =>
    intro x0 x2 x5 x6 T w yz Tz hx2 h hF h0
    rw [D_c_Integer_getChars_22] at h0
    refine m_Rb.n0 b_187 (x_iload_n d_187_22 rfl) ?_
    refine m_Rb.n0 b_187 (x_bipush (z := (-100)) d_187_23 (by decide)) ?_
    cases hc10 : m_c2 .gt x0 ((-100) : Int32) with
    | true =>
      have j11 := cT hc10 h0
      refine m_Rb.n0 b_187 (x_ict d_187_25 rfl hc10) ?_
      refine m_Rb.n0 b_187 (x_aloadr_n (x := x2) d_187_72 rfl) ?_
      refine m_Rb.n0 b_187 (x_iinc d_187_73 rfl rfl rfl (show m_put1 _ _ _ = [(5, _), (0, _), (2, _), (6, _)] from rfl)) ?_
      refine m_Rb.n0 b_187 (x_iload d_187_76 rfl) ?_
      obtain ⟨v12, e13, j14⟩ := bS j11
      refine m_Rb.dgoN b_187 rfl d_187_78 d_187_81 d_187_82 d_187_83 rfl e13 ?_
      obtain ⟨a15, e16, j17⟩ := bS j14
      subst e16
      obtain ⟨T18, e19, j20⟩ := bS j17
      refine m_Rb.tputAB b_187 d_187_84 h hF e19 (fun w21 h21 f21 k21 => ?_)
      refine m_Rb.n0 b_187 (x_iload_n d_187_85 rfl) ?_
      refine m_Rb.n0 b_187 (x_bipush (z := (-9)) d_187_86 (by decide)) ?_
      cases hc26 : m_c2 .ge x0 ((-9) : Int32) with
      | true =>
        have j27 := cT hc26 j20
        refine m_Rb.n0 b_187 (x_ict d_187_88 rfl hc26) ?_
        exact m_Rb.pick [2, 0, 3] rfl (T_c_Integer_getChars_104 (okm hx2 k21) h21 f21 j27)
      | false =>
        have j27 := cF hc26 j20
        refine m_Rb.n0 b_187 (x_icf d_187_88 rfl hc26) ?_
        refine m_Rb.n0 b_187 (x_aload_n d_187_91 rfl) ?_
        refine m_Rb.n0 b_187 (x_iinc d_187_92 rfl rfl rfl (show m_put1 _ _ _ = [(5, _), (0, _), (2, _), (6, _)] from rfl)) ?_
        refine m_Rb.n0 b_187 (x_iload d_187_95 rfl) ?_
        obtain ⟨v28, e29, j30⟩ := bS j27
        refine m_Rb.dgtN b_187 rfl d_187_97 d_187_100 d_187_101 d_187_102 rfl e29 ?_
        obtain ⟨T31, e32, j33⟩ := bS j30
        refine m_Rb.tputAB b_187 d_187_103 h21 f21 e32 (fun w34 h34 f34 k34 => ?_)
        exact m_Rb.pick [2, 0, 3] rfl (T_c_Integer_getChars_104 (okm (okm hx2 k21) k34) h34 f34 j33)
    | false =>
      have j11 := cF hc10 h0
      refine m_Rb.n0 b_187 (x_icf d_187_25 rfl hc10) ?_
      refine m_Rb.n0 b_187 (x_iload_n d_187_28 rfl) ?_
      refine m_Rb.n0 b_187 (x_bipush (z := 100) d_187_29 (by decide)) ?_
      refine m_Rb.n0 b_187 (x_idiv d_187_31 (by decide) rfl) ?_
      refine m_Rb.n0 b_187 (x_istore_n d_187_32 rfl (show m_put1 _ _ _ = [(3, _), (0, _), (2, _), (5, _), (6, _)] from (m_p1r (by simp only [List.all_cons, List.all_nil, cat_rv]; rfl)).trans rfl)) ?_
      refine m_Rb.n0 b_187 (x_iload_n d_187_33 rfl) ?_
      refine m_Rb.n0 b_187 (x_bipush (z := 100) d_187_34 (by decide)) ?_
      refine m_Rb.n0 b_187 (x_imul d_187_36 rfl) ?_
      refine m_Rb.n0 b_187 (x_iload_n d_187_37 rfl) ?_
      refine m_Rb.n0 b_187 (x_isub d_187_38 rfl) ?_
      refine m_Rb.n0 b_187 (x_istore d_187_39 rfl (show m_put1 _ _ _ = [(4, _), (3, _), (0, _), (2, _), (5, _), (6, _)] from rfl)) ?_
      refine m_Rb.n0 b_187 (x_iload_n d_187_41 rfl) ?_
      refine m_Rb.n0 b_187 (x_istore_n d_187_42 rfl (show m_put1 _ _ _ = [(0, _), (4, _), (3, _), (2, _), (5, _), (6, _)] from rfl)) ?_
      refine m_Rb.n0 b_187 (x_aloadr_n (x := x2) d_187_43 rfl) ?_
      refine m_Rb.n0 b_187 (x_iinc d_187_44 rfl rfl rfl (show m_put1 _ _ _ = [(5, _), (0, _), (4, _), (3, _), (2, _), (6, _)] from rfl)) ?_
      refine m_Rb.n0 b_187 (x_iload d_187_47 rfl) ?_
      obtain ⟨v35, e36, j37⟩ := bS j11
      refine m_Rb.dgoA b_187 rfl d_187_49 d_187_52 d_187_54 rfl e36 ?_
      obtain ⟨a38, e39, j40⟩ := bS j37
      subst e39
      obtain ⟨T41, e42, j43⟩ := bS j40
      refine m_Rb.tputAB b_187 d_187_55 h hF e42 (fun w44 h44 f44 k44 => ?_)
      refine m_Rb.n0 b_187 (x_aload_n d_187_56 rfl) ?_
      refine m_Rb.n0 b_187 (x_iinc d_187_57 rfl rfl rfl (show m_put1 _ _ _ = [(5, _), (0, _), (4, _), (3, _), (2, _), (6, _)] from rfl)) ?_
      refine m_Rb.n0 b_187 (x_iload d_187_60 rfl) ?_
      obtain ⟨v45, e46, j47⟩ := bS j43
      refine m_Rb.dgtA b_187 rfl d_187_62 d_187_65 d_187_67 rfl e46 ?_
      obtain ⟨T48, e49, j50⟩ := bS j47
      refine m_Rb.tputAB b_187 d_187_68 h44 f44 e49 (fun w51 h51 f51 k51 => ?_)
      refine m_Rb.n0 b_187 (x_goto d_187_69 rfl) ?_
      exact m_Rb.pick [1, 4, 0, 5] rfl (ih (okm (okm hx2 k44) k51) h51 f51 j50)
def D_c_Integer_getChars (F : Nat) (p0 : Int32) (p1 : Int32) (p2 : Option Nat) (T : tT) : Option (Int32 × tT) := (cond (m_c1 .ge p0) (some (0 : Int32)) (some (1 : Int32))).bind fun v5 => cond (m_c1 .ne v5) (D_c_Integer_getChars_22 F F p0 p2 p1 v5 T) (D_c_Integer_getChars_22 F F (-p0) p2 p1 v5 T)
theorem T_c_Integer_getChars {l : Launch} {w : List mM} {F : Nat} {p0 : Int32} {p1 : Int32} {p2 : Option Nat} {T : tT} {yz : Int32} {Tz : tT} (hp2 : okr T.2.1 p2) (h : RT T w) (h0 : D_c_Integer_getChars F p0 p1 p2 T = some (yz, Tz)) : m_Rb l M_187 (m_ent M_187 [.int p0, .int p1, rv p2] w) (fun v w' => v = some (.int yz) ∧ RT Tz w' ∧ m_Fm w w') T Tz 0 0 := by
  rw [show m_ent M_187 [.int p0, .int p1, rv p2] w = (0, [(0, .int p0), (1, .int p1), (2, rv p2)], [], w) from by first | rfl | (simp only [m_ent, lv_args_r, lv_args_a, lv_args_i, lv_args_l, lv_args_0]; done) | (simp only [m_ent, lv_args_r, lv_args_a, lv_args_i, lv_args_l, lv_args_0]; rfl)]
  generalize hw0 : w = w0 at h ⊢
  have hF : m_Fm w0 w0 := m_Fm.refl
  rw [D_c_Integer_getChars] at h0
  refine m_Rb.n0 b_187 (x_iload_n d_187_0 rfl) ?_
  refine m_Rb.n0 b_187 (x_istore d_187_1 rfl (show m_put1 _ _ _ = [(5, _), (0, _), (1, _), (2, _)] from rfl)) ?_
  refine m_Rb.n0 b_187 (x_iload_n d_187_3 rfl) ?_
  obtain ⟨v5, e2, j6⟩ := bS h0
  have kk1 : ∀ (xz : Int32) (w1 : List mM), xz = v5 → RT T w1 → m_Fm w0 w1 → m_Rb l M_187 (12, [(5, .int p1), (0, .int p0), (1, .int p1), (2, rv p2)], [.int xz], w1) (fun v w' => v = some (.int yz) ∧ RT Tz w' ∧ m_Fm w0 w') T Tz 0 0 := by
    intro xz w7 ez h7 f7
    rw [ez]
    refine m_Rb.n0 b_187 (x_istore d_187_12 rfl (show m_put1 _ _ _ = [(6, _), (5, _), (0, _), (1, _), (2, _)] from rfl)) ?_
    refine m_Rb.n0 b_187 (x_iload d_187_14 rfl) ?_
    cases hc8 : m_c1 .ne v5 with
    | true =>
      have j9 := cT hc8 j6
      refine m_Rb.n0 b_187 (x_ift d_187_16 rfl hc8) ?_
      exact m_Rb.pick [2, 4, 1, 0] rfl (T_c_Integer_getChars_22 F hp2 h7 f7 j9)
    | false =>
      have j9 := cF hc8 j6
      refine m_Rb.n0 b_187 (x_iff d_187_16 rfl hc8) ?_
      refine m_Rb.n0 b_187 (x_iload_n d_187_19 rfl) ?_
      refine m_Rb.n0 b_187 (x_ineg d_187_20 rfl) ?_
      refine m_Rb.n0 b_187 (x_istore_n d_187_21 rfl (show m_put1 _ _ _ = [(0, _), (6, _), (5, _), (1, _), (2, _)] from rfl)) ?_
      exact m_Rb.pick [0, 4, 2, 1] rfl (T_c_Integer_getChars_22 F hp2 h7 f7 j9)
  cases hc3 : m_c1 .ge p0 with
  | true =>
    have j4 := cT hc3 e2
    refine m_Rb.n0 b_187 (x_ift d_187_4 rfl hc3) ?_
    refine m_Rb.n0 b_187 (x_iconst (z := 0) d_187_11 (by decide)) ?_
    exact kk1 _ _ (Option.some.inj j4) h hF
  | false =>
    have j4 := cF hc3 e2
    refine m_Rb.n0 b_187 (x_iff d_187_4 rfl hc3) ?_
    refine m_Rb.n0 b_187 (x_iconst (z := 1) d_187_7 (by decide)) ?_
    refine m_Rb.n0 b_187 (x_goto d_187_8 rfl) ?_
    exact kk1 _ _ (Option.some.inj j4) h hF
def D_c_AbstractStringBuilder_append185 (F : Nat) (a0 : Nat) (p0 : Int32) (T : tT) : Option (Option Nat × tT) := (tgi T a0 3 3).bind fun v1 => (D_c_Integer_stringSize F p0 T).bind fun v4 => (tcl T a0 3).bind fun _ => (D_c_AbstractStringBuilder_ensureCapacityInternal F a0 (v1 + v4) T).bind fun T11 => (tcl T11 a0 3).bind fun _ => (D_c_AbstractStringBuilder_isLatin1 F a0 T11).bind fun v18 => cond (m_c1 .eq v18) (none) ((tgr T11 a0 3 0).bind fun v24 => bd2 (D_c_Integer_getChars F p0 (v1 + v4) v24 T11) fun v28 T29 => (tpi T29 a0 3 3 (v1 + v4)).bind fun T33 => some ((some a0), T33))
theorem T_c_AbstractStringBuilder_append185 {l : Launch} {w : List mM} {F : Nat} {a0 : Nat} {p0 : Int32} {T : tT} {yz : Option Nat} {Tz : tT} (ha0 : okr T.2.1 (some a0)) (h : RT T w) (h0 : D_c_AbstractStringBuilder_append185 F a0 p0 T = some (yz, Tz)) : m_Rb l M_185 (m_ent M_185 [.ref a0, .int p0] w) (fun v w' => v = some (rv yz) ∧ okr Tz.2.1 yz ∧ RT Tz w' ∧ m_Fm w w') T Tz 4 400 := by
  rw [show m_ent M_185 [.ref a0, .int p0] w = (0, [(0, .ref a0), (1, .int p0)], [], w) from by first | rfl | (simp only [m_ent, lv_args_r, lv_args_a, lv_args_i, lv_args_l, lv_args_0]; done) | (simp only [m_ent, lv_args_r, lv_args_a, lv_args_i, lv_args_l, lv_args_0]; rfl)]
  generalize hw0 : w = w0 at h ⊢
  have hF : m_Fm w0 w0 := m_Fm.refl
  rw [D_c_AbstractStringBuilder_append185] at h0
  refine m_Rb.n0 b_185 (x_aload_n d_185_0 rfl) ?_
  obtain ⟨v1, e2, j3⟩ := bS h0
  refine m_Rb.tgetI b_185 d_185_1 rfl h e2 ?_
  refine m_Rb.n0 b_185 (x_istore_n d_185_4 rfl (show m_put1 _ _ _ = [(2, _), (0, _), (1, _)] from rfl)) ?_
  refine m_Rb.n0 b_185 (x_iload_n d_185_5 rfl) ?_
  refine m_Rb.n0 b_185 (x_iload_n d_185_6 rfl) ?_
  obtain ⟨v4, e5, j6⟩ := bS j3
  refine m_Rb.callI b_185 (y_cs d_185_7 rfl q_186 (show m_takeS _ _ = some (_, [_], [_]) from m_takeS_of (Nat.le_of_ble_eq_true rfl) rfl rfl (Nat.le_of_ble_eq_true rfl)) (by simp only [m_okf, List.all_cons, List.all_nil, Bool.and_true, Bool.and_self, m_okv_i, m_okv_l, m_okv_0, m_okv_n0, m_okv_t, RT.okn h ha0, RT.okv h ha0]) rfl) (T_c_Integer_stringSize h e5) hF rfl (fun w7 h7 f7 k7 => ?_) (by decide) (by decide)
  refine m_Rb.n0 b_185 (x_iadd d_185_10 rfl) ?_
  refine m_Rb.n0 b_185 (x_istore_n d_185_11 rfl (show m_put1 _ _ _ = [(3, _), (2, _), (0, _), (1, _)] from rfl)) ?_
  refine m_Rb.n0 b_185 (x_aload_n d_185_12 rfl) ?_
  refine m_Rb.n0 b_185 (x_iload_n d_185_13 rfl) ?_
  obtain ⟨_, e8, j9⟩ := bS j6
  obtain ⟨_, g10⟩ := RT.cls h7 e8
  obtain ⟨T11, e12, j13⟩ := bS j9
  refine m_Rb.callUV (J := M_166) (m_mtm q_166) rfl (fun r9 hM => m_Step.virtK l b_185 (x := ⟨"java/lang/AbstractStringBuilder", "ensureCapacityInternal", "(I)V"⟩) (owner := "java/lang/AbstractStringBuilder") d_185_14.1 (m_mtm q_166) (m_gi6 189 rfl rfl) (m_gi12 40 rfl rfl) (fun args s hts => m_declI (m_gi6 191 rfl rfl) (m_gi6 192 rfl rfl) args s hts) (m_selPK (z := ⟨"java/lang/AbstractStringBuilder", "isLatin1", "()Z"⟩) (m_gi6 212 rfl rfl) rfl f_pv_166 (m_gi6 191 rfl rfl) (by decide)) (m_gi6 191 rfl rfl) (by decide +kernel) (by decide) (show m_takeI _ _ = some (_, [_, _], []) from m_takeI_of rfl rfl rfl (Nat.le_of_ble_eq_true rfl)) rfl g10 rfl (by simp only [m_okf, List.all_cons, List.all_nil, Bool.and_true, Bool.and_self, m_okv_i, m_okv_l, m_okv_0, m_okv_n0, m_okv_t, RT.okn h7 ha0, RT.okv h7 ha0]) hM) (T_c_AbstractStringBuilder_ensureCapacityInternal ha0 h7 e12) f7 rfl (fun w14 h14 f14 k14 => ?_) (by decide) (by decide)
  refine m_Rb.n0 b_185 (x_aload_n d_185_17 rfl) ?_
  obtain ⟨_, e15, j16⟩ := bS j13
  obtain ⟨_, g17⟩ := RT.cls h14 e15
  obtain ⟨v18, e19, j20⟩ := bS j16
  refine m_Rb.callUI (J := M_169) (m_mtm q_169) rfl (fun r9 hM => m_Step.virtK l b_185 (x := ⟨"java/lang/AbstractStringBuilder", "isLatin1", "()Z"⟩) (owner := "java/lang/AbstractStringBuilder") d_185_18.1 (m_mtm q_169) (m_gi6 209 rfl rfl) (m_gi6 211 rfl rfl) (fun args s hts => m_declI (m_gi6 210 rfl rfl) (m_gi6 213 rfl rfl) args s hts) (fun args s hts _ => hts _ (m_gi6 212 rfl rfl)) (m_gi6 210 rfl rfl) (by decide +kernel) (by decide) (show m_takeI _ _ = some (_, [_], []) from m_takeI_of rfl rfl rfl (Nat.le_of_ble_eq_true rfl)) rfl g17 rfl (by simp only [m_okf, List.all_cons, List.all_nil, Bool.and_true, Bool.and_self, m_okv_i, m_okv_l, m_okv_0, m_okv_n0, m_okv_t, RT.okn h14 (okm ha0 k14), RT.okv h14 (okm ha0 k14)]) hM) (T_c_AbstractStringBuilder_isLatin1 (okm ha0 k14) h14 e19) f14 rfl (fun w21 h21 f21 k21 => ?_) (by decide) (by decide)
  cases hc22 : m_c1 .eq v18 with
  | true =>
    have j23 := cT hc22 j20
    refine m_Rb.n0 b_185 (x_ift d_185_21 rfl hc22) ?_
    cases j23
  | false =>
    have j23 := cF hc22 j20
    refine m_Rb.n0 b_185 (x_iff d_185_21 rfl hc22) ?_
    refine m_Rb.n0 b_185 (x_iload_n d_185_24 rfl) ?_
    refine m_Rb.n0 b_185 (x_iload_n d_185_25 rfl) ?_
    refine m_Rb.n0 b_185 (x_aload_n d_185_26 rfl) ?_
    obtain ⟨v24, e25, j26⟩ := bS j23
    refine m_Rb.tgetR b_185 d_185_27 rfl h21 e25 (fun o27 => ?_)
    obtain ⟨v28, T29, e30, j31⟩ := bS2 j26
    refine m_Rb.callI b_185 (y_cs d_185_30 rfl q_187 (show m_takeS _ _ = some (_, [_, _, _], []) from m_takeS_of (Nat.le_of_ble_eq_true rfl) rfl rfl (Nat.le_of_ble_eq_true rfl)) (by simp only [m_okf, List.all_cons, List.all_nil, Bool.and_true, Bool.and_self, m_okv_i, m_okv_l, m_okv_0, m_okv_n0, m_okv_t, RT.okn h21 (okm ha0 k14), RT.okv h21 (okm ha0 k14), RT.okv h21 o27]) (decide_eq_true (by simp only [lgs_r, lgs_a, lgs_i, lgs_l, lgs_0]; exact Nat.le_of_ble_eq_true rfl))) (T_c_Integer_getChars o27 h21 e30) f21 rfl (fun w32 h32 f32 k32 => ?_) (by decide) (by decide)
    refine m_Rb.n0 b_185 (x_pop d_185_33 rfl) ?_
    refine m_Rb.n0 b_185 (x_goto d_185_34 rfl) ?_
    refine m_Rb.n0 b_185 (x_aload_n d_185_48 rfl) ?_
    refine m_Rb.n0 b_185 (x_iload_n d_185_49 rfl) ?_
    obtain ⟨T33, e34, j35⟩ := bS j31
    refine m_Rb.tputI b_185 d_185_50 rfl rfl (by decide) h32 f32 e34 (fun w36 h36 f36 k36 => ?_)
    refine m_Rb.n0 b_185 (x_aload_n d_185_53 rfl) ?_
    have o9 : okr T33.2.1 (some a0) := (okm (okm (okm ha0 k14) k32) k36)
    cases j35
    exact m_Rb.ret b_185 (m_rt_rr (x := (some a0)) d_185_54 rfl) ⟨rfl, o9, h36, f36⟩
def D_c_StringBuilder_append184 (F : Nat) (a0 : Nat) (p0 : Int32) (T : tT) : Option (Option Nat × tT) := (tcl T a0 3).bind fun _ => bd2 (D_c_AbstractStringBuilder_append185 F a0 p0 T) fun v4 T5 => some ((some a0), T5)
theorem T_c_StringBuilder_append184 {l : Launch} {w : List mM} {F : Nat} {a0 : Nat} {p0 : Int32} {T : tT} {yz : Option Nat} {Tz : tT} (ha0 : okr T.2.1 (some a0)) (h : RT T w) (h0 : D_c_StringBuilder_append184 F a0 p0 T = some (yz, Tz)) : m_Rb l M_184 (m_ent M_184 [.ref a0, .int p0] w) (fun v w' => v = some (rv yz) ∧ okr Tz.2.1 yz ∧ RT Tz w' ∧ m_Fm w w') T Tz 5 500 := by
  rw [show m_ent M_184 [.ref a0, .int p0] w = (0, [(0, .ref a0), (1, .int p0)], [], w) from by first | rfl | (simp only [m_ent, lv_args_r, lv_args_a, lv_args_i, lv_args_l, lv_args_0]; done) | (simp only [m_ent, lv_args_r, lv_args_a, lv_args_i, lv_args_l, lv_args_0]; rfl)]
  generalize hw0 : w = w0 at h ⊢
  have hF : m_Fm w0 w0 := m_Fm.refl
  rw [D_c_StringBuilder_append184] at h0
  refine m_Rb.n0 b_184 (x_aload_n d_184_0 rfl) ?_
  refine m_Rb.n0 b_184 (x_iload_n d_184_1 rfl) ?_
  obtain ⟨_, e1, j2⟩ := bS h0
  obtain ⟨_, g3⟩ := RT.cls h e1
  obtain ⟨v4, T5, e6, j7⟩ := bS2 j2
  refine m_Rb.callUR (J := M_185) (m_mtm q_185) rfl (fun r9 hM => m_Step.sup l b_184 d_184_2.1 (m_mtm q_185) (m_gi7 28 rfl rfl) (m_gi12 45 rfl rfl) (m_gi1 163 rfl rfl) (m_gi7 29 rfl rfl) (by decide) (show m_takeI _ _ = some (_, [_, _], []) from m_takeI_of rfl rfl rfl (Nat.le_of_ble_eq_true rfl)) rfl g3 rfl (by simp only [m_okf, List.all_cons, List.all_nil, Bool.and_true, Bool.and_self, m_okv_i, m_okv_l, m_okv_0, m_okv_n0, m_okv_t, RT.okn h ha0, RT.okv h ha0]) hM) (T_c_AbstractStringBuilder_append185 ha0 h e6) hF rfl (fun w8 o8 h8 f8 k8 => ?_) (by decide) (by decide)
  refine m_Rb.n0 b_184 (x_pop d_184_5 (cat_rv v4)) ?_
  refine m_Rb.n0 b_184 (x_aload_n d_184_6 rfl) ?_
  have o9 : okr T5.2.1 (some a0) := (okm ha0 k8)
  cases j7
  exact m_Rb.ret b_184 (m_rt_rr (x := (some a0)) d_184_7 rfl) ⟨rfl, o9, h8, f8⟩
def D_c_StringLatin1_canEncode (F : Nat) (p0 : Int32) (T0 : tT) : Option (Int32) := (cond (m_c2 .gt p0 (255 : Int32)) (some (0 : Int32)) (some (1 : Int32))).bind fun v5 => (bret v5).bind fun v8 => some v8
theorem T_c_StringLatin1_canEncode {l : Launch} {w : List mM} {F : Nat} {p0 : Int32} {T0 : tT} {yz : Int32} (h : RT T0 w) (h0 : D_c_StringLatin1_canEncode F p0 T0 = some yz) : m_Rb l M_216 (m_ent M_216 [.int p0] w) (fun v w' => v = some (.int yz) ∧ RT T0 w' ∧ m_Fm w w') T0 T0 0 0 := by
  rw [show m_ent M_216 [.int p0] w = (0, [(0, .int p0)], [], w) from by first | rfl | (simp only [m_ent, lv_args_r, lv_args_a, lv_args_i, lv_args_l, lv_args_0]; done) | (simp only [m_ent, lv_args_r, lv_args_a, lv_args_i, lv_args_l, lv_args_0]; rfl)]
  generalize hw0 : w = w0 at h ⊢
  have hF : m_Fm w0 w0 := m_Fm.refl
  rw [D_c_StringLatin1_canEncode] at h0
  refine m_Rb.n0 b_216 (x_iload_n d_216_0 rfl) ?_
  refine m_Rb.n0 b_216 (x_sipush (z := 255) d_216_1 (by decide)) ?_
  obtain ⟨v5, e2, j6⟩ := bS h0
  have kk1 : ∀ (xz : Int32) (w1 : List mM), xz = v5 → RT T0 w1 → m_Fm w0 w1 → m_Rb l M_216 (12, [(0, .int p0)], [.int xz], w1) (fun v w' => v = some (.int yz) ∧ RT T0 w' ∧ m_Fm w0 w') T0 T0 0 0 := by
    intro xz w7 ez h7 f7
    rw [ez]
    obtain ⟨v8, e9, j10⟩ := bS j6
    cases j10
    exact m_Rb.retb b_216 d_216_12 rfl e9 ⟨rfl, h7, f7⟩
  cases hc3 : m_c2 .gt p0 (255 : Int32) with
  | true =>
    have j4 := cT hc3 e2
    refine m_Rb.n0 b_216 (x_ict d_216_4 rfl hc3) ?_
    refine m_Rb.n0 b_216 (x_iconst (z := 0) d_216_11 (by decide)) ?_
    exact kk1 _ _ (Option.some.inj j4) h hF
  | false =>
    have j4 := cF hc3 e2
    refine m_Rb.n0 b_216 (x_icf d_216_4 rfl hc3) ?_
    refine m_Rb.n0 b_216 (x_iconst (z := 1) d_216_7 (by decide)) ?_
    refine m_Rb.n0 b_216 (x_goto d_216_8 rfl) ?_
    exact kk1 _ _ (Option.some.inj j4) h hF
def D_c_AbstractStringBuilder_append215_45 (F : Nat) (x0 : Nat) (T : tT) : Option (Option Nat × tT) := none
theorem T_c_AbstractStringBuilder_append215_45 {l : Launch} {w0 : List mM} {F : Nat} {x0 : Nat} {T : tT} {w : List mM} {yz : Option Nat} {Tz : tT} (hx0 : okr T.2.1 (some x0)) (h : RT T w) (hF : m_Fm w0 w) (h0 : D_c_AbstractStringBuilder_append215_45 F x0 T = some (yz, Tz)) : m_Rb l M_215 (45, [(0, .ref x0)], [], w) (fun v w' => v = some (rv yz) ∧ okr Tz.2.1 yz ∧ RT Tz w' ∧ m_Fm w0 w') T Tz 4 400 := by
  rw [D_c_AbstractStringBuilder_append215_45] at h0
  cases h0
def D_c_AbstractStringBuilder_append215 (F : Nat) (a0 : Nat) (p0 : Int32) (T : tT) : Option (Option Nat × tT) := (tgi T a0 3 3).bind fun v1 => (tcl T a0 3).bind fun _ => (D_c_AbstractStringBuilder_ensureCapacityInternal F a0 (v1 + (1 : Int32)) T).bind fun T7 => (tcl T7 a0 3).bind fun _ => (D_c_AbstractStringBuilder_isLatin1 F a0 T7).bind fun v14 => cond (m_c1 .eq v14) (D_c_AbstractStringBuilder_append215_45 F a0 T7) ((D_c_StringLatin1_canEncode F p0 T7).bind fun v20 => cond (m_c1 .eq v20) (D_c_AbstractStringBuilder_append215_45 F a0 T7) ((tgr T7 a0 3 0).bind fun v26 => (tgi T7 a0 3 3).bind fun v30 => (tpi T7 a0 3 3 (v30 + (1 : Int32))).bind fun T33 => (v26).bind fun a37 => (tasb T33 a37 v30 (p0.toInt8.toInt32)).bind fun T40 => some ((some a0), T40)))
theorem T_c_AbstractStringBuilder_append215 {l : Launch} {w : List mM} {F : Nat} {a0 : Nat} {p0 : Int32} {T : tT} {yz : Option Nat} {Tz : tT} (ha0 : okr T.2.1 (some a0)) (h : RT T w) (h0 : D_c_AbstractStringBuilder_append215 F a0 p0 T = some (yz, Tz)) : m_Rb l M_215 (m_ent M_215 [.ref a0, .int p0] w) (fun v w' => v = some (rv yz) ∧ okr Tz.2.1 yz ∧ RT Tz w' ∧ m_Fm w w') T Tz 4 400 := by
  rw [show m_ent M_215 [.ref a0, .int p0] w = (0, [(0, .ref a0), (1, .int p0)], [], w) from by first | rfl | (simp only [m_ent, lv_args_r, lv_args_a, lv_args_i, lv_args_l, lv_args_0]; done) | (simp only [m_ent, lv_args_r, lv_args_a, lv_args_i, lv_args_l, lv_args_0]; rfl)]
  generalize hw0 : w = w0 at h ⊢
  have hF : m_Fm w0 w0 := m_Fm.refl
  rw [D_c_AbstractStringBuilder_append215] at h0
  refine m_Rb.n0 b_215 (x_aload_n d_215_0 rfl) ?_
  refine m_Rb.n0 b_215 (x_aload_n d_215_1 rfl) ?_
  obtain ⟨v1, e2, j3⟩ := bS h0
  refine m_Rb.tgetI b_215 d_215_2 rfl h e2 ?_
  refine m_Rb.n0 b_215 (x_iconst (z := 1) d_215_5 (by decide)) ?_
  refine m_Rb.n0 b_215 (x_iadd d_215_6 rfl) ?_
  obtain ⟨_, e4, j5⟩ := bS j3
  obtain ⟨_, g6⟩ := RT.cls h e4
  obtain ⟨T7, e8, j9⟩ := bS j5
  refine m_Rb.callUV (J := M_166) (m_mtm q_166) rfl (fun r9 hM => m_Step.virtK l b_215 (x := ⟨"java/lang/AbstractStringBuilder", "ensureCapacityInternal", "(I)V"⟩) (owner := "java/lang/AbstractStringBuilder") d_215_7.1 (m_mtm q_166) (m_gi6 189 rfl rfl) (m_gi12 40 rfl rfl) (fun args s hts => m_declI (m_gi6 191 rfl rfl) (m_gi6 192 rfl rfl) args s hts) (m_selPK (z := ⟨"java/lang/AbstractStringBuilder", "isLatin1", "()Z"⟩) (m_gi6 212 rfl rfl) rfl f_pv_166 (m_gi6 191 rfl rfl) (by decide)) (m_gi6 191 rfl rfl) (by decide +kernel) (by decide) (show m_takeI _ _ = some (_, [_, _], []) from m_takeI_of rfl rfl rfl (Nat.le_of_ble_eq_true rfl)) rfl g6 rfl (by simp only [m_okf, List.all_cons, List.all_nil, Bool.and_true, Bool.and_self, m_okv_i, m_okv_l, m_okv_0, m_okv_n0, m_okv_t, RT.okn h ha0, RT.okv h ha0]) hM) (T_c_AbstractStringBuilder_ensureCapacityInternal ha0 h e8) hF rfl (fun w10 h10 f10 k10 => ?_) (by decide) (by decide)
  refine m_Rb.n0 b_215 (x_aload_n d_215_10 rfl) ?_
  obtain ⟨_, e11, j12⟩ := bS j9
  obtain ⟨_, g13⟩ := RT.cls h10 e11
  obtain ⟨v14, e15, j16⟩ := bS j12
  refine m_Rb.callUI (J := M_169) (m_mtm q_169) rfl (fun r9 hM => m_Step.virtK l b_215 (x := ⟨"java/lang/AbstractStringBuilder", "isLatin1", "()Z"⟩) (owner := "java/lang/AbstractStringBuilder") d_215_11.1 (m_mtm q_169) (m_gi6 209 rfl rfl) (m_gi6 211 rfl rfl) (fun args s hts => m_declI (m_gi6 210 rfl rfl) (m_gi6 213 rfl rfl) args s hts) (fun args s hts _ => hts _ (m_gi6 212 rfl rfl)) (m_gi6 210 rfl rfl) (by decide +kernel) (by decide) (show m_takeI _ _ = some (_, [_], []) from m_takeI_of rfl rfl rfl (Nat.le_of_ble_eq_true rfl)) rfl g13 rfl (by simp only [m_okf, List.all_cons, List.all_nil, Bool.and_true, Bool.and_self, m_okv_i, m_okv_l, m_okv_0, m_okv_n0, m_okv_t, RT.okn h10 (okm ha0 k10), RT.okv h10 (okm ha0 k10)]) hM) (T_c_AbstractStringBuilder_isLatin1 (okm ha0 k10) h10 e15) f10 rfl (fun w17 h17 f17 k17 => ?_) (by decide) (by decide)
  cases hc18 : m_c1 .eq v14 with
  | true =>
    have j19 := cT hc18 j16
    refine m_Rb.n0 b_215 (x_ift d_215_14 rfl hc18) ?_
    exact m_Rb.pick [0] rfl (T_c_AbstractStringBuilder_append215_45 (okm ha0 k10) h17 f17 j19)
  | false =>
    have j19 := cF hc18 j16
    refine m_Rb.n0 b_215 (x_iff d_215_14 rfl hc18) ?_
    refine m_Rb.n0 b_215 (x_iload_n d_215_17 rfl) ?_
    obtain ⟨v20, e21, j22⟩ := bS j19
    refine m_Rb.callI b_215 (y_cs d_215_18 rfl q_216 (show m_takeS _ _ = some (_, [_], []) from m_takeS_of (Nat.le_of_ble_eq_true rfl) rfl rfl (Nat.le_of_ble_eq_true rfl)) (by simp only [m_okf, List.all_cons, List.all_nil, Bool.and_true, Bool.and_self, m_okv_i, m_okv_l, m_okv_0, m_okv_n0, m_okv_t, RT.okn h17 (okm ha0 k10), RT.okv h17 (okm ha0 k10)]) rfl) (T_c_StringLatin1_canEncode h17 e21) f17 rfl (fun w23 h23 f23 k23 => ?_) (by decide) (by decide)
    cases hc24 : m_c1 .eq v20 with
    | true =>
      have j25 := cT hc24 j22
      refine m_Rb.n0 b_215 (x_ift d_215_21 rfl hc24) ?_
      exact m_Rb.pick [0] rfl (T_c_AbstractStringBuilder_append215_45 (okm ha0 k10) h23 f23 j25)
    | false =>
      have j25 := cF hc24 j22
      refine m_Rb.n0 b_215 (x_iff d_215_21 rfl hc24) ?_
      refine m_Rb.n0 b_215 (x_aload_n d_215_24 rfl) ?_
      obtain ⟨v26, e27, j28⟩ := bS j25
      refine m_Rb.tgetR b_215 d_215_25 rfl h23 e27 (fun o29 => ?_)
      refine m_Rb.n0 b_215 (x_aload_n d_215_28 rfl) ?_
      refine m_Rb.n0 b_215 (x_dup d_215_29 rfl) ?_
      obtain ⟨v30, e31, j32⟩ := bS j28
      refine m_Rb.tgetI b_215 d_215_30 rfl h23 e31 ?_
      refine m_Rb.n0 b_215 (x_dup_x1 d_215_33 rfl rfl) ?_
      refine m_Rb.n0 b_215 (x_iconst (z := 1) d_215_34 (by decide)) ?_
      refine m_Rb.n0 b_215 (x_iadd d_215_35 rfl) ?_
      obtain ⟨T33, e34, j35⟩ := bS j32
      refine m_Rb.tputI b_215 d_215_36 rfl rfl (by decide) h23 f23 e34 (fun w36 h36 f36 k36 => ?_)
      refine m_Rb.n0 b_215 (x_iload_n d_215_39 rfl) ?_
      refine m_Rb.n0 b_215 (x_i2b d_215_40 rfl) ?_
      obtain ⟨a37, e38, j39⟩ := bS j35
      subst e38
      obtain ⟨T40, e41, j42⟩ := bS j39
      refine m_Rb.tputAB b_215 d_215_41 h36 f36 e41 (fun w43 h43 f43 k43 => ?_)
      refine m_Rb.n0 b_215 (x_goto d_215_42 rfl) ?_
      refine m_Rb.n0 b_215 (x_aload_n d_215_75 rfl) ?_
      have o9 : okr T40.2.1 (some a0) := (okm (okm (okm ha0 k10) k36) k43)
      cases j42
      exact m_Rb.ret b_215 (m_rt_rr (x := (some a0)) d_215_76 rfl) ⟨rfl, o9, h43, f43⟩
def D_c_StringBuilder_append214 (F : Nat) (a0 : Nat) (p0 : Int32) (T : tT) : Option (Option Nat × tT) := (tcl T a0 3).bind fun _ => bd2 (D_c_AbstractStringBuilder_append215 F a0 p0 T) fun v4 T5 => some ((some a0), T5)
theorem T_c_StringBuilder_append214 {l : Launch} {w : List mM} {F : Nat} {a0 : Nat} {p0 : Int32} {T : tT} {yz : Option Nat} {Tz : tT} (ha0 : okr T.2.1 (some a0)) (h : RT T w) (h0 : D_c_StringBuilder_append214 F a0 p0 T = some (yz, Tz)) : m_Rb l M_214 (m_ent M_214 [.ref a0, .int p0] w) (fun v w' => v = some (rv yz) ∧ okr Tz.2.1 yz ∧ RT Tz w' ∧ m_Fm w w') T Tz 5 500 := by
  rw [show m_ent M_214 [.ref a0, .int p0] w = (0, [(0, .ref a0), (1, .int p0)], [], w) from by first | rfl | (simp only [m_ent, lv_args_r, lv_args_a, lv_args_i, lv_args_l, lv_args_0]; done) | (simp only [m_ent, lv_args_r, lv_args_a, lv_args_i, lv_args_l, lv_args_0]; rfl)]
  generalize hw0 : w = w0 at h ⊢
  have hF : m_Fm w0 w0 := m_Fm.refl
  rw [D_c_StringBuilder_append214] at h0
  refine m_Rb.n0 b_214 (x_aload_n d_214_0 rfl) ?_
  refine m_Rb.n0 b_214 (x_iload_n d_214_1 rfl) ?_
  obtain ⟨_, e1, j2⟩ := bS h0
  obtain ⟨_, g3⟩ := RT.cls h e1
  obtain ⟨v4, T5, e6, j7⟩ := bS2 j2
  refine m_Rb.callUR (J := M_215) (m_mtm q_215) rfl (fun r9 hM => m_Step.sup l b_214 d_214_2.1 (m_mtm q_215) (m_gi7 235 rfl rfl) (m_gi12 47 rfl rfl) (m_gi1 163 rfl rfl) (m_gi7 236 rfl rfl) (by decide) (show m_takeI _ _ = some (_, [_, _], []) from m_takeI_of rfl rfl rfl (Nat.le_of_ble_eq_true rfl)) rfl g3 rfl (by simp only [m_okf, List.all_cons, List.all_nil, Bool.and_true, Bool.and_self, m_okv_i, m_okv_l, m_okv_0, m_okv_n0, m_okv_t, RT.okn h ha0, RT.okv h ha0]) hM) (T_c_AbstractStringBuilder_append215 ha0 h e6) hF rfl (fun w8 o8 h8 f8 k8 => ?_) (by decide) (by decide)
  refine m_Rb.n0 b_214 (x_pop d_214_5 (cat_rv v4)) ?_
  refine m_Rb.n0 b_214 (x_aload_n d_214_6 rfl) ?_
  have o9 : okr T5.2.1 (some a0) := (okm ha0 k8)
  cases j7
  exact m_Rb.ret b_214 (m_rt_rr (x := (some a0)) d_214_7 rfl) ⟨rfl, o9, h8, f8⟩
def D_c_Arrays_checkLength (F : Nat) (p0 : Int32) (p1 : Int32) (T : tT) : Option (tT) := cond (m_c2 .ge p1 p0) (some T) (none)
theorem T_c_Arrays_checkLength {l : Launch} {w : List mM} {F : Nat} {p0 : Int32} {p1 : Int32} {T : tT} {Tz : tT} (h : RT T w) (h0 : D_c_Arrays_checkLength F p0 p1 T = some Tz) : m_Rb l M_198 (m_ent M_198 [.int p0, .int p1] w) (fun v w' => v = none ∧ RT Tz w' ∧ m_Fm w w') T Tz 0 0 := by
  rw [show m_ent M_198 [.int p0, .int p1] w = (0, [(0, .int p0), (1, .int p1)], [], w) from by first | rfl | (simp only [m_ent, lv_args_r, lv_args_a, lv_args_i, lv_args_l, lv_args_0]; done) | (simp only [m_ent, lv_args_r, lv_args_a, lv_args_i, lv_args_l, lv_args_0]; rfl)]
  generalize hw0 : w = w0 at h ⊢
  have hF : m_Fm w0 w0 := m_Fm.refl
  rw [D_c_Arrays_checkLength] at h0
  refine m_Rb.n0 b_198 (x_iload_n d_198_0 rfl) ?_
  refine m_Rb.n0 b_198 (x_iload_n d_198_1 rfl) ?_
  cases hc1 : m_c2 .ge p1 p0 with
  | true =>
    have j2 := cT hc1 h0
    refine m_Rb.n0 b_198 (x_ict d_198_2 rfl hc1) ?_
    cases j2
    exact m_Rb.ret b_198 (m_rt_vr d_198_37 rfl) ⟨rfl, h, hF⟩
  | false =>
    have j2 := cF hc1 h0
    refine m_Rb.n0 b_198 (x_icf d_198_2 rfl hc1) ?_
    cases j2
def D_c_Arrays_copyOfRangeByte (F : Nat) (p0 : Option Nat) (p1 : Int32) (p2 : Int32) (T : tT) : Option (Option Nat × tT) := (D_c_Arrays_checkLength F p1 p2 T).bind fun T1 => bd2 (tna T1 3 (p2 - p1)) fun a5 T6 => (p0).bind fun a10 => (tal T6 a10).bind fun v13 => (tcb T6 a10 p1 a5 (0 : Int32) (if (p2 - p1) < (v13 - p1) then (p2 - p1) else (v13 - p1))).bind fun T16 => some ((some a5), T16)
theorem T_c_Arrays_copyOfRangeByte {l : Launch} {w : List mM} {F : Nat} {p0 : Option Nat} {p1 : Int32} {p2 : Int32} {T : tT} {yz : Option Nat} {Tz : tT} (hp0 : okr T.2.1 p0) (h : RT T w) (h0 : D_c_Arrays_copyOfRangeByte F p0 p1 p2 T = some (yz, Tz)) : m_Rb l M_197 (m_ent M_197 [rv p0, .int p1, .int p2] w) (fun v w' => v = some (rv yz) ∧ okr Tz.2.1 yz ∧ RT Tz w' ∧ m_Fm w w') T Tz 1 100 := by
  rw [show m_ent M_197 [rv p0, .int p1, .int p2] w = (0, [(0, rv p0), (1, .int p1), (2, .int p2)], [], w) from by first | rfl | (simp only [m_ent, lv_args_r, lv_args_a, lv_args_i, lv_args_l, lv_args_0]; done) | (simp only [m_ent, lv_args_r, lv_args_a, lv_args_i, lv_args_l, lv_args_0]; rfl)]
  generalize hw0 : w = w0 at h ⊢
  have hF : m_Fm w0 w0 := m_Fm.refl
  rw [D_c_Arrays_copyOfRangeByte] at h0
  refine m_Rb.n0 b_197 (x_iload_n d_197_0 rfl) ?_
  refine m_Rb.n0 b_197 (x_iload_n d_197_1 rfl) ?_
  obtain ⟨T1, e2, j3⟩ := bS h0
  refine m_Rb.callV b_197 (y_cs d_197_2 rfl q_198 (show m_takeS _ _ = some (_, [_, _], []) from m_takeS_of (Nat.le_of_ble_eq_true rfl) rfl rfl (Nat.le_of_ble_eq_true rfl)) (by simp only [m_okf, List.all_cons, List.all_nil, Bool.and_true, Bool.and_self, m_okv_i, m_okv_l, m_okv_0, m_okv_n0, m_okv_t, RT.okv h hp0]) rfl) (T_c_Arrays_checkLength h e2) hF rfl (fun w4 h4 f4 k4 => ?_) (by decide) (by decide)
  refine m_Rb.n0 b_197 (x_iload_n d_197_5 rfl) ?_
  refine m_Rb.n0 b_197 (x_iload_n d_197_6 rfl) ?_
  refine m_Rb.n0 b_197 (x_isub d_197_7 rfl) ?_
  refine m_Rb.n0 b_197 (x_istore_n d_197_8 rfl (show m_put1 _ _ _ = [(3, _), (0, _), (1, _), (2, _)] from rfl)) ?_
  refine m_Rb.n0 b_197 (x_iload_n d_197_9 rfl) ?_
  obtain ⟨a5, T6, e7, j8⟩ := bS2 j3
  refine m_Rb.tnewa b_197 d_197_10 rfl (by simp only [m_okf, List.all_cons, List.all_nil, Bool.and_true, Bool.and_self, m_okv_i, m_okv_l, m_okv_0, m_okv_n0, m_okv_t, RT.okv h4 (okm hp0 k4)]) h4 f4 e7 (fun w9 o9 h9 f9 k9 => ?_)
  refine m_Rb.n0 b_197 (x_astore d_197_12 rfl (show m_put1 _ _ _ = [(4, _), (3, _), (0, _), (1, _), (2, _)] from rfl)) ?_
  refine m_Rb.n0 b_197 (x_aloadr_n (x := p0) d_197_14 rfl) ?_
  refine m_Rb.n0 b_197 (x_iload_n d_197_15 rfl) ?_
  refine m_Rb.n0 b_197 (x_aload d_197_16 rfl) ?_
  refine m_Rb.n0 b_197 (x_iconst (z := 0) d_197_18 (by decide)) ?_
  refine m_Rb.n0 b_197 (x_aloadr_n (x := p0) d_197_19 rfl) ?_
  obtain ⟨a10, e11, j12⟩ := bS j8
  subst e11
  obtain ⟨v13, e14, j15⟩ := bS j12
  refine m_Rb.talen b_197 d_197_20 h9 e14 ?_
  refine m_Rb.n0 b_197 (x_iload_n d_197_21 rfl) ?_
  refine m_Rb.n0 b_197 (x_isub d_197_22 rfl) ?_
  refine m_Rb.n0 b_197 (x_iload_n d_197_23 rfl) ?_
  refine m_Rb.nz b_197 (x_min d_197_24 rfl (catL (Nat.le_of_ble_eq_true rfl)) rfl) ?_ (by decide) (by decide)
  obtain ⟨T16, e17, j18⟩ := bS j15
  refine m_Rb.tcopy b_197 d_197_27 (m_gi4 41 rfl rfl) (Nat.le_of_ble_eq_true rfl) h9 f9 e17 (fun w19 h19 f19 k19 => ?_) (by decide) (by decide)
  refine m_Rb.n0 b_197 (x_aload d_197_30 rfl) ?_
  have o9 : okr T16.2.1 (some a5) := (okm o9 k19)
  cases j18
  exact m_Rb.ret b_197 (m_rt_rra (x := (some a5)) d_197_32 rfl) ⟨rfl, o9, h19, f19⟩
def D_c_Arrays_copyOfRange_10 (F : Nat) (x0 : Option Nat) (x1 : Int32) (x2 : Int32) (T : tT) : Option (Option Nat × tT) := bd2 (D_c_Arrays_copyOfRangeByte F x0 x1 x2 T) fun v18 T19 => some (v18, T19)
theorem T_c_Arrays_copyOfRange_10 {l : Launch} {w0 : List mM} {F : Nat} {x0 : Option Nat} {x1 : Int32} {x2 : Int32} {T : tT} {w : List mM} {yz : Option Nat} {Tz : tT} (hx0 : okr T.2.1 x0) (h : RT T w) (hF : m_Fm w0 w) (h0 : D_c_Arrays_copyOfRange_10 F x0 x1 x2 T = some (yz, Tz)) : m_Rb l M_196 (10, [(0, rv x0), (1, .int x1), (2, .int x2)], [], w) (fun v w' => v = some (rv yz) ∧ okr Tz.2.1 yz ∧ RT Tz w' ∧ m_Fm w0 w') T Tz 2 200 := by
  rw [D_c_Arrays_copyOfRange_10] at h0
  refine m_Rb.n0 b_196 (x_aloadr_n (x := x0) d_196_10 rfl) ?_
  refine m_Rb.n0 b_196 (x_iload_n d_196_11 rfl) ?_
  refine m_Rb.n0 b_196 (x_iload_n d_196_12 rfl) ?_
  obtain ⟨v18, T19, e20, j21⟩ := bS2 h0
  refine m_Rb.callR b_196 (y_cs d_196_13 rfl q_197 (show m_takeS _ _ = some (_, [_, _, _], []) from m_takeS_of (Nat.le_of_ble_eq_true rfl) rfl rfl (Nat.le_of_ble_eq_true rfl)) (by simp only [m_okf, List.all_cons, List.all_nil, Bool.and_true, Bool.and_self, m_okv_i, m_okv_l, m_okv_0, m_okv_n0, m_okv_t, RT.okv h hx0]) (decide_eq_true (by simp only [lgs_r, lgs_a, lgs_i, lgs_l, lgs_0]; exact Nat.le_of_ble_eq_true rfl))) (T_c_Arrays_copyOfRangeByte hx0 h e20) hF rfl (fun w22 o22 h22 f22 k22 => ?_) (by decide) (by decide)
  have o9 : okr T19.2.1 v18 := o22
  cases j21
  exact m_Rb.ret b_196 (m_rt_rra d_196_16 rfl) ⟨rfl, o9, h22, f22⟩
def D_c_Arrays_copyOfRange (F : Nat) (p0 : Option Nat) (p1 : Int32) (p2 : Int32) (T : tT) : Option (Option Nat × tT) := cond (m_c1 .ne p1) (D_c_Arrays_copyOfRange_10 F p0 p1 p2 T) ((p0).bind fun a3 => (tal T a3).bind fun v6 => cond (m_c2 .eq p2 v6) (bd2 (tcln T a3) fun a11 T12 => (tba T12 a11).bind fun _ => some ((some a11), T12)) (D_c_Arrays_copyOfRange_10 F (some a3) p1 p2 T))
theorem T_c_Arrays_copyOfRange {l : Launch} {w : List mM} {F : Nat} {p0 : Option Nat} {p1 : Int32} {p2 : Int32} {T : tT} {yz : Option Nat} {Tz : tT} (hp0 : okr T.2.1 p0) (h : RT T w) (h0 : D_c_Arrays_copyOfRange F p0 p1 p2 T = some (yz, Tz)) : m_Rb l M_196 (m_ent M_196 [rv p0, .int p1, .int p2] w) (fun v w' => v = some (rv yz) ∧ okr Tz.2.1 yz ∧ RT Tz w' ∧ m_Fm w w') T Tz 2 200 := by
  rw [show m_ent M_196 [rv p0, .int p1, .int p2] w = (0, [(0, rv p0), (1, .int p1), (2, .int p2)], [], w) from by first | rfl | (simp only [m_ent, lv_args_r, lv_args_a, lv_args_i, lv_args_l, lv_args_0]; done) | (simp only [m_ent, lv_args_r, lv_args_a, lv_args_i, lv_args_l, lv_args_0]; rfl)]
  generalize hw0 : w = w0 at h ⊢
  have hF : m_Fm w0 w0 := m_Fm.refl
  rw [D_c_Arrays_copyOfRange] at h0
  refine m_Rb.n0 b_196 (x_iload_n d_196_0 rfl) ?_
  cases hc1 : m_c1 .ne p1 with
  | true =>
    have j2 := cT hc1 h0
    refine m_Rb.n0 b_196 (x_ift d_196_1 rfl hc1) ?_
    exact m_Rb.pick [0, 1, 2] rfl (T_c_Arrays_copyOfRange_10 hp0 h hF j2)
  | false =>
    have j2 := cF hc1 h0
    refine m_Rb.n0 b_196 (x_iff d_196_1 rfl hc1) ?_
    refine m_Rb.n0 b_196 (x_iload_n d_196_4 rfl) ?_
    refine m_Rb.n0 b_196 (x_aloadr_n (x := p0) d_196_5 rfl) ?_
    obtain ⟨a3, e4, j5⟩ := bS j2
    subst e4
    obtain ⟨v6, e7, j8⟩ := bS j5
    refine m_Rb.talen b_196 d_196_6 h e7 ?_
    cases hc9 : m_c2 .eq p2 v6 with
    | true =>
      have j10 := cT hc9 j8
      refine m_Rb.n0 b_196 (x_ict d_196_7 rfl hc9) ?_
      refine m_Rb.n0 b_196 (x_aload_n d_196_17 rfl) ?_
      obtain ⟨a11, T12, e13, j14⟩ := bS2 j10
      refine m_Rb.tclone b_196 d_196_18 (m_gi6 202 rfl rfl) (Nat.le_of_ble_eq_true rfl) (by simp only [m_okf, List.all_cons, List.all_nil, Bool.and_true, Bool.and_self, m_okv_i, m_okv_l, m_okv_0, m_okv_n0, m_okv_t, RT.okn h hp0, RT.okv h hp0]) h hF e13 (fun w15 o15 h15 f15 k15 => ?_) (by decide) (by decide)
      obtain ⟨_, e16, j17⟩ := bS j14
      refine m_Rb.tcastB b_196 d_196_21 (m_gi6 208 rfl rfl) h15 e16 ?_
      have o9 : okr T12.2.1 (some a11) := o15
      cases j17
      exact m_Rb.ret b_196 (m_rt_rra (x := (some a11)) d_196_24 rfl) ⟨rfl, o9, h15, f15⟩
    | false =>
      have j10 := cF hc9 j8
      refine m_Rb.n0 b_196 (x_icf d_196_7 rfl hc9) ?_
      exact m_Rb.pick [0, 1, 2] rfl (T_c_Arrays_copyOfRange_10 hp0 h hF j10)
def D_c_AbstractStringBuilder_getValue (F : Nat) (a0 : Nat) (T0 : tT) : Option (Option Nat) := (tgr T0 a0 3 0).bind fun v1 => some v1
theorem T_c_AbstractStringBuilder_getValue {l : Launch} {w : List mM} {F : Nat} {a0 : Nat} {T0 : tT} {yz : Option Nat} (ha0 : okr T0.2.1 (some a0)) (h : RT T0 w) (h0 : D_c_AbstractStringBuilder_getValue F a0 T0 = some yz) : m_Rb l M_193 (m_ent M_193 [.ref a0] w) (fun v w' => v = some (rv yz) ∧ okr T0.2.1 yz ∧ RT T0 w' ∧ m_Fm w w') T0 T0 0 0 := by
  rw [show m_ent M_193 [.ref a0] w = (0, [(0, .ref a0)], [], w) from by first | rfl | (simp only [m_ent, lv_args_r, lv_args_a, lv_args_i, lv_args_l, lv_args_0]; done) | (simp only [m_ent, lv_args_r, lv_args_a, lv_args_i, lv_args_l, lv_args_0]; rfl)]
  generalize hw0 : w = w0 at h ⊢
  have hF : m_Fm w0 w0 := m_Fm.refl
  rw [D_c_AbstractStringBuilder_getValue] at h0
  refine m_Rb.n0 b_193 (x_aload_n d_193_0 rfl) ?_
  obtain ⟨v1, e2, j3⟩ := bS h0
  refine m_Rb.tgetR b_193 d_193_1 rfl h e2 (fun o4 => ?_)
  have o9 : okr T0.2.1 v1 := o4
  cases j3
  exact m_Rb.ret b_193 (m_rt_rra d_193_4 rfl) ⟨rfl, o9, h, hF⟩
def D_c_AbstractStringBuilder_length (F : Nat) (a0 : Nat) (T0 : tT) : Option (Int32) := (tgi T0 a0 3 3).bind fun v1 => some v1
theorem T_c_AbstractStringBuilder_length {l : Launch} {w : List mM} {F : Nat} {a0 : Nat} {T0 : tT} {yz : Int32} (ha0 : okr T0.2.1 (some a0)) (h : RT T0 w) (h0 : D_c_AbstractStringBuilder_length F a0 T0 = some yz) : m_Rb l M_195 (m_ent M_195 [.ref a0] w) (fun v w' => v = some (.int yz) ∧ RT T0 w' ∧ m_Fm w w') T0 T0 0 0 := by
  rw [show m_ent M_195 [.ref a0] w = (0, [(0, .ref a0)], [], w) from by first | rfl | (simp only [m_ent, lv_args_r, lv_args_a, lv_args_i, lv_args_l, lv_args_0]; done) | (simp only [m_ent, lv_args_r, lv_args_a, lv_args_i, lv_args_l, lv_args_0]; rfl)]
  generalize hw0 : w = w0 at h ⊢
  have hF : m_Fm w0 w0 := m_Fm.refl
  rw [D_c_AbstractStringBuilder_length] at h0
  refine m_Rb.n0 b_195 (x_aload_n d_195_0 rfl) ?_
  obtain ⟨v1, e2, j3⟩ := bS h0
  refine m_Rb.tgetI b_195 d_195_1 rfl h e2 ?_
  cases j3
  exact m_Rb.ret b_195 (m_rt_ir d_195_4 rfl rfl) ⟨rfl, h, hF⟩
def D_c_StringBuilder_length (F : Nat) (a0 : Nat) (T0 : tT) : Option (Int32) := (tcl T0 a0 3).bind fun _ => (D_c_AbstractStringBuilder_length F a0 T0).bind fun v4 => some v4
theorem T_c_StringBuilder_length {l : Launch} {w : List mM} {F : Nat} {a0 : Nat} {T0 : tT} {yz : Int32} (ha0 : okr T0.2.1 (some a0)) (h : RT T0 w) (h0 : D_c_StringBuilder_length F a0 T0 = some yz) : m_Rb l M_194 (m_ent M_194 [.ref a0] w) (fun v w' => v = some (.int yz) ∧ RT T0 w' ∧ m_Fm w w') T0 T0 1 100 := by
  rw [show m_ent M_194 [.ref a0] w = (0, [(0, .ref a0)], [], w) from by first | rfl | (simp only [m_ent, lv_args_r, lv_args_a, lv_args_i, lv_args_l, lv_args_0]; done) | (simp only [m_ent, lv_args_r, lv_args_a, lv_args_i, lv_args_l, lv_args_0]; rfl)]
  generalize hw0 : w = w0 at h ⊢
  have hF : m_Fm w0 w0 := m_Fm.refl
  rw [D_c_StringBuilder_length] at h0
  refine m_Rb.n0 b_194 (x_aload_n d_194_0 rfl) ?_
  obtain ⟨_, e1, j2⟩ := bS h0
  obtain ⟨_, g3⟩ := RT.cls h e1
  obtain ⟨v4, e5, j6⟩ := bS j2
  refine m_Rb.callUI (J := M_195) (m_mtm q_195) rfl (fun r9 hM => m_Step.sup l b_194 d_194_1.1 (m_mtm q_195) (m_gi7 73 rfl rfl) (m_gi7 69 rfl rfl) (m_gi1 163 rfl rfl) (m_gi7 68 rfl rfl) (by decide) (show m_takeI _ _ = some (_, [_], []) from m_takeI_of rfl rfl rfl (Nat.le_of_ble_eq_true rfl)) rfl g3 rfl (by simp only [m_okf, List.all_cons, List.all_nil, Bool.and_true, Bool.and_self, m_okv_i, m_okv_l, m_okv_0, m_okv_n0, m_okv_t, RT.okn h ha0, RT.okv h ha0]) hM) (T_c_AbstractStringBuilder_length ha0 h e5) hF rfl (fun w7 h7 f7 k7 => ?_) (by decide) (by decide)
  cases j6
  exact m_Rb.ret b_194 (m_rt_ir d_194_4 rfl rfl) ⟨rfl, h7, f7⟩
def D_c_String_init (F : Nat) (a0 : Nat) (p0 : Option Nat) (p1 : Option Nat) (T : tT) : Option (tT) := (p0).bind fun a1 => (tcl T a1 3).bind fun _ => (D_c_AbstractStringBuilder_getValue F a1 T).bind fun v7 => (tcl T a1 3).bind fun _ => (D_c_StringBuilder_length F a1 T).bind fun v14 => (tcl T a1 3).bind fun _ => (D_c_AbstractStringBuilder_isLatin1 F a1 T).bind fun v21 => cond (m_c1 .eq v21) (none) ((tpb T a0 12 1 (0 : Int32)).bind fun T27 => bd2 (D_c_Arrays_copyOfRange F v7 (0 : Int32) v14 T27) fun v31 T32 => (tpr T32 a0 12 0 v31).bind fun T36 => some T36)
theorem T_c_String_init {l : Launch} {w : List mM} {F : Nat} {a0 : Nat} {p0 : Option Nat} {p1 : Option Nat} {T : tT} {Tz : tT} (ha0 : okr T.2.1 (some a0)) (hp0 : okr T.2.1 p0) (hp1 : okr T.2.1 p1) (h : RT T w) (h0 : D_c_String_init F a0 p0 p1 T = some Tz) : m_Rb l M_192 (m_ent M_192 [.ref a0, rv p0, rv p1] w) (fun v w' => v = none ∧ RT Tz w' ∧ m_Fm w w') T Tz 3 300 := by
  rw [show m_ent M_192 [.ref a0, rv p0, rv p1] w = (0, [(0, .ref a0), (1, rv p0), (2, rv p1)], [], w) from by first | rfl | (simp only [m_ent, lv_args_r, lv_args_a, lv_args_i, lv_args_l, lv_args_0]; done) | (simp only [m_ent, lv_args_r, lv_args_a, lv_args_i, lv_args_l, lv_args_0]; rfl)]
  generalize hw0 : w = w0 at h ⊢
  have hF : m_Fm w0 w0 := m_Fm.refl
  rw [D_c_String_init] at h0
  refine m_Rb.n0 b_192 (x_aload_n d_192_0 rfl) ?_
  refine m_Rb.toinit b_192 d_192_1 rfl (Nat.le_of_ble_eq_true rfl) ?_ (by decide) (by decide)
  refine m_Rb.n0 b_192 (x_aloadr_n (x := p0) d_192_4 rfl) ?_
  obtain ⟨a1, e2, j3⟩ := bS h0
  subst e2
  obtain ⟨_, e4, j5⟩ := bS j3
  obtain ⟨_, g6⟩ := RT.cls h e4
  obtain ⟨v7, e8, j9⟩ := bS j5
  refine m_Rb.callUR (J := M_193) (m_mtm q_193) rfl (fun r9 hM => m_Step.virtK l b_192 (x := ⟨"java/lang/AbstractStringBuilder", "getValue", "()[B"⟩) (owner := "java/lang/AbstractStringBuilder") d_192_5.1 (m_mtm q_193) (m_gi7 62 rfl rfl) (m_gi7 64 rfl rfl) (fun args s hts => m_declI (m_gi7 63 rfl rfl) (m_gi7 66 rfl rfl) args s hts) (fun args s hts _ => hts _ (m_gi7 65 rfl rfl)) (m_gi7 63 rfl rfl) (by decide +kernel) (by decide) (show m_takeI _ _ = some (_, [_], []) from m_takeI_of rfl rfl rfl (Nat.le_of_ble_eq_true rfl)) rfl g6 rfl (by simp only [m_okf, List.all_cons, List.all_nil, Bool.and_true, Bool.and_self, m_okv_i, m_okv_l, m_okv_0, m_okv_n0, m_okv_t, RT.okn h ha0, RT.okv h ha0, RT.okn h hp0, RT.okv h hp0, RT.okv h hp1]) hM) (T_c_AbstractStringBuilder_getValue hp0 h e8) hF rfl (fun w10 o10 h10 f10 k10 => ?_) (by decide) (by decide)
  refine m_Rb.n0 b_192 (x_astorer_n (x := v7) d_192_8 rfl (show m_put1 _ _ _ = [(3, _), (0, _), (1, _), (2, _)] from (m_p1r (by simp only [List.all_cons, List.all_nil, cat_rv]; rfl)).trans rfl)) ?_
  refine m_Rb.n0 b_192 (x_aload_n d_192_9 rfl) ?_
  obtain ⟨_, e11, j12⟩ := bS j9
  obtain ⟨_, g13⟩ := RT.cls h10 e11
  obtain ⟨v14, e15, j16⟩ := bS j12
  refine m_Rb.callUI (J := M_194) (m_mtm q_194) rfl (fun r9 hM => m_Step.virtK l b_192 (x := ⟨"java/lang/AbstractStringBuilder", "length", "()I"⟩) (owner := "java/lang/AbstractStringBuilder") d_192_10.1 (m_mtm q_194) (m_gi7 67 rfl rfl) (m_gi7 69 rfl rfl) (fun args s hts => m_declI (m_gi7 68 rfl rfl) (m_gi7 74 rfl rfl) args s hts) (fun args s hts _ => hts _ (m_gi7 70 rfl rfl)) (m_gi7 71 rfl rfl) (by decide +kernel) (by decide) (show m_takeI _ _ = some (_, [_], []) from m_takeI_of rfl rfl rfl (Nat.le_of_ble_eq_true rfl)) rfl g13 rfl (by simp only [m_okf, List.all_cons, List.all_nil, Bool.and_true, Bool.and_self, m_okv_i, m_okv_l, m_okv_0, m_okv_n0, m_okv_t, RT.okv h10 o10, RT.okn h10 ha0, RT.okv h10 ha0, RT.okn h10 hp0, RT.okv h10 hp0, RT.okv h10 hp1]) hM) (T_c_StringBuilder_length hp0 h10 e15) f10 rfl (fun w17 h17 f17 k17 => ?_) (by decide) (by decide)
  refine m_Rb.n0 b_192 (x_istore d_192_13 rfl (show m_put1 _ _ _ = [(4, _), (3, _), (0, _), (1, _), (2, _)] from (m_p1r (by simp only [List.all_cons, List.all_nil, cat_rv]; rfl)).trans rfl)) ?_
  refine m_Rb.n0 b_192 (x_aload_n d_192_15 rfl) ?_
  obtain ⟨_, e18, j19⟩ := bS j16
  obtain ⟨_, g20⟩ := RT.cls h17 e18
  obtain ⟨v21, e22, j23⟩ := bS j19
  refine m_Rb.callUI (J := M_169) (m_mtm q_169) rfl (fun r9 hM => m_Step.virtK l b_192 (x := ⟨"java/lang/AbstractStringBuilder", "isLatin1", "()Z"⟩) (owner := "java/lang/AbstractStringBuilder") d_192_16.1 (m_mtm q_169) (m_gi7 75 rfl rfl) (m_gi6 211 rfl rfl) (fun args s hts => m_declI (m_gi6 210 rfl rfl) (m_gi6 213 rfl rfl) args s hts) (fun args s hts _ => hts _ (m_gi6 212 rfl rfl)) (m_gi6 210 rfl rfl) (by decide +kernel) (by decide) (show m_takeI _ _ = some (_, [_], []) from m_takeI_of rfl rfl rfl (Nat.le_of_ble_eq_true rfl)) rfl g20 rfl (by simp only [m_okf, List.all_cons, List.all_nil, Bool.and_true, Bool.and_self, m_okv_i, m_okv_l, m_okv_0, m_okv_n0, m_okv_t, RT.okv h17 o10, RT.okn h17 ha0, RT.okv h17 ha0, RT.okn h17 hp0, RT.okv h17 hp0, RT.okv h17 hp1]) hM) (T_c_AbstractStringBuilder_isLatin1 hp0 h17 e22) f17 rfl (fun w24 h24 f24 k24 => ?_) (by decide) (by decide)
  cases hc25 : m_c1 .eq v21 with
  | true =>
    have j26 := cT hc25 j23
    refine m_Rb.n0 b_192 (x_ift d_192_19 rfl hc25) ?_
    cases j26
  | false =>
    have j26 := cF hc25 j23
    refine m_Rb.n0 b_192 (x_iff d_192_19 rfl hc25) ?_
    refine m_Rb.n0 b_192 (x_aload_n d_192_22 rfl) ?_
    refine m_Rb.n0 b_192 (x_iconst (z := 0) d_192_23 (by decide)) ?_
    obtain ⟨T27, e28, j29⟩ := bS j26
    refine m_Rb.tputB b_192 d_192_24 rfl rfl (by decide) h24 f24 e28 (fun w30 h30 f30 k30 => ?_)
    refine m_Rb.n0 b_192 (x_aload_n d_192_27 rfl) ?_
    refine m_Rb.n0 b_192 (x_aloadr_n (x := v7) d_192_28 rfl) ?_
    refine m_Rb.n0 b_192 (x_iconst (z := 0) d_192_29 (by decide)) ?_
    refine m_Rb.n0 b_192 (x_iload d_192_30 rfl) ?_
    obtain ⟨v31, T32, e33, j34⟩ := bS2 j29
    refine m_Rb.callR b_192 (y_cs d_192_32 rfl q_196 (show m_takeS _ _ = some (_, [_, _, _], [_]) from m_takeS_of (Nat.le_of_ble_eq_true rfl) rfl rfl (Nat.le_of_ble_eq_true rfl)) (by simp only [m_okf, List.all_cons, List.all_nil, Bool.and_true, Bool.and_self, m_okv_i, m_okv_l, m_okv_0, m_okv_n0, m_okv_t, RT.okv h30 (okm o10 k30), RT.okn h30 (okm ha0 k30), RT.okv h30 (okm ha0 k30), RT.okn h30 (okm hp0 k30), RT.okv h30 (okm hp0 k30), RT.okv h30 (okm hp1 k30)]) (decide_eq_true (by simp only [lgs_r, lgs_a, lgs_i, lgs_l, lgs_0]; exact Nat.le_of_ble_eq_true rfl))) (T_c_Arrays_copyOfRange (okm o10 k30) h30 e33) f30 rfl (fun w35 o35 h35 f35 k35 => ?_) (by decide) (by decide)
    obtain ⟨T36, e37, j38⟩ := bS j34
    refine m_Rb.tputA (z := v31) b_192 d_192_35 rfl rfl (by decide) h35 f35 e37 o35 (fun w39 h39 f39 k39 => ?_)
    refine m_Rb.n0 b_192 (x_goto d_192_38 rfl) ?_
    cases j38
    exact m_Rb.ret b_192 (m_rt_vr d_192_97 rfl) ⟨rfl, h39, f39⟩
def D_c_String_init191 (F : Nat) (a0 : Nat) (p0 : Option Nat) (T : tT) : Option (tT) := (D_c_String_init F a0 p0 none T).bind fun T1 => some T1
theorem T_c_String_init191 {l : Launch} {w : List mM} {F : Nat} {a0 : Nat} {p0 : Option Nat} {T : tT} {Tz : tT} (ha0 : okr T.2.1 (some a0)) (hp0 : okr T.2.1 p0) (h : RT T w) (h0 : D_c_String_init191 F a0 p0 T = some Tz) : m_Rb l M_191 (m_ent M_191 [.ref a0, rv p0] w) (fun v w' => v = none ∧ RT Tz w' ∧ m_Fm w w') T Tz 4 400 := by
  rw [show m_ent M_191 [.ref a0, rv p0] w = (0, [(0, .ref a0), (1, rv p0)], [], w) from by first | rfl | (simp only [m_ent, lv_args_r, lv_args_a, lv_args_i, lv_args_l, lv_args_0]; done) | (simp only [m_ent, lv_args_r, lv_args_a, lv_args_i, lv_args_l, lv_args_0]; rfl)]
  generalize hw0 : w = w0 at h ⊢
  have hF : m_Fm w0 w0 := m_Fm.refl
  rw [D_c_String_init191] at h0
  refine m_Rb.n0 b_191 (x_aload_n d_191_0 rfl) ?_
  refine m_Rb.n0 b_191 (x_aloadr_n (x := p0) d_191_1 rfl) ?_
  refine m_Rb.n0 b_191 (x_null d_191_2) ?_
  obtain ⟨T1, e2, j3⟩ := bS h0
  refine m_Rb.callV b_191 (x_ci d_191_3 rfl (by decide) q_192 (show m_takeI _ _ = some (_, [_, _, _], []) from m_takeI_of rfl rfl rfl (Nat.le_of_ble_eq_true rfl)) (by simp only [m_okf, List.all_cons, List.all_nil, Bool.and_true, Bool.and_self, m_okv_i, m_okv_l, m_okv_0, m_okv_n0, m_okv_t, RT.okn h ha0, RT.okv h ha0, RT.okv h hp0]) (decide_eq_true (by simp only [lgs_r, lgs_a, lgs_i, lgs_l, lgs_0]; exact Nat.le_of_ble_eq_true rfl))) (T_c_String_init ha0 hp0 okr_none h e2) hF rfl (fun w4 h4 f4 k4 => ?_) (by decide) (by decide)
  cases j3
  exact m_Rb.ret b_191 (m_rt_vr d_191_6 rfl) ⟨rfl, h4, f4⟩
def D_c_StringBuilder_toString (F : Nat) (a0 : Nat) (T : tT) : Option (Option Nat × tT) := bd2 (tnw T 12) fun a1 T2 => (D_c_String_init191 F a1 (some a0) T2).bind fun T6 => some ((some a1), T6)
theorem T_c_StringBuilder_toString {l : Launch} {w : List mM} {F : Nat} {a0 : Nat} {T : tT} {yz : Option Nat} {Tz : tT} (ha0 : okr T.2.1 (some a0)) (h : RT T w) (h0 : D_c_StringBuilder_toString F a0 T = some (yz, Tz)) : m_Rb l M_190 (m_ent M_190 [.ref a0] w) (fun v w' => v = some (rv yz) ∧ okr Tz.2.1 yz ∧ RT Tz w' ∧ m_Fm w w') T Tz 5 500 := by
  rw [show m_ent M_190 [.ref a0] w = (0, [(0, .ref a0)], [], w) from by first | rfl | (simp only [m_ent, lv_args_r, lv_args_a, lv_args_i, lv_args_l, lv_args_0]; done) | (simp only [m_ent, lv_args_r, lv_args_a, lv_args_i, lv_args_l, lv_args_0]; rfl)]
  generalize hw0 : w = w0 at h ⊢
  have hF : m_Fm w0 w0 := m_Fm.refl
  rw [D_c_StringBuilder_toString] at h0
  obtain ⟨a1, T2, e3, j4⟩ := bS2 h0
  refine m_Rb.tnew b_190 d_190_0 rfl (by simp only [m_okf, List.all_cons, List.all_nil, Bool.and_true, Bool.and_self, m_okv_i, m_okv_l, m_okv_0, m_okv_n0, m_okv_t, RT.okn h ha0, RT.okv h ha0]) h hF e3 (fun w5 o5 h5 f5 k5 => ?_)
  refine m_Rb.n0 b_190 (x_dup d_190_3 rfl) ?_
  refine m_Rb.n0 b_190 (x_aload_n d_190_4 rfl) ?_
  obtain ⟨T6, e7, j8⟩ := bS j4
  refine m_Rb.callV b_190 (x_ci d_190_5 rfl (by decide) q_191 (show m_takeI _ _ = some (_, [_, _], [_]) from m_takeI_of rfl rfl rfl (Nat.le_of_ble_eq_true rfl)) (by simp only [m_okf, List.all_cons, List.all_nil, Bool.and_true, Bool.and_self, m_okv_i, m_okv_l, m_okv_0, m_okv_n0, m_okv_t, RT.okn h5 (okm ha0 k5), RT.okv h5 (okm ha0 k5), RT.okn h5 o5, RT.okv h5 o5]) rfl) (T_c_String_init191 o5 (okm ha0 k5) h5 e7) f5 rfl (fun w9 h9 f9 k9 => ?_) (by decide) (by decide)
  have o9 : okr T6.2.1 (some a1) := (okm o5 k9)
  cases j8
  exact m_Rb.ret b_190 (m_rt_rr (x := (some a1)) d_190_8 rfl) ⟨rfl, o9, h9, f9⟩
def D_c_String_coder (F : Nat) (a0 : Nat) (T0 : tT) : Option (Int32) := (cond (m_c1 .eq (1 : Int32)) (some (1 : Int32)) ((tgi T0 a0 12 1).bind fun v5 => some v5)).bind fun v8 => (yret v8).bind fun v11 => some v11
theorem T_c_String_coder {l : Launch} {w : List mM} {F : Nat} {a0 : Nat} {T0 : tT} {yz : Int32} (ha0 : okr T0.2.1 (some a0)) (h : RT T0 w) (h0 : D_c_String_coder F a0 T0 = some yz) : m_Rb l M_25 (m_ent M_25 [.ref a0] w) (fun v w' => v = some (.int yz) ∧ RT T0 w' ∧ m_Fm w w') T0 T0 0 0 := by
  rw [show m_ent M_25 [.ref a0] w = (0, [(0, .ref a0)], [], w) from by first | rfl | (simp only [m_ent, lv_args_r, lv_args_a, lv_args_i, lv_args_l, lv_args_0]; done) | (simp only [m_ent, lv_args_r, lv_args_a, lv_args_i, lv_args_l, lv_args_0]; rfl)]
  generalize hw0 : w = w0 at h ⊢
  have hF : m_Fm w0 w0 := m_Fm.refl
  rw [D_c_String_coder] at h0
  refine m_Rb.n0 b_25 (x_gst d_25_0 rfl) ?_
  obtain ⟨v8, e2, j9⟩ := bS h0
  have kk1 : ∀ (xz : Int32) (w1 : List mM), xz = v8 → RT T0 w1 → m_Fm w0 w1 → m_Rb l M_25 (14, [(0, .ref a0)], [.int xz], w1) (fun v w' => v = some (.int yz) ∧ RT T0 w' ∧ m_Fm w0 w') T0 T0 0 0 := by
    intro xz w10 ez h10 f10
    rw [ez]
    obtain ⟨v11, e12, j13⟩ := bS j9
    cases j13
    exact m_Rb.rety b_25 d_25_14 rfl e12 ⟨rfl, h10, f10⟩
  cases hc3 : m_c1 .eq (1 : Int32) with
  | true =>
    have j4 := cT hc3 e2
    refine m_Rb.n0 b_25 (x_ift d_25_3 rfl hc3) ?_
    refine m_Rb.n0 b_25 (x_iconst (z := 1) d_25_13 (by decide)) ?_
    exact kk1 _ _ (Option.some.inj j4) h hF
  | false =>
    have j4 := cF hc3 e2
    refine m_Rb.n0 b_25 (x_iff d_25_3 rfl hc3) ?_
    refine m_Rb.n0 b_25 (x_aload_n d_25_6 rfl) ?_
    obtain ⟨v5, e6, j7⟩ := bS j4
    refine m_Rb.tgetI b_25 d_25_7 rfl h e6 ?_
    refine m_Rb.n0 b_25 (x_goto d_25_10 rfl) ?_
    exact kk1 _ _ (Option.some.inj j7) h hF
def D_c_String_isLatin1 (F : Nat) (a0 : Nat) (T0 : tT) : Option (Int32) := (cond (m_c1 .eq (1 : Int32)) (some (0 : Int32)) ((tgi T0 a0 12 1).bind fun v5 => cond (m_c1 .ne v5) (some (0 : Int32)) (some (1 : Int32)))).bind fun v10 => (bret v10).bind fun v13 => some v13
theorem T_c_String_isLatin1 {l : Launch} {w : List mM} {F : Nat} {a0 : Nat} {T0 : tT} {yz : Int32} (ha0 : okr T0.2.1 (some a0)) (h : RT T0 w) (h0 : D_c_String_isLatin1 F a0 T0 = some yz) : m_Rb l M_27 (m_ent M_27 [.ref a0] w) (fun v w' => v = some (.int yz) ∧ RT T0 w' ∧ m_Fm w w') T0 T0 0 0 := by
  rw [show m_ent M_27 [.ref a0] w = (0, [(0, .ref a0)], [], w) from by first | rfl | (simp only [m_ent, lv_args_r, lv_args_a, lv_args_i, lv_args_l, lv_args_0]; done) | (simp only [m_ent, lv_args_r, lv_args_a, lv_args_i, lv_args_l, lv_args_0]; rfl)]
  generalize hw0 : w = w0 at h ⊢
  have hF : m_Fm w0 w0 := m_Fm.refl
  rw [D_c_String_isLatin1] at h0
  refine m_Rb.n0 b_27 (x_gst d_27_0 rfl) ?_
  obtain ⟨v10, e2, j11⟩ := bS h0
  have kk1 : ∀ (xz : Int32) (w1 : List mM), xz = v10 → RT T0 w1 → m_Fm w0 w1 → m_Rb l M_27 (18, [(0, .ref a0)], [.int xz], w1) (fun v w' => v = some (.int yz) ∧ RT T0 w' ∧ m_Fm w0 w') T0 T0 0 0 := by
    intro xz w12 ez h12 f12
    rw [ez]
    obtain ⟨v13, e14, j15⟩ := bS j11
    cases j15
    exact m_Rb.retb b_27 d_27_18 rfl e14 ⟨rfl, h12, f12⟩
  cases hc3 : m_c1 .eq (1 : Int32) with
  | true =>
    have j4 := cT hc3 e2
    refine m_Rb.n0 b_27 (x_ift d_27_3 rfl hc3) ?_
    refine m_Rb.n0 b_27 (x_iconst (z := 0) d_27_17 (by decide)) ?_
    exact kk1 _ _ (Option.some.inj j4) h hF
  | false =>
    have j4 := cF hc3 e2
    refine m_Rb.n0 b_27 (x_iff d_27_3 rfl hc3) ?_
    refine m_Rb.n0 b_27 (x_aload_n d_27_6 rfl) ?_
    obtain ⟨v5, e6, j7⟩ := bS j4
    refine m_Rb.tgetI b_27 d_27_7 rfl h e6 ?_
    cases hc8 : m_c1 .ne v5 with
    | true =>
      have j9 := cT hc8 j7
      refine m_Rb.n0 b_27 (x_ift d_27_10 rfl hc8) ?_
      refine m_Rb.n0 b_27 (x_iconst (z := 0) d_27_17 (by decide)) ?_
      exact kk1 _ _ (Option.some.inj j9) h hF
    | false =>
      have j9 := cF hc8 j7
      refine m_Rb.n0 b_27 (x_iff d_27_10 rfl hc8) ?_
      refine m_Rb.n0 b_27 (x_iconst (z := 1) d_27_13 (by decide)) ?_
      refine m_Rb.n0 b_27 (x_goto d_27_14 rfl) ?_
      exact kk1 _ _ (Option.some.inj j9) h hF
def D_c_StringLatin1_charAt (F : Nat) (p0 : Option Nat) (p1 : Int32) (T0 : tT) : Option (Int32) := (p0).bind fun a1 => (tal T0 a1).bind fun v4 => (cki p1 v4).bind fun _ => (tai T0 a1 3 p1).bind fun v9 => (cret (((v9 &&& (255 : Int32)).toUInt32 % 65536).toInt32)).bind fun v12 => some v12
theorem T_c_StringLatin1_charAt {l : Launch} {w : List mM} {F : Nat} {p0 : Option Nat} {p1 : Int32} {T0 : tT} {yz : Int32} (hp0 : okr T0.2.1 p0) (h : RT T0 w) (h0 : D_c_StringLatin1_charAt F p0 p1 T0 = some yz) : m_Rb l M_28 (m_ent M_28 [rv p0, .int p1] w) (fun v w' => v = some (.int yz) ∧ RT T0 w' ∧ m_Fm w w') T0 T0 2 200 := by
  rw [show m_ent M_28 [rv p0, .int p1] w = (0, [(0, rv p0), (1, .int p1)], [], w) from by first | rfl | (simp only [m_ent, lv_args_r, lv_args_a, lv_args_i, lv_args_l, lv_args_0]; done) | (simp only [m_ent, lv_args_r, lv_args_a, lv_args_i, lv_args_l, lv_args_0]; rfl)]
  generalize hw0 : w = w0 at h ⊢
  have hF : m_Fm w0 w0 := m_Fm.refl
  rw [D_c_StringLatin1_charAt] at h0
  refine m_Rb.n0 b_28 (x_iload_n d_28_0 rfl) ?_
  refine m_Rb.n0 b_28 (x_aloadr_n (x := p0) d_28_1 rfl) ?_
  obtain ⟨a1, e2, j3⟩ := bS h0
  subst e2
  obtain ⟨v4, e5, j6⟩ := bS j3
  refine m_Rb.talen b_28 d_28_2 h e5 ?_
  obtain ⟨_, e7, j8⟩ := bS j6
  refine m_Rb.lift (fun c s k9 => m_Rs.callV b_28 (y_cs d_28_3 rfl q_29 (show m_takeS _ _ = some (_, [_, _], []) from m_takeS_of (Nat.le_of_ble_eq_true rfl) rfl rfl (Nat.le_of_ble_eq_true rfl)) (by simp only [m_okf, List.all_cons, List.all_nil, Bool.and_true, Bool.and_self, m_okv_i, m_okv_l, m_okv_0, m_okv_n0, m_okv_t, RT.okn h hp0, RT.okv h hp0]) rfl) (O_chk (cki_ok e7).1 (cki_ok e7).2) rfl k9 (by decide) (by decide)) ?_
  refine m_Rb.n0 b_28 (x_aload_n d_28_6 rfl) ?_
  refine m_Rb.n0 b_28 (x_iload_n d_28_7 rfl) ?_
  obtain ⟨v9, e10, j11⟩ := bS j8
  refine m_Rb.tgetB b_28 d_28_8 h e10 ?_
  refine m_Rb.n0 b_28 (x_sipush (z := 255) d_28_9 (by decide)) ?_
  refine m_Rb.n0 b_28 (x_iand d_28_12 rfl) ?_
  refine m_Rb.n0 b_28 (x_i2c d_28_13 rfl) ?_
  obtain ⟨v12, e13, j14⟩ := bS j11
  cases j14
  exact m_Rb.retc b_28 d_28_14 rfl e13 ⟨rfl, h, hF⟩
def D_c_String_length (F : Nat) (a0 : Nat) (T0 : tT) : Option (Int32) := (tgr T0 a0 12 0).bind fun v1 => (v1).bind fun a5 => (tal T0 a5).bind fun v8 => (tcl T0 a0 12).bind fun _ => (D_c_String_coder F a0 T0).bind fun v14 => some (v8 >>> (v14 &&& 31))
theorem T_c_String_length {l : Launch} {w : List mM} {F : Nat} {a0 : Nat} {T0 : tT} {yz : Int32} (ha0 : okr T0.2.1 (some a0)) (h : RT T0 w) (h0 : D_c_String_length F a0 T0 = some yz) : m_Rb l M_24 (m_ent M_24 [.ref a0] w) (fun v w' => v = some (.int yz) ∧ RT T0 w' ∧ m_Fm w w') T0 T0 1 100 := by
  rw [show m_ent M_24 [.ref a0] w = (0, [(0, .ref a0)], [], w) from by first | rfl | (simp only [m_ent, lv_args_r, lv_args_a, lv_args_i, lv_args_l, lv_args_0]; done) | (simp only [m_ent, lv_args_r, lv_args_a, lv_args_i, lv_args_l, lv_args_0]; rfl)]
  generalize hw0 : w = w0 at h ⊢
  have hF : m_Fm w0 w0 := m_Fm.refl
  rw [D_c_String_length] at h0
  refine m_Rb.n0 b_24 (x_aload_n d_24_0 rfl) ?_
  obtain ⟨v1, e2, j3⟩ := bS h0
  refine m_Rb.tgetR b_24 d_24_1 rfl h e2 (fun o4 => ?_)
  obtain ⟨a5, e6, j7⟩ := bS j3
  subst e6
  obtain ⟨v8, e9, j10⟩ := bS j7
  refine m_Rb.talen b_24 d_24_4 h e9 ?_
  refine m_Rb.n0 b_24 (x_aload_n d_24_5 rfl) ?_
  obtain ⟨_, e11, j12⟩ := bS j10
  obtain ⟨_, g13⟩ := RT.cls h e11
  obtain ⟨v14, e15, j16⟩ := bS j12
  refine m_Rb.callI b_24 (y_cv d_24_6 rfl q_25 (m_isRecv_of rfl g13) (show m_takeI _ _ = some (_, [_], [_]) from m_takeI_of rfl rfl rfl (Nat.le_of_ble_eq_true rfl)) (by simp only [m_okf, List.all_cons, List.all_nil, Bool.and_true, Bool.and_self, m_okv_i, m_okv_l, m_okv_0, m_okv_n0, m_okv_t, RT.okn h ha0, RT.okv h ha0]) rfl) (T_c_String_coder ha0 h e15) hF rfl (fun w17 h17 f17 k17 => ?_) (by decide) (by decide)
  refine m_Rb.n0 b_24 (x_ishr d_24_9 rfl) ?_
  cases j16
  exact m_Rb.ret b_24 (m_rt_ir d_24_10 rfl rfl) ⟨rfl, h17, f17⟩
def D_c_String_charAt (F : Nat) (a0 : Nat) (p0 : Int32) (T0 : tT) : Option (Int32) := (tcl T0 a0 12).bind fun _ => (D_c_String_isLatin1 F a0 T0).bind fun v4 => cond (m_c1 .eq v4) (none) ((tgr T0 a0 12 0).bind fun v10 => (D_c_StringLatin1_charAt F v10 p0 T0).bind fun v14 => (cret v14).bind fun v18 => some v18)
theorem T_c_String_charAt {l : Launch} {w : List mM} {F : Nat} {a0 : Nat} {p0 : Int32} {T0 : tT} {yz : Int32} (ha0 : okr T0.2.1 (some a0)) (h : RT T0 w) (h0 : D_c_String_charAt F a0 p0 T0 = some yz) : m_Rb l M_26 (m_ent M_26 [.ref a0, .int p0] w) (fun v w' => v = some (.int yz) ∧ RT T0 w' ∧ m_Fm w w') T0 T0 3 300 := by
  rw [show m_ent M_26 [.ref a0, .int p0] w = (0, [(0, .ref a0), (1, .int p0)], [], w) from by first | rfl | (simp only [m_ent, lv_args_r, lv_args_a, lv_args_i, lv_args_l, lv_args_0]; done) | (simp only [m_ent, lv_args_r, lv_args_a, lv_args_i, lv_args_l, lv_args_0]; rfl)]
  generalize hw0 : w = w0 at h ⊢
  have hF : m_Fm w0 w0 := m_Fm.refl
  rw [D_c_String_charAt] at h0
  refine m_Rb.n0 b_26 (x_aload_n d_26_0 rfl) ?_
  obtain ⟨_, e1, j2⟩ := bS h0
  obtain ⟨_, g3⟩ := RT.cls h e1
  obtain ⟨v4, e5, j6⟩ := bS j2
  refine m_Rb.callI b_26 (y_cv d_26_1 rfl q_27 (m_isRecv_of rfl g3) (show m_takeI _ _ = some (_, [_], []) from m_takeI_of rfl rfl rfl (Nat.le_of_ble_eq_true rfl)) (by simp only [m_okf, List.all_cons, List.all_nil, Bool.and_true, Bool.and_self, m_okv_i, m_okv_l, m_okv_0, m_okv_n0, m_okv_t, RT.okn h ha0, RT.okv h ha0]) rfl) (T_c_String_isLatin1 ha0 h e5) hF rfl (fun w7 h7 f7 k7 => ?_) (by decide) (by decide)
  cases hc8 : m_c1 .eq v4 with
  | true =>
    have j9 := cT hc8 j6
    refine m_Rb.n0 b_26 (x_ift d_26_4 rfl hc8) ?_
    cases j9
  | false =>
    have j9 := cF hc8 j6
    refine m_Rb.n0 b_26 (x_iff d_26_4 rfl hc8) ?_
    refine m_Rb.n0 b_26 (x_aload_n d_26_7 rfl) ?_
    obtain ⟨v10, e11, j12⟩ := bS j9
    refine m_Rb.tgetR b_26 d_26_8 rfl h7 e11 (fun o13 => ?_)
    refine m_Rb.n0 b_26 (x_iload_n d_26_11 rfl) ?_
    obtain ⟨v14, e15, j16⟩ := bS j12
    refine m_Rb.callI b_26 (y_cs d_26_12 rfl q_28 (show m_takeS _ _ = some (_, [_, _], []) from m_takeS_of (Nat.le_of_ble_eq_true rfl) rfl rfl (Nat.le_of_ble_eq_true rfl)) (by simp only [m_okf, List.all_cons, List.all_nil, Bool.and_true, Bool.and_self, m_okv_i, m_okv_l, m_okv_0, m_okv_n0, m_okv_t, RT.okn h7 ha0, RT.okv h7 ha0, RT.okv h7 o13]) (decide_eq_true (by simp only [lgs_r, lgs_a, lgs_i, lgs_l, lgs_0]; exact Nat.le_of_ble_eq_true rfl))) (T_c_StringLatin1_charAt o13 h7 e15) f7 rfl (fun w17 h17 f17 k17 => ?_) (by decide) (by decide)
    obtain ⟨v18, e19, j20⟩ := bS j16
    cases j20
    exact m_Rb.retc b_26 d_26_15 rfl e19 ⟨rfl, h17, f17⟩
