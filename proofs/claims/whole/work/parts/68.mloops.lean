/-! The reference's methods cut at their loops. Written by wip/tool/mstate.py. -/
theorem q_250 : m_mt[250]? = some M_250 := by rfl
theorem q_304 : m_mt[304]? = some M_304 := by rfl
theorem q_305 : m_mt[305]? = some M_305 := by rfl
theorem q_316 : m_mt[316]? = some M_316 := by rfl
theorem q_286 : m_mt[286]? = some M_286 := by rfl
theorem q_277 : m_mt[277]? = some M_277 := by rfl
theorem q_297 : m_mt[297]? = some M_297 := by rfl
theorem q_299 : m_mt[299]? = some M_299 := by rfl
theorem b_250 : m_bOk M_250 := (m_mt_ok M_250 (List.mem_of_getElem? q_250)).body
theorem b_304 : m_bOk M_304 := (m_mt_ok M_304 (List.mem_of_getElem? q_304)).body
theorem b_305 : m_bOk M_305 := (m_mt_ok M_305 (List.mem_of_getElem? q_305)).body
theorem b_316 : m_bOk M_316 := (m_mt_ok M_316 (List.mem_of_getElem? q_316)).body
theorem b_286 : m_bOk M_286 := (m_mt_ok M_286 (List.mem_of_getElem? q_286)).body
theorem b_277 : m_bOk M_277 := (m_mt_ok M_277 (List.mem_of_getElem? q_277)).body
theorem b_297 : m_bOk M_297 := (m_mt_ok M_297 (List.mem_of_getElem? q_297)).body
theorem b_299 : m_bOk M_299 := (m_mt_ok M_299 (List.mem_of_getElem? q_299)).body
theorem d_250_0 : m_dn M_250 0 (.aload_n 0) 1 1 := by decide +kernel
theorem d_250_1 : m_dn M_250 1 (.getfield 166) 3 4 := by decide +kernel
theorem d_250_10 : m_dn M_250 10 (.getfield 163) 3 13 := by decide +kernel
theorem d_250_101 : m_dn M_250 101 (.iload_n 3) 1 102 := by decide +kernel
theorem d_250_102 : m_dn M_250 102 (.ireturn) 1 103 := by decide +kernel
theorem d_250_13 : m_dn M_250 13 (.istore_n 2) 1 14 := by decide +kernel
theorem d_250_14 : m_dn M_250 14 (.iconst 0) 1 15 := by decide +kernel
theorem d_250_15 : m_dn M_250 15 (.istore_n 3) 1 16 := by decide +kernel
theorem d_250_16 : m_dn M_250 16 (.aload_n 0) 1 17 := by decide +kernel
theorem d_250_17 : m_dn M_250 17 (.invokevirtual 173) 3 20 := by decide +kernel
theorem d_250_20 : m_dn M_250 20 (.invokestatic 193) 3 23 := by decide +kernel
theorem d_250_23 : m_dn M_250 23 (.ifCond .eq 39) 3 26 := by decide +kernel
theorem d_250_26 : m_dn M_250 26 (.aload_n 0) 1 27 := by decide +kernel
theorem d_250_27 : m_dn M_250 27 (.getfield 163) 3 30 := by decide +kernel
theorem d_250_30 : m_dn M_250 30 (.iload_n 2) 1 31 := by decide +kernel
theorem d_250_31 : m_dn M_250 31 (.isub) 1 32 := by decide +kernel
theorem d_250_32 : m_dn M_250 32 (.iconst 5) 1 33 := by decide +kernel
theorem d_250_33 : m_dn M_250 33 (.if_icmp .ge 29) 3 36 := by decide +kernel
theorem d_250_36 : m_dn M_250 36 (.bipush 10) 2 38 := by decide +kernel
theorem d_250_38 : m_dn M_250 38 (.iload_n 3) 1 39 := by decide +kernel
theorem d_250_39 : m_dn M_250 39 (.imul) 1 40 := by decide +kernel
theorem d_250_4 : m_dn M_250 4 (.ifCond .eq 5) 3 7 := by decide +kernel
theorem d_250_40 : m_dn M_250 40 (.aload_n 0) 1 41 := by decide +kernel
theorem d_250_41 : m_dn M_250 41 (.invokevirtual 173) 3 44 := by decide +kernel
theorem d_250_44 : m_dn M_250 44 (.iadd) 1 45 := by decide +kernel
theorem d_250_45 : m_dn M_250 45 (.bipush 48) 2 47 := by decide +kernel
theorem d_250_47 : m_dn M_250 47 (.isub) 1 48 := by decide +kernel
theorem d_250_48 : m_dn M_250 48 (.istore_n 3) 1 49 := by decide +kernel
theorem d_250_49 : m_dn M_250 49 (.aload_n 0) 1 50 := by decide +kernel
theorem d_250_50 : m_dn M_250 50 (.dup) 1 51 := by decide +kernel
theorem d_250_51 : m_dn M_250 51 (.getfield 163) 3 54 := by decide +kernel
theorem d_250_54 : m_dn M_250 54 (.iconst 1) 1 55 := by decide +kernel
theorem d_250_55 : m_dn M_250 55 (.iadd) 1 56 := by decide +kernel
theorem d_250_56 : m_dn M_250 56 (.putfield 163) 3 59 := by decide +kernel
theorem d_250_59 : m_dn M_250 59 (.goto (-43)) 3 62 := by decide +kernel
theorem d_250_62 : m_dn M_250 62 (.aload_n 0) 1 63 := by decide +kernel
theorem d_250_63 : m_dn M_250 63 (.getfield 163) 3 66 := by decide +kernel
theorem d_250_66 : m_dn M_250 66 (.iload_n 2) 1 67 := by decide +kernel
theorem d_250_67 : m_dn M_250 67 (.if_icmp .ne 12) 3 70 := by decide +kernel
theorem d_250_7 : m_dn M_250 7 (.iconst (-1)) 1 8 := by decide +kernel
theorem d_250_70 : m_dn M_250 70 (.aload_n 0) 1 71 := by decide +kernel
theorem d_250_71 : m_dn M_250 71 (.aload_n 0) 1 72 := by decide +kernel
theorem d_250_72 : m_dn M_250 72 (.getfield 163) 3 75 := by decide +kernel
theorem d_250_75 : m_dn M_250 75 (.invokevirtual 177) 3 78 := by decide +kernel
theorem d_250_78 : m_dn M_250 78 (.pop) 1 79 := by decide +kernel
theorem d_250_79 : m_dn M_250 79 (.iload_n 3) 1 80 := by decide +kernel
theorem d_250_8 : m_dn M_250 8 (.ireturn) 1 9 := by decide +kernel
theorem d_250_80 : m_dn M_250 80 (.iload_n 1) 1 81 := by decide +kernel
theorem d_250_81 : m_dn M_250 81 (.if_icmp .le 9) 3 84 := by decide +kernel
theorem d_250_84 : m_dn M_250 84 (.aload_n 0) 1 85 := by decide +kernel
theorem d_250_85 : m_dn M_250 85 (.iload_n 2) 1 86 := by decide +kernel
theorem d_250_86 : m_dn M_250 86 (.invokevirtual 177) 3 89 := by decide +kernel
theorem d_250_89 : m_dn M_250 89 (.pop) 1 90 := by decide +kernel
theorem d_250_9 : m_dn M_250 9 (.aload_n 0) 1 10 := by decide +kernel
theorem d_250_90 : m_dn M_250 90 (.aload_n 0) 1 91 := by decide +kernel
theorem d_250_91 : m_dn M_250 91 (.getfield 166) 3 94 := by decide +kernel
theorem d_250_94 : m_dn M_250 94 (.ifCond .eq 7) 3 97 := by decide +kernel
theorem d_250_97 : m_dn M_250 97 (.iconst (-1)) 1 98 := by decide +kernel
theorem d_250_98 : m_dn M_250 98 (.goto 4) 3 101 := by decide +kernel
theorem d_277_0 : m_dn M_277 0 (.iconst 0) 1 1 := by decide +kernel
theorem d_277_1 : m_dn M_277 1 (.istore_n 3) 1 2 := by decide +kernel
theorem d_277_12 : m_dn M_277 12 (.bipush 8) 2 14 := by decide +kernel
theorem d_277_14 : m_dn M_277 14 (.iload_n 1) 1 15 := by decide +kernel
theorem d_277_15 : m_dn M_277 15 (.imul) 1 16 := by decide +kernel
theorem d_277_16 : m_dn M_277 16 (.iload_n 3) 1 17 := by decide +kernel
theorem d_277_17 : m_dn M_277 17 (.iadd) 1 18 := by decide +kernel
theorem d_277_18 : m_dn M_277 18 (.baload) 1 19 := by decide +kernel
theorem d_277_19 : m_dn M_277 19 (.ifCond .eq 30) 3 22 := by decide +kernel
theorem d_277_2 : m_dn M_277 2 (.iload_n 3) 1 3 := by decide +kernel
theorem d_277_22 : m_dn M_277 22 (.aload_n 0) 1 23 := by decide +kernel
theorem d_277_23 : m_dn M_277 23 (.bipush 8) 2 25 := by decide +kernel
theorem d_277_25 : m_dn M_277 25 (.iload_n 1) 1 26 := by decide +kernel
theorem d_277_26 : m_dn M_277 26 (.imul) 1 27 := by decide +kernel
theorem d_277_27 : m_dn M_277 27 (.iload_n 3) 1 28 := by decide +kernel
theorem d_277_28 : m_dn M_277 28 (.iadd) 1 29 := by decide +kernel
theorem d_277_29 : m_dn M_277 29 (.bipush 8) 2 31 := by decide +kernel
theorem d_277_3 : m_dn M_277 3 (.bipush 8) 2 5 := by decide +kernel
theorem d_277_31 : m_dn M_277 31 (.invokevirtual 431) 3 34 := by decide +kernel
theorem d_277_34 : m_dn M_277 34 (.iload_n 2) 1 35 := by decide +kernel
theorem d_277_35 : m_dn M_277 35 (.invokestatic 433) 3 38 := by decide +kernel
theorem d_277_38 : m_dn M_277 38 (.iload_n 3) 1 39 := by decide +kernel
theorem d_277_39 : m_dn M_277 39 (.if_icmp .ne 10) 3 42 := by decide +kernel
theorem d_277_42 : m_dn M_277 42 (.bipush 8) 2 44 := by decide +kernel
theorem d_277_44 : m_dn M_277 44 (.iload_n 1) 1 45 := by decide +kernel
theorem d_277_45 : m_dn M_277 45 (.imul) 1 46 := by decide +kernel
theorem d_277_46 : m_dn M_277 46 (.iload_n 3) 1 47 := by decide +kernel
theorem d_277_47 : m_dn M_277 47 (.iadd) 1 48 := by decide +kernel
theorem d_277_48 : m_dn M_277 48 (.ireturn) 1 49 := by decide +kernel
theorem d_277_49 : m_dn M_277 49 (.iinc 3 1) 3 52 := by decide +kernel
theorem d_277_5 : m_dn M_277 5 (.if_icmp .ge 50) 3 8 := by decide +kernel
theorem d_277_52 : m_dn M_277 52 (.goto (-50)) 3 55 := by decide +kernel
theorem d_277_55 : m_dn M_277 55 (.iconst (-1)) 1 56 := by decide +kernel
theorem d_277_56 : m_dn M_277 56 (.ireturn) 1 57 := by decide +kernel
theorem d_277_8 : m_dn M_277 8 (.aload_n 0) 1 9 := by decide +kernel
theorem d_277_9 : m_dn M_277 9 (.getfield 66) 3 12 := by decide +kernel
theorem d_286_0 : m_dn M_286 0 (.iconst 0) 1 1 := by decide +kernel
theorem d_286_1 : m_dn M_286 1 (.istore_n 3) 1 2 := by decide +kernel
theorem d_286_11 : m_dn M_286 11 (.bipush 16) 2 13 := by decide +kernel
theorem d_286_13 : m_dn M_286 13 (.iload 4) 2 15 := by decide +kernel
theorem d_286_15 : m_dn M_286 15 (.imul) 1 16 := by decide +kernel
theorem d_286_16 : m_dn M_286 16 (.iload_n 2) 1 17 := by decide +kernel
theorem d_286_17 : m_dn M_286 17 (.if_icmp .ge 16) 3 20 := by decide +kernel
theorem d_286_2 : m_dn M_286 2 (.iload_n 0) 1 3 := by decide +kernel
theorem d_286_20 : m_dn M_286 20 (.iload_n 3) 1 21 := by decide +kernel
theorem d_286_21 : m_dn M_286 21 (.iconst 1) 1 22 := by decide +kernel
theorem d_286_22 : m_dn M_286 22 (.iload 4) 2 24 := by decide +kernel
theorem d_286_24 : m_dn M_286 24 (.ishl) 1 25 := by decide +kernel
theorem d_286_25 : m_dn M_286 25 (.ior) 1 26 := by decide +kernel
theorem d_286_26 : m_dn M_286 26 (.istore_n 3) 1 27 := by decide +kernel
theorem d_286_27 : m_dn M_286 27 (.iinc 4 1) 3 30 := by decide +kernel
theorem d_286_3 : m_dn M_286 3 (.istore 4) 2 5 := by decide +kernel
theorem d_286_30 : m_dn M_286 30 (.goto (-25)) 3 33 := by decide +kernel
theorem d_286_33 : m_dn M_286 33 (.iload_n 3) 1 34 := by decide +kernel
theorem d_286_34 : m_dn M_286 34 (.ireturn) 1 35 := by decide +kernel
theorem d_286_5 : m_dn M_286 5 (.iload 4) 2 7 := by decide +kernel
theorem d_286_7 : m_dn M_286 7 (.iload_n 1) 1 8 := by decide +kernel
theorem d_286_8 : m_dn M_286 8 (.if_icmp .gt 25) 3 11 := by decide +kernel
theorem d_297_0 : m_dn M_297 0 (.iconst 0) 1 1 := by decide +kernel
theorem d_297_1 : m_dn M_297 1 (.istore_n 3) 1 2 := by decide +kernel
theorem d_297_11 : m_dn M_297 11 (.sipush 1024) 3 14 := by decide +kernel
theorem d_297_14 : m_dn M_297 14 (.iload_n 1) 1 15 := by decide +kernel
theorem d_297_15 : m_dn M_297 15 (.imul) 1 16 := by decide +kernel
theorem d_297_16 : m_dn M_297 16 (.sipush 1024) 3 19 := by decide +kernel
theorem d_297_19 : m_dn M_297 19 (.iadd) 1 20 := by decide +kernel
theorem d_297_2 : m_dn M_297 2 (.sipush 1024) 3 5 := by decide +kernel
theorem d_297_20 : m_dn M_297 20 (.if_icmp .ge 46) 3 23 := by decide +kernel
theorem d_297_23 : m_dn M_297 23 (.iload_n 3) 1 24 := by decide +kernel
theorem d_297_24 : m_dn M_297 24 (.aload_n 0) 1 25 := by decide +kernel
theorem d_297_25 : m_dn M_297 25 (.getfield 66) 3 28 := by decide +kernel
theorem d_297_28 : m_dn M_297 28 (.iload 4) 2 30 := by decide +kernel
theorem d_297_30 : m_dn M_297 30 (.baload) 1 31 := by decide +kernel
theorem d_297_31 : m_dn M_297 31 (.ifCond .eq 26) 3 34 := by decide +kernel
theorem d_297_34 : m_dn M_297 34 (.iload_n 2) 1 35 := by decide +kernel
theorem d_297_35 : m_dn M_297 35 (.ifCond .eq 13) 3 38 := by decide +kernel
theorem d_297_38 : m_dn M_297 38 (.aload_n 0) 1 39 := by decide +kernel
theorem d_297_39 : m_dn M_297 39 (.getfield 69) 3 42 := by decide +kernel
theorem d_297_42 : m_dn M_297 42 (.iload 4) 2 44 := by decide +kernel
theorem d_297_44 : m_dn M_297 44 (.baload) 1 45 := by decide +kernel
theorem d_297_45 : m_dn M_297 45 (.ifCond .eq 12) 3 48 := by decide +kernel
theorem d_297_48 : m_dn M_297 48 (.aload_n 0) 1 49 := by decide +kernel
theorem d_297_49 : m_dn M_297 49 (.iload 4) 2 51 := by decide +kernel
theorem d_297_5 : m_dn M_297 5 (.iload_n 1) 1 6 := by decide +kernel
theorem d_297_51 : m_dn M_297 51 (.invokevirtual 412) 3 54 := by decide +kernel
theorem d_297_54 : m_dn M_297 54 (.goto 4) 3 57 := by decide +kernel
theorem d_297_57 : m_dn M_297 57 (.iconst 0) 1 58 := by decide +kernel
theorem d_297_58 : m_dn M_297 58 (.iadd) 1 59 := by decide +kernel
theorem d_297_59 : m_dn M_297 59 (.istore_n 3) 1 60 := by decide +kernel
theorem d_297_6 : m_dn M_297 6 (.imul) 1 7 := by decide +kernel
theorem d_297_60 : m_dn M_297 60 (.iinc 4 1) 3 63 := by decide +kernel
theorem d_297_63 : m_dn M_297 63 (.goto (-54)) 3 66 := by decide +kernel
theorem d_297_66 : m_dn M_297 66 (.iload_n 3) 1 67 := by decide +kernel
theorem d_297_67 : m_dn M_297 67 (.ireturn) 1 68 := by decide +kernel
theorem d_297_7 : m_dn M_297 7 (.istore 4) 2 9 := by decide +kernel
theorem d_297_9 : m_dn M_297 9 (.iload 4) 2 11 := by decide +kernel
theorem d_299_0 : m_dn M_299 0 (.iconst (-1)) 1 1 := by decide +kernel
theorem d_299_1 : m_dn M_299 1 (.istore_n 3) 1 2 := by decide +kernel
theorem d_299_11 : m_dn M_299 11 (.sipush 1024) 3 14 := by decide +kernel
theorem d_299_14 : m_dn M_299 14 (.iload_n 1) 1 15 := by decide +kernel
theorem d_299_15 : m_dn M_299 15 (.imul) 1 16 := by decide +kernel
theorem d_299_16 : m_dn M_299 16 (.sipush 1024) 3 19 := by decide +kernel
theorem d_299_19 : m_dn M_299 19 (.iadd) 1 20 := by decide +kernel
theorem d_299_2 : m_dn M_299 2 (.sipush 1024) 3 5 := by decide +kernel
theorem d_299_20 : m_dn M_299 20 (.if_icmp .ge 54) 3 23 := by decide +kernel
theorem d_299_23 : m_dn M_299 23 (.aload_n 0) 1 24 := by decide +kernel
theorem d_299_24 : m_dn M_299 24 (.getfield 66) 3 27 := by decide +kernel
theorem d_299_27 : m_dn M_299 27 (.iload 4) 2 29 := by decide +kernel
theorem d_299_29 : m_dn M_299 29 (.baload) 1 30 := by decide +kernel
theorem d_299_30 : m_dn M_299 30 (.ifCond .eq 38) 3 33 := by decide +kernel
theorem d_299_33 : m_dn M_299 33 (.aload_n 0) 1 34 := by decide +kernel
theorem d_299_34 : m_dn M_299 34 (.getfield 69) 3 37 := by decide +kernel
theorem d_299_37 : m_dn M_299 37 (.iload 4) 2 39 := by decide +kernel
theorem d_299_39 : m_dn M_299 39 (.baload) 1 40 := by decide +kernel
theorem d_299_40 : m_dn M_299 40 (.iload_n 2) 1 41 := by decide +kernel
theorem d_299_41 : m_dn M_299 41 (.if_icmp .ne 27) 3 44 := by decide +kernel
theorem d_299_44 : m_dn M_299 44 (.iload_n 3) 1 45 := by decide +kernel
theorem d_299_45 : m_dn M_299 45 (.iconst (-1)) 1 46 := by decide +kernel
theorem d_299_46 : m_dn M_299 46 (.if_icmp .eq 19) 3 49 := by decide +kernel
theorem d_299_49 : m_dn M_299 49 (.aload_n 0) 1 50 := by decide +kernel
theorem d_299_5 : m_dn M_299 5 (.iload_n 1) 1 6 := by decide +kernel
theorem d_299_50 : m_dn M_299 50 (.getfield 88) 3 53 := by decide +kernel
theorem d_299_53 : m_dn M_299 53 (.iload 4) 2 55 := by decide +kernel
theorem d_299_55 : m_dn M_299 55 (.iaload) 1 56 := by decide +kernel
theorem d_299_56 : m_dn M_299 56 (.aload_n 0) 1 57 := by decide +kernel
theorem d_299_57 : m_dn M_299 57 (.getfield 88) 3 60 := by decide +kernel
theorem d_299_6 : m_dn M_299 6 (.imul) 1 7 := by decide +kernel
theorem d_299_60 : m_dn M_299 60 (.iload_n 3) 1 61 := by decide +kernel
theorem d_299_61 : m_dn M_299 61 (.iaload) 1 62 := by decide +kernel
theorem d_299_62 : m_dn M_299 62 (.if_icmp .ge 6) 3 65 := by decide +kernel
theorem d_299_65 : m_dn M_299 65 (.iload 4) 2 67 := by decide +kernel
theorem d_299_67 : m_dn M_299 67 (.istore_n 3) 1 68 := by decide +kernel
theorem d_299_68 : m_dn M_299 68 (.iinc 4 1) 3 71 := by decide +kernel
theorem d_299_7 : m_dn M_299 7 (.istore 4) 2 9 := by decide +kernel
theorem d_299_71 : m_dn M_299 71 (.goto (-62)) 3 74 := by decide +kernel
theorem d_299_74 : m_dn M_299 74 (.iload_n 3) 1 75 := by decide +kernel
theorem d_299_75 : m_dn M_299 75 (.ireturn) 1 76 := by decide +kernel
theorem d_299_9 : m_dn M_299 9 (.iload 4) 2 11 := by decide +kernel
theorem d_304_0 : m_dn M_304 0 (.iconst 0) 1 1 := by decide +kernel
theorem d_304_1 : m_dn M_304 1 (.istore 6) 2 3 := by decide +kernel
theorem d_304_10 : m_dn M_304 10 (.aload_n 0) 1 11 := by decide +kernel
theorem d_304_11 : m_dn M_304 11 (.getfield 140) 3 14 := by decide +kernel
theorem d_304_14 : m_dn M_304 14 (.iload 6) 2 16 := by decide +kernel
theorem d_304_16 : m_dn M_304 16 (.iconst 0) 1 17 := by decide +kernel
theorem d_304_17 : m_dn M_304 17 (.iastore) 1 18 := by decide +kernel
theorem d_304_18 : m_dn M_304 18 (.iinc 6 1) 3 21 := by decide +kernel
theorem d_304_21 : m_dn M_304 21 (.goto (-18)) 3 24 := by decide +kernel
theorem d_304_24 : m_dn M_304 24 (.aload_n 0) 1 25 := by decide +kernel
theorem d_304_25 : m_dn M_304 25 (.getfield 140) 3 28 := by decide +kernel
theorem d_304_28 : m_dn M_304 28 (.iconst 0) 1 29 := by decide +kernel
theorem d_304_29 : m_dn M_304 29 (.iload_n 1) 1 30 := by decide +kernel
theorem d_304_3 : m_dn M_304 3 (.iload 6) 2 5 := by decide +kernel
theorem d_304_30 : m_dn M_304 30 (.iastore) 1 31 := by decide +kernel
theorem d_304_31 : m_dn M_304 31 (.aload_n 0) 1 32 := by decide +kernel
theorem d_304_32 : m_dn M_304 32 (.getfield 140) 3 35 := by decide +kernel
theorem d_304_35 : m_dn M_304 35 (.iconst 1) 1 36 := by decide +kernel
theorem d_304_36 : m_dn M_304 36 (.iload_n 2) 1 37 := by decide +kernel
theorem d_304_37 : m_dn M_304 37 (.iastore) 1 38 := by decide +kernel
theorem d_304_38 : m_dn M_304 38 (.aload_n 0) 1 39 := by decide +kernel
theorem d_304_39 : m_dn M_304 39 (.getfield 140) 3 42 := by decide +kernel
theorem d_304_42 : m_dn M_304 42 (.iconst 2) 1 43 := by decide +kernel
theorem d_304_43 : m_dn M_304 43 (.iload_n 3) 1 44 := by decide +kernel
theorem d_304_44 : m_dn M_304 44 (.iastore) 1 45 := by decide +kernel
theorem d_304_45 : m_dn M_304 45 (.aload_n 0) 1 46 := by decide +kernel
theorem d_304_46 : m_dn M_304 46 (.getfield 140) 3 49 := by decide +kernel
theorem d_304_49 : m_dn M_304 49 (.iconst 3) 1 50 := by decide +kernel
theorem d_304_5 : m_dn M_304 5 (.bipush 22) 2 7 := by decide +kernel
theorem d_304_50 : m_dn M_304 50 (.iload 4) 2 52 := by decide +kernel
theorem d_304_52 : m_dn M_304 52 (.iastore) 1 53 := by decide +kernel
theorem d_304_53 : m_dn M_304 53 (.aload_n 0) 1 54 := by decide +kernel
theorem d_304_54 : m_dn M_304 54 (.getfield 140) 3 57 := by decide +kernel
theorem d_304_57 : m_dn M_304 57 (.iconst 4) 1 58 := by decide +kernel
theorem d_304_58 : m_dn M_304 58 (.iload 5) 2 60 := by decide +kernel
theorem d_304_60 : m_dn M_304 60 (.iconst 4) 1 61 := by decide +kernel
theorem d_304_61 : m_dn M_304 61 (.idiv) 1 62 := by decide +kernel
theorem d_304_62 : m_dn M_304 62 (.iastore) 1 63 := by decide +kernel
theorem d_304_63 : m_dn M_304 63 (.aload_n 0) 1 64 := by decide +kernel
theorem d_304_64 : m_dn M_304 64 (.getfield 140) 3 67 := by decide +kernel
theorem d_304_67 : m_dn M_304 67 (.iconst 5) 1 68 := by decide +kernel
theorem d_304_68 : m_dn M_304 68 (.iload 5) 2 70 := by decide +kernel
theorem d_304_7 : m_dn M_304 7 (.if_icmp .ge 17) 3 10 := by decide +kernel
theorem d_304_70 : m_dn M_304 70 (.iconst 4) 1 71 := by decide +kernel
theorem d_304_71 : m_dn M_304 71 (.irem) 1 72 := by decide +kernel
theorem d_304_72 : m_dn M_304 72 (.iastore) 1 73 := by decide +kernel
theorem d_304_73 : m_dn M_304 73 (.return_) 1 74 := by decide +kernel
theorem d_305_0 : m_dn M_305 0 (.aload_n 0) 1 1 := by decide +kernel
theorem d_305_1 : m_dn M_305 1 (.getfield 533) 3 4 := by decide +kernel
theorem d_305_10 : m_dn M_305 10 (.dup) 1 11 := by decide +kernel
theorem d_305_11 : m_dn M_305 11 (.getfield 536) 3 14 := by decide +kernel
theorem d_305_14 : m_dn M_305 14 (.iconst 1) 1 15 := by decide +kernel
theorem d_305_15 : m_dn M_305 15 (.iadd) 1 16 := by decide +kernel
theorem d_305_16 : m_dn M_305 16 (.putfield 536) 3 19 := by decide +kernel
theorem d_305_19 : m_dn M_305 19 (.return_) 1 20 := by decide +kernel
theorem d_305_20 : m_dn M_305 20 (.iconst 0) 1 21 := by decide +kernel
theorem d_305_21 : m_dn M_305 21 (.istore_n 1) 1 22 := by decide +kernel
theorem d_305_22 : m_dn M_305 22 (.iload_n 1) 1 23 := by decide +kernel
theorem d_305_23 : m_dn M_305 23 (.bipush 22) 2 25 := by decide +kernel
theorem d_305_25 : m_dn M_305 25 (.if_icmp .ge 29) 3 28 := by decide +kernel
theorem d_305_28 : m_dn M_305 28 (.aload_n 0) 1 29 := by decide +kernel
theorem d_305_29 : m_dn M_305 29 (.getfield 137) 3 32 := by decide +kernel
theorem d_305_32 : m_dn M_305 32 (.bipush 22) 2 34 := by decide +kernel
theorem d_305_34 : m_dn M_305 34 (.aload_n 0) 1 35 := by decide +kernel
theorem d_305_35 : m_dn M_305 35 (.getfield 533) 3 38 := by decide +kernel
theorem d_305_38 : m_dn M_305 38 (.imul) 1 39 := by decide +kernel
theorem d_305_39 : m_dn M_305 39 (.iload_n 1) 1 40 := by decide +kernel
theorem d_305_4 : m_dn M_305 4 (.bipush 100) 2 6 := by decide +kernel
theorem d_305_40 : m_dn M_305 40 (.iadd) 1 41 := by decide +kernel
theorem d_305_41 : m_dn M_305 41 (.aload_n 0) 1 42 := by decide +kernel
theorem d_305_42 : m_dn M_305 42 (.getfield 140) 3 45 := by decide +kernel
theorem d_305_45 : m_dn M_305 45 (.iload_n 1) 1 46 := by decide +kernel
theorem d_305_46 : m_dn M_305 46 (.iaload) 1 47 := by decide +kernel
theorem d_305_47 : m_dn M_305 47 (.iastore) 1 48 := by decide +kernel
theorem d_305_48 : m_dn M_305 48 (.iinc 1 1) 3 51 := by decide +kernel
theorem d_305_51 : m_dn M_305 51 (.goto (-29)) 3 54 := by decide +kernel
theorem d_305_54 : m_dn M_305 54 (.aload_n 0) 1 55 := by decide +kernel
theorem d_305_55 : m_dn M_305 55 (.dup) 1 56 := by decide +kernel
theorem d_305_56 : m_dn M_305 56 (.getfield 533) 3 59 := by decide +kernel
theorem d_305_59 : m_dn M_305 59 (.iconst 1) 1 60 := by decide +kernel
theorem d_305_6 : m_dn M_305 6 (.if_icmp .ne 14) 3 9 := by decide +kernel
theorem d_305_60 : m_dn M_305 60 (.iadd) 1 61 := by decide +kernel
theorem d_305_61 : m_dn M_305 61 (.putfield 533) 3 64 := by decide +kernel
theorem d_305_64 : m_dn M_305 64 (.return_) 1 65 := by decide +kernel
theorem d_305_9 : m_dn M_305 9 (.aload_n 0) 1 10 := by decide +kernel
theorem d_316_0 : m_dn M_316 0 (.bipush 22) 2 2 := by decide +kernel
theorem d_316_12 : m_dn M_316 12 (.iconst 1) 1 13 := by decide +kernel
theorem d_316_13 : m_dn M_316 13 (.isub) 1 14 := by decide +kernel
theorem d_316_14 : m_dn M_316 14 (.imul) 1 15 := by decide +kernel
theorem d_316_15 : m_dn M_316 15 (.if_icmp .ge 24) 3 18 := by decide +kernel
theorem d_316_18 : m_dn M_316 18 (.aload_n 0) 1 19 := by decide +kernel
theorem d_316_19 : m_dn M_316 19 (.getfield 137) 3 22 := by decide +kernel
theorem d_316_2 : m_dn M_316 2 (.iload_n 1) 1 3 := by decide +kernel
theorem d_316_22 : m_dn M_316 22 (.iload_n 2) 1 23 := by decide +kernel
theorem d_316_23 : m_dn M_316 23 (.aload_n 0) 1 24 := by decide +kernel
theorem d_316_24 : m_dn M_316 24 (.getfield 137) 3 27 := by decide +kernel
theorem d_316_27 : m_dn M_316 27 (.iload_n 2) 1 28 := by decide +kernel
theorem d_316_28 : m_dn M_316 28 (.bipush 22) 2 30 := by decide +kernel
theorem d_316_3 : m_dn M_316 3 (.imul) 1 4 := by decide +kernel
theorem d_316_30 : m_dn M_316 30 (.iadd) 1 31 := by decide +kernel
theorem d_316_31 : m_dn M_316 31 (.iaload) 1 32 := by decide +kernel
theorem d_316_32 : m_dn M_316 32 (.iastore) 1 33 := by decide +kernel
theorem d_316_33 : m_dn M_316 33 (.iinc 2 1) 3 36 := by decide +kernel
theorem d_316_36 : m_dn M_316 36 (.goto (-31)) 3 39 := by decide +kernel
theorem d_316_39 : m_dn M_316 39 (.aload_n 0) 1 40 := by decide +kernel
theorem d_316_4 : m_dn M_316 4 (.istore_n 2) 1 5 := by decide +kernel
theorem d_316_40 : m_dn M_316 40 (.dup) 1 41 := by decide +kernel
theorem d_316_41 : m_dn M_316 41 (.getfield 533) 3 44 := by decide +kernel
theorem d_316_44 : m_dn M_316 44 (.iconst 1) 1 45 := by decide +kernel
theorem d_316_45 : m_dn M_316 45 (.isub) 1 46 := by decide +kernel
theorem d_316_46 : m_dn M_316 46 (.putfield 533) 3 49 := by decide +kernel
theorem d_316_49 : m_dn M_316 49 (.return_) 1 50 := by decide +kernel
theorem d_316_5 : m_dn M_316 5 (.iload_n 2) 1 6 := by decide +kernel
theorem d_316_6 : m_dn M_316 6 (.bipush 22) 2 8 := by decide +kernel
theorem d_316_8 : m_dn M_316 8 (.aload_n 0) 1 9 := by decide +kernel
theorem d_316_9 : m_dn M_316 9 (.getfield 533) 3 12 := by decide +kernel
theorem K_number_0_0 {l : Launch} {w w0 : List mM} {S : mS} {P : Option Value → List mM → Prop} {c s : Nat} {most : Int32} (h : m_RM S w) (hF : m_Fr w0 w m_dom) (hc1 : m_c1 .eq (S.1 5) = true) (kk : ∀ w1, m_RM S w1 → m_Fr w0 w1 m_dom → m_Rs l M_250 (16, [(2, .int (S.1 4)), (3, .int (0 : Int32)), (0, .ref 583), (1, .int most)], [], w1) P c s 6 600) : m_Rs l M_250 (0, [(0, .ref 583), (1, .int most)], [], w) P c s 6 600 := by
  refine m_Rs.n0 b_250 (x_aload_n d_250_0 rfl) ?_
  refine m_Rs.n0 b_250 (x_getf d_250_1 rfl h.1 rfl) ?_
  refine m_Rs.n0 b_250 (x_ift d_250_4 rfl hc1) ?_
  refine m_Rs.n0 b_250 (x_aload_n d_250_9 rfl) ?_
  refine m_Rs.n0 b_250 (x_getf d_250_10 rfl h.1 rfl) ?_
  refine m_Rs.n0 b_250 (x_istore_n d_250_13 rfl (show m_put1 _ _ _ = [(2, _), (0, _), (1, _)] from rfl)) ?_
  refine m_Rs.n0 b_250 (x_iconst (z := 0) d_250_14 (by decide)) ?_
  refine m_Rs.n0 b_250 (x_istore_n d_250_15 rfl (show m_put1 _ _ _ = [(3, _), (2, _), (0, _), (1, _)] from rfl)) ?_
  exact m_Rs.pick [1, 0, 2, 3] rfl (kk _ h hF)
theorem K_number_0_1 {l : Launch} {w w0 : List mM} {S : mS} {P : Option Value → List mM → Prop} {c s : Nat} {most : Int32} (h : m_RM S w) (hF : m_Fr w0 w m_dom) (hc1 : m_c1 .eq (S.1 5) = false) (kk : ∀ w1, m_RM S w1 → m_Fr w0 w1 m_dom → P (some (.int ((-1) : Int32))) w1) : m_Rs l M_250 (0, [(0, .ref 583), (1, .int most)], [], w) P c s 6 600 := by
  refine m_Rs.n0 b_250 (x_aload_n d_250_0 rfl) ?_
  refine m_Rs.n0 b_250 (x_getf d_250_1 rfl h.1 rfl) ?_
  refine m_Rs.n0 b_250 (x_iff d_250_4 rfl hc1) ?_
  refine m_Rs.n0 b_250 (x_iconst (z := (-1)) d_250_7 (by decide)) ?_
  refine m_Rs.ret b_250 (m_rt_ir d_250_8 rfl rfl) ?_
  exact kk _ h hF
theorem K_number_16_0 {l : Launch} {w w0 : List mM} {S : mS} {P : Option Value → List mM → Prop} {c s : Nat} {x2 x3 x1 : Int32} (h : m_RM S w) (hF : m_Fr w0 w m_dom) (hc1 : m_c1 .eq (F_isDigit (G_see S).1) = true) (hc2 : m_c2 .ne ((G_see S).2.1 4) x2 = true) (hc3 : m_c2 .le x3 x1 = true) (hc4 : m_c1 .eq ((G_see S).2.1 5) = true) (g1 : m_c2 .ge (S.1 4) (S.1 2) = false → m_ix (S.1 4) 300) (kk : ∀ w1, m_RM (G_see S).2 w1 → m_Fr w0 w1 m_dom → P (some (.int x3)) w1) : m_Rs l M_250 (16, [(2, .int x2), (3, .int x3), (0, .ref 583), (1, .int x1)], [], w) P c s 6 600 := by
  refine m_Rs.n0 b_250 (x_aload_n d_250_16 rfl) ?_
  refine m_Rs.callS b_250 (y_cv d_250_17 rfl q_245 (m_isRecv_of rfl h.1) (show m_takeI _ _ = some (_, [_], []) from rfl) (by simp only [m_okf, List.all_cons, List.all_nil, Bool.and_true, Bool.and_self, m_okv_i, m_okv_l, m_okv_0, m_okv_t, m_okv_at h.1]) rfl) (T_see h g1) hF rfl (fun w1 h hF => ?_) (by decide) (by decide)
  refine m_Rs.callE b_250 (y_cs d_250_20 rfl q_251 (show m_takeS _ _ = some (_, [_], []) from rfl) (by simp only [m_okf, List.all_cons, List.all_nil, Bool.and_true, Bool.and_self, m_okv_i, m_okv_l, m_okv_0, m_okv_t, m_okv_at h.1]) rfl) (P_isDigit) rfl ?_ (by decide) (by decide)
  refine m_Rs.n0 b_250 (x_ift d_250_23 rfl hc1) ?_
  refine m_Rs.n0 b_250 (x_aload_n d_250_62 rfl) ?_
  refine m_Rs.n0 b_250 (x_getf d_250_63 rfl h.1 rfl) ?_
  refine m_Rs.n0 b_250 (x_iload_n d_250_66 rfl) ?_
  refine m_Rs.n0 b_250 (x_ict d_250_67 rfl hc2) ?_
  refine m_Rs.n0 b_250 (x_iload_n d_250_79 rfl) ?_
  refine m_Rs.n0 b_250 (x_iload_n d_250_80 rfl) ?_
  refine m_Rs.n0 b_250 (x_ict d_250_81 rfl hc3) ?_
  refine m_Rs.n0 b_250 (x_aload_n d_250_90 rfl) ?_
  refine m_Rs.n0 b_250 (x_getf d_250_91 rfl h.1 rfl) ?_
  refine m_Rs.n0 b_250 (x_ift d_250_94 rfl hc4) ?_
  refine m_Rs.n0 b_250 (x_iload_n d_250_101 rfl) ?_
  refine m_Rs.ret b_250 (m_rt_ir d_250_102 rfl rfl) ?_
  exact kk _ h hF
theorem K_number_16_1 {l : Launch} {w w0 : List mM} {S : mS} {P : Option Value → List mM → Prop} {c s : Nat} {x2 x3 x1 : Int32} (h : m_RM S w) (hF : m_Fr w0 w m_dom) (hc1 : m_c1 .eq (F_isDigit (G_see S).1) = true) (hc2 : m_c2 .ne ((G_see S).2.1 4) x2 = true) (hc3 : m_c2 .le x3 x1 = true) (hc4 : m_c1 .eq ((G_see S).2.1 5) = false) (g1 : m_c2 .ge (S.1 4) (S.1 2) = false → m_ix (S.1 4) 300) (kk : ∀ w1, m_RM (G_see S).2 w1 → m_Fr w0 w1 m_dom → P (some (.int ((-1) : Int32))) w1) : m_Rs l M_250 (16, [(2, .int x2), (3, .int x3), (0, .ref 583), (1, .int x1)], [], w) P c s 6 600 := by
  refine m_Rs.n0 b_250 (x_aload_n d_250_16 rfl) ?_
  refine m_Rs.callS b_250 (y_cv d_250_17 rfl q_245 (m_isRecv_of rfl h.1) (show m_takeI _ _ = some (_, [_], []) from rfl) (by simp only [m_okf, List.all_cons, List.all_nil, Bool.and_true, Bool.and_self, m_okv_i, m_okv_l, m_okv_0, m_okv_t, m_okv_at h.1]) rfl) (T_see h g1) hF rfl (fun w1 h hF => ?_) (by decide) (by decide)
  refine m_Rs.callE b_250 (y_cs d_250_20 rfl q_251 (show m_takeS _ _ = some (_, [_], []) from rfl) (by simp only [m_okf, List.all_cons, List.all_nil, Bool.and_true, Bool.and_self, m_okv_i, m_okv_l, m_okv_0, m_okv_t, m_okv_at h.1]) rfl) (P_isDigit) rfl ?_ (by decide) (by decide)
  refine m_Rs.n0 b_250 (x_ift d_250_23 rfl hc1) ?_
  refine m_Rs.n0 b_250 (x_aload_n d_250_62 rfl) ?_
  refine m_Rs.n0 b_250 (x_getf d_250_63 rfl h.1 rfl) ?_
  refine m_Rs.n0 b_250 (x_iload_n d_250_66 rfl) ?_
  refine m_Rs.n0 b_250 (x_ict d_250_67 rfl hc2) ?_
  refine m_Rs.n0 b_250 (x_iload_n d_250_79 rfl) ?_
  refine m_Rs.n0 b_250 (x_iload_n d_250_80 rfl) ?_
  refine m_Rs.n0 b_250 (x_ict d_250_81 rfl hc3) ?_
  refine m_Rs.n0 b_250 (x_aload_n d_250_90 rfl) ?_
  refine m_Rs.n0 b_250 (x_getf d_250_91 rfl h.1 rfl) ?_
  refine m_Rs.n0 b_250 (x_iff d_250_94 rfl hc4) ?_
  refine m_Rs.n0 b_250 (x_iconst (z := (-1)) d_250_97 (by decide)) ?_
  refine m_Rs.n0 b_250 (x_goto d_250_98 rfl) ?_
  refine m_Rs.ret b_250 (m_rt_ir d_250_102 rfl rfl) ?_
  exact kk _ h hF
theorem K_number_16_2 {l : Launch} {w w0 : List mM} {S : mS} {P : Option Value → List mM → Prop} {c s : Nat} {x2 x3 x1 : Int32} (h : m_RM S w) (hF : m_Fr w0 w m_dom) (hc1 : m_c1 .eq (F_isDigit (G_see S).1) = true) (hc2 : m_c2 .ne ((G_see S).2.1 4) x2 = true) (hc3 : m_c2 .le x3 x1 = false) (hc5 : m_c1 .eq ((G_wrong (G_see S).2 x2).2.1 5) = true) (g1 : m_c2 .ge (S.1 4) (S.1 2) = false → m_ix (S.1 4) 300) (kk : ∀ w1, m_RM (G_wrong (G_see S).2 x2).2 w1 → m_Fr w0 w1 m_dom → P (some (.int x3)) w1) : m_Rs l M_250 (16, [(2, .int x2), (3, .int x3), (0, .ref 583), (1, .int x1)], [], w) P c s 6 600 := by
  refine m_Rs.n0 b_250 (x_aload_n d_250_16 rfl) ?_
  refine m_Rs.callS b_250 (y_cv d_250_17 rfl q_245 (m_isRecv_of rfl h.1) (show m_takeI _ _ = some (_, [_], []) from rfl) (by simp only [m_okf, List.all_cons, List.all_nil, Bool.and_true, Bool.and_self, m_okv_i, m_okv_l, m_okv_0, m_okv_t, m_okv_at h.1]) rfl) (T_see h g1) hF rfl (fun w1 h hF => ?_) (by decide) (by decide)
  refine m_Rs.callE b_250 (y_cs d_250_20 rfl q_251 (show m_takeS _ _ = some (_, [_], []) from rfl) (by simp only [m_okf, List.all_cons, List.all_nil, Bool.and_true, Bool.and_self, m_okv_i, m_okv_l, m_okv_0, m_okv_t, m_okv_at h.1]) rfl) (P_isDigit) rfl ?_ (by decide) (by decide)
  refine m_Rs.n0 b_250 (x_ift d_250_23 rfl hc1) ?_
  refine m_Rs.n0 b_250 (x_aload_n d_250_62 rfl) ?_
  refine m_Rs.n0 b_250 (x_getf d_250_63 rfl h.1 rfl) ?_
  refine m_Rs.n0 b_250 (x_iload_n d_250_66 rfl) ?_
  refine m_Rs.n0 b_250 (x_ict d_250_67 rfl hc2) ?_
  refine m_Rs.n0 b_250 (x_iload_n d_250_79 rfl) ?_
  refine m_Rs.n0 b_250 (x_iload_n d_250_80 rfl) ?_
  refine m_Rs.n0 b_250 (x_icf d_250_81 rfl hc3) ?_
  refine m_Rs.n0 b_250 (x_aload_n d_250_84 rfl) ?_
  refine m_Rs.n0 b_250 (x_iload_n d_250_85 rfl) ?_
  refine m_Rs.callS b_250 (y_cv d_250_86 rfl q_248 (m_isRecv_of rfl h.1) (show m_takeI _ _ = some (_, [_, _], []) from rfl) (by simp only [m_okf, List.all_cons, List.all_nil, Bool.and_true, Bool.and_self, m_okv_i, m_okv_l, m_okv_0, m_okv_t, m_okv_at h.1]) rfl) (T_wrong h) hF rfl (fun w1 h hF => ?_) (by decide) (by decide)
  refine m_Rs.n0 b_250 (x_pop d_250_89 rfl) ?_
  refine m_Rs.n0 b_250 (x_aload_n d_250_90 rfl) ?_
  refine m_Rs.n0 b_250 (x_getf d_250_91 rfl h.1 rfl) ?_
  refine m_Rs.n0 b_250 (x_ift d_250_94 rfl hc5) ?_
  refine m_Rs.n0 b_250 (x_iload_n d_250_101 rfl) ?_
  refine m_Rs.ret b_250 (m_rt_ir d_250_102 rfl rfl) ?_
  exact kk _ h hF
theorem K_number_16_3 {l : Launch} {w w0 : List mM} {S : mS} {P : Option Value → List mM → Prop} {c s : Nat} {x2 x3 x1 : Int32} (h : m_RM S w) (hF : m_Fr w0 w m_dom) (hc1 : m_c1 .eq (F_isDigit (G_see S).1) = true) (hc2 : m_c2 .ne ((G_see S).2.1 4) x2 = true) (hc3 : m_c2 .le x3 x1 = false) (hc5 : m_c1 .eq ((G_wrong (G_see S).2 x2).2.1 5) = false) (g1 : m_c2 .ge (S.1 4) (S.1 2) = false → m_ix (S.1 4) 300) (kk : ∀ w1, m_RM (G_wrong (G_see S).2 x2).2 w1 → m_Fr w0 w1 m_dom → P (some (.int ((-1) : Int32))) w1) : m_Rs l M_250 (16, [(2, .int x2), (3, .int x3), (0, .ref 583), (1, .int x1)], [], w) P c s 6 600 := by
  refine m_Rs.n0 b_250 (x_aload_n d_250_16 rfl) ?_
  refine m_Rs.callS b_250 (y_cv d_250_17 rfl q_245 (m_isRecv_of rfl h.1) (show m_takeI _ _ = some (_, [_], []) from rfl) (by simp only [m_okf, List.all_cons, List.all_nil, Bool.and_true, Bool.and_self, m_okv_i, m_okv_l, m_okv_0, m_okv_t, m_okv_at h.1]) rfl) (T_see h g1) hF rfl (fun w1 h hF => ?_) (by decide) (by decide)
  refine m_Rs.callE b_250 (y_cs d_250_20 rfl q_251 (show m_takeS _ _ = some (_, [_], []) from rfl) (by simp only [m_okf, List.all_cons, List.all_nil, Bool.and_true, Bool.and_self, m_okv_i, m_okv_l, m_okv_0, m_okv_t, m_okv_at h.1]) rfl) (P_isDigit) rfl ?_ (by decide) (by decide)
  refine m_Rs.n0 b_250 (x_ift d_250_23 rfl hc1) ?_
  refine m_Rs.n0 b_250 (x_aload_n d_250_62 rfl) ?_
  refine m_Rs.n0 b_250 (x_getf d_250_63 rfl h.1 rfl) ?_
  refine m_Rs.n0 b_250 (x_iload_n d_250_66 rfl) ?_
  refine m_Rs.n0 b_250 (x_ict d_250_67 rfl hc2) ?_
  refine m_Rs.n0 b_250 (x_iload_n d_250_79 rfl) ?_
  refine m_Rs.n0 b_250 (x_iload_n d_250_80 rfl) ?_
  refine m_Rs.n0 b_250 (x_icf d_250_81 rfl hc3) ?_
  refine m_Rs.n0 b_250 (x_aload_n d_250_84 rfl) ?_
  refine m_Rs.n0 b_250 (x_iload_n d_250_85 rfl) ?_
  refine m_Rs.callS b_250 (y_cv d_250_86 rfl q_248 (m_isRecv_of rfl h.1) (show m_takeI _ _ = some (_, [_, _], []) from rfl) (by simp only [m_okf, List.all_cons, List.all_nil, Bool.and_true, Bool.and_self, m_okv_i, m_okv_l, m_okv_0, m_okv_t, m_okv_at h.1]) rfl) (T_wrong h) hF rfl (fun w1 h hF => ?_) (by decide) (by decide)
  refine m_Rs.n0 b_250 (x_pop d_250_89 rfl) ?_
  refine m_Rs.n0 b_250 (x_aload_n d_250_90 rfl) ?_
  refine m_Rs.n0 b_250 (x_getf d_250_91 rfl h.1 rfl) ?_
  refine m_Rs.n0 b_250 (x_iff d_250_94 rfl hc5) ?_
  refine m_Rs.n0 b_250 (x_iconst (z := (-1)) d_250_97 (by decide)) ?_
  refine m_Rs.n0 b_250 (x_goto d_250_98 rfl) ?_
  refine m_Rs.ret b_250 (m_rt_ir d_250_102 rfl rfl) ?_
  exact kk _ h hF
theorem K_number_16_4 {l : Launch} {w w0 : List mM} {S : mS} {P : Option Value → List mM → Prop} {c s : Nat} {x2 x3 x1 : Int32} (h : m_RM S w) (hF : m_Fr w0 w m_dom) (hc1 : m_c1 .eq (F_isDigit (G_see S).1) = true) (hc2 : m_c2 .ne ((G_see S).2.1 4) x2 = false) (hc6 : m_c2 .le x3 x1 = true) (hc7 : m_c1 .eq ((G_wrong (G_see S).2 ((G_see S).2.1 4)).2.1 5) = true) (g1 : m_c2 .ge (S.1 4) (S.1 2) = false → m_ix (S.1 4) 300) (kk : ∀ w1, m_RM (G_wrong (G_see S).2 ((G_see S).2.1 4)).2 w1 → m_Fr w0 w1 m_dom → P (some (.int x3)) w1) : m_Rs l M_250 (16, [(2, .int x2), (3, .int x3), (0, .ref 583), (1, .int x1)], [], w) P c s 6 600 := by
  refine m_Rs.n0 b_250 (x_aload_n d_250_16 rfl) ?_
  refine m_Rs.callS b_250 (y_cv d_250_17 rfl q_245 (m_isRecv_of rfl h.1) (show m_takeI _ _ = some (_, [_], []) from rfl) (by simp only [m_okf, List.all_cons, List.all_nil, Bool.and_true, Bool.and_self, m_okv_i, m_okv_l, m_okv_0, m_okv_t, m_okv_at h.1]) rfl) (T_see h g1) hF rfl (fun w1 h hF => ?_) (by decide) (by decide)
  refine m_Rs.callE b_250 (y_cs d_250_20 rfl q_251 (show m_takeS _ _ = some (_, [_], []) from rfl) (by simp only [m_okf, List.all_cons, List.all_nil, Bool.and_true, Bool.and_self, m_okv_i, m_okv_l, m_okv_0, m_okv_t, m_okv_at h.1]) rfl) (P_isDigit) rfl ?_ (by decide) (by decide)
  refine m_Rs.n0 b_250 (x_ift d_250_23 rfl hc1) ?_
  refine m_Rs.n0 b_250 (x_aload_n d_250_62 rfl) ?_
  refine m_Rs.n0 b_250 (x_getf d_250_63 rfl h.1 rfl) ?_
  refine m_Rs.n0 b_250 (x_iload_n d_250_66 rfl) ?_
  refine m_Rs.n0 b_250 (x_icf d_250_67 rfl hc2) ?_
  refine m_Rs.n0 b_250 (x_aload_n d_250_70 rfl) ?_
  refine m_Rs.n0 b_250 (x_aload_n d_250_71 rfl) ?_
  refine m_Rs.n0 b_250 (x_getf d_250_72 rfl h.1 rfl) ?_
  refine m_Rs.callS b_250 (y_cv d_250_75 rfl q_248 (m_isRecv_of rfl h.1) (show m_takeI _ _ = some (_, [_, _], []) from rfl) (by simp only [m_okf, List.all_cons, List.all_nil, Bool.and_true, Bool.and_self, m_okv_i, m_okv_l, m_okv_0, m_okv_t, m_okv_at h.1]) rfl) (T_wrong h) hF rfl (fun w1 h hF => ?_) (by decide) (by decide)
  refine m_Rs.n0 b_250 (x_pop d_250_78 rfl) ?_
  refine m_Rs.n0 b_250 (x_iload_n d_250_79 rfl) ?_
  refine m_Rs.n0 b_250 (x_iload_n d_250_80 rfl) ?_
  refine m_Rs.n0 b_250 (x_ict d_250_81 rfl hc6) ?_
  refine m_Rs.n0 b_250 (x_aload_n d_250_90 rfl) ?_
  refine m_Rs.n0 b_250 (x_getf d_250_91 rfl h.1 rfl) ?_
  refine m_Rs.n0 b_250 (x_ift d_250_94 rfl hc7) ?_
  refine m_Rs.n0 b_250 (x_iload_n d_250_101 rfl) ?_
  refine m_Rs.ret b_250 (m_rt_ir d_250_102 rfl rfl) ?_
  exact kk _ h hF
theorem K_number_16_5 {l : Launch} {w w0 : List mM} {S : mS} {P : Option Value → List mM → Prop} {c s : Nat} {x2 x3 x1 : Int32} (h : m_RM S w) (hF : m_Fr w0 w m_dom) (hc1 : m_c1 .eq (F_isDigit (G_see S).1) = true) (hc2 : m_c2 .ne ((G_see S).2.1 4) x2 = false) (hc6 : m_c2 .le x3 x1 = true) (hc7 : m_c1 .eq ((G_wrong (G_see S).2 ((G_see S).2.1 4)).2.1 5) = false) (g1 : m_c2 .ge (S.1 4) (S.1 2) = false → m_ix (S.1 4) 300) (kk : ∀ w1, m_RM (G_wrong (G_see S).2 ((G_see S).2.1 4)).2 w1 → m_Fr w0 w1 m_dom → P (some (.int ((-1) : Int32))) w1) : m_Rs l M_250 (16, [(2, .int x2), (3, .int x3), (0, .ref 583), (1, .int x1)], [], w) P c s 6 600 := by
  refine m_Rs.n0 b_250 (x_aload_n d_250_16 rfl) ?_
  refine m_Rs.callS b_250 (y_cv d_250_17 rfl q_245 (m_isRecv_of rfl h.1) (show m_takeI _ _ = some (_, [_], []) from rfl) (by simp only [m_okf, List.all_cons, List.all_nil, Bool.and_true, Bool.and_self, m_okv_i, m_okv_l, m_okv_0, m_okv_t, m_okv_at h.1]) rfl) (T_see h g1) hF rfl (fun w1 h hF => ?_) (by decide) (by decide)
  refine m_Rs.callE b_250 (y_cs d_250_20 rfl q_251 (show m_takeS _ _ = some (_, [_], []) from rfl) (by simp only [m_okf, List.all_cons, List.all_nil, Bool.and_true, Bool.and_self, m_okv_i, m_okv_l, m_okv_0, m_okv_t, m_okv_at h.1]) rfl) (P_isDigit) rfl ?_ (by decide) (by decide)
  refine m_Rs.n0 b_250 (x_ift d_250_23 rfl hc1) ?_
  refine m_Rs.n0 b_250 (x_aload_n d_250_62 rfl) ?_
  refine m_Rs.n0 b_250 (x_getf d_250_63 rfl h.1 rfl) ?_
  refine m_Rs.n0 b_250 (x_iload_n d_250_66 rfl) ?_
  refine m_Rs.n0 b_250 (x_icf d_250_67 rfl hc2) ?_
  refine m_Rs.n0 b_250 (x_aload_n d_250_70 rfl) ?_
  refine m_Rs.n0 b_250 (x_aload_n d_250_71 rfl) ?_
  refine m_Rs.n0 b_250 (x_getf d_250_72 rfl h.1 rfl) ?_
  refine m_Rs.callS b_250 (y_cv d_250_75 rfl q_248 (m_isRecv_of rfl h.1) (show m_takeI _ _ = some (_, [_, _], []) from rfl) (by simp only [m_okf, List.all_cons, List.all_nil, Bool.and_true, Bool.and_self, m_okv_i, m_okv_l, m_okv_0, m_okv_t, m_okv_at h.1]) rfl) (T_wrong h) hF rfl (fun w1 h hF => ?_) (by decide) (by decide)
  refine m_Rs.n0 b_250 (x_pop d_250_78 rfl) ?_
  refine m_Rs.n0 b_250 (x_iload_n d_250_79 rfl) ?_
  refine m_Rs.n0 b_250 (x_iload_n d_250_80 rfl) ?_
  refine m_Rs.n0 b_250 (x_ict d_250_81 rfl hc6) ?_
  refine m_Rs.n0 b_250 (x_aload_n d_250_90 rfl) ?_
  refine m_Rs.n0 b_250 (x_getf d_250_91 rfl h.1 rfl) ?_
  refine m_Rs.n0 b_250 (x_iff d_250_94 rfl hc7) ?_
  refine m_Rs.n0 b_250 (x_iconst (z := (-1)) d_250_97 (by decide)) ?_
  refine m_Rs.n0 b_250 (x_goto d_250_98 rfl) ?_
  refine m_Rs.ret b_250 (m_rt_ir d_250_102 rfl rfl) ?_
  exact kk _ h hF
theorem K_number_16_6 {l : Launch} {w w0 : List mM} {S : mS} {P : Option Value → List mM → Prop} {c s : Nat} {x2 x3 x1 : Int32} (h : m_RM S w) (hF : m_Fr w0 w m_dom) (hc1 : m_c1 .eq (F_isDigit (G_see S).1) = true) (hc2 : m_c2 .ne ((G_see S).2.1 4) x2 = false) (hc6 : m_c2 .le x3 x1 = false) (hc8 : m_c1 .eq ((G_wrong (G_wrong (G_see S).2 ((G_see S).2.1 4)).2 x2).2.1 5) = true) (g1 : m_c2 .ge (S.1 4) (S.1 2) = false → m_ix (S.1 4) 300) (kk : ∀ w1, m_RM (G_wrong (G_wrong (G_see S).2 ((G_see S).2.1 4)).2 x2).2 w1 → m_Fr w0 w1 m_dom → P (some (.int x3)) w1) : m_Rs l M_250 (16, [(2, .int x2), (3, .int x3), (0, .ref 583), (1, .int x1)], [], w) P c s 6 600 := by
  refine m_Rs.n0 b_250 (x_aload_n d_250_16 rfl) ?_
  refine m_Rs.callS b_250 (y_cv d_250_17 rfl q_245 (m_isRecv_of rfl h.1) (show m_takeI _ _ = some (_, [_], []) from rfl) (by simp only [m_okf, List.all_cons, List.all_nil, Bool.and_true, Bool.and_self, m_okv_i, m_okv_l, m_okv_0, m_okv_t, m_okv_at h.1]) rfl) (T_see h g1) hF rfl (fun w1 h hF => ?_) (by decide) (by decide)
  refine m_Rs.callE b_250 (y_cs d_250_20 rfl q_251 (show m_takeS _ _ = some (_, [_], []) from rfl) (by simp only [m_okf, List.all_cons, List.all_nil, Bool.and_true, Bool.and_self, m_okv_i, m_okv_l, m_okv_0, m_okv_t, m_okv_at h.1]) rfl) (P_isDigit) rfl ?_ (by decide) (by decide)
  refine m_Rs.n0 b_250 (x_ift d_250_23 rfl hc1) ?_
  refine m_Rs.n0 b_250 (x_aload_n d_250_62 rfl) ?_
  refine m_Rs.n0 b_250 (x_getf d_250_63 rfl h.1 rfl) ?_
  refine m_Rs.n0 b_250 (x_iload_n d_250_66 rfl) ?_
  refine m_Rs.n0 b_250 (x_icf d_250_67 rfl hc2) ?_
  refine m_Rs.n0 b_250 (x_aload_n d_250_70 rfl) ?_
  refine m_Rs.n0 b_250 (x_aload_n d_250_71 rfl) ?_
  refine m_Rs.n0 b_250 (x_getf d_250_72 rfl h.1 rfl) ?_
  refine m_Rs.callS b_250 (y_cv d_250_75 rfl q_248 (m_isRecv_of rfl h.1) (show m_takeI _ _ = some (_, [_, _], []) from rfl) (by simp only [m_okf, List.all_cons, List.all_nil, Bool.and_true, Bool.and_self, m_okv_i, m_okv_l, m_okv_0, m_okv_t, m_okv_at h.1]) rfl) (T_wrong h) hF rfl (fun w1 h hF => ?_) (by decide) (by decide)
  refine m_Rs.n0 b_250 (x_pop d_250_78 rfl) ?_
  refine m_Rs.n0 b_250 (x_iload_n d_250_79 rfl) ?_
  refine m_Rs.n0 b_250 (x_iload_n d_250_80 rfl) ?_
  refine m_Rs.n0 b_250 (x_icf d_250_81 rfl hc6) ?_
  refine m_Rs.n0 b_250 (x_aload_n d_250_84 rfl) ?_
  refine m_Rs.n0 b_250 (x_iload_n d_250_85 rfl) ?_
  refine m_Rs.callS b_250 (y_cv d_250_86 rfl q_248 (m_isRecv_of rfl h.1) (show m_takeI _ _ = some (_, [_, _], []) from rfl) (by simp only [m_okf, List.all_cons, List.all_nil, Bool.and_true, Bool.and_self, m_okv_i, m_okv_l, m_okv_0, m_okv_t, m_okv_at h.1]) rfl) (T_wrong h) hF rfl (fun w1 h hF => ?_) (by decide) (by decide)
  refine m_Rs.n0 b_250 (x_pop d_250_89 rfl) ?_
  refine m_Rs.n0 b_250 (x_aload_n d_250_90 rfl) ?_
  refine m_Rs.n0 b_250 (x_getf d_250_91 rfl h.1 rfl) ?_
  refine m_Rs.n0 b_250 (x_ift d_250_94 rfl hc8) ?_
  refine m_Rs.n0 b_250 (x_iload_n d_250_101 rfl) ?_
  refine m_Rs.ret b_250 (m_rt_ir d_250_102 rfl rfl) ?_
  exact kk _ h hF
theorem K_number_16_7 {l : Launch} {w w0 : List mM} {S : mS} {P : Option Value → List mM → Prop} {c s : Nat} {x2 x3 x1 : Int32} (h : m_RM S w) (hF : m_Fr w0 w m_dom) (hc1 : m_c1 .eq (F_isDigit (G_see S).1) = true) (hc2 : m_c2 .ne ((G_see S).2.1 4) x2 = false) (hc6 : m_c2 .le x3 x1 = false) (hc8 : m_c1 .eq ((G_wrong (G_wrong (G_see S).2 ((G_see S).2.1 4)).2 x2).2.1 5) = false) (g1 : m_c2 .ge (S.1 4) (S.1 2) = false → m_ix (S.1 4) 300) (kk : ∀ w1, m_RM (G_wrong (G_wrong (G_see S).2 ((G_see S).2.1 4)).2 x2).2 w1 → m_Fr w0 w1 m_dom → P (some (.int ((-1) : Int32))) w1) : m_Rs l M_250 (16, [(2, .int x2), (3, .int x3), (0, .ref 583), (1, .int x1)], [], w) P c s 6 600 := by
  refine m_Rs.n0 b_250 (x_aload_n d_250_16 rfl) ?_
  refine m_Rs.callS b_250 (y_cv d_250_17 rfl q_245 (m_isRecv_of rfl h.1) (show m_takeI _ _ = some (_, [_], []) from rfl) (by simp only [m_okf, List.all_cons, List.all_nil, Bool.and_true, Bool.and_self, m_okv_i, m_okv_l, m_okv_0, m_okv_t, m_okv_at h.1]) rfl) (T_see h g1) hF rfl (fun w1 h hF => ?_) (by decide) (by decide)
  refine m_Rs.callE b_250 (y_cs d_250_20 rfl q_251 (show m_takeS _ _ = some (_, [_], []) from rfl) (by simp only [m_okf, List.all_cons, List.all_nil, Bool.and_true, Bool.and_self, m_okv_i, m_okv_l, m_okv_0, m_okv_t, m_okv_at h.1]) rfl) (P_isDigit) rfl ?_ (by decide) (by decide)
  refine m_Rs.n0 b_250 (x_ift d_250_23 rfl hc1) ?_
  refine m_Rs.n0 b_250 (x_aload_n d_250_62 rfl) ?_
  refine m_Rs.n0 b_250 (x_getf d_250_63 rfl h.1 rfl) ?_
  refine m_Rs.n0 b_250 (x_iload_n d_250_66 rfl) ?_
  refine m_Rs.n0 b_250 (x_icf d_250_67 rfl hc2) ?_
  refine m_Rs.n0 b_250 (x_aload_n d_250_70 rfl) ?_
  refine m_Rs.n0 b_250 (x_aload_n d_250_71 rfl) ?_
  refine m_Rs.n0 b_250 (x_getf d_250_72 rfl h.1 rfl) ?_
  refine m_Rs.callS b_250 (y_cv d_250_75 rfl q_248 (m_isRecv_of rfl h.1) (show m_takeI _ _ = some (_, [_, _], []) from rfl) (by simp only [m_okf, List.all_cons, List.all_nil, Bool.and_true, Bool.and_self, m_okv_i, m_okv_l, m_okv_0, m_okv_t, m_okv_at h.1]) rfl) (T_wrong h) hF rfl (fun w1 h hF => ?_) (by decide) (by decide)
  refine m_Rs.n0 b_250 (x_pop d_250_78 rfl) ?_
  refine m_Rs.n0 b_250 (x_iload_n d_250_79 rfl) ?_
  refine m_Rs.n0 b_250 (x_iload_n d_250_80 rfl) ?_
  refine m_Rs.n0 b_250 (x_icf d_250_81 rfl hc6) ?_
  refine m_Rs.n0 b_250 (x_aload_n d_250_84 rfl) ?_
  refine m_Rs.n0 b_250 (x_iload_n d_250_85 rfl) ?_
  refine m_Rs.callS b_250 (y_cv d_250_86 rfl q_248 (m_isRecv_of rfl h.1) (show m_takeI _ _ = some (_, [_, _], []) from rfl) (by simp only [m_okf, List.all_cons, List.all_nil, Bool.and_true, Bool.and_self, m_okv_i, m_okv_l, m_okv_0, m_okv_t, m_okv_at h.1]) rfl) (T_wrong h) hF rfl (fun w1 h hF => ?_) (by decide) (by decide)
  refine m_Rs.n0 b_250 (x_pop d_250_89 rfl) ?_
  refine m_Rs.n0 b_250 (x_aload_n d_250_90 rfl) ?_
  refine m_Rs.n0 b_250 (x_getf d_250_91 rfl h.1 rfl) ?_
  refine m_Rs.n0 b_250 (x_iff d_250_94 rfl hc8) ?_
  refine m_Rs.n0 b_250 (x_iconst (z := (-1)) d_250_97 (by decide)) ?_
  refine m_Rs.n0 b_250 (x_goto d_250_98 rfl) ?_
  refine m_Rs.ret b_250 (m_rt_ir d_250_102 rfl rfl) ?_
  exact kk _ h hF
theorem K_number_16_8 {l : Launch} {w w0 : List mM} {S : mS} {P : Option Value → List mM → Prop} {c s : Nat} {x2 x3 x1 : Int32} (h : m_RM S w) (hF : m_Fr w0 w m_dom) (hc1 : m_c1 .eq (F_isDigit (G_see S).1) = false) (hc9 : m_c2 .ge (((G_see S).2.1 4) - x2) (5 : Int32) = true) (hc10 : m_c2 .ne ((G_see S).2.1 4) x2 = true) (hc11 : m_c2 .le x3 x1 = true) (hc12 : m_c1 .eq ((G_see S).2.1 5) = true) (g1 : m_c2 .ge (S.1 4) (S.1 2) = false → m_ix (S.1 4) 300) (kk : ∀ w1, m_RM (G_see S).2 w1 → m_Fr w0 w1 m_dom → P (some (.int x3)) w1) : m_Rs l M_250 (16, [(2, .int x2), (3, .int x3), (0, .ref 583), (1, .int x1)], [], w) P c s 6 600 := by
  refine m_Rs.n0 b_250 (x_aload_n d_250_16 rfl) ?_
  refine m_Rs.callS b_250 (y_cv d_250_17 rfl q_245 (m_isRecv_of rfl h.1) (show m_takeI _ _ = some (_, [_], []) from rfl) (by simp only [m_okf, List.all_cons, List.all_nil, Bool.and_true, Bool.and_self, m_okv_i, m_okv_l, m_okv_0, m_okv_t, m_okv_at h.1]) rfl) (T_see h g1) hF rfl (fun w1 h hF => ?_) (by decide) (by decide)
  refine m_Rs.callE b_250 (y_cs d_250_20 rfl q_251 (show m_takeS _ _ = some (_, [_], []) from rfl) (by simp only [m_okf, List.all_cons, List.all_nil, Bool.and_true, Bool.and_self, m_okv_i, m_okv_l, m_okv_0, m_okv_t, m_okv_at h.1]) rfl) (P_isDigit) rfl ?_ (by decide) (by decide)
  refine m_Rs.n0 b_250 (x_iff d_250_23 rfl hc1) ?_
  refine m_Rs.n0 b_250 (x_aload_n d_250_26 rfl) ?_
  refine m_Rs.n0 b_250 (x_getf d_250_27 rfl h.1 rfl) ?_
  refine m_Rs.n0 b_250 (x_iload_n d_250_30 rfl) ?_
  refine m_Rs.n0 b_250 (x_isub d_250_31 rfl) ?_
  refine m_Rs.n0 b_250 (x_iconst (z := 5) d_250_32 (by decide)) ?_
  refine m_Rs.n0 b_250 (x_ict d_250_33 rfl hc9) ?_
  refine m_Rs.n0 b_250 (x_aload_n d_250_62 rfl) ?_
  refine m_Rs.n0 b_250 (x_getf d_250_63 rfl h.1 rfl) ?_
  refine m_Rs.n0 b_250 (x_iload_n d_250_66 rfl) ?_
  refine m_Rs.n0 b_250 (x_ict d_250_67 rfl hc10) ?_
  refine m_Rs.n0 b_250 (x_iload_n d_250_79 rfl) ?_
  refine m_Rs.n0 b_250 (x_iload_n d_250_80 rfl) ?_
  refine m_Rs.n0 b_250 (x_ict d_250_81 rfl hc11) ?_
  refine m_Rs.n0 b_250 (x_aload_n d_250_90 rfl) ?_
  refine m_Rs.n0 b_250 (x_getf d_250_91 rfl h.1 rfl) ?_
  refine m_Rs.n0 b_250 (x_ift d_250_94 rfl hc12) ?_
  refine m_Rs.n0 b_250 (x_iload_n d_250_101 rfl) ?_
  refine m_Rs.ret b_250 (m_rt_ir d_250_102 rfl rfl) ?_
  exact kk _ h hF
theorem K_number_16_9 {l : Launch} {w w0 : List mM} {S : mS} {P : Option Value → List mM → Prop} {c s : Nat} {x2 x3 x1 : Int32} (h : m_RM S w) (hF : m_Fr w0 w m_dom) (hc1 : m_c1 .eq (F_isDigit (G_see S).1) = false) (hc9 : m_c2 .ge (((G_see S).2.1 4) - x2) (5 : Int32) = true) (hc10 : m_c2 .ne ((G_see S).2.1 4) x2 = true) (hc11 : m_c2 .le x3 x1 = true) (hc12 : m_c1 .eq ((G_see S).2.1 5) = false) (g1 : m_c2 .ge (S.1 4) (S.1 2) = false → m_ix (S.1 4) 300) (kk : ∀ w1, m_RM (G_see S).2 w1 → m_Fr w0 w1 m_dom → P (some (.int ((-1) : Int32))) w1) : m_Rs l M_250 (16, [(2, .int x2), (3, .int x3), (0, .ref 583), (1, .int x1)], [], w) P c s 6 600 := by
  refine m_Rs.n0 b_250 (x_aload_n d_250_16 rfl) ?_
  refine m_Rs.callS b_250 (y_cv d_250_17 rfl q_245 (m_isRecv_of rfl h.1) (show m_takeI _ _ = some (_, [_], []) from rfl) (by simp only [m_okf, List.all_cons, List.all_nil, Bool.and_true, Bool.and_self, m_okv_i, m_okv_l, m_okv_0, m_okv_t, m_okv_at h.1]) rfl) (T_see h g1) hF rfl (fun w1 h hF => ?_) (by decide) (by decide)
  refine m_Rs.callE b_250 (y_cs d_250_20 rfl q_251 (show m_takeS _ _ = some (_, [_], []) from rfl) (by simp only [m_okf, List.all_cons, List.all_nil, Bool.and_true, Bool.and_self, m_okv_i, m_okv_l, m_okv_0, m_okv_t, m_okv_at h.1]) rfl) (P_isDigit) rfl ?_ (by decide) (by decide)
  refine m_Rs.n0 b_250 (x_iff d_250_23 rfl hc1) ?_
  refine m_Rs.n0 b_250 (x_aload_n d_250_26 rfl) ?_
  refine m_Rs.n0 b_250 (x_getf d_250_27 rfl h.1 rfl) ?_
  refine m_Rs.n0 b_250 (x_iload_n d_250_30 rfl) ?_
  refine m_Rs.n0 b_250 (x_isub d_250_31 rfl) ?_
  refine m_Rs.n0 b_250 (x_iconst (z := 5) d_250_32 (by decide)) ?_
  refine m_Rs.n0 b_250 (x_ict d_250_33 rfl hc9) ?_
  refine m_Rs.n0 b_250 (x_aload_n d_250_62 rfl) ?_
  refine m_Rs.n0 b_250 (x_getf d_250_63 rfl h.1 rfl) ?_
  refine m_Rs.n0 b_250 (x_iload_n d_250_66 rfl) ?_
  refine m_Rs.n0 b_250 (x_ict d_250_67 rfl hc10) ?_
  refine m_Rs.n0 b_250 (x_iload_n d_250_79 rfl) ?_
  refine m_Rs.n0 b_250 (x_iload_n d_250_80 rfl) ?_
  refine m_Rs.n0 b_250 (x_ict d_250_81 rfl hc11) ?_
  refine m_Rs.n0 b_250 (x_aload_n d_250_90 rfl) ?_
  refine m_Rs.n0 b_250 (x_getf d_250_91 rfl h.1 rfl) ?_
  refine m_Rs.n0 b_250 (x_iff d_250_94 rfl hc12) ?_
  refine m_Rs.n0 b_250 (x_iconst (z := (-1)) d_250_97 (by decide)) ?_
  refine m_Rs.n0 b_250 (x_goto d_250_98 rfl) ?_
  refine m_Rs.ret b_250 (m_rt_ir d_250_102 rfl rfl) ?_
  exact kk _ h hF
theorem K_number_16_10 {l : Launch} {w w0 : List mM} {S : mS} {P : Option Value → List mM → Prop} {c s : Nat} {x2 x3 x1 : Int32} (h : m_RM S w) (hF : m_Fr w0 w m_dom) (hc1 : m_c1 .eq (F_isDigit (G_see S).1) = false) (hc9 : m_c2 .ge (((G_see S).2.1 4) - x2) (5 : Int32) = true) (hc10 : m_c2 .ne ((G_see S).2.1 4) x2 = true) (hc11 : m_c2 .le x3 x1 = false) (hc13 : m_c1 .eq ((G_wrong (G_see S).2 x2).2.1 5) = true) (g1 : m_c2 .ge (S.1 4) (S.1 2) = false → m_ix (S.1 4) 300) (kk : ∀ w1, m_RM (G_wrong (G_see S).2 x2).2 w1 → m_Fr w0 w1 m_dom → P (some (.int x3)) w1) : m_Rs l M_250 (16, [(2, .int x2), (3, .int x3), (0, .ref 583), (1, .int x1)], [], w) P c s 6 600 := by
  refine m_Rs.n0 b_250 (x_aload_n d_250_16 rfl) ?_
  refine m_Rs.callS b_250 (y_cv d_250_17 rfl q_245 (m_isRecv_of rfl h.1) (show m_takeI _ _ = some (_, [_], []) from rfl) (by simp only [m_okf, List.all_cons, List.all_nil, Bool.and_true, Bool.and_self, m_okv_i, m_okv_l, m_okv_0, m_okv_t, m_okv_at h.1]) rfl) (T_see h g1) hF rfl (fun w1 h hF => ?_) (by decide) (by decide)
  refine m_Rs.callE b_250 (y_cs d_250_20 rfl q_251 (show m_takeS _ _ = some (_, [_], []) from rfl) (by simp only [m_okf, List.all_cons, List.all_nil, Bool.and_true, Bool.and_self, m_okv_i, m_okv_l, m_okv_0, m_okv_t, m_okv_at h.1]) rfl) (P_isDigit) rfl ?_ (by decide) (by decide)
  refine m_Rs.n0 b_250 (x_iff d_250_23 rfl hc1) ?_
  refine m_Rs.n0 b_250 (x_aload_n d_250_26 rfl) ?_
  refine m_Rs.n0 b_250 (x_getf d_250_27 rfl h.1 rfl) ?_
  refine m_Rs.n0 b_250 (x_iload_n d_250_30 rfl) ?_
  refine m_Rs.n0 b_250 (x_isub d_250_31 rfl) ?_
  refine m_Rs.n0 b_250 (x_iconst (z := 5) d_250_32 (by decide)) ?_
  refine m_Rs.n0 b_250 (x_ict d_250_33 rfl hc9) ?_
  refine m_Rs.n0 b_250 (x_aload_n d_250_62 rfl) ?_
  refine m_Rs.n0 b_250 (x_getf d_250_63 rfl h.1 rfl) ?_
  refine m_Rs.n0 b_250 (x_iload_n d_250_66 rfl) ?_
  refine m_Rs.n0 b_250 (x_ict d_250_67 rfl hc10) ?_
  refine m_Rs.n0 b_250 (x_iload_n d_250_79 rfl) ?_
  refine m_Rs.n0 b_250 (x_iload_n d_250_80 rfl) ?_
  refine m_Rs.n0 b_250 (x_icf d_250_81 rfl hc11) ?_
  refine m_Rs.n0 b_250 (x_aload_n d_250_84 rfl) ?_
  refine m_Rs.n0 b_250 (x_iload_n d_250_85 rfl) ?_
  refine m_Rs.callS b_250 (y_cv d_250_86 rfl q_248 (m_isRecv_of rfl h.1) (show m_takeI _ _ = some (_, [_, _], []) from rfl) (by simp only [m_okf, List.all_cons, List.all_nil, Bool.and_true, Bool.and_self, m_okv_i, m_okv_l, m_okv_0, m_okv_t, m_okv_at h.1]) rfl) (T_wrong h) hF rfl (fun w1 h hF => ?_) (by decide) (by decide)
  refine m_Rs.n0 b_250 (x_pop d_250_89 rfl) ?_
  refine m_Rs.n0 b_250 (x_aload_n d_250_90 rfl) ?_
  refine m_Rs.n0 b_250 (x_getf d_250_91 rfl h.1 rfl) ?_
  refine m_Rs.n0 b_250 (x_ift d_250_94 rfl hc13) ?_
  refine m_Rs.n0 b_250 (x_iload_n d_250_101 rfl) ?_
  refine m_Rs.ret b_250 (m_rt_ir d_250_102 rfl rfl) ?_
  exact kk _ h hF
theorem K_number_16_11 {l : Launch} {w w0 : List mM} {S : mS} {P : Option Value → List mM → Prop} {c s : Nat} {x2 x3 x1 : Int32} (h : m_RM S w) (hF : m_Fr w0 w m_dom) (hc1 : m_c1 .eq (F_isDigit (G_see S).1) = false) (hc9 : m_c2 .ge (((G_see S).2.1 4) - x2) (5 : Int32) = true) (hc10 : m_c2 .ne ((G_see S).2.1 4) x2 = true) (hc11 : m_c2 .le x3 x1 = false) (hc13 : m_c1 .eq ((G_wrong (G_see S).2 x2).2.1 5) = false) (g1 : m_c2 .ge (S.1 4) (S.1 2) = false → m_ix (S.1 4) 300) (kk : ∀ w1, m_RM (G_wrong (G_see S).2 x2).2 w1 → m_Fr w0 w1 m_dom → P (some (.int ((-1) : Int32))) w1) : m_Rs l M_250 (16, [(2, .int x2), (3, .int x3), (0, .ref 583), (1, .int x1)], [], w) P c s 6 600 := by
  refine m_Rs.n0 b_250 (x_aload_n d_250_16 rfl) ?_
  refine m_Rs.callS b_250 (y_cv d_250_17 rfl q_245 (m_isRecv_of rfl h.1) (show m_takeI _ _ = some (_, [_], []) from rfl) (by simp only [m_okf, List.all_cons, List.all_nil, Bool.and_true, Bool.and_self, m_okv_i, m_okv_l, m_okv_0, m_okv_t, m_okv_at h.1]) rfl) (T_see h g1) hF rfl (fun w1 h hF => ?_) (by decide) (by decide)
  refine m_Rs.callE b_250 (y_cs d_250_20 rfl q_251 (show m_takeS _ _ = some (_, [_], []) from rfl) (by simp only [m_okf, List.all_cons, List.all_nil, Bool.and_true, Bool.and_self, m_okv_i, m_okv_l, m_okv_0, m_okv_t, m_okv_at h.1]) rfl) (P_isDigit) rfl ?_ (by decide) (by decide)
  refine m_Rs.n0 b_250 (x_iff d_250_23 rfl hc1) ?_
  refine m_Rs.n0 b_250 (x_aload_n d_250_26 rfl) ?_
  refine m_Rs.n0 b_250 (x_getf d_250_27 rfl h.1 rfl) ?_
  refine m_Rs.n0 b_250 (x_iload_n d_250_30 rfl) ?_
  refine m_Rs.n0 b_250 (x_isub d_250_31 rfl) ?_
  refine m_Rs.n0 b_250 (x_iconst (z := 5) d_250_32 (by decide)) ?_
  refine m_Rs.n0 b_250 (x_ict d_250_33 rfl hc9) ?_
  refine m_Rs.n0 b_250 (x_aload_n d_250_62 rfl) ?_
  refine m_Rs.n0 b_250 (x_getf d_250_63 rfl h.1 rfl) ?_
  refine m_Rs.n0 b_250 (x_iload_n d_250_66 rfl) ?_
  refine m_Rs.n0 b_250 (x_ict d_250_67 rfl hc10) ?_
  refine m_Rs.n0 b_250 (x_iload_n d_250_79 rfl) ?_
  refine m_Rs.n0 b_250 (x_iload_n d_250_80 rfl) ?_
  refine m_Rs.n0 b_250 (x_icf d_250_81 rfl hc11) ?_
  refine m_Rs.n0 b_250 (x_aload_n d_250_84 rfl) ?_
  refine m_Rs.n0 b_250 (x_iload_n d_250_85 rfl) ?_
  refine m_Rs.callS b_250 (y_cv d_250_86 rfl q_248 (m_isRecv_of rfl h.1) (show m_takeI _ _ = some (_, [_, _], []) from rfl) (by simp only [m_okf, List.all_cons, List.all_nil, Bool.and_true, Bool.and_self, m_okv_i, m_okv_l, m_okv_0, m_okv_t, m_okv_at h.1]) rfl) (T_wrong h) hF rfl (fun w1 h hF => ?_) (by decide) (by decide)
  refine m_Rs.n0 b_250 (x_pop d_250_89 rfl) ?_
  refine m_Rs.n0 b_250 (x_aload_n d_250_90 rfl) ?_
  refine m_Rs.n0 b_250 (x_getf d_250_91 rfl h.1 rfl) ?_
  refine m_Rs.n0 b_250 (x_iff d_250_94 rfl hc13) ?_
  refine m_Rs.n0 b_250 (x_iconst (z := (-1)) d_250_97 (by decide)) ?_
  refine m_Rs.n0 b_250 (x_goto d_250_98 rfl) ?_
  refine m_Rs.ret b_250 (m_rt_ir d_250_102 rfl rfl) ?_
  exact kk _ h hF
theorem K_number_16_12 {l : Launch} {w w0 : List mM} {S : mS} {P : Option Value → List mM → Prop} {c s : Nat} {x2 x3 x1 : Int32} (h : m_RM S w) (hF : m_Fr w0 w m_dom) (hc1 : m_c1 .eq (F_isDigit (G_see S).1) = false) (hc9 : m_c2 .ge (((G_see S).2.1 4) - x2) (5 : Int32) = true) (hc10 : m_c2 .ne ((G_see S).2.1 4) x2 = false) (hc14 : m_c2 .le x3 x1 = true) (hc15 : m_c1 .eq ((G_wrong (G_see S).2 ((G_see S).2.1 4)).2.1 5) = true) (g1 : m_c2 .ge (S.1 4) (S.1 2) = false → m_ix (S.1 4) 300) (kk : ∀ w1, m_RM (G_wrong (G_see S).2 ((G_see S).2.1 4)).2 w1 → m_Fr w0 w1 m_dom → P (some (.int x3)) w1) : m_Rs l M_250 (16, [(2, .int x2), (3, .int x3), (0, .ref 583), (1, .int x1)], [], w) P c s 6 600 := by
  refine m_Rs.n0 b_250 (x_aload_n d_250_16 rfl) ?_
  refine m_Rs.callS b_250 (y_cv d_250_17 rfl q_245 (m_isRecv_of rfl h.1) (show m_takeI _ _ = some (_, [_], []) from rfl) (by simp only [m_okf, List.all_cons, List.all_nil, Bool.and_true, Bool.and_self, m_okv_i, m_okv_l, m_okv_0, m_okv_t, m_okv_at h.1]) rfl) (T_see h g1) hF rfl (fun w1 h hF => ?_) (by decide) (by decide)
  refine m_Rs.callE b_250 (y_cs d_250_20 rfl q_251 (show m_takeS _ _ = some (_, [_], []) from rfl) (by simp only [m_okf, List.all_cons, List.all_nil, Bool.and_true, Bool.and_self, m_okv_i, m_okv_l, m_okv_0, m_okv_t, m_okv_at h.1]) rfl) (P_isDigit) rfl ?_ (by decide) (by decide)
  refine m_Rs.n0 b_250 (x_iff d_250_23 rfl hc1) ?_
  refine m_Rs.n0 b_250 (x_aload_n d_250_26 rfl) ?_
  refine m_Rs.n0 b_250 (x_getf d_250_27 rfl h.1 rfl) ?_
  refine m_Rs.n0 b_250 (x_iload_n d_250_30 rfl) ?_
  refine m_Rs.n0 b_250 (x_isub d_250_31 rfl) ?_
  refine m_Rs.n0 b_250 (x_iconst (z := 5) d_250_32 (by decide)) ?_
  refine m_Rs.n0 b_250 (x_ict d_250_33 rfl hc9) ?_
  refine m_Rs.n0 b_250 (x_aload_n d_250_62 rfl) ?_
  refine m_Rs.n0 b_250 (x_getf d_250_63 rfl h.1 rfl) ?_
  refine m_Rs.n0 b_250 (x_iload_n d_250_66 rfl) ?_
  refine m_Rs.n0 b_250 (x_icf d_250_67 rfl hc10) ?_
  refine m_Rs.n0 b_250 (x_aload_n d_250_70 rfl) ?_
  refine m_Rs.n0 b_250 (x_aload_n d_250_71 rfl) ?_
  refine m_Rs.n0 b_250 (x_getf d_250_72 rfl h.1 rfl) ?_
  refine m_Rs.callS b_250 (y_cv d_250_75 rfl q_248 (m_isRecv_of rfl h.1) (show m_takeI _ _ = some (_, [_, _], []) from rfl) (by simp only [m_okf, List.all_cons, List.all_nil, Bool.and_true, Bool.and_self, m_okv_i, m_okv_l, m_okv_0, m_okv_t, m_okv_at h.1]) rfl) (T_wrong h) hF rfl (fun w1 h hF => ?_) (by decide) (by decide)
  refine m_Rs.n0 b_250 (x_pop d_250_78 rfl) ?_
  refine m_Rs.n0 b_250 (x_iload_n d_250_79 rfl) ?_
  refine m_Rs.n0 b_250 (x_iload_n d_250_80 rfl) ?_
  refine m_Rs.n0 b_250 (x_ict d_250_81 rfl hc14) ?_
  refine m_Rs.n0 b_250 (x_aload_n d_250_90 rfl) ?_
  refine m_Rs.n0 b_250 (x_getf d_250_91 rfl h.1 rfl) ?_
  refine m_Rs.n0 b_250 (x_ift d_250_94 rfl hc15) ?_
  refine m_Rs.n0 b_250 (x_iload_n d_250_101 rfl) ?_
  refine m_Rs.ret b_250 (m_rt_ir d_250_102 rfl rfl) ?_
  exact kk _ h hF
theorem K_number_16_13 {l : Launch} {w w0 : List mM} {S : mS} {P : Option Value → List mM → Prop} {c s : Nat} {x2 x3 x1 : Int32} (h : m_RM S w) (hF : m_Fr w0 w m_dom) (hc1 : m_c1 .eq (F_isDigit (G_see S).1) = false) (hc9 : m_c2 .ge (((G_see S).2.1 4) - x2) (5 : Int32) = true) (hc10 : m_c2 .ne ((G_see S).2.1 4) x2 = false) (hc14 : m_c2 .le x3 x1 = true) (hc15 : m_c1 .eq ((G_wrong (G_see S).2 ((G_see S).2.1 4)).2.1 5) = false) (g1 : m_c2 .ge (S.1 4) (S.1 2) = false → m_ix (S.1 4) 300) (kk : ∀ w1, m_RM (G_wrong (G_see S).2 ((G_see S).2.1 4)).2 w1 → m_Fr w0 w1 m_dom → P (some (.int ((-1) : Int32))) w1) : m_Rs l M_250 (16, [(2, .int x2), (3, .int x3), (0, .ref 583), (1, .int x1)], [], w) P c s 6 600 := by
  refine m_Rs.n0 b_250 (x_aload_n d_250_16 rfl) ?_
  refine m_Rs.callS b_250 (y_cv d_250_17 rfl q_245 (m_isRecv_of rfl h.1) (show m_takeI _ _ = some (_, [_], []) from rfl) (by simp only [m_okf, List.all_cons, List.all_nil, Bool.and_true, Bool.and_self, m_okv_i, m_okv_l, m_okv_0, m_okv_t, m_okv_at h.1]) rfl) (T_see h g1) hF rfl (fun w1 h hF => ?_) (by decide) (by decide)
  refine m_Rs.callE b_250 (y_cs d_250_20 rfl q_251 (show m_takeS _ _ = some (_, [_], []) from rfl) (by simp only [m_okf, List.all_cons, List.all_nil, Bool.and_true, Bool.and_self, m_okv_i, m_okv_l, m_okv_0, m_okv_t, m_okv_at h.1]) rfl) (P_isDigit) rfl ?_ (by decide) (by decide)
  refine m_Rs.n0 b_250 (x_iff d_250_23 rfl hc1) ?_
  refine m_Rs.n0 b_250 (x_aload_n d_250_26 rfl) ?_
  refine m_Rs.n0 b_250 (x_getf d_250_27 rfl h.1 rfl) ?_
  refine m_Rs.n0 b_250 (x_iload_n d_250_30 rfl) ?_
  refine m_Rs.n0 b_250 (x_isub d_250_31 rfl) ?_
  refine m_Rs.n0 b_250 (x_iconst (z := 5) d_250_32 (by decide)) ?_
  refine m_Rs.n0 b_250 (x_ict d_250_33 rfl hc9) ?_
  refine m_Rs.n0 b_250 (x_aload_n d_250_62 rfl) ?_
  refine m_Rs.n0 b_250 (x_getf d_250_63 rfl h.1 rfl) ?_
  refine m_Rs.n0 b_250 (x_iload_n d_250_66 rfl) ?_
  refine m_Rs.n0 b_250 (x_icf d_250_67 rfl hc10) ?_
  refine m_Rs.n0 b_250 (x_aload_n d_250_70 rfl) ?_
  refine m_Rs.n0 b_250 (x_aload_n d_250_71 rfl) ?_
  refine m_Rs.n0 b_250 (x_getf d_250_72 rfl h.1 rfl) ?_
  refine m_Rs.callS b_250 (y_cv d_250_75 rfl q_248 (m_isRecv_of rfl h.1) (show m_takeI _ _ = some (_, [_, _], []) from rfl) (by simp only [m_okf, List.all_cons, List.all_nil, Bool.and_true, Bool.and_self, m_okv_i, m_okv_l, m_okv_0, m_okv_t, m_okv_at h.1]) rfl) (T_wrong h) hF rfl (fun w1 h hF => ?_) (by decide) (by decide)
  refine m_Rs.n0 b_250 (x_pop d_250_78 rfl) ?_
  refine m_Rs.n0 b_250 (x_iload_n d_250_79 rfl) ?_
  refine m_Rs.n0 b_250 (x_iload_n d_250_80 rfl) ?_
  refine m_Rs.n0 b_250 (x_ict d_250_81 rfl hc14) ?_
  refine m_Rs.n0 b_250 (x_aload_n d_250_90 rfl) ?_
  refine m_Rs.n0 b_250 (x_getf d_250_91 rfl h.1 rfl) ?_
  refine m_Rs.n0 b_250 (x_iff d_250_94 rfl hc15) ?_
  refine m_Rs.n0 b_250 (x_iconst (z := (-1)) d_250_97 (by decide)) ?_
  refine m_Rs.n0 b_250 (x_goto d_250_98 rfl) ?_
  refine m_Rs.ret b_250 (m_rt_ir d_250_102 rfl rfl) ?_
  exact kk _ h hF
theorem K_number_16_14 {l : Launch} {w w0 : List mM} {S : mS} {P : Option Value → List mM → Prop} {c s : Nat} {x2 x3 x1 : Int32} (h : m_RM S w) (hF : m_Fr w0 w m_dom) (hc1 : m_c1 .eq (F_isDigit (G_see S).1) = false) (hc9 : m_c2 .ge (((G_see S).2.1 4) - x2) (5 : Int32) = true) (hc10 : m_c2 .ne ((G_see S).2.1 4) x2 = false) (hc14 : m_c2 .le x3 x1 = false) (hc16 : m_c1 .eq ((G_wrong (G_wrong (G_see S).2 ((G_see S).2.1 4)).2 x2).2.1 5) = true) (g1 : m_c2 .ge (S.1 4) (S.1 2) = false → m_ix (S.1 4) 300) (kk : ∀ w1, m_RM (G_wrong (G_wrong (G_see S).2 ((G_see S).2.1 4)).2 x2).2 w1 → m_Fr w0 w1 m_dom → P (some (.int x3)) w1) : m_Rs l M_250 (16, [(2, .int x2), (3, .int x3), (0, .ref 583), (1, .int x1)], [], w) P c s 6 600 := by
  refine m_Rs.n0 b_250 (x_aload_n d_250_16 rfl) ?_
  refine m_Rs.callS b_250 (y_cv d_250_17 rfl q_245 (m_isRecv_of rfl h.1) (show m_takeI _ _ = some (_, [_], []) from rfl) (by simp only [m_okf, List.all_cons, List.all_nil, Bool.and_true, Bool.and_self, m_okv_i, m_okv_l, m_okv_0, m_okv_t, m_okv_at h.1]) rfl) (T_see h g1) hF rfl (fun w1 h hF => ?_) (by decide) (by decide)
  refine m_Rs.callE b_250 (y_cs d_250_20 rfl q_251 (show m_takeS _ _ = some (_, [_], []) from rfl) (by simp only [m_okf, List.all_cons, List.all_nil, Bool.and_true, Bool.and_self, m_okv_i, m_okv_l, m_okv_0, m_okv_t, m_okv_at h.1]) rfl) (P_isDigit) rfl ?_ (by decide) (by decide)
  refine m_Rs.n0 b_250 (x_iff d_250_23 rfl hc1) ?_
  refine m_Rs.n0 b_250 (x_aload_n d_250_26 rfl) ?_
  refine m_Rs.n0 b_250 (x_getf d_250_27 rfl h.1 rfl) ?_
  refine m_Rs.n0 b_250 (x_iload_n d_250_30 rfl) ?_
  refine m_Rs.n0 b_250 (x_isub d_250_31 rfl) ?_
  refine m_Rs.n0 b_250 (x_iconst (z := 5) d_250_32 (by decide)) ?_
  refine m_Rs.n0 b_250 (x_ict d_250_33 rfl hc9) ?_
  refine m_Rs.n0 b_250 (x_aload_n d_250_62 rfl) ?_
  refine m_Rs.n0 b_250 (x_getf d_250_63 rfl h.1 rfl) ?_
  refine m_Rs.n0 b_250 (x_iload_n d_250_66 rfl) ?_
  refine m_Rs.n0 b_250 (x_icf d_250_67 rfl hc10) ?_
  refine m_Rs.n0 b_250 (x_aload_n d_250_70 rfl) ?_
  refine m_Rs.n0 b_250 (x_aload_n d_250_71 rfl) ?_
  refine m_Rs.n0 b_250 (x_getf d_250_72 rfl h.1 rfl) ?_
  refine m_Rs.callS b_250 (y_cv d_250_75 rfl q_248 (m_isRecv_of rfl h.1) (show m_takeI _ _ = some (_, [_, _], []) from rfl) (by simp only [m_okf, List.all_cons, List.all_nil, Bool.and_true, Bool.and_self, m_okv_i, m_okv_l, m_okv_0, m_okv_t, m_okv_at h.1]) rfl) (T_wrong h) hF rfl (fun w1 h hF => ?_) (by decide) (by decide)
  refine m_Rs.n0 b_250 (x_pop d_250_78 rfl) ?_
  refine m_Rs.n0 b_250 (x_iload_n d_250_79 rfl) ?_
  refine m_Rs.n0 b_250 (x_iload_n d_250_80 rfl) ?_
  refine m_Rs.n0 b_250 (x_icf d_250_81 rfl hc14) ?_
  refine m_Rs.n0 b_250 (x_aload_n d_250_84 rfl) ?_
  refine m_Rs.n0 b_250 (x_iload_n d_250_85 rfl) ?_
  refine m_Rs.callS b_250 (y_cv d_250_86 rfl q_248 (m_isRecv_of rfl h.1) (show m_takeI _ _ = some (_, [_, _], []) from rfl) (by simp only [m_okf, List.all_cons, List.all_nil, Bool.and_true, Bool.and_self, m_okv_i, m_okv_l, m_okv_0, m_okv_t, m_okv_at h.1]) rfl) (T_wrong h) hF rfl (fun w1 h hF => ?_) (by decide) (by decide)
  refine m_Rs.n0 b_250 (x_pop d_250_89 rfl) ?_
  refine m_Rs.n0 b_250 (x_aload_n d_250_90 rfl) ?_
  refine m_Rs.n0 b_250 (x_getf d_250_91 rfl h.1 rfl) ?_
  refine m_Rs.n0 b_250 (x_ift d_250_94 rfl hc16) ?_
  refine m_Rs.n0 b_250 (x_iload_n d_250_101 rfl) ?_
  refine m_Rs.ret b_250 (m_rt_ir d_250_102 rfl rfl) ?_
  exact kk _ h hF
theorem K_number_16_15 {l : Launch} {w w0 : List mM} {S : mS} {P : Option Value → List mM → Prop} {c s : Nat} {x2 x3 x1 : Int32} (h : m_RM S w) (hF : m_Fr w0 w m_dom) (hc1 : m_c1 .eq (F_isDigit (G_see S).1) = false) (hc9 : m_c2 .ge (((G_see S).2.1 4) - x2) (5 : Int32) = true) (hc10 : m_c2 .ne ((G_see S).2.1 4) x2 = false) (hc14 : m_c2 .le x3 x1 = false) (hc16 : m_c1 .eq ((G_wrong (G_wrong (G_see S).2 ((G_see S).2.1 4)).2 x2).2.1 5) = false) (g1 : m_c2 .ge (S.1 4) (S.1 2) = false → m_ix (S.1 4) 300) (kk : ∀ w1, m_RM (G_wrong (G_wrong (G_see S).2 ((G_see S).2.1 4)).2 x2).2 w1 → m_Fr w0 w1 m_dom → P (some (.int ((-1) : Int32))) w1) : m_Rs l M_250 (16, [(2, .int x2), (3, .int x3), (0, .ref 583), (1, .int x1)], [], w) P c s 6 600 := by
  refine m_Rs.n0 b_250 (x_aload_n d_250_16 rfl) ?_
  refine m_Rs.callS b_250 (y_cv d_250_17 rfl q_245 (m_isRecv_of rfl h.1) (show m_takeI _ _ = some (_, [_], []) from rfl) (by simp only [m_okf, List.all_cons, List.all_nil, Bool.and_true, Bool.and_self, m_okv_i, m_okv_l, m_okv_0, m_okv_t, m_okv_at h.1]) rfl) (T_see h g1) hF rfl (fun w1 h hF => ?_) (by decide) (by decide)
  refine m_Rs.callE b_250 (y_cs d_250_20 rfl q_251 (show m_takeS _ _ = some (_, [_], []) from rfl) (by simp only [m_okf, List.all_cons, List.all_nil, Bool.and_true, Bool.and_self, m_okv_i, m_okv_l, m_okv_0, m_okv_t, m_okv_at h.1]) rfl) (P_isDigit) rfl ?_ (by decide) (by decide)
  refine m_Rs.n0 b_250 (x_iff d_250_23 rfl hc1) ?_
  refine m_Rs.n0 b_250 (x_aload_n d_250_26 rfl) ?_
  refine m_Rs.n0 b_250 (x_getf d_250_27 rfl h.1 rfl) ?_
  refine m_Rs.n0 b_250 (x_iload_n d_250_30 rfl) ?_
  refine m_Rs.n0 b_250 (x_isub d_250_31 rfl) ?_
  refine m_Rs.n0 b_250 (x_iconst (z := 5) d_250_32 (by decide)) ?_
  refine m_Rs.n0 b_250 (x_ict d_250_33 rfl hc9) ?_
  refine m_Rs.n0 b_250 (x_aload_n d_250_62 rfl) ?_
  refine m_Rs.n0 b_250 (x_getf d_250_63 rfl h.1 rfl) ?_
  refine m_Rs.n0 b_250 (x_iload_n d_250_66 rfl) ?_
  refine m_Rs.n0 b_250 (x_icf d_250_67 rfl hc10) ?_
  refine m_Rs.n0 b_250 (x_aload_n d_250_70 rfl) ?_
  refine m_Rs.n0 b_250 (x_aload_n d_250_71 rfl) ?_
  refine m_Rs.n0 b_250 (x_getf d_250_72 rfl h.1 rfl) ?_
  refine m_Rs.callS b_250 (y_cv d_250_75 rfl q_248 (m_isRecv_of rfl h.1) (show m_takeI _ _ = some (_, [_, _], []) from rfl) (by simp only [m_okf, List.all_cons, List.all_nil, Bool.and_true, Bool.and_self, m_okv_i, m_okv_l, m_okv_0, m_okv_t, m_okv_at h.1]) rfl) (T_wrong h) hF rfl (fun w1 h hF => ?_) (by decide) (by decide)
  refine m_Rs.n0 b_250 (x_pop d_250_78 rfl) ?_
  refine m_Rs.n0 b_250 (x_iload_n d_250_79 rfl) ?_
  refine m_Rs.n0 b_250 (x_iload_n d_250_80 rfl) ?_
  refine m_Rs.n0 b_250 (x_icf d_250_81 rfl hc14) ?_
  refine m_Rs.n0 b_250 (x_aload_n d_250_84 rfl) ?_
  refine m_Rs.n0 b_250 (x_iload_n d_250_85 rfl) ?_
  refine m_Rs.callS b_250 (y_cv d_250_86 rfl q_248 (m_isRecv_of rfl h.1) (show m_takeI _ _ = some (_, [_, _], []) from rfl) (by simp only [m_okf, List.all_cons, List.all_nil, Bool.and_true, Bool.and_self, m_okv_i, m_okv_l, m_okv_0, m_okv_t, m_okv_at h.1]) rfl) (T_wrong h) hF rfl (fun w1 h hF => ?_) (by decide) (by decide)
  refine m_Rs.n0 b_250 (x_pop d_250_89 rfl) ?_
  refine m_Rs.n0 b_250 (x_aload_n d_250_90 rfl) ?_
  refine m_Rs.n0 b_250 (x_getf d_250_91 rfl h.1 rfl) ?_
  refine m_Rs.n0 b_250 (x_iff d_250_94 rfl hc16) ?_
  refine m_Rs.n0 b_250 (x_iconst (z := (-1)) d_250_97 (by decide)) ?_
  refine m_Rs.n0 b_250 (x_goto d_250_98 rfl) ?_
  refine m_Rs.ret b_250 (m_rt_ir d_250_102 rfl rfl) ?_
  exact kk _ h hF
theorem K_number_16_16 {l : Launch} {w w0 : List mM} {S : mS} {P : Option Value → List mM → Prop} {c s : Nat} {x2 x3 x1 : Int32} (h : m_RM S w) (hF : m_Fr w0 w m_dom) (hc1 : m_c1 .eq (F_isDigit (G_see S).1) = false) (hc9 : m_c2 .ge (((G_see S).2.1 4) - x2) (5 : Int32) = false) (g1 : m_c2 .ge (S.1 4) (S.1 2) = false → m_ix (S.1 4) 300) (g2 : m_c2 .ge ((G_see S).2.1 4) ((G_see S).2.1 2) = false → m_ix ((G_see S).2.1 4) 300) (kk : ∀ w1, m_RM (up1 (G_see (G_see S).2).2 4 (((G_see (G_see S).2).2.1 4) + (1 : Int32))) w1 → m_Fr w0 w1 m_dom → m_Rs l M_250 (16, [(2, .int x2), (3, .int ((((10 : Int32) * x3) + (G_see (G_see S).2).1) - (48 : Int32))), (0, .ref 583), (1, .int x1)], [], w1) P c s 6 600) : m_Rs l M_250 (16, [(2, .int x2), (3, .int x3), (0, .ref 583), (1, .int x1)], [], w) P c s 6 600 := by
  refine m_Rs.n0 b_250 (x_aload_n d_250_16 rfl) ?_
  refine m_Rs.callS b_250 (y_cv d_250_17 rfl q_245 (m_isRecv_of rfl h.1) (show m_takeI _ _ = some (_, [_], []) from rfl) (by simp only [m_okf, List.all_cons, List.all_nil, Bool.and_true, Bool.and_self, m_okv_i, m_okv_l, m_okv_0, m_okv_t, m_okv_at h.1]) rfl) (T_see h g1) hF rfl (fun w1 h hF => ?_) (by decide) (by decide)
  refine m_Rs.callE b_250 (y_cs d_250_20 rfl q_251 (show m_takeS _ _ = some (_, [_], []) from rfl) (by simp only [m_okf, List.all_cons, List.all_nil, Bool.and_true, Bool.and_self, m_okv_i, m_okv_l, m_okv_0, m_okv_t, m_okv_at h.1]) rfl) (P_isDigit) rfl ?_ (by decide) (by decide)
  refine m_Rs.n0 b_250 (x_iff d_250_23 rfl hc1) ?_
  refine m_Rs.n0 b_250 (x_aload_n d_250_26 rfl) ?_
  refine m_Rs.n0 b_250 (x_getf d_250_27 rfl h.1 rfl) ?_
  refine m_Rs.n0 b_250 (x_iload_n d_250_30 rfl) ?_
  refine m_Rs.n0 b_250 (x_isub d_250_31 rfl) ?_
  refine m_Rs.n0 b_250 (x_iconst (z := 5) d_250_32 (by decide)) ?_
  refine m_Rs.n0 b_250 (x_icf d_250_33 rfl hc9) ?_
  refine m_Rs.n0 b_250 (x_bipush (z := 10) d_250_36 (by decide)) ?_
  refine m_Rs.n0 b_250 (x_iload_n d_250_38 rfl) ?_
  refine m_Rs.n0 b_250 (x_imul d_250_39 rfl) ?_
  refine m_Rs.n0 b_250 (x_aload_n d_250_40 rfl) ?_
  refine m_Rs.callS b_250 (y_cv d_250_41 rfl q_245 (m_isRecv_of rfl h.1) (show m_takeI _ _ = some (_, [_], [_]) from rfl) (by simp only [m_okf, List.all_cons, List.all_nil, Bool.and_true, Bool.and_self, m_okv_i, m_okv_l, m_okv_0, m_okv_t, m_okv_at h.1]) rfl) (T_see h g2) hF rfl (fun w1 h hF => ?_) (by decide) (by decide)
  refine m_Rs.n0 b_250 (x_iadd d_250_44 rfl) ?_
  refine m_Rs.n0 b_250 (x_bipush (z := 48) d_250_45 (by decide)) ?_
  refine m_Rs.n0 b_250 (x_isub d_250_47 rfl) ?_
  refine m_Rs.n0 b_250 (x_istore_n d_250_48 rfl (show m_put1 _ _ _ = [(3, _), (2, _), (0, _), (1, _)] from rfl)) ?_
  refine m_Rs.n0 b_250 (x_aload_n d_250_49 rfl) ?_
  refine m_Rs.n0 b_250 (x_dup d_250_50 rfl) ?_
  refine m_Rs.n0 b_250 (x_getf d_250_51 rfl h.1 rfl) ?_
  refine m_Rs.n0 b_250 (x_iconst (z := 1) d_250_54 (by decide)) ?_
  refine m_Rs.n0 b_250 (x_iadd d_250_55 rfl) ?_
  refine m_Rs.mput b_250 d_250_56 h hF rfl rfl rfl rfl rfl rfl (fun w1 h hF => ?_)
  refine m_Rs.n0 b_250 (x_goto d_250_59 rfl) ?_
  exact m_Rs.pick [1, 0, 2, 3] rfl (kk _ h hF)
theorem K_blank_0_0 {l : Launch} {w w0 : List mM} {S : mS} {P : Option Value → List mM → Prop} {c s : Nat} {ty fr to_ nu key : Int32} (h : m_RM S w) (hF : m_Fr w0 w m_dom) (kk : ∀ w1, m_RM S w1 → m_Fr w0 w1 m_dom → m_Rs l M_304 (3, [(6, .int (0 : Int32)), (0, .ref 583), (1, .int ty), (2, .int fr), (3, .int to_), (4, .int nu), (5, .int key)], [], w1) P c s 2 200) : m_Rs l M_304 (0, [(0, .ref 583), (1, .int ty), (2, .int fr), (3, .int to_), (4, .int nu), (5, .int key)], [], w) P c s 2 200 := by
  refine m_Rs.n0 b_304 (x_iconst (z := 0) d_304_0 (by decide)) ?_
  refine m_Rs.n0 b_304 (x_istore d_304_1 rfl (show m_put1 _ _ _ = [(6, _), (0, _), (1, _), (2, _), (3, _), (4, _), (5, _)] from rfl)) ?_
  exact m_Rs.pick [0, 1, 2, 3, 4, 5, 6] rfl (kk _ h hF)
theorem K_blank_3_0 {l : Launch} {w w0 : List mM} {S : mS} {P : Option Value → List mM → Prop} {c s : Nat} {x6 x1 x2 x3 x4 x5 : Int32} (h : m_RM S w) (hF : m_Fr w0 w m_dom) (hc1 : m_c2 .ge x6 (22 : Int32) = true) (g1 : m_ix (0 : Int32) 22) (g2 : m_ix (1 : Int32) 22) (g3 : m_ix (2 : Int32) 22) (g4 : m_ix (3 : Int32) 22) (g5 : m_ix (4 : Int32) 22) (g6 : m_ix (5 : Int32) 22) (kk : ∀ w1, m_RM (up2 (up2 (up2 (up2 (up2 (up2 S 625 ((0 : Int32)).toNatClampNeg x1) 625 ((1 : Int32)).toNatClampNeg x2) 625 ((2 : Int32)).toNatClampNeg x3) 625 ((3 : Int32)).toNatClampNeg x4) 625 ((4 : Int32)).toNatClampNeg (x5 / (4 : Int32))) 625 ((5 : Int32)).toNatClampNeg (x5 - x5 / (4 : Int32) * (4 : Int32))) w1 → m_Fr w0 w1 m_dom → P (none) w1) : m_Rs l M_304 (3, [(6, .int x6), (0, .ref 583), (1, .int x1), (2, .int x2), (3, .int x3), (4, .int x4), (5, .int x5)], [], w) P c s 2 200 := by
  refine m_Rs.n0 b_304 (x_iload d_304_3 rfl) ?_
  refine m_Rs.n0 b_304 (x_bipush (z := 22) d_304_5 (by decide)) ?_
  refine m_Rs.n0 b_304 (x_ict d_304_7 rfl hc1) ?_
  refine m_Rs.n0 b_304 (x_aload_n d_304_24 rfl) ?_
  refine m_Rs.n0 b_304 (x_getf d_304_25 rfl h.1 rfl) ?_
  refine m_Rs.n0 b_304 (x_iconst (z := 0) d_304_28 (by decide)) ?_
  refine m_Rs.n0 b_304 (x_iload_n d_304_29 rfl) ?_
  refine m_Rs.mias b_304 d_304_30 h hF 41 rfl (g1) (fun w1 h hF => ?_)
  refine m_Rs.n0 b_304 (x_aload_n d_304_31 rfl) ?_
  refine m_Rs.n0 b_304 (x_getf d_304_32 rfl h.1 rfl) ?_
  refine m_Rs.n0 b_304 (x_iconst (z := 1) d_304_35 (by decide)) ?_
  refine m_Rs.n0 b_304 (x_iload_n d_304_36 rfl) ?_
  refine m_Rs.mias b_304 d_304_37 h hF 41 rfl (g2) (fun w1 h hF => ?_)
  refine m_Rs.n0 b_304 (x_aload_n d_304_38 rfl) ?_
  refine m_Rs.n0 b_304 (x_getf d_304_39 rfl h.1 rfl) ?_
  refine m_Rs.n0 b_304 (x_iconst (z := 2) d_304_42 (by decide)) ?_
  refine m_Rs.n0 b_304 (x_iload_n d_304_43 rfl) ?_
  refine m_Rs.mias b_304 d_304_44 h hF 41 rfl (g3) (fun w1 h hF => ?_)
  refine m_Rs.n0 b_304 (x_aload_n d_304_45 rfl) ?_
  refine m_Rs.n0 b_304 (x_getf d_304_46 rfl h.1 rfl) ?_
  refine m_Rs.n0 b_304 (x_iconst (z := 3) d_304_49 (by decide)) ?_
  refine m_Rs.n0 b_304 (x_iload d_304_50 rfl) ?_
  refine m_Rs.mias b_304 d_304_52 h hF 41 rfl (g4) (fun w1 h hF => ?_)
  refine m_Rs.n0 b_304 (x_aload_n d_304_53 rfl) ?_
  refine m_Rs.n0 b_304 (x_getf d_304_54 rfl h.1 rfl) ?_
  refine m_Rs.n0 b_304 (x_iconst (z := 4) d_304_57 (by decide)) ?_
  refine m_Rs.n0 b_304 (x_iload d_304_58 rfl) ?_
  refine m_Rs.n0 b_304 (x_iconst (z := 4) d_304_60 (by decide)) ?_
  refine m_Rs.n0 b_304 (x_idiv d_304_61 (by decide) rfl) ?_
  refine m_Rs.mias b_304 d_304_62 h hF 41 rfl (g5) (fun w1 h hF => ?_)
  refine m_Rs.n0 b_304 (x_aload_n d_304_63 rfl) ?_
  refine m_Rs.n0 b_304 (x_getf d_304_64 rfl h.1 rfl) ?_
  refine m_Rs.n0 b_304 (x_iconst (z := 5) d_304_67 (by decide)) ?_
  refine m_Rs.n0 b_304 (x_iload d_304_68 rfl) ?_
  refine m_Rs.n0 b_304 (x_iconst (z := 4) d_304_70 (by decide)) ?_
  refine m_Rs.n0 b_304 (x_irem d_304_71 (by decide) rfl) ?_
  refine m_Rs.mias b_304 d_304_72 h hF 41 rfl (g6) (fun w1 h hF => ?_)
  refine m_Rs.ret b_304 (m_rt_vr d_304_73 rfl) ?_
  exact kk _ h hF
theorem K_blank_3_1 {l : Launch} {w w0 : List mM} {S : mS} {P : Option Value → List mM → Prop} {c s : Nat} {x6 x1 x2 x3 x4 x5 : Int32} (h : m_RM S w) (hF : m_Fr w0 w m_dom) (hc1 : m_c2 .ge x6 (22 : Int32) = false) (g1 : m_ix x6 22) (kk : ∀ w1, m_RM (up2 S 625 (x6).toNatClampNeg (0 : Int32)) w1 → m_Fr w0 w1 m_dom → m_Rs l M_304 (3, [(6, .int (x6 + Int32.ofInt 1)), (0, .ref 583), (1, .int x1), (2, .int x2), (3, .int x3), (4, .int x4), (5, .int x5)], [], w1) P c s 2 200) : m_Rs l M_304 (3, [(6, .int x6), (0, .ref 583), (1, .int x1), (2, .int x2), (3, .int x3), (4, .int x4), (5, .int x5)], [], w) P c s 2 200 := by
  refine m_Rs.n0 b_304 (x_iload d_304_3 rfl) ?_
  refine m_Rs.n0 b_304 (x_bipush (z := 22) d_304_5 (by decide)) ?_
  refine m_Rs.n0 b_304 (x_icf d_304_7 rfl hc1) ?_
  refine m_Rs.n0 b_304 (x_aload_n d_304_10 rfl) ?_
  refine m_Rs.n0 b_304 (x_getf d_304_11 rfl h.1 rfl) ?_
  refine m_Rs.n0 b_304 (x_iload d_304_14 rfl) ?_
  refine m_Rs.n0 b_304 (x_iconst (z := 0) d_304_16 (by decide)) ?_
  refine m_Rs.mias b_304 d_304_17 h hF 41 rfl (g1) (fun w1 h hF => ?_)
  refine m_Rs.n0 b_304 (x_iinc d_304_18 rfl rfl rfl (show m_put1 _ _ _ = [(6, _), (0, _), (1, _), (2, _), (3, _), (4, _), (5, _)] from rfl)) ?_
  refine m_Rs.n0 b_304 (x_goto d_304_21 rfl) ?_
  exact m_Rs.pick [0, 1, 2, 3, 4, 5, 6] rfl (kk _ h hF)
theorem K_post_0_0 {l : Launch} {w w0 : List mM} {S : mS} {P : Option Value → List mM → Prop} {c s : Nat} (h : m_RM S w) (hF : m_Fr w0 w m_dom) (hc1 : m_c2 .ne (S.1 77) (100 : Int32) = true) (kk : ∀ w1, m_RM S w1 → m_Fr w0 w1 m_dom → m_Rs l M_305 (22, [(1, .int (0 : Int32)), (0, .ref 583)], [], w1) P c s 2 200) : m_Rs l M_305 (0, [(0, .ref 583)], [], w) P c s 2 200 := by
  refine m_Rs.n0 b_305 (x_aload_n d_305_0 rfl) ?_
  refine m_Rs.n0 b_305 (x_getf d_305_1 rfl h.1 rfl) ?_
  refine m_Rs.n0 b_305 (x_bipush (z := 100) d_305_4 (by decide)) ?_
  refine m_Rs.n0 b_305 (x_ict d_305_6 rfl hc1) ?_
  refine m_Rs.n0 b_305 (x_iconst (z := 0) d_305_20 (by decide)) ?_
  refine m_Rs.n0 b_305 (x_istore_n d_305_21 rfl (show m_put1 _ _ _ = [(1, _), (0, _)] from rfl)) ?_
  exact m_Rs.pick [0, 1] rfl (kk _ h hF)
theorem K_post_0_1 {l : Launch} {w w0 : List mM} {S : mS} {P : Option Value → List mM → Prop} {c s : Nat} (h : m_RM S w) (hF : m_Fr w0 w m_dom) (hc1 : m_c2 .ne (S.1 77) (100 : Int32) = false) (kk : ∀ w1, m_RM (up1 S 39 ((S.1 39) + (1 : Int32))) w1 → m_Fr w0 w1 m_dom → P (none) w1) : m_Rs l M_305 (0, [(0, .ref 583)], [], w) P c s 2 200 := by
  refine m_Rs.n0 b_305 (x_aload_n d_305_0 rfl) ?_
  refine m_Rs.n0 b_305 (x_getf d_305_1 rfl h.1 rfl) ?_
  refine m_Rs.n0 b_305 (x_bipush (z := 100) d_305_4 (by decide)) ?_
  refine m_Rs.n0 b_305 (x_icf d_305_6 rfl hc1) ?_
  refine m_Rs.n0 b_305 (x_aload_n d_305_9 rfl) ?_
  refine m_Rs.n0 b_305 (x_dup d_305_10 rfl) ?_
  refine m_Rs.n0 b_305 (x_getf d_305_11 rfl h.1 rfl) ?_
  refine m_Rs.n0 b_305 (x_iconst (z := 1) d_305_14 (by decide)) ?_
  refine m_Rs.n0 b_305 (x_iadd d_305_15 rfl) ?_
  refine m_Rs.mput b_305 d_305_16 h hF rfl rfl rfl rfl rfl rfl (fun w1 h hF => ?_)
  refine m_Rs.ret b_305 (m_rt_vr d_305_19 rfl) ?_
  exact kk _ h hF
theorem K_post_22_0 {l : Launch} {w w0 : List mM} {S : mS} {P : Option Value → List mM → Prop} {c s : Nat} {x1 : Int32} (h : m_RM S w) (hF : m_Fr w0 w m_dom) (hc1 : m_c2 .ge x1 (22 : Int32) = true) (kk : ∀ w1, m_RM (up1 S 77 ((S.1 77) + (1 : Int32))) w1 → m_Fr w0 w1 m_dom → P (none) w1) : m_Rs l M_305 (22, [(1, .int x1), (0, .ref 583)], [], w) P c s 2 200 := by
  refine m_Rs.n0 b_305 (x_iload_n d_305_22 rfl) ?_
  refine m_Rs.n0 b_305 (x_bipush (z := 22) d_305_23 (by decide)) ?_
  refine m_Rs.n0 b_305 (x_ict d_305_25 rfl hc1) ?_
  refine m_Rs.n0 b_305 (x_aload_n d_305_54 rfl) ?_
  refine m_Rs.n0 b_305 (x_dup d_305_55 rfl) ?_
  refine m_Rs.n0 b_305 (x_getf d_305_56 rfl h.1 rfl) ?_
  refine m_Rs.n0 b_305 (x_iconst (z := 1) d_305_59 (by decide)) ?_
  refine m_Rs.n0 b_305 (x_iadd d_305_60 rfl) ?_
  refine m_Rs.mput b_305 d_305_61 h hF rfl rfl rfl rfl rfl rfl (fun w1 h hF => ?_)
  refine m_Rs.ret b_305 (m_rt_vr d_305_64 rfl) ?_
  exact kk _ h hF
theorem K_post_22_1 {l : Launch} {w w0 : List mM} {S : mS} {P : Option Value → List mM → Prop} {c s : Nat} {x1 : Int32} (h : m_RM S w) (hF : m_Fr w0 w m_dom) (hc1 : m_c2 .ge x1 (22 : Int32) = false) (g1 : m_ix x1 22) (g2 : m_ix (((22 : Int32) * (S.1 77)) + x1) 2200) (kk : ∀ w1, m_RM (up2 S 624 ((((22 : Int32) * (S.1 77)) + x1)).toNatClampNeg (m_rd 0 (S.2 625) x1)) w1 → m_Fr w0 w1 m_dom → m_Rs l M_305 (22, [(1, .int (x1 + Int32.ofInt 1)), (0, .ref 583)], [], w1) P c s 2 200) : m_Rs l M_305 (22, [(1, .int x1), (0, .ref 583)], [], w) P c s 2 200 := by
  refine m_Rs.n0 b_305 (x_iload_n d_305_22 rfl) ?_
  refine m_Rs.n0 b_305 (x_bipush (z := 22) d_305_23 (by decide)) ?_
  refine m_Rs.n0 b_305 (x_icf d_305_25 rfl hc1) ?_
  refine m_Rs.n0 b_305 (x_aload_n d_305_28 rfl) ?_
  refine m_Rs.n0 b_305 (x_getf d_305_29 rfl h.1 rfl) ?_
  refine m_Rs.n0 b_305 (x_bipush (z := 22) d_305_32 (by decide)) ?_
  refine m_Rs.n0 b_305 (x_aload_n d_305_34 rfl) ?_
  refine m_Rs.n0 b_305 (x_getf d_305_35 rfl h.1 rfl) ?_
  refine m_Rs.n0 b_305 (x_imul d_305_38 rfl) ?_
  refine m_Rs.n0 b_305 (x_iload_n d_305_39 rfl) ?_
  refine m_Rs.n0 b_305 (x_iadd d_305_40 rfl) ?_
  refine m_Rs.n0 b_305 (x_aload_n d_305_41 rfl) ?_
  refine m_Rs.n0 b_305 (x_getf d_305_42 rfl h.1 rfl) ?_
  refine m_Rs.n0 b_305 (x_iload_n d_305_45 rfl) ?_
  refine m_Rs.n0 b_305 (x_ldG d_305_46 (h.a 41 rfl) rfl (g1)) ?_
  refine m_Rs.mias b_305 d_305_47 h hF 40 rfl (g2) (fun w1 h hF => ?_)
  refine m_Rs.n0 b_305 (x_iinc d_305_48 rfl rfl rfl (show m_put1 _ _ _ = [(1, _), (0, _)] from rfl)) ?_
  refine m_Rs.n0 b_305 (x_goto d_305_51 rfl) ?_
  exact m_Rs.pick [0, 1] rfl (kk _ h hF)
theorem K_remove_0_0 {l : Launch} {w w0 : List mM} {S : mS} {P : Option Value → List mM → Prop} {c s : Nat} {k : Int32} (h : m_RM S w) (hF : m_Fr w0 w m_dom) (kk : ∀ w1, m_RM S w1 → m_Fr w0 w1 m_dom → m_Rs l M_316 (5, [(2, .int ((22 : Int32) * k)), (0, .ref 583), (1, .int k)], [], w1) P c s 2 200) : m_Rs l M_316 (0, [(0, .ref 583), (1, .int k)], [], w) P c s 2 200 := by
  refine m_Rs.n0 b_316 (x_bipush (z := 22) d_316_0 (by decide)) ?_
  refine m_Rs.n0 b_316 (x_iload_n d_316_2 rfl) ?_
  refine m_Rs.n0 b_316 (x_imul d_316_3 rfl) ?_
  refine m_Rs.n0 b_316 (x_istore_n d_316_4 rfl (show m_put1 _ _ _ = [(2, _), (0, _), (1, _)] from rfl)) ?_
  exact m_Rs.pick [0, 1, 2] rfl (kk _ h hF)
theorem K_remove_5_0 {l : Launch} {w w0 : List mM} {S : mS} {P : Option Value → List mM → Prop} {c s : Nat} {x2 x1 : Int32} (h : m_RM S w) (hF : m_Fr w0 w m_dom) (hc1 : m_c2 .ge x2 ((22 : Int32) * ((S.1 77) - (1 : Int32))) = true) (kk : ∀ w1, m_RM (up1 S 77 ((S.1 77) - (1 : Int32))) w1 → m_Fr w0 w1 m_dom → P (none) w1) : m_Rs l M_316 (5, [(2, .int x2), (0, .ref 583), (1, .int x1)], [], w) P c s 2 200 := by
  refine m_Rs.n0 b_316 (x_iload_n d_316_5 rfl) ?_
  refine m_Rs.n0 b_316 (x_bipush (z := 22) d_316_6 (by decide)) ?_
  refine m_Rs.n0 b_316 (x_aload_n d_316_8 rfl) ?_
  refine m_Rs.n0 b_316 (x_getf d_316_9 rfl h.1 rfl) ?_
  refine m_Rs.n0 b_316 (x_iconst (z := 1) d_316_12 (by decide)) ?_
  refine m_Rs.n0 b_316 (x_isub d_316_13 rfl) ?_
  refine m_Rs.n0 b_316 (x_imul d_316_14 rfl) ?_
  refine m_Rs.n0 b_316 (x_ict d_316_15 rfl hc1) ?_
  refine m_Rs.n0 b_316 (x_aload_n d_316_39 rfl) ?_
  refine m_Rs.n0 b_316 (x_dup d_316_40 rfl) ?_
  refine m_Rs.n0 b_316 (x_getf d_316_41 rfl h.1 rfl) ?_
  refine m_Rs.n0 b_316 (x_iconst (z := 1) d_316_44 (by decide)) ?_
  refine m_Rs.n0 b_316 (x_isub d_316_45 rfl) ?_
  refine m_Rs.mput b_316 d_316_46 h hF rfl rfl rfl rfl rfl rfl (fun w1 h hF => ?_)
  refine m_Rs.ret b_316 (m_rt_vr d_316_49 rfl) ?_
  exact kk _ h hF
theorem K_remove_5_1 {l : Launch} {w w0 : List mM} {S : mS} {P : Option Value → List mM → Prop} {c s : Nat} {x2 x1 : Int32} (h : m_RM S w) (hF : m_Fr w0 w m_dom) (hc1 : m_c2 .ge x2 ((22 : Int32) * ((S.1 77) - (1 : Int32))) = false) (g1 : m_ix (x2 + (22 : Int32)) 2200) (g2 : m_ix x2 2200) (kk : ∀ w1, m_RM (up2 S 624 (x2).toNatClampNeg (m_rd 0 (S.2 624) (x2 + (22 : Int32)))) w1 → m_Fr w0 w1 m_dom → m_Rs l M_316 (5, [(2, .int (x2 + Int32.ofInt 1)), (0, .ref 583), (1, .int x1)], [], w1) P c s 2 200) : m_Rs l M_316 (5, [(2, .int x2), (0, .ref 583), (1, .int x1)], [], w) P c s 2 200 := by
  refine m_Rs.n0 b_316 (x_iload_n d_316_5 rfl) ?_
  refine m_Rs.n0 b_316 (x_bipush (z := 22) d_316_6 (by decide)) ?_
  refine m_Rs.n0 b_316 (x_aload_n d_316_8 rfl) ?_
  refine m_Rs.n0 b_316 (x_getf d_316_9 rfl h.1 rfl) ?_
  refine m_Rs.n0 b_316 (x_iconst (z := 1) d_316_12 (by decide)) ?_
  refine m_Rs.n0 b_316 (x_isub d_316_13 rfl) ?_
  refine m_Rs.n0 b_316 (x_imul d_316_14 rfl) ?_
  refine m_Rs.n0 b_316 (x_icf d_316_15 rfl hc1) ?_
  refine m_Rs.n0 b_316 (x_aload_n d_316_18 rfl) ?_
  refine m_Rs.n0 b_316 (x_getf d_316_19 rfl h.1 rfl) ?_
  refine m_Rs.n0 b_316 (x_iload_n d_316_22 rfl) ?_
  refine m_Rs.n0 b_316 (x_aload_n d_316_23 rfl) ?_
  refine m_Rs.n0 b_316 (x_getf d_316_24 rfl h.1 rfl) ?_
  refine m_Rs.n0 b_316 (x_iload_n d_316_27 rfl) ?_
  refine m_Rs.n0 b_316 (x_bipush (z := 22) d_316_28 (by decide)) ?_
  refine m_Rs.n0 b_316 (x_iadd d_316_30 rfl) ?_
  refine m_Rs.n0 b_316 (x_ldG d_316_31 (h.a 40 rfl) rfl (g1)) ?_
  refine m_Rs.mias b_316 d_316_32 h hF 40 rfl (g2) (fun w1 h hF => ?_)
  refine m_Rs.n0 b_316 (x_iinc d_316_33 rfl rfl rfl (show m_put1 _ _ _ = [(2, _), (0, _), (1, _)] from rfl)) ?_
  refine m_Rs.n0 b_316 (x_goto d_316_36 rfl) ?_
  exact m_Rs.pick [0, 1, 2] rfl (kk _ h hF)
theorem K_span_0_0 {l : Launch} {w w0 : List mM} {S : mS} {P : Option Value → List mM → Prop} {c s : Nat} {fr to_ size : Int32} (h : m_RM S w) (hF : m_Fr w0 w m_dom) (kk : ∀ w1, m_RM S w1 → m_Fr w0 w1 m_dom → m_Rs l M_286 (5, [(4, .int fr), (3, .int (0 : Int32)), (0, .int fr), (1, .int to_), (2, .int size)], [], w1) P c s 1 100) : m_Rs l M_286 (0, [(0, .int fr), (1, .int to_), (2, .int size)], [], w) P c s 1 100 := by
  refine m_Rs.n0 b_286 (x_iconst (z := 0) d_286_0 (by decide)) ?_
  refine m_Rs.n0 b_286 (x_istore_n d_286_1 rfl (show m_put1 _ _ _ = [(3, _), (0, _), (1, _), (2, _)] from rfl)) ?_
  refine m_Rs.n0 b_286 (x_iload_n d_286_2 rfl) ?_
  refine m_Rs.n0 b_286 (x_istore d_286_3 rfl (show m_put1 _ _ _ = [(4, _), (3, _), (0, _), (1, _), (2, _)] from rfl)) ?_
  exact m_Rs.pick [0, 1, 2, 3, 4] rfl (kk _ h hF)
theorem K_span_5_0 {l : Launch} {w w0 : List mM} {S : mS} {P : Option Value → List mM → Prop} {c s : Nat} {x4 x3 x0 x1 x2 : Int32} (h : m_RM S w) (hF : m_Fr w0 w m_dom) (hc1 : m_c2 .gt x4 x1 = true) (kk : ∀ w1, m_RM S w1 → m_Fr w0 w1 m_dom → P (some (.int x3)) w1) : m_Rs l M_286 (5, [(4, .int x4), (3, .int x3), (0, .int x0), (1, .int x1), (2, .int x2)], [], w) P c s 1 100 := by
  refine m_Rs.n0 b_286 (x_iload d_286_5 rfl) ?_
  refine m_Rs.n0 b_286 (x_iload_n d_286_7 rfl) ?_
  refine m_Rs.n0 b_286 (x_ict d_286_8 rfl hc1) ?_
  refine m_Rs.n0 b_286 (x_iload_n d_286_33 rfl) ?_
  refine m_Rs.ret b_286 (m_rt_ir d_286_34 rfl rfl) ?_
  exact kk _ h hF
theorem K_span_5_1 {l : Launch} {w w0 : List mM} {S : mS} {P : Option Value → List mM → Prop} {c s : Nat} {x4 x3 x0 x1 x2 : Int32} (h : m_RM S w) (hF : m_Fr w0 w m_dom) (hc1 : m_c2 .gt x4 x1 = false) (hc2 : m_c2 .ge ((16 : Int32) * x4) x2 = true) (kk : ∀ w1, m_RM S w1 → m_Fr w0 w1 m_dom → P (some (.int x3)) w1) : m_Rs l M_286 (5, [(4, .int x4), (3, .int x3), (0, .int x0), (1, .int x1), (2, .int x2)], [], w) P c s 1 100 := by
  refine m_Rs.n0 b_286 (x_iload d_286_5 rfl) ?_
  refine m_Rs.n0 b_286 (x_iload_n d_286_7 rfl) ?_
  refine m_Rs.n0 b_286 (x_icf d_286_8 rfl hc1) ?_
  refine m_Rs.n0 b_286 (x_bipush (z := 16) d_286_11 (by decide)) ?_
  refine m_Rs.n0 b_286 (x_iload d_286_13 rfl) ?_
  refine m_Rs.n0 b_286 (x_imul d_286_15 rfl) ?_
  refine m_Rs.n0 b_286 (x_iload_n d_286_16 rfl) ?_
  refine m_Rs.n0 b_286 (x_ict d_286_17 rfl hc2) ?_
  refine m_Rs.n0 b_286 (x_iload_n d_286_33 rfl) ?_
  refine m_Rs.ret b_286 (m_rt_ir d_286_34 rfl rfl) ?_
  exact kk _ h hF
theorem K_span_5_2 {l : Launch} {w w0 : List mM} {S : mS} {P : Option Value → List mM → Prop} {c s : Nat} {x4 x3 x0 x1 x2 : Int32} (h : m_RM S w) (hF : m_Fr w0 w m_dom) (hc1 : m_c2 .gt x4 x1 = false) (hc2 : m_c2 .ge ((16 : Int32) * x4) x2 = false) (kk : ∀ w1, m_RM S w1 → m_Fr w0 w1 m_dom → m_Rs l M_286 (5, [(4, .int (x4 + Int32.ofInt 1)), (3, .int (x3 ||| ((1 : Int32) <<< (x4 &&& 31)))), (0, .int x0), (1, .int x1), (2, .int x2)], [], w1) P c s 1 100) : m_Rs l M_286 (5, [(4, .int x4), (3, .int x3), (0, .int x0), (1, .int x1), (2, .int x2)], [], w) P c s 1 100 := by
  refine m_Rs.n0 b_286 (x_iload d_286_5 rfl) ?_
  refine m_Rs.n0 b_286 (x_iload_n d_286_7 rfl) ?_
  refine m_Rs.n0 b_286 (x_icf d_286_8 rfl hc1) ?_
  refine m_Rs.n0 b_286 (x_bipush (z := 16) d_286_11 (by decide)) ?_
  refine m_Rs.n0 b_286 (x_iload d_286_13 rfl) ?_
  refine m_Rs.n0 b_286 (x_imul d_286_15 rfl) ?_
  refine m_Rs.n0 b_286 (x_iload_n d_286_16 rfl) ?_
  refine m_Rs.n0 b_286 (x_icf d_286_17 rfl hc2) ?_
  refine m_Rs.n0 b_286 (x_iload_n d_286_20 rfl) ?_
  refine m_Rs.n0 b_286 (x_iconst (z := 1) d_286_21 (by decide)) ?_
  refine m_Rs.n0 b_286 (x_iload d_286_22 rfl) ?_
  refine m_Rs.n0 b_286 (x_ishl d_286_24 rfl) ?_
  refine m_Rs.n0 b_286 (x_ior d_286_25 rfl) ?_
  refine m_Rs.n0 b_286 (x_istore_n d_286_26 rfl (show m_put1 _ _ _ = [(3, _), (4, _), (0, _), (1, _), (2, _)] from rfl)) ?_
  refine m_Rs.n0 b_286 (x_iinc d_286_27 rfl rfl rfl (show m_put1 _ _ _ = [(4, _), (3, _), (0, _), (1, _), (2, _)] from rfl)) ?_
  refine m_Rs.n0 b_286 (x_goto d_286_30 rfl) ?_
  exact m_Rs.pick [0, 1, 2, 3, 4] rfl (kk _ h hF)
theorem K_suits_0_0 {l : Launch} {w w0 : List mM} {S : mS} {P : Option Value → List mM → Prop} {c s : Nat} {fe wants : Int32} (h : m_RM S w) (hF : m_Fr w0 w m_dom) (kk : ∀ w1, m_RM S w1 → m_Fr w0 w1 m_dom → m_Rs l M_277 (2, [(3, .int (0 : Int32)), (0, .ref 583), (1, .int fe), (2, .int wants)], [], w1) P c s 3 300) : m_Rs l M_277 (0, [(0, .ref 583), (1, .int fe), (2, .int wants)], [], w) P c s 3 300 := by
  refine m_Rs.n0 b_277 (x_iconst (z := 0) d_277_0 (by decide)) ?_
  refine m_Rs.n0 b_277 (x_istore_n d_277_1 rfl (show m_put1 _ _ _ = [(3, _), (0, _), (1, _), (2, _)] from rfl)) ?_
  exact m_Rs.pick [0, 1, 2, 3] rfl (kk _ h hF)
theorem K_suits_2_0 {l : Launch} {w w0 : List mM} {S : mS} {P : Option Value → List mM → Prop} {c s : Nat} {x3 x1 x2 : Int32} (h : m_RM S w) (hF : m_Fr w0 w m_dom) (hc1 : m_c2 .ge x3 (8 : Int32) = true) (kk : ∀ w1, m_RM S w1 → m_Fr w0 w1 m_dom → P (some (.int ((-1) : Int32))) w1) : m_Rs l M_277 (2, [(3, .int x3), (0, .ref 583), (1, .int x1), (2, .int x2)], [], w) P c s 3 300 := by
  refine m_Rs.n0 b_277 (x_iload_n d_277_2 rfl) ?_
  refine m_Rs.n0 b_277 (x_bipush (z := 8) d_277_3 (by decide)) ?_
  refine m_Rs.n0 b_277 (x_ict d_277_5 rfl hc1) ?_
  refine m_Rs.n0 b_277 (x_iconst (z := (-1)) d_277_55 (by decide)) ?_
  refine m_Rs.ret b_277 (m_rt_ir d_277_56 rfl rfl) ?_
  exact kk _ h hF
theorem K_suits_2_1 {l : Launch} {w w0 : List mM} {S : mS} {P : Option Value → List mM → Prop} {c s : Nat} {x3 x1 x2 : Int32} (h : m_RM S w) (hF : m_Fr w0 w m_dom) (hc1 : m_c2 .ge x3 (8 : Int32) = false) (hc2 : m_c1 .eq (m_rd 4 (S.2 601) (((8 : Int32) * x1) + x3)) = true) (g1 : m_ix (((8 : Int32) * x1) + x3) 7168) (kk : ∀ w1, m_RM S w1 → m_Fr w0 w1 m_dom → m_Rs l M_277 (2, [(3, .int (x3 + Int32.ofInt 1)), (0, .ref 583), (1, .int x1), (2, .int x2)], [], w1) P c s 3 300) : m_Rs l M_277 (2, [(3, .int x3), (0, .ref 583), (1, .int x1), (2, .int x2)], [], w) P c s 3 300 := by
  refine m_Rs.n0 b_277 (x_iload_n d_277_2 rfl) ?_
  refine m_Rs.n0 b_277 (x_bipush (z := 8) d_277_3 (by decide)) ?_
  refine m_Rs.n0 b_277 (x_icf d_277_5 rfl hc1) ?_
  refine m_Rs.n0 b_277 (x_aload_n d_277_8 rfl) ?_
  refine m_Rs.n0 b_277 (x_getf d_277_9 rfl h.1 rfl) ?_
  refine m_Rs.n0 b_277 (x_bipush (z := 8) d_277_12 (by decide)) ?_
  refine m_Rs.n0 b_277 (x_iload_n d_277_14 rfl) ?_
  refine m_Rs.n0 b_277 (x_imul d_277_15 rfl) ?_
  refine m_Rs.n0 b_277 (x_iload_n d_277_16 rfl) ?_
  refine m_Rs.n0 b_277 (x_iadd d_277_17 rfl) ?_
  refine m_Rs.n0 b_277 (x_bdG d_277_18 (h.a 17 rfl) rfl (g1)) ?_
  refine m_Rs.n0 b_277 (x_ift d_277_19 rfl hc2) ?_
  refine m_Rs.n0 b_277 (x_iinc d_277_49 rfl rfl rfl (show m_put1 _ _ _ = [(3, _), (0, _), (1, _), (2, _)] from rfl)) ?_
  refine m_Rs.n0 b_277 (x_goto d_277_52 rfl) ?_
  exact m_Rs.pick [0, 1, 2, 3] rfl (kk _ h hF)
theorem K_suits_2_2 {l : Launch} {w w0 : List mM} {S : mS} {P : Option Value → List mM → Prop} {c s : Nat} {x3 x1 x2 : Int32} (h : m_RM S w) (hF : m_Fr w0 w m_dom) (hc1 : m_c2 .ge x3 (8 : Int32) = false) (hc2 : m_c1 .eq (m_rd 4 (S.2 601) (((8 : Int32) * x1) + x3)) = false) (hc3 : m_c2 .ne (F_mwhich (F_mtold (S.2 603) (((8 : Int32) * x1) + x3) (8 : Int32)) x2) x3 = true) (g1 : m_ix (((8 : Int32) * x1) + x3) 7168) (g2 : m_ix (((9 : Int32) * (((8 : Int32) * x1) + x3)) + (8 : Int32)) 64512) (kk : ∀ w1, m_RM S w1 → m_Fr w0 w1 m_dom → m_Rs l M_277 (2, [(3, .int (x3 + Int32.ofInt 1)), (0, .ref 583), (1, .int x1), (2, .int x2)], [], w1) P c s 3 300) : m_Rs l M_277 (2, [(3, .int x3), (0, .ref 583), (1, .int x1), (2, .int x2)], [], w) P c s 3 300 := by
  refine m_Rs.n0 b_277 (x_iload_n d_277_2 rfl) ?_
  refine m_Rs.n0 b_277 (x_bipush (z := 8) d_277_3 (by decide)) ?_
  refine m_Rs.n0 b_277 (x_icf d_277_5 rfl hc1) ?_
  refine m_Rs.n0 b_277 (x_aload_n d_277_8 rfl) ?_
  refine m_Rs.n0 b_277 (x_getf d_277_9 rfl h.1 rfl) ?_
  refine m_Rs.n0 b_277 (x_bipush (z := 8) d_277_12 (by decide)) ?_
  refine m_Rs.n0 b_277 (x_iload_n d_277_14 rfl) ?_
  refine m_Rs.n0 b_277 (x_imul d_277_15 rfl) ?_
  refine m_Rs.n0 b_277 (x_iload_n d_277_16 rfl) ?_
  refine m_Rs.n0 b_277 (x_iadd d_277_17 rfl) ?_
  refine m_Rs.n0 b_277 (x_bdG d_277_18 (h.a 17 rfl) rfl (g1)) ?_
  refine m_Rs.n0 b_277 (x_iff d_277_19 rfl hc2) ?_
  refine m_Rs.n0 b_277 (x_aload_n d_277_22 rfl) ?_
  refine m_Rs.n0 b_277 (x_bipush (z := 8) d_277_23 (by decide)) ?_
  refine m_Rs.n0 b_277 (x_iload_n d_277_25 rfl) ?_
  refine m_Rs.n0 b_277 (x_imul d_277_26 rfl) ?_
  refine m_Rs.n0 b_277 (x_iload_n d_277_27 rfl) ?_
  refine m_Rs.n0 b_277 (x_iadd d_277_28 rfl) ?_
  refine m_Rs.n0 b_277 (x_bipush (z := 8) d_277_29 (by decide)) ?_
  refine m_Rs.callE b_277 (y_cv d_277_31 rfl q_278 (m_isRecv_of rfl h.1) (show m_takeI _ _ = some (_, [_, _, _], []) from rfl) (by simp only [m_okf, List.all_cons, List.all_nil, Bool.and_true, Bool.and_self, m_okv_i, m_okv_l, m_okv_0, m_okv_t, m_okv_at h.1]) rfl) (P_mtold h.1 (h.a 19 rfl) g2) rfl ?_ (by decide) (by decide)
  refine m_Rs.n0 b_277 (x_iload_n d_277_34 rfl) ?_
  refine m_Rs.callE b_277 (y_cs d_277_35 rfl q_279 (show m_takeS _ _ = some (_, [_, _], []) from rfl) (by simp only [m_okf, List.all_cons, List.all_nil, Bool.and_true, Bool.and_self, m_okv_i, m_okv_l, m_okv_0, m_okv_t, m_okv_at h.1]) rfl) (P_mwhich) rfl ?_ (by decide) (by decide)
  refine m_Rs.n0 b_277 (x_iload_n d_277_38 rfl) ?_
  refine m_Rs.n0 b_277 (x_ict d_277_39 rfl hc3) ?_
  refine m_Rs.n0 b_277 (x_iinc d_277_49 rfl rfl rfl (show m_put1 _ _ _ = [(3, _), (0, _), (1, _), (2, _)] from rfl)) ?_
  refine m_Rs.n0 b_277 (x_goto d_277_52 rfl) ?_
  exact m_Rs.pick [0, 1, 2, 3] rfl (kk _ h hF)
theorem K_suits_2_3 {l : Launch} {w w0 : List mM} {S : mS} {P : Option Value → List mM → Prop} {c s : Nat} {x3 x1 x2 : Int32} (h : m_RM S w) (hF : m_Fr w0 w m_dom) (hc1 : m_c2 .ge x3 (8 : Int32) = false) (hc2 : m_c1 .eq (m_rd 4 (S.2 601) (((8 : Int32) * x1) + x3)) = false) (hc3 : m_c2 .ne (F_mwhich (F_mtold (S.2 603) (((8 : Int32) * x1) + x3) (8 : Int32)) x2) x3 = false) (g1 : m_ix (((8 : Int32) * x1) + x3) 7168) (g2 : m_ix (((9 : Int32) * (((8 : Int32) * x1) + x3)) + (8 : Int32)) 64512) (kk : ∀ w1, m_RM S w1 → m_Fr w0 w1 m_dom → P (some (.int (((8 : Int32) * x1) + x3))) w1) : m_Rs l M_277 (2, [(3, .int x3), (0, .ref 583), (1, .int x1), (2, .int x2)], [], w) P c s 3 300 := by
  refine m_Rs.n0 b_277 (x_iload_n d_277_2 rfl) ?_
  refine m_Rs.n0 b_277 (x_bipush (z := 8) d_277_3 (by decide)) ?_
  refine m_Rs.n0 b_277 (x_icf d_277_5 rfl hc1) ?_
  refine m_Rs.n0 b_277 (x_aload_n d_277_8 rfl) ?_
  refine m_Rs.n0 b_277 (x_getf d_277_9 rfl h.1 rfl) ?_
  refine m_Rs.n0 b_277 (x_bipush (z := 8) d_277_12 (by decide)) ?_
  refine m_Rs.n0 b_277 (x_iload_n d_277_14 rfl) ?_
  refine m_Rs.n0 b_277 (x_imul d_277_15 rfl) ?_
  refine m_Rs.n0 b_277 (x_iload_n d_277_16 rfl) ?_
  refine m_Rs.n0 b_277 (x_iadd d_277_17 rfl) ?_
  refine m_Rs.n0 b_277 (x_bdG d_277_18 (h.a 17 rfl) rfl (g1)) ?_
  refine m_Rs.n0 b_277 (x_iff d_277_19 rfl hc2) ?_
  refine m_Rs.n0 b_277 (x_aload_n d_277_22 rfl) ?_
  refine m_Rs.n0 b_277 (x_bipush (z := 8) d_277_23 (by decide)) ?_
  refine m_Rs.n0 b_277 (x_iload_n d_277_25 rfl) ?_
  refine m_Rs.n0 b_277 (x_imul d_277_26 rfl) ?_
  refine m_Rs.n0 b_277 (x_iload_n d_277_27 rfl) ?_
  refine m_Rs.n0 b_277 (x_iadd d_277_28 rfl) ?_
  refine m_Rs.n0 b_277 (x_bipush (z := 8) d_277_29 (by decide)) ?_
  refine m_Rs.callE b_277 (y_cv d_277_31 rfl q_278 (m_isRecv_of rfl h.1) (show m_takeI _ _ = some (_, [_, _, _], []) from rfl) (by simp only [m_okf, List.all_cons, List.all_nil, Bool.and_true, Bool.and_self, m_okv_i, m_okv_l, m_okv_0, m_okv_t, m_okv_at h.1]) rfl) (P_mtold h.1 (h.a 19 rfl) g2) rfl ?_ (by decide) (by decide)
  refine m_Rs.n0 b_277 (x_iload_n d_277_34 rfl) ?_
  refine m_Rs.callE b_277 (y_cs d_277_35 rfl q_279 (show m_takeS _ _ = some (_, [_, _], []) from rfl) (by simp only [m_okf, List.all_cons, List.all_nil, Bool.and_true, Bool.and_self, m_okv_i, m_okv_l, m_okv_0, m_okv_t, m_okv_at h.1]) rfl) (P_mwhich) rfl ?_ (by decide) (by decide)
  refine m_Rs.n0 b_277 (x_iload_n d_277_38 rfl) ?_
  refine m_Rs.n0 b_277 (x_icf d_277_39 rfl hc3) ?_
  refine m_Rs.n0 b_277 (x_bipush (z := 8) d_277_42 (by decide)) ?_
  refine m_Rs.n0 b_277 (x_iload_n d_277_44 rfl) ?_
  refine m_Rs.n0 b_277 (x_imul d_277_45 rfl) ?_
  refine m_Rs.n0 b_277 (x_iload_n d_277_46 rfl) ?_
  refine m_Rs.n0 b_277 (x_iadd d_277_47 rfl) ?_
  refine m_Rs.ret b_277 (m_rt_ir d_277_48 rfl rfl) ?_
  exact kk _ h hF
theorem K_sizes_0_0 {l : Launch} {w w0 : List mM} {S : mS} {P : Option Value → List mM → Prop} {c s : Nat} {n ko : Int32} (h : m_RM S w) (hF : m_Fr w0 w m_dom) (kk : ∀ w1, m_RM S w1 → m_Fr w0 w1 m_dom → m_Rs l M_297 (9, [(4, .int ((1024 : Int32) * n)), (3, .int (0 : Int32)), (0, .ref 583), (1, .int n), (2, .int ko)], [], w1) P c s 3 300) : m_Rs l M_297 (0, [(0, .ref 583), (1, .int n), (2, .int ko)], [], w) P c s 3 300 := by
  refine m_Rs.n0 b_297 (x_iconst (z := 0) d_297_0 (by decide)) ?_
  refine m_Rs.n0 b_297 (x_istore_n d_297_1 rfl (show m_put1 _ _ _ = [(3, _), (0, _), (1, _), (2, _)] from rfl)) ?_
  refine m_Rs.n0 b_297 (x_sipush (z := 1024) d_297_2 (by decide)) ?_
  refine m_Rs.n0 b_297 (x_iload_n d_297_5 rfl) ?_
  refine m_Rs.n0 b_297 (x_imul d_297_6 rfl) ?_
  refine m_Rs.n0 b_297 (x_istore d_297_7 rfl (show m_put1 _ _ _ = [(4, _), (3, _), (0, _), (1, _), (2, _)] from rfl)) ?_
  exact m_Rs.pick [0, 1, 2, 3, 4] rfl (kk _ h hF)
theorem K_sizes_9_0 {l : Launch} {w w0 : List mM} {S : mS} {P : Option Value → List mM → Prop} {c s : Nat} {x4 x3 x1 x2 : Int32} (h : m_RM S w) (hF : m_Fr w0 w m_dom) (hc1 : m_c2 .ge x4 (((1024 : Int32) * x1) + (1024 : Int32)) = true) (kk : ∀ w1, m_RM S w1 → m_Fr w0 w1 m_dom → P (some (.int x3)) w1) : m_Rs l M_297 (9, [(4, .int x4), (3, .int x3), (0, .ref 583), (1, .int x1), (2, .int x2)], [], w) P c s 3 300 := by
  refine m_Rs.n0 b_297 (x_iload d_297_9 rfl) ?_
  refine m_Rs.n0 b_297 (x_sipush (z := 1024) d_297_11 (by decide)) ?_
  refine m_Rs.n0 b_297 (x_iload_n d_297_14 rfl) ?_
  refine m_Rs.n0 b_297 (x_imul d_297_15 rfl) ?_
  refine m_Rs.n0 b_297 (x_sipush (z := 1024) d_297_16 (by decide)) ?_
  refine m_Rs.n0 b_297 (x_iadd d_297_19 rfl) ?_
  refine m_Rs.n0 b_297 (x_ict d_297_20 rfl hc1) ?_
  refine m_Rs.n0 b_297 (x_iload_n d_297_66 rfl) ?_
  refine m_Rs.ret b_297 (m_rt_ir d_297_67 rfl rfl) ?_
  exact kk _ h hF
theorem K_sizes_9_1 {l : Launch} {w w0 : List mM} {S : mS} {P : Option Value → List mM → Prop} {c s : Nat} {x4 x3 x1 x2 : Int32} (h : m_RM S w) (hF : m_Fr w0 w m_dom) (hc1 : m_c2 .ge x4 (((1024 : Int32) * x1) + (1024 : Int32)) = false) (hc2 : m_c1 .eq (m_rd 4 (S.2 601) x4) = true) (g1 : m_ix x4 7168) (kk : ∀ w1, m_RM S w1 → m_Fr w0 w1 m_dom → m_Rs l M_297 (9, [(4, .int (x4 + Int32.ofInt 1)), (3, .int (x3 + (0 : Int32))), (0, .ref 583), (1, .int x1), (2, .int x2)], [], w1) P c s 3 300) : m_Rs l M_297 (9, [(4, .int x4), (3, .int x3), (0, .ref 583), (1, .int x1), (2, .int x2)], [], w) P c s 3 300 := by
  refine m_Rs.n0 b_297 (x_iload d_297_9 rfl) ?_
  refine m_Rs.n0 b_297 (x_sipush (z := 1024) d_297_11 (by decide)) ?_
  refine m_Rs.n0 b_297 (x_iload_n d_297_14 rfl) ?_
  refine m_Rs.n0 b_297 (x_imul d_297_15 rfl) ?_
  refine m_Rs.n0 b_297 (x_sipush (z := 1024) d_297_16 (by decide)) ?_
  refine m_Rs.n0 b_297 (x_iadd d_297_19 rfl) ?_
  refine m_Rs.n0 b_297 (x_icf d_297_20 rfl hc1) ?_
  refine m_Rs.n0 b_297 (x_iload_n d_297_23 rfl) ?_
  refine m_Rs.n0 b_297 (x_aload_n d_297_24 rfl) ?_
  refine m_Rs.n0 b_297 (x_getf d_297_25 rfl h.1 rfl) ?_
  refine m_Rs.n0 b_297 (x_iload d_297_28 rfl) ?_
  refine m_Rs.n0 b_297 (x_bdG d_297_30 (h.a 17 rfl) rfl (g1)) ?_
  refine m_Rs.n0 b_297 (x_ift d_297_31 rfl hc2) ?_
  refine m_Rs.n0 b_297 (x_iconst (z := 0) d_297_57 (by decide)) ?_
  refine m_Rs.n0 b_297 (x_iadd d_297_58 rfl) ?_
  refine m_Rs.n0 b_297 (x_istore_n d_297_59 rfl (show m_put1 _ _ _ = [(3, _), (4, _), (0, _), (1, _), (2, _)] from rfl)) ?_
  refine m_Rs.n0 b_297 (x_iinc d_297_60 rfl rfl rfl (show m_put1 _ _ _ = [(4, _), (3, _), (0, _), (1, _), (2, _)] from rfl)) ?_
  refine m_Rs.n0 b_297 (x_goto d_297_63 rfl) ?_
  exact m_Rs.pick [0, 1, 2, 3, 4] rfl (kk _ h hF)
theorem K_sizes_9_2 {l : Launch} {w w0 : List mM} {S : mS} {P : Option Value → List mM → Prop} {c s : Nat} {x4 x3 x1 x2 : Int32} (h : m_RM S w) (hF : m_Fr w0 w m_dom) (hc1 : m_c2 .ge x4 (((1024 : Int32) * x1) + (1024 : Int32)) = false) (hc2 : m_c1 .eq (m_rd 4 (S.2 601) x4) = false) (hc3 : m_c1 .eq x2 = true) (g1 : m_ix x4 7168) (g2 : m_ix x4 7168) (kk : ∀ w1, m_RM S w1 → m_Fr w0 w1 m_dom → m_Rs l M_297 (9, [(4, .int (x4 + Int32.ofInt 1)), (3, .int (x3 + (F_msize (S.2 607) x4))), (0, .ref 583), (1, .int x1), (2, .int x2)], [], w1) P c s 3 300) : m_Rs l M_297 (9, [(4, .int x4), (3, .int x3), (0, .ref 583), (1, .int x1), (2, .int x2)], [], w) P c s 3 300 := by
  refine m_Rs.n0 b_297 (x_iload d_297_9 rfl) ?_
  refine m_Rs.n0 b_297 (x_sipush (z := 1024) d_297_11 (by decide)) ?_
  refine m_Rs.n0 b_297 (x_iload_n d_297_14 rfl) ?_
  refine m_Rs.n0 b_297 (x_imul d_297_15 rfl) ?_
  refine m_Rs.n0 b_297 (x_sipush (z := 1024) d_297_16 (by decide)) ?_
  refine m_Rs.n0 b_297 (x_iadd d_297_19 rfl) ?_
  refine m_Rs.n0 b_297 (x_icf d_297_20 rfl hc1) ?_
  refine m_Rs.n0 b_297 (x_iload_n d_297_23 rfl) ?_
  refine m_Rs.n0 b_297 (x_aload_n d_297_24 rfl) ?_
  refine m_Rs.n0 b_297 (x_getf d_297_25 rfl h.1 rfl) ?_
  refine m_Rs.n0 b_297 (x_iload d_297_28 rfl) ?_
  refine m_Rs.n0 b_297 (x_bdG d_297_30 (h.a 17 rfl) rfl (g1)) ?_
  refine m_Rs.n0 b_297 (x_iff d_297_31 rfl hc2) ?_
  refine m_Rs.n0 b_297 (x_iload_n d_297_34 rfl) ?_
  refine m_Rs.n0 b_297 (x_ift d_297_35 rfl hc3) ?_
  refine m_Rs.n0 b_297 (x_aload_n d_297_48 rfl) ?_
  refine m_Rs.n0 b_297 (x_iload d_297_49 rfl) ?_
  refine m_Rs.callE b_297 (y_cv d_297_51 rfl q_298 (m_isRecv_of rfl h.1) (show m_takeI _ _ = some (_, [_, _], [_]) from rfl) (by simp only [m_okf, List.all_cons, List.all_nil, Bool.and_true, Bool.and_self, m_okv_i, m_okv_l, m_okv_0, m_okv_t, m_okv_at h.1]) rfl) (P_msize h.1 (h.a 23 rfl) g2) rfl ?_ (by decide) (by decide)
  refine m_Rs.n0 b_297 (x_goto d_297_54 rfl) ?_
  refine m_Rs.n0 b_297 (x_iadd d_297_58 rfl) ?_
  refine m_Rs.n0 b_297 (x_istore_n d_297_59 rfl (show m_put1 _ _ _ = [(3, _), (4, _), (0, _), (1, _), (2, _)] from rfl)) ?_
  refine m_Rs.n0 b_297 (x_iinc d_297_60 rfl rfl rfl (show m_put1 _ _ _ = [(4, _), (3, _), (0, _), (1, _), (2, _)] from rfl)) ?_
  refine m_Rs.n0 b_297 (x_goto d_297_63 rfl) ?_
  exact m_Rs.pick [0, 1, 2, 3, 4] rfl (kk _ h hF)
theorem K_sizes_9_3 {l : Launch} {w w0 : List mM} {S : mS} {P : Option Value → List mM → Prop} {c s : Nat} {x4 x3 x1 x2 : Int32} (h : m_RM S w) (hF : m_Fr w0 w m_dom) (hc1 : m_c2 .ge x4 (((1024 : Int32) * x1) + (1024 : Int32)) = false) (hc2 : m_c1 .eq (m_rd 4 (S.2 601) x4) = false) (hc3 : m_c1 .eq x2 = false) (hc4 : m_c1 .eq (m_rd 4 (S.2 602) x4) = true) (g1 : m_ix x4 7168) (g2 : m_ix x4 7168) (kk : ∀ w1, m_RM S w1 → m_Fr w0 w1 m_dom → m_Rs l M_297 (9, [(4, .int (x4 + Int32.ofInt 1)), (3, .int (x3 + (0 : Int32))), (0, .ref 583), (1, .int x1), (2, .int x2)], [], w1) P c s 3 300) : m_Rs l M_297 (9, [(4, .int x4), (3, .int x3), (0, .ref 583), (1, .int x1), (2, .int x2)], [], w) P c s 3 300 := by
  refine m_Rs.n0 b_297 (x_iload d_297_9 rfl) ?_
  refine m_Rs.n0 b_297 (x_sipush (z := 1024) d_297_11 (by decide)) ?_
  refine m_Rs.n0 b_297 (x_iload_n d_297_14 rfl) ?_
  refine m_Rs.n0 b_297 (x_imul d_297_15 rfl) ?_
  refine m_Rs.n0 b_297 (x_sipush (z := 1024) d_297_16 (by decide)) ?_
  refine m_Rs.n0 b_297 (x_iadd d_297_19 rfl) ?_
  refine m_Rs.n0 b_297 (x_icf d_297_20 rfl hc1) ?_
  refine m_Rs.n0 b_297 (x_iload_n d_297_23 rfl) ?_
  refine m_Rs.n0 b_297 (x_aload_n d_297_24 rfl) ?_
  refine m_Rs.n0 b_297 (x_getf d_297_25 rfl h.1 rfl) ?_
  refine m_Rs.n0 b_297 (x_iload d_297_28 rfl) ?_
  refine m_Rs.n0 b_297 (x_bdG d_297_30 (h.a 17 rfl) rfl (g1)) ?_
  refine m_Rs.n0 b_297 (x_iff d_297_31 rfl hc2) ?_
  refine m_Rs.n0 b_297 (x_iload_n d_297_34 rfl) ?_
  refine m_Rs.n0 b_297 (x_iff d_297_35 rfl hc3) ?_
  refine m_Rs.n0 b_297 (x_aload_n d_297_38 rfl) ?_
  refine m_Rs.n0 b_297 (x_getf d_297_39 rfl h.1 rfl) ?_
  refine m_Rs.n0 b_297 (x_iload d_297_42 rfl) ?_
  refine m_Rs.n0 b_297 (x_bdG d_297_44 (h.a 18 rfl) rfl (g2)) ?_
  refine m_Rs.n0 b_297 (x_ift d_297_45 rfl hc4) ?_
  refine m_Rs.n0 b_297 (x_iconst (z := 0) d_297_57 (by decide)) ?_
  refine m_Rs.n0 b_297 (x_iadd d_297_58 rfl) ?_
  refine m_Rs.n0 b_297 (x_istore_n d_297_59 rfl (show m_put1 _ _ _ = [(3, _), (4, _), (0, _), (1, _), (2, _)] from rfl)) ?_
  refine m_Rs.n0 b_297 (x_iinc d_297_60 rfl rfl rfl (show m_put1 _ _ _ = [(4, _), (3, _), (0, _), (1, _), (2, _)] from rfl)) ?_
  refine m_Rs.n0 b_297 (x_goto d_297_63 rfl) ?_
  exact m_Rs.pick [0, 1, 2, 3, 4] rfl (kk _ h hF)
theorem K_sizes_9_4 {l : Launch} {w w0 : List mM} {S : mS} {P : Option Value → List mM → Prop} {c s : Nat} {x4 x3 x1 x2 : Int32} (h : m_RM S w) (hF : m_Fr w0 w m_dom) (hc1 : m_c2 .ge x4 (((1024 : Int32) * x1) + (1024 : Int32)) = false) (hc2 : m_c1 .eq (m_rd 4 (S.2 601) x4) = false) (hc3 : m_c1 .eq x2 = false) (hc4 : m_c1 .eq (m_rd 4 (S.2 602) x4) = false) (g1 : m_ix x4 7168) (g2 : m_ix x4 7168) (g3 : m_ix x4 7168) (kk : ∀ w1, m_RM S w1 → m_Fr w0 w1 m_dom → m_Rs l M_297 (9, [(4, .int (x4 + Int32.ofInt 1)), (3, .int (x3 + (F_msize (S.2 607) x4))), (0, .ref 583), (1, .int x1), (2, .int x2)], [], w1) P c s 3 300) : m_Rs l M_297 (9, [(4, .int x4), (3, .int x3), (0, .ref 583), (1, .int x1), (2, .int x2)], [], w) P c s 3 300 := by
  refine m_Rs.n0 b_297 (x_iload d_297_9 rfl) ?_
  refine m_Rs.n0 b_297 (x_sipush (z := 1024) d_297_11 (by decide)) ?_
  refine m_Rs.n0 b_297 (x_iload_n d_297_14 rfl) ?_
  refine m_Rs.n0 b_297 (x_imul d_297_15 rfl) ?_
  refine m_Rs.n0 b_297 (x_sipush (z := 1024) d_297_16 (by decide)) ?_
  refine m_Rs.n0 b_297 (x_iadd d_297_19 rfl) ?_
  refine m_Rs.n0 b_297 (x_icf d_297_20 rfl hc1) ?_
  refine m_Rs.n0 b_297 (x_iload_n d_297_23 rfl) ?_
  refine m_Rs.n0 b_297 (x_aload_n d_297_24 rfl) ?_
  refine m_Rs.n0 b_297 (x_getf d_297_25 rfl h.1 rfl) ?_
  refine m_Rs.n0 b_297 (x_iload d_297_28 rfl) ?_
  refine m_Rs.n0 b_297 (x_bdG d_297_30 (h.a 17 rfl) rfl (g1)) ?_
  refine m_Rs.n0 b_297 (x_iff d_297_31 rfl hc2) ?_
  refine m_Rs.n0 b_297 (x_iload_n d_297_34 rfl) ?_
  refine m_Rs.n0 b_297 (x_iff d_297_35 rfl hc3) ?_
  refine m_Rs.n0 b_297 (x_aload_n d_297_38 rfl) ?_
  refine m_Rs.n0 b_297 (x_getf d_297_39 rfl h.1 rfl) ?_
  refine m_Rs.n0 b_297 (x_iload d_297_42 rfl) ?_
  refine m_Rs.n0 b_297 (x_bdG d_297_44 (h.a 18 rfl) rfl (g2)) ?_
  refine m_Rs.n0 b_297 (x_iff d_297_45 rfl hc4) ?_
  refine m_Rs.n0 b_297 (x_aload_n d_297_48 rfl) ?_
  refine m_Rs.n0 b_297 (x_iload d_297_49 rfl) ?_
  refine m_Rs.callE b_297 (y_cv d_297_51 rfl q_298 (m_isRecv_of rfl h.1) (show m_takeI _ _ = some (_, [_, _], [_]) from rfl) (by simp only [m_okf, List.all_cons, List.all_nil, Bool.and_true, Bool.and_self, m_okv_i, m_okv_l, m_okv_0, m_okv_t, m_okv_at h.1]) rfl) (P_msize h.1 (h.a 23 rfl) g3) rfl ?_ (by decide) (by decide)
  refine m_Rs.n0 b_297 (x_goto d_297_54 rfl) ?_
  refine m_Rs.n0 b_297 (x_iadd d_297_58 rfl) ?_
  refine m_Rs.n0 b_297 (x_istore_n d_297_59 rfl (show m_put1 _ _ _ = [(3, _), (4, _), (0, _), (1, _), (2, _)] from rfl)) ?_
  refine m_Rs.n0 b_297 (x_iinc d_297_60 rfl rfl rfl (show m_put1 _ _ _ = [(4, _), (3, _), (0, _), (1, _), (2, _)] from rfl)) ?_
  refine m_Rs.n0 b_297 (x_goto d_297_63 rfl) ?_
  exact m_Rs.pick [0, 1, 2, 3, 4] rfl (kk _ h hF)
theorem K_oldest_0_0 {l : Launch} {w w0 : List mM} {S : mS} {P : Option Value → List mM → Prop} {c s : Nat} {n ik : Int32} (h : m_RM S w) (hF : m_Fr w0 w m_dom) (kk : ∀ w1, m_RM S w1 → m_Fr w0 w1 m_dom → m_Rs l M_299 (9, [(4, .int ((1024 : Int32) * n)), (3, .int ((-1) : Int32)), (0, .ref 583), (1, .int n), (2, .int ik)], [], w1) P c s 2 200) : m_Rs l M_299 (0, [(0, .ref 583), (1, .int n), (2, .int ik)], [], w) P c s 2 200 := by
  refine m_Rs.n0 b_299 (x_iconst (z := (-1)) d_299_0 (by decide)) ?_
  refine m_Rs.n0 b_299 (x_istore_n d_299_1 rfl (show m_put1 _ _ _ = [(3, _), (0, _), (1, _), (2, _)] from rfl)) ?_
  refine m_Rs.n0 b_299 (x_sipush (z := 1024) d_299_2 (by decide)) ?_
  refine m_Rs.n0 b_299 (x_iload_n d_299_5 rfl) ?_
  refine m_Rs.n0 b_299 (x_imul d_299_6 rfl) ?_
  refine m_Rs.n0 b_299 (x_istore d_299_7 rfl (show m_put1 _ _ _ = [(4, _), (3, _), (0, _), (1, _), (2, _)] from rfl)) ?_
  exact m_Rs.pick [0, 1, 2, 3, 4] rfl (kk _ h hF)
theorem K_oldest_9_0 {l : Launch} {w w0 : List mM} {S : mS} {P : Option Value → List mM → Prop} {c s : Nat} {x4 x3 x1 x2 : Int32} (h : m_RM S w) (hF : m_Fr w0 w m_dom) (hc1 : m_c2 .ge x4 (((1024 : Int32) * x1) + (1024 : Int32)) = true) (kk : ∀ w1, m_RM S w1 → m_Fr w0 w1 m_dom → P (some (.int x3)) w1) : m_Rs l M_299 (9, [(4, .int x4), (3, .int x3), (0, .ref 583), (1, .int x1), (2, .int x2)], [], w) P c s 2 200 := by
  refine m_Rs.n0 b_299 (x_iload d_299_9 rfl) ?_
  refine m_Rs.n0 b_299 (x_sipush (z := 1024) d_299_11 (by decide)) ?_
  refine m_Rs.n0 b_299 (x_iload_n d_299_14 rfl) ?_
  refine m_Rs.n0 b_299 (x_imul d_299_15 rfl) ?_
  refine m_Rs.n0 b_299 (x_sipush (z := 1024) d_299_16 (by decide)) ?_
  refine m_Rs.n0 b_299 (x_iadd d_299_19 rfl) ?_
  refine m_Rs.n0 b_299 (x_ict d_299_20 rfl hc1) ?_
  refine m_Rs.n0 b_299 (x_iload_n d_299_74 rfl) ?_
  refine m_Rs.ret b_299 (m_rt_ir d_299_75 rfl rfl) ?_
  exact kk _ h hF
theorem K_oldest_9_1 {l : Launch} {w w0 : List mM} {S : mS} {P : Option Value → List mM → Prop} {c s : Nat} {x4 x3 x1 x2 : Int32} (h : m_RM S w) (hF : m_Fr w0 w m_dom) (hc1 : m_c2 .ge x4 (((1024 : Int32) * x1) + (1024 : Int32)) = false) (hc2 : m_c1 .eq (m_rd 4 (S.2 601) x4) = true) (g1 : m_ix x4 7168) (kk : ∀ w1, m_RM S w1 → m_Fr w0 w1 m_dom → m_Rs l M_299 (9, [(4, .int (x4 + Int32.ofInt 1)), (3, .int x3), (0, .ref 583), (1, .int x1), (2, .int x2)], [], w1) P c s 2 200) : m_Rs l M_299 (9, [(4, .int x4), (3, .int x3), (0, .ref 583), (1, .int x1), (2, .int x2)], [], w) P c s 2 200 := by
  refine m_Rs.n0 b_299 (x_iload d_299_9 rfl) ?_
  refine m_Rs.n0 b_299 (x_sipush (z := 1024) d_299_11 (by decide)) ?_
  refine m_Rs.n0 b_299 (x_iload_n d_299_14 rfl) ?_
  refine m_Rs.n0 b_299 (x_imul d_299_15 rfl) ?_
  refine m_Rs.n0 b_299 (x_sipush (z := 1024) d_299_16 (by decide)) ?_
  refine m_Rs.n0 b_299 (x_iadd d_299_19 rfl) ?_
  refine m_Rs.n0 b_299 (x_icf d_299_20 rfl hc1) ?_
  refine m_Rs.n0 b_299 (x_aload_n d_299_23 rfl) ?_
  refine m_Rs.n0 b_299 (x_getf d_299_24 rfl h.1 rfl) ?_
  refine m_Rs.n0 b_299 (x_iload d_299_27 rfl) ?_
  refine m_Rs.n0 b_299 (x_bdG d_299_29 (h.a 17 rfl) rfl (g1)) ?_
  refine m_Rs.n0 b_299 (x_ift d_299_30 rfl hc2) ?_
  refine m_Rs.n0 b_299 (x_iinc d_299_68 rfl rfl rfl (show m_put1 _ _ _ = [(4, _), (3, _), (0, _), (1, _), (2, _)] from rfl)) ?_
  refine m_Rs.n0 b_299 (x_goto d_299_71 rfl) ?_
  exact m_Rs.pick [0, 1, 2, 3, 4] rfl (kk _ h hF)
theorem K_oldest_9_2 {l : Launch} {w w0 : List mM} {S : mS} {P : Option Value → List mM → Prop} {c s : Nat} {x4 x3 x1 x2 : Int32} (h : m_RM S w) (hF : m_Fr w0 w m_dom) (hc1 : m_c2 .ge x4 (((1024 : Int32) * x1) + (1024 : Int32)) = false) (hc2 : m_c1 .eq (m_rd 4 (S.2 601) x4) = false) (hc3 : m_c2 .ne (m_rd 4 (S.2 602) x4) x2 = true) (g1 : m_ix x4 7168) (g2 : m_ix x4 7168) (kk : ∀ w1, m_RM S w1 → m_Fr w0 w1 m_dom → m_Rs l M_299 (9, [(4, .int (x4 + Int32.ofInt 1)), (3, .int x3), (0, .ref 583), (1, .int x1), (2, .int x2)], [], w1) P c s 2 200) : m_Rs l M_299 (9, [(4, .int x4), (3, .int x3), (0, .ref 583), (1, .int x1), (2, .int x2)], [], w) P c s 2 200 := by
  refine m_Rs.n0 b_299 (x_iload d_299_9 rfl) ?_
  refine m_Rs.n0 b_299 (x_sipush (z := 1024) d_299_11 (by decide)) ?_
  refine m_Rs.n0 b_299 (x_iload_n d_299_14 rfl) ?_
  refine m_Rs.n0 b_299 (x_imul d_299_15 rfl) ?_
  refine m_Rs.n0 b_299 (x_sipush (z := 1024) d_299_16 (by decide)) ?_
  refine m_Rs.n0 b_299 (x_iadd d_299_19 rfl) ?_
  refine m_Rs.n0 b_299 (x_icf d_299_20 rfl hc1) ?_
  refine m_Rs.n0 b_299 (x_aload_n d_299_23 rfl) ?_
  refine m_Rs.n0 b_299 (x_getf d_299_24 rfl h.1 rfl) ?_
  refine m_Rs.n0 b_299 (x_iload d_299_27 rfl) ?_
  refine m_Rs.n0 b_299 (x_bdG d_299_29 (h.a 17 rfl) rfl (g1)) ?_
  refine m_Rs.n0 b_299 (x_iff d_299_30 rfl hc2) ?_
  refine m_Rs.n0 b_299 (x_aload_n d_299_33 rfl) ?_
  refine m_Rs.n0 b_299 (x_getf d_299_34 rfl h.1 rfl) ?_
  refine m_Rs.n0 b_299 (x_iload d_299_37 rfl) ?_
  refine m_Rs.n0 b_299 (x_bdG d_299_39 (h.a 18 rfl) rfl (g2)) ?_
  refine m_Rs.n0 b_299 (x_iload_n d_299_40 rfl) ?_
  refine m_Rs.n0 b_299 (x_ict d_299_41 rfl hc3) ?_
  refine m_Rs.n0 b_299 (x_iinc d_299_68 rfl rfl rfl (show m_put1 _ _ _ = [(4, _), (3, _), (0, _), (1, _), (2, _)] from rfl)) ?_
  refine m_Rs.n0 b_299 (x_goto d_299_71 rfl) ?_
  exact m_Rs.pick [0, 1, 2, 3, 4] rfl (kk _ h hF)
theorem K_oldest_9_3 {l : Launch} {w w0 : List mM} {S : mS} {P : Option Value → List mM → Prop} {c s : Nat} {x4 x3 x1 x2 : Int32} (h : m_RM S w) (hF : m_Fr w0 w m_dom) (hc1 : m_c2 .ge x4 (((1024 : Int32) * x1) + (1024 : Int32)) = false) (hc2 : m_c1 .eq (m_rd 4 (S.2 601) x4) = false) (hc3 : m_c2 .ne (m_rd 4 (S.2 602) x4) x2 = false) (hc4 : m_c2 .eq x3 ((-1) : Int32) = true) (g1 : m_ix x4 7168) (g2 : m_ix x4 7168) (kk : ∀ w1, m_RM S w1 → m_Fr w0 w1 m_dom → m_Rs l M_299 (9, [(4, .int (x4 + Int32.ofInt 1)), (3, .int x4), (0, .ref 583), (1, .int x1), (2, .int x2)], [], w1) P c s 2 200) : m_Rs l M_299 (9, [(4, .int x4), (3, .int x3), (0, .ref 583), (1, .int x1), (2, .int x2)], [], w) P c s 2 200 := by
  refine m_Rs.n0 b_299 (x_iload d_299_9 rfl) ?_
  refine m_Rs.n0 b_299 (x_sipush (z := 1024) d_299_11 (by decide)) ?_
  refine m_Rs.n0 b_299 (x_iload_n d_299_14 rfl) ?_
  refine m_Rs.n0 b_299 (x_imul d_299_15 rfl) ?_
  refine m_Rs.n0 b_299 (x_sipush (z := 1024) d_299_16 (by decide)) ?_
  refine m_Rs.n0 b_299 (x_iadd d_299_19 rfl) ?_
  refine m_Rs.n0 b_299 (x_icf d_299_20 rfl hc1) ?_
  refine m_Rs.n0 b_299 (x_aload_n d_299_23 rfl) ?_
  refine m_Rs.n0 b_299 (x_getf d_299_24 rfl h.1 rfl) ?_
  refine m_Rs.n0 b_299 (x_iload d_299_27 rfl) ?_
  refine m_Rs.n0 b_299 (x_bdG d_299_29 (h.a 17 rfl) rfl (g1)) ?_
  refine m_Rs.n0 b_299 (x_iff d_299_30 rfl hc2) ?_
  refine m_Rs.n0 b_299 (x_aload_n d_299_33 rfl) ?_
  refine m_Rs.n0 b_299 (x_getf d_299_34 rfl h.1 rfl) ?_
  refine m_Rs.n0 b_299 (x_iload d_299_37 rfl) ?_
  refine m_Rs.n0 b_299 (x_bdG d_299_39 (h.a 18 rfl) rfl (g2)) ?_
  refine m_Rs.n0 b_299 (x_iload_n d_299_40 rfl) ?_
  refine m_Rs.n0 b_299 (x_icf d_299_41 rfl hc3) ?_
  refine m_Rs.n0 b_299 (x_iload_n d_299_44 rfl) ?_
  refine m_Rs.n0 b_299 (x_iconst (z := (-1)) d_299_45 (by decide)) ?_
  refine m_Rs.n0 b_299 (x_ict d_299_46 rfl hc4) ?_
  refine m_Rs.n0 b_299 (x_iload d_299_65 rfl) ?_
  refine m_Rs.n0 b_299 (x_istore_n d_299_67 rfl (show m_put1 _ _ _ = [(3, _), (4, _), (0, _), (1, _), (2, _)] from rfl)) ?_
  refine m_Rs.n0 b_299 (x_iinc d_299_68 rfl rfl rfl (show m_put1 _ _ _ = [(4, _), (3, _), (0, _), (1, _), (2, _)] from rfl)) ?_
  refine m_Rs.n0 b_299 (x_goto d_299_71 rfl) ?_
  exact m_Rs.pick [0, 1, 2, 3, 4] rfl (kk _ h hF)
theorem K_oldest_9_4 {l : Launch} {w w0 : List mM} {S : mS} {P : Option Value → List mM → Prop} {c s : Nat} {x4 x3 x1 x2 : Int32} (h : m_RM S w) (hF : m_Fr w0 w m_dom) (hc1 : m_c2 .ge x4 (((1024 : Int32) * x1) + (1024 : Int32)) = false) (hc2 : m_c1 .eq (m_rd 4 (S.2 601) x4) = false) (hc3 : m_c2 .ne (m_rd 4 (S.2 602) x4) x2 = false) (hc4 : m_c2 .eq x3 ((-1) : Int32) = false) (hc5 : m_c2 .ge (m_rd 0 (S.2 608) x4) (m_rd 0 (S.2 608) x3) = true) (g1 : m_ix x4 7168) (g2 : m_ix x4 7168) (g3 : m_ix x4 7168) (g4 : m_ix x3 7168) (kk : ∀ w1, m_RM S w1 → m_Fr w0 w1 m_dom → m_Rs l M_299 (9, [(4, .int (x4 + Int32.ofInt 1)), (3, .int x3), (0, .ref 583), (1, .int x1), (2, .int x2)], [], w1) P c s 2 200) : m_Rs l M_299 (9, [(4, .int x4), (3, .int x3), (0, .ref 583), (1, .int x1), (2, .int x2)], [], w) P c s 2 200 := by
  refine m_Rs.n0 b_299 (x_iload d_299_9 rfl) ?_
  refine m_Rs.n0 b_299 (x_sipush (z := 1024) d_299_11 (by decide)) ?_
  refine m_Rs.n0 b_299 (x_iload_n d_299_14 rfl) ?_
  refine m_Rs.n0 b_299 (x_imul d_299_15 rfl) ?_
  refine m_Rs.n0 b_299 (x_sipush (z := 1024) d_299_16 (by decide)) ?_
  refine m_Rs.n0 b_299 (x_iadd d_299_19 rfl) ?_
  refine m_Rs.n0 b_299 (x_icf d_299_20 rfl hc1) ?_
  refine m_Rs.n0 b_299 (x_aload_n d_299_23 rfl) ?_
  refine m_Rs.n0 b_299 (x_getf d_299_24 rfl h.1 rfl) ?_
  refine m_Rs.n0 b_299 (x_iload d_299_27 rfl) ?_
  refine m_Rs.n0 b_299 (x_bdG d_299_29 (h.a 17 rfl) rfl (g1)) ?_
  refine m_Rs.n0 b_299 (x_iff d_299_30 rfl hc2) ?_
  refine m_Rs.n0 b_299 (x_aload_n d_299_33 rfl) ?_
  refine m_Rs.n0 b_299 (x_getf d_299_34 rfl h.1 rfl) ?_
  refine m_Rs.n0 b_299 (x_iload d_299_37 rfl) ?_
  refine m_Rs.n0 b_299 (x_bdG d_299_39 (h.a 18 rfl) rfl (g2)) ?_
  refine m_Rs.n0 b_299 (x_iload_n d_299_40 rfl) ?_
  refine m_Rs.n0 b_299 (x_icf d_299_41 rfl hc3) ?_
  refine m_Rs.n0 b_299 (x_iload_n d_299_44 rfl) ?_
  refine m_Rs.n0 b_299 (x_iconst (z := (-1)) d_299_45 (by decide)) ?_
  refine m_Rs.n0 b_299 (x_icf d_299_46 rfl hc4) ?_
  refine m_Rs.n0 b_299 (x_aload_n d_299_49 rfl) ?_
  refine m_Rs.n0 b_299 (x_getf d_299_50 rfl h.1 rfl) ?_
  refine m_Rs.n0 b_299 (x_iload d_299_53 rfl) ?_
  refine m_Rs.n0 b_299 (x_ldG d_299_55 (h.a 24 rfl) rfl (g3)) ?_
  refine m_Rs.n0 b_299 (x_aload_n d_299_56 rfl) ?_
  refine m_Rs.n0 b_299 (x_getf d_299_57 rfl h.1 rfl) ?_
  refine m_Rs.n0 b_299 (x_iload_n d_299_60 rfl) ?_
  refine m_Rs.n0 b_299 (x_ldG d_299_61 (h.a 24 rfl) rfl (g4)) ?_
  refine m_Rs.n0 b_299 (x_ict d_299_62 rfl hc5) ?_
  refine m_Rs.n0 b_299 (x_iinc d_299_68 rfl rfl rfl (show m_put1 _ _ _ = [(4, _), (3, _), (0, _), (1, _), (2, _)] from rfl)) ?_
  refine m_Rs.n0 b_299 (x_goto d_299_71 rfl) ?_
  exact m_Rs.pick [0, 1, 2, 3, 4] rfl (kk _ h hF)
theorem K_oldest_9_5 {l : Launch} {w w0 : List mM} {S : mS} {P : Option Value → List mM → Prop} {c s : Nat} {x4 x3 x1 x2 : Int32} (h : m_RM S w) (hF : m_Fr w0 w m_dom) (hc1 : m_c2 .ge x4 (((1024 : Int32) * x1) + (1024 : Int32)) = false) (hc2 : m_c1 .eq (m_rd 4 (S.2 601) x4) = false) (hc3 : m_c2 .ne (m_rd 4 (S.2 602) x4) x2 = false) (hc4 : m_c2 .eq x3 ((-1) : Int32) = false) (hc5 : m_c2 .ge (m_rd 0 (S.2 608) x4) (m_rd 0 (S.2 608) x3) = false) (g1 : m_ix x4 7168) (g2 : m_ix x4 7168) (g3 : m_ix x4 7168) (g4 : m_ix x3 7168) (kk : ∀ w1, m_RM S w1 → m_Fr w0 w1 m_dom → m_Rs l M_299 (9, [(4, .int (x4 + Int32.ofInt 1)), (3, .int x4), (0, .ref 583), (1, .int x1), (2, .int x2)], [], w1) P c s 2 200) : m_Rs l M_299 (9, [(4, .int x4), (3, .int x3), (0, .ref 583), (1, .int x1), (2, .int x2)], [], w) P c s 2 200 := by
  refine m_Rs.n0 b_299 (x_iload d_299_9 rfl) ?_
  refine m_Rs.n0 b_299 (x_sipush (z := 1024) d_299_11 (by decide)) ?_
  refine m_Rs.n0 b_299 (x_iload_n d_299_14 rfl) ?_
  refine m_Rs.n0 b_299 (x_imul d_299_15 rfl) ?_
  refine m_Rs.n0 b_299 (x_sipush (z := 1024) d_299_16 (by decide)) ?_
  refine m_Rs.n0 b_299 (x_iadd d_299_19 rfl) ?_
  refine m_Rs.n0 b_299 (x_icf d_299_20 rfl hc1) ?_
  refine m_Rs.n0 b_299 (x_aload_n d_299_23 rfl) ?_
  refine m_Rs.n0 b_299 (x_getf d_299_24 rfl h.1 rfl) ?_
  refine m_Rs.n0 b_299 (x_iload d_299_27 rfl) ?_
  refine m_Rs.n0 b_299 (x_bdG d_299_29 (h.a 17 rfl) rfl (g1)) ?_
  refine m_Rs.n0 b_299 (x_iff d_299_30 rfl hc2) ?_
  refine m_Rs.n0 b_299 (x_aload_n d_299_33 rfl) ?_
  refine m_Rs.n0 b_299 (x_getf d_299_34 rfl h.1 rfl) ?_
  refine m_Rs.n0 b_299 (x_iload d_299_37 rfl) ?_
  refine m_Rs.n0 b_299 (x_bdG d_299_39 (h.a 18 rfl) rfl (g2)) ?_
  refine m_Rs.n0 b_299 (x_iload_n d_299_40 rfl) ?_
  refine m_Rs.n0 b_299 (x_icf d_299_41 rfl hc3) ?_
  refine m_Rs.n0 b_299 (x_iload_n d_299_44 rfl) ?_
  refine m_Rs.n0 b_299 (x_iconst (z := (-1)) d_299_45 (by decide)) ?_
  refine m_Rs.n0 b_299 (x_icf d_299_46 rfl hc4) ?_
  refine m_Rs.n0 b_299 (x_aload_n d_299_49 rfl) ?_
  refine m_Rs.n0 b_299 (x_getf d_299_50 rfl h.1 rfl) ?_
  refine m_Rs.n0 b_299 (x_iload d_299_53 rfl) ?_
  refine m_Rs.n0 b_299 (x_ldG d_299_55 (h.a 24 rfl) rfl (g3)) ?_
  refine m_Rs.n0 b_299 (x_aload_n d_299_56 rfl) ?_
  refine m_Rs.n0 b_299 (x_getf d_299_57 rfl h.1 rfl) ?_
  refine m_Rs.n0 b_299 (x_iload_n d_299_60 rfl) ?_
  refine m_Rs.n0 b_299 (x_ldG d_299_61 (h.a 24 rfl) rfl (g4)) ?_
  refine m_Rs.n0 b_299 (x_icf d_299_62 rfl hc5) ?_
  refine m_Rs.n0 b_299 (x_iload d_299_65 rfl) ?_
  refine m_Rs.n0 b_299 (x_istore_n d_299_67 rfl (show m_put1 _ _ _ = [(3, _), (4, _), (0, _), (1, _), (2, _)] from rfl)) ?_
  refine m_Rs.n0 b_299 (x_iinc d_299_68 rfl rfl rfl (show m_put1 _ _ _ = [(4, _), (3, _), (0, _), (1, _), (2, _)] from rfl)) ?_
  refine m_Rs.n0 b_299 (x_goto d_299_71 rfl) ?_
  exact m_Rs.pick [0, 1, 2, 3, 4] rfl (kk _ h hF)
