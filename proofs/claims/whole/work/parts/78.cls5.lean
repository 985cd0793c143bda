/-! The class's methods as guarded functions. Written by wip/tool/decc1.py. -/
theorem q_230 : m_mt[230]? = some M_230 := by rfl
theorem q_229 : m_mt[229]? = some M_229 := by rfl
theorem q_236 : m_mt[236]? = some M_236 := by rfl
theorem q_235 : m_mt[235]? = some M_235 := by rfl
theorem q_234 : m_mt[234]? = some M_234 := by rfl
theorem q_239 : m_mt[239]? = some M_239 := by rfl
theorem b_230 : m_bOk M_230 := (m_mt_ok M_230 (List.mem_of_getElem? q_230)).body
theorem b_229 : m_bOk M_229 := (m_mt_ok M_229 (List.mem_of_getElem? q_229)).body
theorem b_236 : m_bOk M_236 := (m_mt_ok M_236 (List.mem_of_getElem? q_236)).body
theorem b_235 : m_bOk M_235 := (m_mt_ok M_235 (List.mem_of_getElem? q_235)).body
theorem b_234 : m_bOk M_234 := (m_mt_ok M_234 (List.mem_of_getElem? q_234)).body
theorem b_239 : m_bOk M_239 := (m_mt_ok M_239 (List.mem_of_getElem? q_239)).body
theorem d_229_0 : m_dn M_229 0 (.aload_n 0) 1 1 := by decide +kernel
theorem d_229_1 : m_dn M_229 1 (.getfield 10) 3 4 := by decide +kernel
theorem d_229_12 : m_dn M_229 12 (.invokevirtual 73) 3 15 := by decide +kernel
theorem d_229_15 : m_dn M_229 15 (.aload_n 1) 1 16 := by decide +kernel
theorem d_229_16 : m_dn M_229 16 (.ifnull 13) 3 19 := by decide +kernel
theorem d_229_19 : m_dn M_229 19 (.aload_n 1) 1 20 := by decide +kernel
theorem d_229_20 : m_dn M_229 20 (.getfield 76) 3 23 := by decide +kernel
theorem d_229_23 : m_dn M_229 23 (.invokestatic 80) 3 26 := by decide +kernel
theorem d_229_26 : m_dn M_229 26 (.ifCond .ne 13) 3 29 := by decide +kernel
theorem d_229_39 : m_dn M_229 39 (.aload_n 0) 1 40 := by decide +kernel
theorem d_229_4 : m_dn M_229 4 (.invokevirtual 69) 3 7 := by decide +kernel
theorem d_229_40 : m_dn M_229 40 (.getfield 22) 3 43 := by decide +kernel
theorem d_229_43 : m_dn M_229 43 (.aload_n 1) 1 44 := by decide +kernel
theorem d_229_44 : m_dn M_229 44 (.getfield 76) 3 47 := by decide +kernel
theorem d_229_47 : m_dn M_229 47 (.dup2) 1 48 := by decide +kernel
theorem d_229_48 : m_dn M_229 48 (.iaload) 1 49 := by decide +kernel
theorem d_229_49 : m_dn M_229 49 (.iconst 1) 1 50 := by decide +kernel
theorem d_229_50 : m_dn M_229 50 (.iadd) 1 51 := by decide +kernel
theorem d_229_51 : m_dn M_229 51 (.iastore) 1 52 := by decide +kernel
theorem d_229_52 : m_dn M_229 52 (.aload_n 1) 1 53 := by decide +kernel
theorem d_229_53 : m_dn M_229 53 (.aload_n 0) 1 54 := by decide +kernel
theorem d_229_54 : m_dn M_229 54 (.getfield 22) 3 57 := by decide +kernel
theorem d_229_57 : m_dn M_229 57 (.aload_n 1) 1 58 := by decide +kernel
theorem d_229_58 : m_dn M_229 58 (.getfield 76) 3 61 := by decide +kernel
theorem d_229_61 : m_dn M_229 61 (.iaload) 1 62 := by decide +kernel
theorem d_229_62 : m_dn M_229 62 (.putfield 91) 3 65 := by decide +kernel
theorem d_229_65 : m_dn M_229 65 (.aload_n 0) 1 66 := by decide +kernel
theorem d_229_66 : m_dn M_229 66 (.getfield 18) 3 69 := by decide +kernel
theorem d_229_69 : m_dn M_229 69 (.aload_n 1) 1 70 := by decide +kernel
theorem d_229_7 : m_dn M_229 7 (.astore_n 1) 1 8 := by decide +kernel
theorem d_229_70 : m_dn M_229 70 (.getfield 76) 3 73 := by decide +kernel
theorem d_229_73 : m_dn M_229 73 (.aload_n 1) 1 74 := by decide +kernel
theorem d_229_74 : m_dn M_229 74 (.aastore) 1 75 := by decide +kernel
theorem d_229_75 : m_dn M_229 75 (.aload_n 1) 1 76 := by decide +kernel
theorem d_229_76 : m_dn M_229 76 (.getfield 91) 3 79 := by decide +kernel
theorem d_229_79 : m_dn M_229 79 (.ireturn) 1 80 := by decide +kernel
theorem d_229_8 : m_dn M_229 8 (.aload_n 0) 1 9 := by decide +kernel
theorem d_229_9 : m_dn M_229 9 (.getfield 10) 3 12 := by decide +kernel
theorem d_230_0 : m_dn M_230 0 (.aload_n 0) 1 1 := by decide +kernel
theorem d_230_1 : m_dn M_230 1 (.invokevirtual 31) 3 4 := by decide +kernel
theorem d_230_100 : m_dn M_230 100 (.invokevirtual 66) 3 103 := by decide +kernel
theorem d_230_103 : m_dn M_230 103 (.ifCond .ne 5) 3 106 := by decide +kernel
theorem d_230_106 : m_dn M_230 106 (.aconst_null) 1 107 := by decide +kernel
theorem d_230_107 : m_dn M_230 107 (.areturn) 1 108 := by decide +kernel
theorem d_230_108 : m_dn M_230 108 (.aload_n 0) 1 109 := by decide +kernel
theorem d_230_109 : m_dn M_230 109 (.getfield 37) 3 112 := by decide +kernel
theorem d_230_112 : m_dn M_230 112 (.aload_n 0) 1 113 := by decide +kernel
theorem d_230_113 : m_dn M_230 113 (.getfield 69) 3 116 := by decide +kernel
theorem d_230_116 : m_dn M_230 116 (.putfield 72) 3 119 := by decide +kernel
theorem d_230_119 : m_dn M_230 119 (.aload_n 0) 1 120 := by decide +kernel
theorem d_230_12 : m_dn M_230 12 (.putfield 37) 3 15 := by decide +kernel
theorem d_230_120 : m_dn M_230 120 (.getfield 37) 3 123 := by decide +kernel
theorem d_230_123 : m_dn M_230 123 (.areturn) 1 124 := by decide +kernel
theorem d_230_15 : m_dn M_230 15 (.aload_n 0) 1 16 := by decide +kernel
theorem d_230_16 : m_dn M_230 16 (.ldc 41) 2 18 := by decide +kernel
theorem d_230_18 : m_dn M_230 18 (.invokevirtual 43) 3 21 := by decide +kernel
theorem d_230_21 : m_dn M_230 21 (.ifCond .eq 15) 3 24 := by decide +kernel
theorem d_230_24 : m_dn M_230 24 (.aload_n 0) 1 25 := by decide +kernel
theorem d_230_25 : m_dn M_230 25 (.iconst 0) 1 26 := by decide +kernel
theorem d_230_26 : m_dn M_230 26 (.invokevirtual 47) 3 29 := by decide +kernel
theorem d_230_29 : m_dn M_230 29 (.ifCond .eq 7) 3 32 := by decide +kernel
theorem d_230_32 : m_dn M_230 32 (.iconst 1) 1 33 := by decide +kernel
theorem d_230_33 : m_dn M_230 33 (.goto 4) 3 36 := by decide +kernel
theorem d_230_36 : m_dn M_230 36 (.iconst 0) 1 37 := by decide +kernel
theorem d_230_37 : m_dn M_230 37 (.istore_n 1) 1 38 := by decide +kernel
theorem d_230_38 : m_dn M_230 38 (.iconst 0) 1 39 := by decide +kernel
theorem d_230_39 : m_dn M_230 39 (.istore_n 2) 1 40 := by decide +kernel
theorem d_230_4 : m_dn M_230 4 (.aload_n 0) 1 5 := by decide +kernel
theorem d_230_40 : m_dn M_230 40 (.iload_n 2) 1 41 := by decide +kernel
theorem d_230_41 : m_dn M_230 41 (.sipush 300) 3 44 := by decide +kernel
theorem d_230_44 : m_dn M_230 44 (.if_icmp .ge 51) 3 47 := by decide +kernel
theorem d_230_47 : m_dn M_230 47 (.iload_n 1) 1 48 := by decide +kernel
theorem d_230_48 : m_dn M_230 48 (.ifCond .eq 47) 3 51 := by decide +kernel
theorem d_230_5 : m_dn M_230 5 (.new 34) 3 8 := by decide +kernel
theorem d_230_51 : m_dn M_230 51 (.aload_n 0) 1 52 := by decide +kernel
theorem d_230_52 : m_dn M_230 52 (.invokevirtual 51) 3 55 := by decide +kernel
theorem d_230_55 : m_dn M_230 55 (.bipush 10) 2 57 := by decide +kernel
theorem d_230_57 : m_dn M_230 57 (.if_icmp .eq 38) 3 60 := by decide +kernel
theorem d_230_60 : m_dn M_230 60 (.aload_n 0) 1 61 := by decide +kernel
theorem d_230_61 : m_dn M_230 61 (.invokevirtual 55) 3 64 := by decide +kernel
theorem d_230_64 : m_dn M_230 64 (.ifCond .eq 23) 3 67 := by decide +kernel
theorem d_230_67 : m_dn M_230 67 (.aload_n 0) 1 68 := by decide +kernel
theorem d_230_68 : m_dn M_230 68 (.invokevirtual 59) 3 71 := by decide +kernel
theorem d_230_71 : m_dn M_230 71 (.ifCond .eq 16) 3 74 := by decide +kernel
theorem d_230_74 : m_dn M_230 74 (.aload_n 0) 1 75 := by decide +kernel
theorem d_230_75 : m_dn M_230 75 (.bipush 10) 2 77 := by decide +kernel
theorem d_230_77 : m_dn M_230 77 (.invokevirtual 62) 3 80 := by decide +kernel
theorem d_230_8 : m_dn M_230 8 (.dup) 1 9 := by decide +kernel
theorem d_230_80 : m_dn M_230 80 (.ifCond .eq 7) 3 83 := by decide +kernel
theorem d_230_83 : m_dn M_230 83 (.iconst 1) 1 84 := by decide +kernel
theorem d_230_84 : m_dn M_230 84 (.goto 4) 3 87 := by decide +kernel
theorem d_230_87 : m_dn M_230 87 (.iconst 0) 1 88 := by decide +kernel
theorem d_230_88 : m_dn M_230 88 (.istore_n 1) 1 89 := by decide +kernel
theorem d_230_89 : m_dn M_230 89 (.iinc 2 1) 3 92 := by decide +kernel
theorem d_230_9 : m_dn M_230 9 (.invokespecial 36) 3 12 := by decide +kernel
theorem d_230_92 : m_dn M_230 92 (.goto (-52)) 3 95 := by decide +kernel
theorem d_230_95 : m_dn M_230 95 (.iload_n 1) 1 96 := by decide +kernel
theorem d_230_96 : m_dn M_230 96 (.ifCond .eq 10) 3 99 := by decide +kernel
theorem d_230_99 : m_dn M_230 99 (.aload_n 0) 1 100 := by decide +kernel
theorem d_234_0 : m_dn M_234 0 (.iload_n 1) 1 1 := by decide +kernel
theorem d_234_1 : m_dn M_234 1 (.iconst 1) 1 2 := by decide +kernel
theorem d_234_2 : m_dn M_234 2 (.if_icmp .lt 9) 3 5 := by decide +kernel
theorem d_234_21 : m_dn M_234 21 (.iconst 0) 1 22 := by decide +kernel
theorem d_234_22 : m_dn M_234 22 (.istore_n 2) 1 23 := by decide +kernel
theorem d_234_23 : m_dn M_234 23 (.iload_n 2) 1 24 := by decide +kernel
theorem d_234_24 : m_dn M_234 24 (.iload_n 1) 1 25 := by decide +kernel
theorem d_234_25 : m_dn M_234 25 (.if_icmp .ge 43) 3 28 := by decide +kernel
theorem d_234_28 : m_dn M_234 28 (.aload_n 0) 1 29 := by decide +kernel
theorem d_234_29 : m_dn M_234 29 (.dup) 1 30 := by decide +kernel
theorem d_234_30 : m_dn M_234 30 (.getfield 174) 3 33 := by decide +kernel
theorem d_234_33 : m_dn M_234 33 (.iconst 1) 1 34 := by decide +kernel
theorem d_234_34 : m_dn M_234 34 (.iadd) 1 35 := by decide +kernel
theorem d_234_35 : m_dn M_234 35 (.putfield 174) 3 38 := by decide +kernel
theorem d_234_38 : m_dn M_234 38 (.iconst 1) 1 39 := by decide +kernel
theorem d_234_39 : m_dn M_234 39 (.istore_n 3) 1 40 := by decide +kernel
theorem d_234_40 : m_dn M_234 40 (.iload_n 3) 1 41 := by decide +kernel
theorem d_234_41 : m_dn M_234 41 (.bipush 6) 2 43 := by decide +kernel
theorem d_234_43 : m_dn M_234 43 (.if_icmp .gt 19) 3 46 := by decide +kernel
theorem d_234_46 : m_dn M_234 46 (.aload_n 0) 1 47 := by decide +kernel
theorem d_234_47 : m_dn M_234 47 (.aload_n 0) 1 48 := by decide +kernel
theorem d_234_48 : m_dn M_234 48 (.getfield 28) 3 51 := by decide +kernel
theorem d_234_5 : m_dn M_234 5 (.iload_n 1) 1 6 := by decide +kernel
theorem d_234_51 : m_dn M_234 51 (.iload_n 3) 1 52 := by decide +kernel
theorem d_234_52 : m_dn M_234 52 (.aaload) 1 53 := by decide +kernel
theorem d_234_53 : m_dn M_234 53 (.invokevirtual 177) 3 56 := by decide +kernel
theorem d_234_56 : m_dn M_234 56 (.iinc 3 1) 3 59 := by decide +kernel
theorem d_234_59 : m_dn M_234 59 (.goto (-19)) 3 62 := by decide +kernel
theorem d_234_6 : m_dn M_234 6 (.bipush 100) 2 8 := by decide +kernel
theorem d_234_62 : m_dn M_234 62 (.iinc 2 1) 3 65 := by decide +kernel
theorem d_234_65 : m_dn M_234 65 (.goto (-42)) 3 68 := by decide +kernel
theorem d_234_68 : m_dn M_234 68 (.aload_n 0) 1 69 := by decide +kernel
theorem d_234_69 : m_dn M_234 69 (.getfield 174) 3 72 := by decide +kernel
theorem d_234_72 : m_dn M_234 72 (.ireturn) 1 73 := by decide +kernel
theorem d_234_8 : m_dn M_234 8 (.if_icmp .le 13) 3 11 := by decide +kernel
theorem d_235_0 : m_dn M_235 0 (.aload_n 1) 1 1 := by decide +kernel
theorem d_235_1 : m_dn M_235 1 (.getfield 184) 3 4 := by decide +kernel
theorem d_235_10 : m_dn M_235 10 (.aload_n 0) 1 11 := by decide +kernel
theorem d_235_11 : m_dn M_235 11 (.getfield 174) 3 14 := by decide +kernel
theorem d_235_14 : m_dn M_235 14 (.aload_n 1) 1 15 := by decide +kernel
theorem d_235_15 : m_dn M_235 15 (.getfield 184) 3 18 := by decide +kernel
theorem d_235_18 : m_dn M_235 18 (.iconst 0) 1 19 := by decide +kernel
theorem d_235_19 : m_dn M_235 19 (.invokevirtual 187) 3 22 := by decide +kernel
theorem d_235_22 : m_dn M_235 22 (.checkcast 190) 3 25 := by decide +kernel
theorem d_235_25 : m_dn M_235 25 (.getfield 499) 3 28 := by decide +kernel
theorem d_235_28 : m_dn M_235 28 (.isub) 1 29 := by decide +kernel
theorem d_235_29 : m_dn M_235 29 (.bipush 10) 2 31 := by decide +kernel
theorem d_235_31 : m_dn M_235 31 (.if_icmp .lt 49) 3 34 := by decide +kernel
theorem d_235_34 : m_dn M_235 34 (.aload_n 1) 1 35 := by decide +kernel
theorem d_235_35 : m_dn M_235 35 (.getfield 184) 3 38 := by decide +kernel
theorem d_235_38 : m_dn M_235 38 (.iconst 0) 1 39 := by decide +kernel
theorem d_235_39 : m_dn M_235 39 (.invokevirtual 137) 3 42 := by decide +kernel
theorem d_235_4 : m_dn M_235 4 (.invokevirtual 150) 3 7 := by decide +kernel
theorem d_235_42 : m_dn M_235 42 (.checkcast 190) 3 45 := by decide +kernel
theorem d_235_45 : m_dn M_235 45 (.astore_n 2) 1 46 := by decide +kernel
theorem d_235_46 : m_dn M_235 46 (.aload_n 1) 1 47 := by decide +kernel
theorem d_235_47 : m_dn M_235 47 (.getfield 339) 3 50 := by decide +kernel
theorem d_235_50 : m_dn M_235 50 (.invokestatic 491) 3 53 := by decide +kernel
theorem d_235_53 : m_dn M_235 53 (.ifCond .eq 15) 3 56 := by decide +kernel
theorem d_235_56 : m_dn M_235 56 (.aload_n 1) 1 57 := by decide +kernel
theorem d_235_57 : m_dn M_235 57 (.aload_n 2) 1 58 := by decide +kernel
theorem d_235_58 : m_dn M_235 58 (.getfield 498) 3 61 := by decide +kernel
theorem d_235_61 : m_dn M_235 61 (.aload_n 0) 1 62 := by decide +kernel
theorem d_235_62 : m_dn M_235 62 (.getfield 174) 3 65 := by decide +kernel
theorem d_235_65 : m_dn M_235 65 (.invokevirtual 513) 3 68 := by decide +kernel
theorem d_235_68 : m_dn M_235 68 (.aload_n 0) 1 69 := by decide +kernel
theorem d_235_69 : m_dn M_235 69 (.aload_n 1) 1 70 := by decide +kernel
theorem d_235_7 : m_dn M_235 7 (.ifCond .ne 73) 3 10 := by decide +kernel
theorem d_235_70 : m_dn M_235 70 (.aload_n 2) 1 71 := by decide +kernel
theorem d_235_71 : m_dn M_235 71 (.getfield 192) 3 74 := by decide +kernel
theorem d_235_74 : m_dn M_235 74 (.invokevirtual 349) 3 77 := by decide +kernel
theorem d_235_77 : m_dn M_235 77 (.goto (-77)) 3 80 := by decide +kernel
theorem d_235_80 : m_dn M_235 80 (.return_) 1 81 := by decide +kernel
theorem d_236_0 : m_dn M_236 0 (.iload_n 1) 1 1 := by decide +kernel
theorem d_236_1 : m_dn M_236 1 (.iconst 1) 1 2 := by decide +kernel
theorem d_236_10 : m_dn M_236 10 (.return_) 1 11 := by decide +kernel
theorem d_236_11 : m_dn M_236 11 (.aload_n 0) 1 12 := by decide +kernel
theorem d_236_12 : m_dn M_236 12 (.getfield 29) 3 15 := by decide +kernel
theorem d_236_15 : m_dn M_236 15 (.iload_n 1) 1 16 := by decide +kernel
theorem d_236_16 : m_dn M_236 16 (.dup2) 1 17 := by decide +kernel
theorem d_236_17 : m_dn M_236 17 (.iaload) 1 18 := by decide +kernel
theorem d_236_18 : m_dn M_236 18 (.iconst 1) 1 19 := by decide +kernel
theorem d_236_19 : m_dn M_236 19 (.iadd) 1 20 := by decide +kernel
theorem d_236_2 : m_dn M_236 2 (.if_icmp .lt 8) 3 5 := by decide +kernel
theorem d_236_20 : m_dn M_236 20 (.iastore) 1 21 := by decide +kernel
theorem d_236_21 : m_dn M_236 21 (.aload_n 0) 1 22 := by decide +kernel
theorem d_236_22 : m_dn M_236 22 (.getfield 29) 3 25 := by decide +kernel
theorem d_236_25 : m_dn M_236 25 (.iload_n 1) 1 26 := by decide +kernel
theorem d_236_26 : m_dn M_236 26 (.iaload) 1 27 := by decide +kernel
theorem d_236_27 : m_dn M_236 27 (.iconst 2) 1 28 := by decide +kernel
theorem d_236_28 : m_dn M_236 28 (.if_icmp .ne 20) 3 31 := by decide +kernel
theorem d_236_31 : m_dn M_236 31 (.aload_n 0) 1 32 := by decide +kernel
theorem d_236_32 : m_dn M_236 32 (.getfield 29) 3 35 := by decide +kernel
theorem d_236_35 : m_dn M_236 35 (.iload_n 1) 1 36 := by decide +kernel
theorem d_236_36 : m_dn M_236 36 (.iconst 0) 1 37 := by decide +kernel
theorem d_236_37 : m_dn M_236 37 (.iastore) 1 38 := by decide +kernel
theorem d_236_38 : m_dn M_236 38 (.aload_n 0) 1 39 := by decide +kernel
theorem d_236_39 : m_dn M_236 39 (.getfield 33) 3 42 := by decide +kernel
theorem d_236_42 : m_dn M_236 42 (.iload_n 1) 1 43 := by decide +kernel
theorem d_236_43 : m_dn M_236 43 (.iload_n 2) 1 44 := by decide +kernel
theorem d_236_44 : m_dn M_236 44 (.bipush 20) 2 46 := by decide +kernel
theorem d_236_46 : m_dn M_236 46 (.iadd) 1 47 := by decide +kernel
theorem d_236_47 : m_dn M_236 47 (.iastore) 1 48 := by decide +kernel
theorem d_236_48 : m_dn M_236 48 (.return_) 1 49 := by decide +kernel
theorem d_236_5 : m_dn M_236 5 (.iload_n 1) 1 6 := by decide +kernel
theorem d_236_6 : m_dn M_236 6 (.iconst 2) 1 7 := by decide +kernel
theorem d_236_7 : m_dn M_236 7 (.if_icmp .le 4) 3 10 := by decide +kernel
theorem d_239_0 : m_dn M_239 0 (.iload_n 1) 1 1 := by decide +kernel
theorem d_239_1 : m_dn M_239 1 (.tableswitch 91 0 8 #[51, 56, 61, 66, 71, 91, 76, 81, 86]) 51 52 := by decide +kernel
theorem d_239_52 : m_dn M_239 52 (.aload_n 0) 1 53 := by decide +kernel
theorem d_239_53 : m_dn M_239 53 (.getfield 84) 3 56 := by decide +kernel
theorem d_239_56 : m_dn M_239 56 (.ireturn) 1 57 := by decide +kernel
theorem d_239_57 : m_dn M_239 57 (.aload_n 0) 1 58 := by decide +kernel
theorem d_239_58 : m_dn M_239 58 (.getfield 40) 3 61 := by decide +kernel
theorem d_239_61 : m_dn M_239 61 (.ireturn) 1 62 := by decide +kernel
theorem d_239_62 : m_dn M_239 62 (.aload_n 0) 1 63 := by decide +kernel
theorem d_239_63 : m_dn M_239 63 (.getfield 90) 3 66 := by decide +kernel
theorem d_239_66 : m_dn M_239 66 (.ireturn) 1 67 := by decide +kernel
theorem d_239_67 : m_dn M_239 67 (.aload_n 0) 1 68 := by decide +kernel
theorem d_239_68 : m_dn M_239 68 (.getfield 87) 3 71 := by decide +kernel
theorem d_239_71 : m_dn M_239 71 (.ireturn) 1 72 := by decide +kernel
theorem d_239_72 : m_dn M_239 72 (.aload_n 0) 1 73 := by decide +kernel
theorem d_239_73 : m_dn M_239 73 (.getfield 93) 3 76 := by decide +kernel
theorem d_239_76 : m_dn M_239 76 (.ireturn) 1 77 := by decide +kernel
theorem d_239_77 : m_dn M_239 77 (.aload_n 0) 1 78 := by decide +kernel
theorem d_239_78 : m_dn M_239 78 (.getfield 96) 3 81 := by decide +kernel
theorem d_239_81 : m_dn M_239 81 (.ireturn) 1 82 := by decide +kernel
theorem d_239_82 : m_dn M_239 82 (.aload_n 0) 1 83 := by decide +kernel
theorem d_239_83 : m_dn M_239 83 (.getfield 99) 3 86 := by decide +kernel
theorem d_239_86 : m_dn M_239 86 (.ireturn) 1 87 := by decide +kernel
theorem d_239_87 : m_dn M_239 87 (.aload_n 0) 1 88 := by decide +kernel
theorem d_239_88 : m_dn M_239 88 (.getfield 44) 3 91 := by decide +kernel
theorem d_239_91 : m_dn M_239 91 (.ireturn) 1 92 := by decide +kernel
theorem d_239_92 : m_dn M_239 92 (.iconst (-1)) 1 93 := by decide +kernel
theorem d_239_93 : m_dn M_239 93 (.ireturn) 1 94 := by decide +kernel
def D_c_Reader_readThing_88 (F : Nat) (rec40 : Nat → Int32 → Int32 → tT → Option (Option Nat × tT)) (x0 : Nat) (x2 : Int32) (y0 : Int32) (T : tT) : Option (Option Nat × tT) := rec40 x0 y0 (x2 + Int32.ofInt 1) T
theorem T_c_Reader_readThing_88 {l : Launch} {w0 : List mM} {F : Nat} {rec40 : Nat → Int32 → Int32 → tT → Option (Option Nat × tT)} (hr40 : ∀ {x0 : Nat} {x1 : Int32} {x2 : Int32} {T : tT} {w : List mM} {yz : Option Nat} {Tz : tT}, okr T.2.1 (some x0) → RT T w → m_Fm w0 w → rec40 x0 x1 x2 T = some (yz, Tz) → m_Rb l M_230 (40, [(0, .ref x0), (1, .int x1), (2, .int x2)], [], w) (fun v w' => v = some (rv yz) ∧ okr Tz.2.1 yz ∧ RT Tz w' ∧ m_Fm w0 w') T Tz 8 800) {x0 : Nat} {x2 : Int32} {y0 : Int32} {T : tT} {w : List mM} {yz : Option Nat} {Tz : tT} (hx0 : okr T.2.1 (some x0)) (h : RT T w) (hF : m_Fm w0 w) (h0 : D_c_Reader_readThing_88 F rec40 x0 x2 y0 T = some (yz, Tz)) : m_Rb l M_230 (88, [(0, .ref x0), (2, .int x2)], [.int y0], w) (fun v w' => v = some (rv yz) ∧ okr Tz.2.1 yz ∧ RT Tz w' ∧ m_Fm w0 w') T Tz 8 800 := by
  rw [D_c_Reader_readThing_88] at h0
  refine m_Rb.n0 b_230 (x_istore_n d_230_88 rfl (show m_put1 _ _ _ = [(1, _), (0, _), (2, _)] from rfl)) ?_
  refine m_Rb.n0 b_230 (x_iinc d_230_89 rfl rfl rfl (show m_put1 _ _ _ = [(2, _), (1, _), (0, _)] from rfl)) ?_
  refine m_Rb.n0 b_230 (x_goto d_230_92 rfl) ?_
  exact m_Rb.pick [2, 1, 0] rfl (hr40 hx0 h hF h0)
def D_c_Reader_readThing_87 (F : Nat) (rec40 : Nat → Int32 → Int32 → tT → Option (Option Nat × tT)) (x0 : Nat) (x2 : Int32) (T : tT) : Option (Option Nat × tT) := D_c_Reader_readThing_88 F rec40 x0 x2 (0 : Int32) T
theorem T_c_Reader_readThing_87 {l : Launch} {w0 : List mM} {F : Nat} {rec40 : Nat → Int32 → Int32 → tT → Option (Option Nat × tT)} (hr40 : ∀ {x0 : Nat} {x1 : Int32} {x2 : Int32} {T : tT} {w : List mM} {yz : Option Nat} {Tz : tT}, okr T.2.1 (some x0) → RT T w → m_Fm w0 w → rec40 x0 x1 x2 T = some (yz, Tz) → m_Rb l M_230 (40, [(0, .ref x0), (1, .int x1), (2, .int x2)], [], w) (fun v w' => v = some (rv yz) ∧ okr Tz.2.1 yz ∧ RT Tz w' ∧ m_Fm w0 w') T Tz 8 800) {x0 : Nat} {x2 : Int32} {T : tT} {w : List mM} {yz : Option Nat} {Tz : tT} (hx0 : okr T.2.1 (some x0)) (h : RT T w) (hF : m_Fm w0 w) (h0 : D_c_Reader_readThing_87 F rec40 x0 x2 T = some (yz, Tz)) : m_Rb l M_230 (87, [(0, .ref x0), (2, .int x2)], [], w) (fun v w' => v = some (rv yz) ∧ okr Tz.2.1 yz ∧ RT Tz w' ∧ m_Fm w0 w') T Tz 8 800 := by
  rw [D_c_Reader_readThing_87] at h0
  refine m_Rb.n0 b_230 (x_iconst (z := 0) d_230_87 (by decide)) ?_
  exact m_Rb.pick [0, 1] rfl (T_c_Reader_readThing_88 hr40 hx0 h hF h0)
def D_c_Reader_readThing_106 (F : Nat) (x0 : Nat) (T : tT) : Option (Option Nat × tT) := some (none, T)
theorem T_c_Reader_readThing_106 {l : Launch} {w0 : List mM} {F : Nat} {x0 : Nat} {T : tT} {w : List mM} {yz : Option Nat} {Tz : tT} (hx0 : okr T.2.1 (some x0)) (h : RT T w) (hF : m_Fm w0 w) (h0 : D_c_Reader_readThing_106 F x0 T = some (yz, Tz)) : m_Rb l M_230 (106, [(0, .ref x0)], [], w) (fun v w' => v = some (rv yz) ∧ okr Tz.2.1 yz ∧ RT Tz w' ∧ m_Fm w0 w') T Tz 8 800 := by
  rw [D_c_Reader_readThing_106] at h0
  refine m_Rb.n0 b_230 (x_null d_230_106) ?_
  have o9 : okr T.2.1 none := okr_none
  cases h0
  exact m_Rb.ret b_230 (m_rt_rr (x := none) d_230_107 rfl) ⟨rfl, o9, h, hF⟩
def D_c_Reader_readThing_95 (F : Nat) (x0 : Nat) (x1 : Int32) (T : tT) : Option (Option Nat × tT) := cond (m_c1 .eq x1) (D_c_Reader_readThing_106 F x0 T) ((tcl T x0 1).bind fun _ => bd2 (D_c_Reader_readEnd F x0 T) fun v141 T142 => cond (m_c1 .ne v141) ((tgr T142 x0 1 15).bind fun v148 => (tgi T142 x0 1 10).bind fun v152 => (v148).bind fun a155 => (tpi T142 a155 13 0 v152).bind fun T158 => (tgr T158 x0 1 15).bind fun v162 => some (v162, T158)) (D_c_Reader_readThing_106 F x0 T142))
theorem T_c_Reader_readThing_95 {l : Launch} {w0 : List mM} {F : Nat} {x0 : Nat} {x1 : Int32} {T : tT} {w : List mM} {yz : Option Nat} {Tz : tT} (hx0 : okr T.2.1 (some x0)) (h : RT T w) (hF : m_Fm w0 w) (h0 : D_c_Reader_readThing_95 F x0 x1 T = some (yz, Tz)) : m_Rb l M_230 (95, [(0, .ref x0), (1, .int x1)], [], w) (fun v w' => v = some (rv yz) ∧ okr Tz.2.1 yz ∧ RT Tz w' ∧ m_Fm w0 w') T Tz 8 800 := by
  rw [D_c_Reader_readThing_95] at h0
  refine m_Rb.n0 b_230 (x_iload_n d_230_95 rfl) ?_
  cases hc136 : m_c1 .eq x1 with
  | true =>
    have j137 := cT hc136 h0
    refine m_Rb.n0 b_230 (x_ift d_230_96 rfl hc136) ?_
    exact m_Rb.pick [0] rfl (T_c_Reader_readThing_106 hx0 h hF j137)
  | false =>
    have j137 := cF hc136 h0
    refine m_Rb.n0 b_230 (x_iff d_230_96 rfl hc136) ?_
    refine m_Rb.n0 b_230 (x_aload_n d_230_99 rfl) ?_
    obtain ⟨_, e138, j139⟩ := bS j137
    obtain ⟨_, g140⟩ := RT.cls h e138
    obtain ⟨v141, T142, e143, j144⟩ := bS2 j139
    refine m_Rb.callI b_230 (y_cv d_230_100 rfl q_57 (m_isRecv_of rfl g140) (show m_takeI _ _ = some (_, [_], []) from m_takeI_of rfl rfl rfl (Nat.le_of_ble_eq_true rfl)) (by simp only [m_okf, List.all_cons, List.all_nil, Bool.and_true, Bool.and_self, m_okv_i, m_okv_l, m_okv_0, m_okv_n0, m_okv_t, RT.okn h hx0, RT.okv h hx0]) rfl) (T_c_Reader_readEnd hx0 h e143) hF rfl (fun w145 h145 f145 k145 => ?_) (by decide) (by decide)
    cases hc146 : m_c1 .ne v141 with
    | true =>
      have j147 := cT hc146 j144
      refine m_Rb.n0 b_230 (x_ift d_230_103 rfl hc146) ?_
      refine m_Rb.n0 b_230 (x_aload_n d_230_108 rfl) ?_
      obtain ⟨v148, e149, j150⟩ := bS j147
      refine m_Rb.tgetR b_230 d_230_109 rfl h145 e149 (fun o151 => ?_)
      refine m_Rb.n0 b_230 (x_aload_n d_230_112 rfl) ?_
      obtain ⟨v152, e153, j154⟩ := bS j150
      refine m_Rb.tgetI b_230 d_230_113 rfl h145 e153 ?_
      obtain ⟨a155, e156, j157⟩ := bS j154
      subst e156
      obtain ⟨T158, e159, j160⟩ := bS j157
      refine m_Rb.tputI b_230 d_230_116 rfl rfl (by decide) h145 f145 e159 (fun w161 h161 f161 k161 => ?_)
      refine m_Rb.n0 b_230 (x_aload_n d_230_119 rfl) ?_
      obtain ⟨v162, e163, j164⟩ := bS j160
      refine m_Rb.tgetR b_230 d_230_120 rfl h161 e163 (fun o165 => ?_)
      have o9 : okr T158.2.1 v162 := o165
      cases j164
      exact m_Rb.ret b_230 (m_rt_rr d_230_123 rfl) ⟨rfl, o9, h161, f161⟩
    | false =>
      have j147 := cF hc146 j144
      refine m_Rb.n0 b_230 (x_iff d_230_103 rfl hc146) ?_
      exact m_Rb.pick [0] rfl (T_c_Reader_readThing_106 (okm hx0 k145) h145 f145 j147)
def D_c_Reader_readThing_40 (F : Nat) : Nat → Nat → Int32 → Int32 → tT → Option (Option Nat × tT)
  | 0, _, _, _, _ => none
  | n + 1, x0, x1, x2, T => cond (m_c2 .ge x2 (300 : Int32)) (D_c_Reader_readThing_95 F x0 x1 T) (cond (m_c1 .eq x1) (D_c_Reader_readThing_95 F x0 x1 T) ((tcl T x0 1).bind fun _ => (D_c_Reader_here F x0 T).bind fun v67 => cond (m_c2 .eq v67 (10 : Int32)) (D_c_Reader_readThing_95 F x0 x1 T) ((tcl T x0 1).bind fun _ => bd2 (D_c_Reader_readName F x0 T) fun v76 T77 => cond (m_c1 .eq v76) (D_c_Reader_readThing_87 F (D_c_Reader_readThing_40 F n) x0 x2 T77) ((tcl T77 x0 1).bind fun _ => bd2 (D_c_Reader_readToldValue F x0 T77) fun v100 T101 => cond (m_c1 .eq v100) (D_c_Reader_readThing_87 F (D_c_Reader_readThing_40 F n) x0 x2 T101) ((tcl T101 x0 1).bind fun _ => bd2 (D_c_Reader_expect F x0 (10 : Int32) T101) fun v124 T125 => (cond (m_c1 .eq v124) (some (0 : Int32)) (some (1 : Int32))).bind fun v133 => D_c_Reader_readThing_40 F n x0 v133 (x2 + Int32.ofInt 1) T125)))))
theorem T_c_Reader_readThing_40 {l : Launch} {w0 : List mM} {F : Nat} : ∀ (n : Nat) {x0 : Nat} {x1 : Int32} {x2 : Int32} {T : tT} {w : List mM} {yz : Option Nat} {Tz : tT}, okr T.2.1 (some x0) → RT T w → m_Fm w0 w → D_c_Reader_readThing_40 F n x0 x1 x2 T = some (yz, Tz) → m_Rb l M_230 (40, [(0, .ref x0), (1, .int x1), (2, .int x2)], [], w) (fun v w' => v = some (rv yz) ∧ okr Tz.2.1 yz ∧ RT Tz w' ∧ m_Fm w0 w') T Tz 8 800 := by
  intro n
  induction n with
  | zero => intro x0 x1 x2 T w yz Tz hx0 h hF h0; cases h0
  | succ n ih =>
    intro x0 x1 x2 T w yz Tz hx0 h hF h0
    rw [D_c_Reader_readThing_40] at h0
    refine m_Rb.n0 b_230 (x_iload_n d_230_40 rfl) ?_
    refine m_Rb.n0 b_230 (x_sipush (z := 300) d_230_41 (by decide)) ?_
    cases hc60 : m_c2 .ge x2 (300 : Int32) with
    | true =>
      have j61 := cT hc60 h0
      refine m_Rb.n0 b_230 (x_ict d_230_44 rfl hc60) ?_
      exact m_Rb.pick [0, 1] rfl (T_c_Reader_readThing_95 hx0 h hF j61)
    | false =>
      have j61 := cF hc60 h0
      refine m_Rb.n0 b_230 (x_icf d_230_44 rfl hc60) ?_
      refine m_Rb.n0 b_230 (x_iload_n d_230_47 rfl) ?_
      cases hc62 : m_c1 .eq x1 with
      | true =>
        have j63 := cT hc62 j61
        refine m_Rb.n0 b_230 (x_ift d_230_48 rfl hc62) ?_
        exact m_Rb.pick [0, 1] rfl (T_c_Reader_readThing_95 hx0 h hF j63)
      | false =>
        have j63 := cF hc62 j61
        refine m_Rb.n0 b_230 (x_iff d_230_48 rfl hc62) ?_
        refine m_Rb.n0 b_230 (x_aload_n d_230_51 rfl) ?_
        obtain ⟨_, e64, j65⟩ := bS j63
        obtain ⟨_, g66⟩ := RT.cls h e64
        obtain ⟨v67, e68, j69⟩ := bS j65
        refine m_Rb.callI b_230 (y_cv d_230_52 rfl q_22 (m_isRecv_of rfl g66) (show m_takeI _ _ = some (_, [_], []) from m_takeI_of rfl rfl rfl (Nat.le_of_ble_eq_true rfl)) (by simp only [m_okf, List.all_cons, List.all_nil, Bool.and_true, Bool.and_self, m_okv_i, m_okv_l, m_okv_0, m_okv_n0, m_okv_t, RT.okn h hx0, RT.okv h hx0]) rfl) (T_c_Reader_here hx0 h e68) hF rfl (fun w70 h70 f70 k70 => ?_) (by decide) (by decide)
        refine m_Rb.n0 b_230 (x_bipush (z := 10) d_230_55 (by decide)) ?_
        cases hc71 : m_c2 .eq v67 (10 : Int32) with
        | true =>
          have j72 := cT hc71 j69
          refine m_Rb.n0 b_230 (x_ict d_230_57 rfl hc71) ?_
          exact m_Rb.pick [0, 1] rfl (T_c_Reader_readThing_95 hx0 h70 f70 j72)
        | false =>
          have j72 := cF hc71 j69
          refine m_Rb.n0 b_230 (x_icf d_230_57 rfl hc71) ?_
          refine m_Rb.n0 b_230 (x_aload_n d_230_60 rfl) ?_
          obtain ⟨_, e73, j74⟩ := bS j72
          obtain ⟨_, g75⟩ := RT.cls h70 e73
          obtain ⟨v76, T77, e78, j79⟩ := bS2 j74
          refine m_Rb.callI b_230 (y_cv d_230_61 rfl q_40 (m_isRecv_of rfl g75) (show m_takeI _ _ = some (_, [_], []) from m_takeI_of rfl rfl rfl (Nat.le_of_ble_eq_true rfl)) (by simp only [m_okf, List.all_cons, List.all_nil, Bool.and_true, Bool.and_self, m_okv_i, m_okv_l, m_okv_0, m_okv_n0, m_okv_t, RT.okn h70 hx0, RT.okv h70 hx0]) rfl) (T_c_Reader_readName hx0 h70 e78) f70 rfl (fun w80 h80 f80 k80 => ?_) (by decide) (by decide)
          cases hc95 : m_c1 .eq v76 with
          | true =>
            have j96 := cT hc95 j79
            refine m_Rb.n0 b_230 (x_ift d_230_64 rfl hc95) ?_
            exact m_Rb.pick [0, 2] rfl (T_c_Reader_readThing_87 ih (okm hx0 k80) h80 f80 j96)
          | false =>
            have j96 := cF hc95 j79
            refine m_Rb.n0 b_230 (x_iff d_230_64 rfl hc95) ?_
            refine m_Rb.n0 b_230 (x_aload_n d_230_67 rfl) ?_
            obtain ⟨_, e97, j98⟩ := bS j96
            obtain ⟨_, g99⟩ := RT.cls h80 e97
            obtain ⟨v100, T101, e102, j103⟩ := bS2 j98
            refine m_Rb.callI b_230 (y_cv d_230_68 rfl q_232 (m_isRecv_of rfl g99) (show m_takeI _ _ = some (_, [_], []) from m_takeI_of rfl rfl rfl (Nat.le_of_ble_eq_true rfl)) (by simp only [m_okf, List.all_cons, List.all_nil, Bool.and_true, Bool.and_self, m_okv_i, m_okv_l, m_okv_0, m_okv_n0, m_okv_t, RT.okn h80 (okm hx0 k80), RT.okv h80 (okm hx0 k80)]) rfl) (T_c_Reader_readToldValue (okm hx0 k80) h80 e102) f80 rfl (fun w104 h104 f104 k104 => ?_) (by decide) (by decide)
            cases hc119 : m_c1 .eq v100 with
            | true =>
              have j120 := cT hc119 j103
              refine m_Rb.n0 b_230 (x_ift d_230_71 rfl hc119) ?_
              exact m_Rb.pick [0, 2] rfl (T_c_Reader_readThing_87 ih (okm (okm hx0 k80) k104) h104 f104 j120)
            | false =>
              have j120 := cF hc119 j103
              refine m_Rb.n0 b_230 (x_iff d_230_71 rfl hc119) ?_
              refine m_Rb.n0 b_230 (x_aload_n d_230_74 rfl) ?_
              refine m_Rb.n0 b_230 (x_bipush (z := 10) d_230_75 (by decide)) ?_
              obtain ⟨_, e121, j122⟩ := bS j120
              obtain ⟨_, g123⟩ := RT.cls h104 e121
              obtain ⟨v124, T125, e126, j127⟩ := bS2 j122
              refine m_Rb.callI b_230 (y_cv d_230_77 rfl q_35 (m_isRecv_of rfl g123) (show m_takeI _ _ = some (_, [_, _], []) from m_takeI_of rfl rfl rfl (Nat.le_of_ble_eq_true rfl)) (by simp only [m_okf, List.all_cons, List.all_nil, Bool.and_true, Bool.and_self, m_okv_i, m_okv_l, m_okv_0, m_okv_n0, m_okv_t, RT.okn h104 (okm (okm hx0 k80) k104), RT.okv h104 (okm (okm hx0 k80) k104)]) rfl) (T_c_Reader_expect (okm (okm hx0 k80) k104) h104 e126) f104 rfl (fun w128 h128 f128 k128 => ?_) (by decide) (by decide)
              obtain ⟨v133, e130, j134⟩ := bS j127
              have kk129 : ∀ (xz : Int32) (w1 : List mM), xz = v133 → RT T125 w1 → m_Fm w0 w1 → m_Rb l M_230 (88, [(0, .ref x0), (1, .int x1), (2, .int x2)], [.int xz], w1) (fun v w' => v = some (rv yz) ∧ okr Tz.2.1 yz ∧ RT Tz w' ∧ m_Fm w0 w') T125 Tz 8 800 := by
                intro xz w135 ez h135 f135
                rw [ez]
                refine m_Rb.n0 b_230 (x_istore_n d_230_88 rfl (show m_put1 _ _ _ = [(1, _), (0, _), (2, _)] from rfl)) ?_
                refine m_Rb.n0 b_230 (x_iinc d_230_89 rfl rfl rfl (show m_put1 _ _ _ = [(2, _), (1, _), (0, _)] from rfl)) ?_
                refine m_Rb.n0 b_230 (x_goto d_230_92 rfl) ?_
                exact m_Rb.pick [2, 1, 0] rfl (ih (okm (okm (okm hx0 k80) k104) k128) h135 f135 j134)
              cases hc131 : m_c1 .eq v124 with
              | true =>
                have j132 := cT hc131 e130
                refine m_Rb.n0 b_230 (x_ift d_230_80 rfl hc131) ?_
                refine m_Rb.n0 b_230 (x_iconst (z := 0) d_230_87 (by decide)) ?_
                exact kk129 _ _ (Option.some.inj j132) h128 f128
              | false =>
                have j132 := cF hc131 e130
                refine m_Rb.n0 b_230 (x_iff d_230_80 rfl hc131) ?_
                refine m_Rb.n0 b_230 (x_iconst (z := 1) d_230_83 (by decide)) ?_
                refine m_Rb.n0 b_230 (x_goto d_230_84 rfl) ?_
                exact kk129 _ _ (Option.some.inj j132) h128 f128
def D_c_Reader_readThing_37 (F : Nat) (x0 : Nat) (y0 : Int32) (T : tT) : Option (Option Nat × tT) := D_c_Reader_readThing_40 F F x0 y0 (0 : Int32) T
theorem T_c_Reader_readThing_37 {l : Launch} {w0 : List mM} {F : Nat} {x0 : Nat} {y0 : Int32} {T : tT} {w : List mM} {yz : Option Nat} {Tz : tT} (hx0 : okr T.2.1 (some x0)) (h : RT T w) (hF : m_Fm w0 w) (h0 : D_c_Reader_readThing_37 F x0 y0 T = some (yz, Tz)) : m_Rb l M_230 (37, [(0, .ref x0)], [.int y0], w) (fun v w' => v = some (rv yz) ∧ okr Tz.2.1 yz ∧ RT Tz w' ∧ m_Fm w0 w') T Tz 8 800 := by
  rw [D_c_Reader_readThing_37] at h0
  refine m_Rb.n0 b_230 (x_istore_n d_230_37 rfl (show m_put1 _ _ _ = [(1, _), (0, _)] from rfl)) ?_
  refine m_Rb.n0 b_230 (x_iconst (z := 0) d_230_38 (by decide)) ?_
  refine m_Rb.n0 b_230 (x_istore_n d_230_39 rfl (show m_put1 _ _ _ = [(2, _), (1, _), (0, _)] from rfl)) ?_
  exact m_Rb.pick [2, 1, 0] rfl (T_c_Reader_readThing_40 F hx0 h hF h0)
def D_c_Reader_readThing_36 (F : Nat) (x0 : Nat) (T : tT) : Option (Option Nat × tT) := D_c_Reader_readThing_37 F x0 (0 : Int32) T
theorem T_c_Reader_readThing_36 {l : Launch} {w0 : List mM} {F : Nat} {x0 : Nat} {T : tT} {w : List mM} {yz : Option Nat} {Tz : tT} (hx0 : okr T.2.1 (some x0)) (h : RT T w) (hF : m_Fm w0 w) (h0 : D_c_Reader_readThing_36 F x0 T = some (yz, Tz)) : m_Rb l M_230 (36, [(0, .ref x0)], [], w) (fun v w' => v = some (rv yz) ∧ okr Tz.2.1 yz ∧ RT Tz w' ∧ m_Fm w0 w') T Tz 8 800 := by
  rw [D_c_Reader_readThing_36] at h0
  refine m_Rb.n0 b_230 (x_iconst (z := 0) d_230_36 (by decide)) ?_
  exact m_Rb.pick [0] rfl (T_c_Reader_readThing_37 hx0 h hF h0)
def D_c_Reader_readThing (F : Nat) (a0 : Nat) (T : tT) : Option (Option Nat × tT) := (tcl T a0 1).bind fun _ => (D_c_Reader_begin F a0 T).bind fun T4 => bd2 (tnw T4 13) fun a8 T9 => (D_c_Told_init F a8 T9).bind fun T13 => (tpr T13 a0 1 15 (some a8)).bind fun T17 => (tcl T17 a0 1).bind fun _ => bd2 (D_c_Reader_expectText F a0 5 T17) fun v24 T25 => cond (m_c1 .eq v24) (D_c_Reader_readThing_36 F a0 T25) ((tcl T25 a0 1).bind fun _ => bd2 (D_c_Reader_readTarget F a0 (0 : Int32) T25) fun v48 T49 => (cond (m_c1 .eq v48) (some (0 : Int32)) (some (1 : Int32))).bind fun v57 => D_c_Reader_readThing_40 F F a0 v57 (0 : Int32) T49)
theorem T_c_Reader_readThing {l : Launch} {w : List mM} {F : Nat} {a0 : Nat} {T : tT} {yz : Option Nat} {Tz : tT} (ha0 : okr T.2.1 (some a0)) (h : RT T w) (h0 : D_c_Reader_readThing F a0 T = some (yz, Tz)) : m_Rb l M_230 (m_ent M_230 [.ref a0] w) (fun v w' => v = some (rv yz) ∧ okr Tz.2.1 yz ∧ RT Tz w' ∧ m_Fm w w') T Tz 8 800 := by
  rw [show m_ent M_230 [.ref a0] w = (0, [(0, .ref a0)], [], w) from by first | rfl | (simp only [m_ent, lv_args_r, lv_args_a, lv_args_i, lv_args_l, lv_args_0]; done) | (simp only [m_ent, lv_args_r, lv_args_a, lv_args_i, lv_args_l, lv_args_0]; rfl)]
  generalize hw0 : w = w0 at h ⊢
  have hF : m_Fm w0 w0 := m_Fm.refl
  rw [D_c_Reader_readThing] at h0
  refine m_Rb.n0 b_230 (x_aload_n d_230_0 rfl) ?_
  obtain ⟨_, e1, j2⟩ := bS h0
  obtain ⟨_, g3⟩ := RT.cls h e1
  obtain ⟨T4, e5, j6⟩ := bS j2
  refine m_Rb.callV b_230 (y_cv d_230_1 rfl q_19 (m_isRecv_of rfl g3) (show m_takeI _ _ = some (_, [_], []) from m_takeI_of rfl rfl rfl (Nat.le_of_ble_eq_true rfl)) (by simp only [m_okf, List.all_cons, List.all_nil, Bool.and_true, Bool.and_self, m_okv_i, m_okv_l, m_okv_0, m_okv_n0, m_okv_t, RT.okn h ha0, RT.okv h ha0]) rfl) (T_c_Reader_begin ha0 h e5) hF rfl (fun w7 h7 f7 k7 => ?_) (by decide) (by decide)
  refine m_Rb.n0 b_230 (x_aload_n d_230_4 rfl) ?_
  obtain ⟨a8, T9, e10, j11⟩ := bS2 j6
  refine m_Rb.tnew b_230 d_230_5 rfl (by simp only [m_okf, List.all_cons, List.all_nil, Bool.and_true, Bool.and_self, m_okv_i, m_okv_l, m_okv_0, m_okv_n0, m_okv_t, RT.okn h7 (okm ha0 k7), RT.okv h7 (okm ha0 k7)]) h7 f7 e10 (fun w12 o12 h12 f12 k12 => ?_)
  refine m_Rb.n0 b_230 (x_dup d_230_8 rfl) ?_
  obtain ⟨T13, e14, j15⟩ := bS j11
  refine m_Rb.callV b_230 (x_ci d_230_9 rfl (by decide) q_231 (show m_takeI _ _ = some (_, [_], [_, _]) from m_takeI_of rfl rfl rfl (Nat.le_of_ble_eq_true rfl)) (by simp only [m_okf, List.all_cons, List.all_nil, Bool.and_true, Bool.and_self, m_okv_i, m_okv_l, m_okv_0, m_okv_n0, m_okv_t, RT.okn h12 (okm (okm ha0 k7) k12), RT.okv h12 (okm (okm ha0 k7) k12), RT.okn h12 o12, RT.okv h12 o12]) rfl) (T_c_Told_init o12 h12 e14) f12 rfl (fun w16 h16 f16 k16 => ?_) (by decide) (by decide)
  obtain ⟨T17, e18, j19⟩ := bS j15
  refine m_Rb.tputR (z := (some a8)) b_230 d_230_12 rfl rfl (by decide) h16 f16 e18 (okm o12 k16) (fun w20 h20 f20 k20 => ?_)
  refine m_Rb.n0 b_230 (x_aload_n d_230_15 rfl) ?_
  refine m_Rb.n0 b_230 (x_text d_230_16 rfl rfl) ?_
  obtain ⟨_, e21, j22⟩ := bS j19
  obtain ⟨_, g23⟩ := RT.cls h20 e21
  obtain ⟨v24, T25, e26, j27⟩ := bS2 j22
  refine m_Rb.callI b_230 (y_cv d_230_18 rfl q_23 (m_isRecv_of rfl g23) (show m_takeI _ _ = some (_, [_, _], []) from m_takeI_of rfl rfl rfl (Nat.le_of_ble_eq_true rfl)) (by simp only [m_okf, List.all_cons, List.all_nil, Bool.and_true, Bool.and_self, m_okv_i, m_okv_l, m_okv_0, m_okv_n0, m_okv_t, RT.okn h20 (okm (okm (okm (okm ha0 k7) k12) k16) k20), RT.okv h20 (okm (okm (okm (okm ha0 k7) k12) k16) k20), m_okv_out (a := 5) (by decide)]) rfl) (T_c_Reader_expectText (okm (okm (okm (okm ha0 k7) k12) k16) k20) (by decide) h20 e26) f20 rfl (fun w28 h28 f28 k28 => ?_) (by decide) (by decide)
  cases hc43 : m_c1 .eq v24 with
  | true =>
    have j44 := cT hc43 j27
    refine m_Rb.n0 b_230 (x_ift d_230_21 rfl hc43) ?_
    exact m_Rb.pick [0] rfl (T_c_Reader_readThing_36 (okm (okm (okm (okm (okm ha0 k7) k12) k16) k20) k28) h28 f28 j44)
  | false =>
    have j44 := cF hc43 j27
    refine m_Rb.n0 b_230 (x_iff d_230_21 rfl hc43) ?_
    refine m_Rb.n0 b_230 (x_aload_n d_230_24 rfl) ?_
    refine m_Rb.n0 b_230 (x_iconst (z := 0) d_230_25 (by decide)) ?_
    obtain ⟨_, e45, j46⟩ := bS j44
    obtain ⟨_, g47⟩ := RT.cls h28 e45
    obtain ⟨v48, T49, e50, j51⟩ := bS2 j46
    refine m_Rb.callI b_230 (y_cv d_230_26 rfl q_37 (m_isRecv_of rfl g47) (show m_takeI _ _ = some (_, [_, _], []) from m_takeI_of rfl rfl rfl (Nat.le_of_ble_eq_true rfl)) (by simp only [m_okf, List.all_cons, List.all_nil, Bool.and_true, Bool.and_self, m_okv_i, m_okv_l, m_okv_0, m_okv_n0, m_okv_t, RT.okn h28 (okm (okm (okm (okm (okm ha0 k7) k12) k16) k20) k28), RT.okv h28 (okm (okm (okm (okm (okm ha0 k7) k12) k16) k20) k28)]) rfl) (T_c_Reader_readTarget (okm (okm (okm (okm (okm ha0 k7) k12) k16) k20) k28) h28 e50) f28 rfl (fun w52 h52 f52 k52 => ?_) (by decide) (by decide)
    obtain ⟨v57, e54, j58⟩ := bS j51
    have kk53 : ∀ (xz : Int32) (w1 : List mM), xz = v57 → RT T49 w1 → m_Fm w0 w1 → m_Rb l M_230 (37, [(0, .ref a0)], [.int xz], w1) (fun v w' => v = some (rv yz) ∧ okr Tz.2.1 yz ∧ RT Tz w' ∧ m_Fm w0 w') T49 Tz 8 800 := by
      intro xz w59 ez h59 f59
      rw [ez]
      refine m_Rb.n0 b_230 (x_istore_n d_230_37 rfl (show m_put1 _ _ _ = [(1, _), (0, _)] from rfl)) ?_
      refine m_Rb.n0 b_230 (x_iconst (z := 0) d_230_38 (by decide)) ?_
      refine m_Rb.n0 b_230 (x_istore_n d_230_39 rfl (show m_put1 _ _ _ = [(2, _), (1, _), (0, _)] from rfl)) ?_
      exact m_Rb.pick [2, 1, 0] rfl (T_c_Reader_readThing_40 F (okm (okm (okm (okm (okm (okm ha0 k7) k12) k16) k20) k28) k52) h59 f59 j58)
    cases hc55 : m_c1 .eq v48 with
    | true =>
      have j56 := cT hc55 e54
      refine m_Rb.n0 b_230 (x_ift d_230_29 rfl hc55) ?_
      refine m_Rb.n0 b_230 (x_iconst (z := 0) d_230_36 (by decide)) ?_
      exact kk53 _ _ (Option.some.inj j56) h52 f52
    | false =>
      have j56 := cF hc55 e54
      refine m_Rb.n0 b_230 (x_iff d_230_29 rfl hc55) ?_
      refine m_Rb.n0 b_230 (x_iconst (z := 1) d_230_32 (by decide)) ?_
      refine m_Rb.n0 b_230 (x_goto d_230_33 rfl) ?_
      exact kk53 _ _ (Option.some.inj j56) h52 f52
def D_c_EdgeHouse_update_29 (F : Nat) (x0 : Nat) (T : tT) : Option (Int32 × tT) := none
theorem T_c_EdgeHouse_update_29 {l : Launch} {w0 : List mM} {F : Nat} {x0 : Nat} {T : tT} {w : List mM} {yz : Int32} {Tz : tT} (hx0 : okr T.2.1 (some x0)) (h : RT T w) (hF : m_Fm w0 w) (h0 : D_c_EdgeHouse_update_29 F x0 T = some (yz, Tz)) : m_Rb l M_229 (29, [(0, .ref x0)], [], w) (fun v w' => v = some (.int yz) ∧ RT Tz w' ∧ m_Fm w0 w') T Tz 9 900 := by
  rw [D_c_EdgeHouse_update_29] at h0
  cases h0
def D_c_EdgeHouse_update (F : Nat) (a0 : Nat) (T : tT) : Option (Int32 × tT) := (tgr T a0 0 0).bind fun v1 => (v1).bind fun a5 => (tcl T a5 1).bind fun _ => bd2 (D_c_Reader_readThing F a5 T) fun v11 T12 => (tgr T12 a0 0 0).bind fun v16 => (v16).bind fun a20 => (tcl T12 a20 1).bind fun _ => (D_c_Reader_empty F a20 T12).bind fun T26 => nc v11 (D_c_EdgeHouse_update_29 F a0 T26) fun a30 => ((tgi T26 a30 13 0).bind fun v32 => (D_c_EdgeHouse_isPath F v32 T26).bind fun v35 => cond (m_c1 .ne v35) ((tgr T26 a0 0 2).bind fun v41 => (tgi T26 a30 13 0).bind fun v45 => (v41).bind fun a48 => (tai T26 a48 0 v45).bind fun v51 => (tasi T26 a48 v45 (v51 + (1 : Int32))).bind fun T54 => (tgr T54 a0 0 2).bind fun v58 => (tgi T54 a30 13 0).bind fun v62 => (v58).bind fun a65 => (tai T54 a65 0 v62).bind fun v68 => (tpi T54 a30 13 1 v68).bind fun T71 => (tgr T71 a0 0 1).bind fun v75 => (tgi T71 a30 13 0).bind fun v79 => (v75).bind fun a82 => (tasr T71 a82 6 v79 (some a30)).bind fun T85 => (tgi T85 a30 13 1).bind fun v89 => some (v89, T85)) (D_c_EdgeHouse_update_29 F a0 T26))
theorem T_c_EdgeHouse_update {l : Launch} {w : List mM} {F : Nat} {a0 : Nat} {T : tT} {yz : Int32} {Tz : tT} (ha0 : okr T.2.1 (some a0)) (h : RT T w) (h0 : D_c_EdgeHouse_update F a0 T = some (yz, Tz)) : m_Rb l M_229 (m_ent M_229 [.ref a0] w) (fun v w' => v = some (.int yz) ∧ RT Tz w' ∧ m_Fm w w') T Tz 9 900 := by
  rw [show m_ent M_229 [.ref a0] w = (0, [(0, .ref a0)], [], w) from by first | rfl | (simp only [m_ent, lv_args_r, lv_args_a, lv_args_i, lv_args_l, lv_args_0]; done) | (simp only [m_ent, lv_args_r, lv_args_a, lv_args_i, lv_args_l, lv_args_0]; rfl)]
  generalize hw0 : w = w0 at h ⊢
  have hF : m_Fm w0 w0 := m_Fm.refl
  rw [D_c_EdgeHouse_update] at h0
  refine m_Rb.n0 b_229 (x_aload_n d_229_0 rfl) ?_
  obtain ⟨v1, e2, j3⟩ := bS h0
  refine m_Rb.tgetR b_229 d_229_1 rfl h e2 (fun o4 => ?_)
  obtain ⟨a5, e6, j7⟩ := bS j3
  subst e6
  obtain ⟨_, e8, j9⟩ := bS j7
  obtain ⟨_, g10⟩ := RT.cls h e8
  obtain ⟨v11, T12, e13, j14⟩ := bS2 j9
  refine m_Rb.callR b_229 (y_cv d_229_4 rfl q_230 (m_isRecv_of rfl g10) (show m_takeI _ _ = some (_, [_], []) from m_takeI_of rfl rfl rfl (Nat.le_of_ble_eq_true rfl)) (by simp only [m_okf, List.all_cons, List.all_nil, Bool.and_true, Bool.and_self, m_okv_i, m_okv_l, m_okv_0, m_okv_n0, m_okv_t, RT.okn h ha0, RT.okv h ha0, RT.okn h o4, RT.okv h o4]) rfl) (T_c_Reader_readThing o4 h e13) hF rfl (fun w15 o15 h15 f15 k15 => ?_) (by decide) (by decide)
  refine m_Rb.n0 b_229 (x_astorer_n (x := v11) d_229_7 rfl (show m_put1 _ _ _ = [(1, _), (0, _)] from rfl)) ?_
  refine m_Rb.n0 b_229 (x_aload_n d_229_8 rfl) ?_
  obtain ⟨v16, e17, j18⟩ := bS j14
  refine m_Rb.tgetR b_229 d_229_9 rfl h15 e17 (fun o19 => ?_)
  obtain ⟨a20, e21, j22⟩ := bS j18
  subst e21
  obtain ⟨_, e23, j24⟩ := bS j22
  obtain ⟨_, g25⟩ := RT.cls h15 e23
  obtain ⟨T26, e27, j28⟩ := bS j24
  refine m_Rb.callV b_229 (y_cv d_229_12 rfl q_60 (m_isRecv_of rfl g25) (show m_takeI _ _ = some (_, [_], []) from m_takeI_of rfl rfl rfl (Nat.le_of_ble_eq_true rfl)) (by simp only [m_okf, List.all_cons, List.all_nil, Bool.and_true, Bool.and_self, m_okv_i, m_okv_l, m_okv_0, m_okv_n0, m_okv_t, RT.okv h15 o15, RT.okn h15 (okm ha0 k15), RT.okv h15 (okm ha0 k15), RT.okn h15 o19, RT.okv h15 o19]) rfl) (T_c_Reader_empty o19 h15 e27) f15 rfl (fun w29 h29 f29 k29 => ?_) (by decide) (by decide)
  refine m_Rb.n0 b_229 (x_aloadr_n (x := v11) d_229_15 rfl) ?_
  cases v11 with
  | none =>
    have j31 := nN j28
    refine m_Rb.n0 b_229 (x_ifnull0 d_229_16 rfl) ?_
    exact m_Rb.pick [1] rfl (T_c_EdgeHouse_update_29 (okm (okm ha0 k15) k29) h29 f29 j31)
  | some a30 =>
    have j31 := nS j28
    refine m_Rb.n0 b_229 (x_ifnull1 d_229_16 rfl) ?_
    refine m_Rb.n0 b_229 (x_aload_n d_229_19 rfl) ?_
    obtain ⟨v32, e33, j34⟩ := bS j31
    refine m_Rb.tgetI b_229 d_229_20 rfl h29 e33 ?_
    obtain ⟨v35, e36, j37⟩ := bS j34
    refine m_Rb.callI b_229 (y_cs d_229_23 rfl q_15 (show m_takeS _ _ = some (_, [_], []) from m_takeS_of (Nat.le_of_ble_eq_true rfl) rfl rfl (Nat.le_of_ble_eq_true rfl)) (by simp only [m_okf, List.all_cons, List.all_nil, Bool.and_true, Bool.and_self, m_okv_i, m_okv_l, m_okv_0, m_okv_n0, m_okv_t, RT.okn h29 (okm o15 k29), RT.okv h29 (okm o15 k29), RT.okn h29 (okm (okm ha0 k15) k29), RT.okv h29 (okm (okm ha0 k15) k29)]) rfl) (T_c_EdgeHouse_isPath h29 e36) f29 rfl (fun w38 h38 f38 k38 => ?_) (by decide) (by decide)
    cases hc39 : m_c1 .ne v35 with
    | true =>
      have j40 := cT hc39 j37
      refine m_Rb.n0 b_229 (x_ift d_229_26 rfl hc39) ?_
      refine m_Rb.n0 b_229 (x_aload_n d_229_39 rfl) ?_
      obtain ⟨v41, e42, j43⟩ := bS j40
      refine m_Rb.tgetR b_229 d_229_40 rfl h38 e42 (fun o44 => ?_)
      refine m_Rb.n0 b_229 (x_aload_n d_229_43 rfl) ?_
      obtain ⟨v45, e46, j47⟩ := bS j43
      refine m_Rb.tgetI b_229 d_229_44 rfl h38 e46 ?_
      refine m_Rb.n0 b_229 (x_dup2 d_229_47 rfl (cat_rv v41)) ?_
      obtain ⟨a48, e49, j50⟩ := bS j47
      subst e49
      obtain ⟨v51, e52, j53⟩ := bS j50
      refine m_Rb.tgetA b_229 d_229_48 h38 e52 ?_
      refine m_Rb.n0 b_229 (x_iconst (z := 1) d_229_49 (by decide)) ?_
      refine m_Rb.n0 b_229 (x_iadd d_229_50 rfl) ?_
      obtain ⟨T54, e55, j56⟩ := bS j53
      refine m_Rb.tputAI b_229 d_229_51 h38 f38 e55 (fun w57 h57 f57 k57 => ?_)
      refine m_Rb.n0 b_229 (x_aload_n d_229_52 rfl) ?_
      refine m_Rb.n0 b_229 (x_aload_n d_229_53 rfl) ?_
      obtain ⟨v58, e59, j60⟩ := bS j56
      refine m_Rb.tgetR b_229 d_229_54 rfl h57 e59 (fun o61 => ?_)
      refine m_Rb.n0 b_229 (x_aload_n d_229_57 rfl) ?_
      obtain ⟨v62, e63, j64⟩ := bS j60
      refine m_Rb.tgetI b_229 d_229_58 rfl h57 e63 ?_
      obtain ⟨a65, e66, j67⟩ := bS j64
      subst e66
      obtain ⟨v68, e69, j70⟩ := bS j67
      refine m_Rb.tgetA b_229 d_229_61 h57 e69 ?_
      obtain ⟨T71, e72, j73⟩ := bS j70
      refine m_Rb.tputI b_229 d_229_62 rfl rfl (by decide) h57 f57 e72 (fun w74 h74 f74 k74 => ?_)
      refine m_Rb.n0 b_229 (x_aload_n d_229_65 rfl) ?_
      obtain ⟨v75, e76, j77⟩ := bS j73
      refine m_Rb.tgetR b_229 d_229_66 rfl h74 e76 (fun o78 => ?_)
      refine m_Rb.n0 b_229 (x_aload_n d_229_69 rfl) ?_
      obtain ⟨v79, e80, j81⟩ := bS j77
      refine m_Rb.tgetI b_229 d_229_70 rfl h74 e80 ?_
      refine m_Rb.n0 b_229 (x_aload_n d_229_73 rfl) ?_
      obtain ⟨a82, e83, j84⟩ := bS j81
      subst e83
      obtain ⟨T85, e86, j87⟩ := bS j84
      refine m_Rb.tputO (z := (some a30)) (t := 6) b_229 d_229_74 rfl rfl h74 f74 e86 (okm (okm (okm o15 k29) k57) k74) (fun w88 h88 f88 k88 => ?_)
      refine m_Rb.n0 b_229 (x_aload_n d_229_75 rfl) ?_
      obtain ⟨v89, e90, j91⟩ := bS j87
      refine m_Rb.tgetI b_229 d_229_76 rfl h88 e90 ?_
      cases j91
      exact m_Rb.ret b_229 (m_rt_ir d_229_79 rfl rfl) ⟨rfl, h88, f88⟩
    | false =>
      have j40 := cF hc39 j37
      refine m_Rb.n0 b_229 (x_iff d_229_26 rfl hc39) ?_
      exact m_Rb.pick [1] rfl (T_c_EdgeHouse_update_29 (okm (okm ha0 k15) k29) h38 f38 j40)
def D_c_Node_strike (F : Nat) (a0 : Nat) (p0 : Int32) (p1 : Int32) (T : tT) : Option (tT) := cond (m_c2 .lt p0 (1 : Int32)) (some T) (cond (m_c2 .le p0 (2 : Int32)) ((tgr T a0 4 4).bind fun v5 => (v5).bind fun a9 => (tai T a9 0 p0).bind fun v12 => (tasi T a9 p0 (v12 + (1 : Int32))).bind fun T15 => (tgr T15 a0 4 4).bind fun v19 => (v19).bind fun a23 => (tai T15 a23 0 p0).bind fun v26 => cond (m_c2 .ne v26 (2 : Int32)) (some T15) ((tgr T15 a0 4 4).bind fun v35 => (v35).bind fun a39 => (tasi T15 a39 p0 (0 : Int32)).bind fun T42 => (tgr T42 a0 4 5).bind fun v46 => (v46).bind fun a50 => (tasi T42 a50 p0 (p1 + (20 : Int32))).bind fun T53 => some T53)) (some T))
theorem T_c_Node_strike {l : Launch} {w : List mM} {F : Nat} {a0 : Nat} {p0 : Int32} {p1 : Int32} {T : tT} {Tz : tT} (ha0 : okr T.2.1 (some a0)) (h : RT T w) (h0 : D_c_Node_strike F a0 p0 p1 T = some Tz) : m_Rb l M_236 (m_ent M_236 [.ref a0, .int p0, .int p1] w) (fun v w' => v = none ∧ RT Tz w' ∧ m_Fm w w') T Tz 0 0 := by
  rw [show m_ent M_236 [.ref a0, .int p0, .int p1] w = (0, [(0, .ref a0), (1, .int p0), (2, .int p1)], [], w) from by first | rfl | (simp only [m_ent, lv_args_r, lv_args_a, lv_args_i, lv_args_l, lv_args_0]; done) | (simp only [m_ent, lv_args_r, lv_args_a, lv_args_i, lv_args_l, lv_args_0]; rfl)]
  generalize hw0 : w = w0 at h ⊢
  have hF : m_Fm w0 w0 := m_Fm.refl
  rw [D_c_Node_strike] at h0
  refine m_Rb.n0 b_236 (x_iload_n d_236_0 rfl) ?_
  refine m_Rb.n0 b_236 (x_iconst (z := 1) d_236_1 (by decide)) ?_
  cases hc1 : m_c2 .lt p0 (1 : Int32) with
  | true =>
    have j2 := cT hc1 h0
    refine m_Rb.n0 b_236 (x_ict d_236_2 rfl hc1) ?_
    cases j2
    exact m_Rb.ret b_236 (m_rt_vr d_236_10 rfl) ⟨rfl, h, hF⟩
  | false =>
    have j2 := cF hc1 h0
    refine m_Rb.n0 b_236 (x_icf d_236_2 rfl hc1) ?_
    refine m_Rb.n0 b_236 (x_iload_n d_236_5 rfl) ?_
    refine m_Rb.n0 b_236 (x_iconst (z := 2) d_236_6 (by decide)) ?_
    cases hc3 : m_c2 .le p0 (2 : Int32) with
    | true =>
      have j4 := cT hc3 j2
      refine m_Rb.n0 b_236 (x_ict d_236_7 rfl hc3) ?_
      refine m_Rb.n0 b_236 (x_aload_n d_236_11 rfl) ?_
      obtain ⟨v5, e6, j7⟩ := bS j4
      refine m_Rb.tgetR b_236 d_236_12 rfl h e6 (fun o8 => ?_)
      refine m_Rb.n0 b_236 (x_iload_n d_236_15 rfl) ?_
      refine m_Rb.n0 b_236 (x_dup2 d_236_16 rfl (cat_rv v5)) ?_
      obtain ⟨a9, e10, j11⟩ := bS j7
      subst e10
      obtain ⟨v12, e13, j14⟩ := bS j11
      refine m_Rb.tgetA b_236 d_236_17 h e13 ?_
      refine m_Rb.n0 b_236 (x_iconst (z := 1) d_236_18 (by decide)) ?_
      refine m_Rb.n0 b_236 (x_iadd d_236_19 rfl) ?_
      obtain ⟨T15, e16, j17⟩ := bS j14
      refine m_Rb.tputAI b_236 d_236_20 h hF e16 (fun w18 h18 f18 k18 => ?_)
      refine m_Rb.n0 b_236 (x_aload_n d_236_21 rfl) ?_
      obtain ⟨v19, e20, j21⟩ := bS j17
      refine m_Rb.tgetR b_236 d_236_22 rfl h18 e20 (fun o22 => ?_)
      refine m_Rb.n0 b_236 (x_iload_n d_236_25 rfl) ?_
      obtain ⟨a23, e24, j25⟩ := bS j21
      subst e24
      obtain ⟨v26, e27, j28⟩ := bS j25
      refine m_Rb.tgetA b_236 d_236_26 h18 e27 ?_
      refine m_Rb.n0 b_236 (x_iconst (z := 2) d_236_27 (by decide)) ?_
      cases hc33 : m_c2 .ne v26 (2 : Int32) with
      | true =>
        have j34 := cT hc33 j28
        refine m_Rb.n0 b_236 (x_ict d_236_28 rfl hc33) ?_
        cases j34
        exact m_Rb.ret b_236 (m_rt_vr d_236_48 rfl) ⟨rfl, h18, f18⟩
      | false =>
        have j34 := cF hc33 j28
        refine m_Rb.n0 b_236 (x_icf d_236_28 rfl hc33) ?_
        refine m_Rb.n0 b_236 (x_aload_n d_236_31 rfl) ?_
        obtain ⟨v35, e36, j37⟩ := bS j34
        refine m_Rb.tgetR b_236 d_236_32 rfl h18 e36 (fun o38 => ?_)
        refine m_Rb.n0 b_236 (x_iload_n d_236_35 rfl) ?_
        refine m_Rb.n0 b_236 (x_iconst (z := 0) d_236_36 (by decide)) ?_
        obtain ⟨a39, e40, j41⟩ := bS j37
        subst e40
        obtain ⟨T42, e43, j44⟩ := bS j41
        refine m_Rb.tputAI b_236 d_236_37 h18 f18 e43 (fun w45 h45 f45 k45 => ?_)
        refine m_Rb.n0 b_236 (x_aload_n d_236_38 rfl) ?_
        obtain ⟨v46, e47, j48⟩ := bS j44
        refine m_Rb.tgetR b_236 d_236_39 rfl h45 e47 (fun o49 => ?_)
        refine m_Rb.n0 b_236 (x_iload_n d_236_42 rfl) ?_
        refine m_Rb.n0 b_236 (x_iload_n d_236_43 rfl) ?_
        refine m_Rb.n0 b_236 (x_bipush (z := 20) d_236_44 (by decide)) ?_
        refine m_Rb.n0 b_236 (x_iadd d_236_46 rfl) ?_
        obtain ⟨a50, e51, j52⟩ := bS j48
        subst e51
        obtain ⟨T53, e54, j55⟩ := bS j52
        refine m_Rb.tputAI b_236 d_236_47 h45 f45 e54 (fun w56 h56 f56 k56 => ?_)
        cases j55
        exact m_Rb.ret b_236 (m_rt_vr d_236_48 rfl) ⟨rfl, h56, f56⟩
    | false =>
      have j4 := cF hc3 j2
      refine m_Rb.n0 b_236 (x_icf d_236_7 rfl hc3) ?_
      cases j4
      exact m_Rb.ret b_236 (m_rt_vr d_236_10 rfl) ⟨rfl, h, hF⟩
def D_c_EdgeHouse_endOverdue_68 (F : Nat) (rec0 : Nat → Option Nat → tT → Option (tT)) (x0 : Nat) (x1 : Option Nat) (x2 : Option Nat) (T : tT) : Option (tT) := (x2).bind fun a77 => (tgr T a77 10 12).bind fun v80 => (tcl T x0 0).bind fun _ => (D_c_EdgeHouse_failAll F x0 x1 v80 T).bind fun T87 => rec0 x0 x1 T87
theorem T_c_EdgeHouse_endOverdue_68 {l : Launch} {w0 : List mM} {F : Nat} {rec0 : Nat → Option Nat → tT → Option (tT)} (hr0 : ∀ {x0 : Nat} {x1 : Option Nat} {T : tT} {w : List mM} {Tz : tT}, okr T.2.1 (some x0) → okr T.2.1 x1 → RT T w → m_Fm w0 w → rec0 x0 x1 T = some Tz → m_Rb l M_235 (0, [(0, .ref x0), (1, rv x1)], [], w) (fun v w' => v = none ∧ RT Tz w' ∧ m_Fm w0 w') T Tz 17 1700) {x0 : Nat} {x1 : Option Nat} {x2 : Option Nat} {T : tT} {w : List mM} {Tz : tT} (hx0 : okr T.2.1 (some x0)) (hx1 : okr T.2.1 x1) (hx2 : okr T.2.1 x2) (h : RT T w) (hF : m_Fm w0 w) (h0 : D_c_EdgeHouse_endOverdue_68 F rec0 x0 x1 x2 T = some Tz) : m_Rb l M_235 (68, [(0, .ref x0), (1, rv x1), (2, rv x2)], [], w) (fun v w' => v = none ∧ RT Tz w' ∧ m_Fm w0 w') T Tz 17 1700 := by
  rw [D_c_EdgeHouse_endOverdue_68] at h0
  refine m_Rb.n0 b_235 (x_aload_n d_235_68 rfl) ?_
  refine m_Rb.n0 b_235 (x_aloadr_n (x := x1) d_235_69 rfl) ?_
  refine m_Rb.n0 b_235 (x_aloadr_n (x := x2) d_235_70 rfl) ?_
  obtain ⟨a77, e78, j79⟩ := bS h0
  subst e78
  obtain ⟨v80, e81, j82⟩ := bS j79
  refine m_Rb.tgetR b_235 d_235_71 rfl h e81 (fun o83 => ?_)
  obtain ⟨_, e84, j85⟩ := bS j82
  obtain ⟨_, g86⟩ := RT.cls h e84
  obtain ⟨T87, e88, j89⟩ := bS j85
  refine m_Rb.callV b_235 (y_cv d_235_74 rfl q_122 (m_isRecv_of rfl g86) (show m_takeI _ _ = some (_, [_, _, _], []) from m_takeI_of rfl rfl rfl (Nat.le_of_ble_eq_true rfl)) (by simp only [m_okf, List.all_cons, List.all_nil, Bool.and_true, Bool.and_self, m_okv_i, m_okv_l, m_okv_0, m_okv_n0, m_okv_t, RT.okn h hx0, RT.okv h hx0, RT.okv h hx1, RT.okn h hx2, RT.okv h hx2, RT.okv h o83]) (decide_eq_true (by simp only [lgs_r, lgs_a, lgs_i, lgs_l, lgs_0]; exact Nat.le_of_ble_eq_true rfl))) (T_c_EdgeHouse_failAll hx0 hx1 o83 h e88) hF rfl (fun w90 h90 f90 k90 => ?_) (by decide) (by decide)
  refine m_Rb.n0 b_235 (x_goto d_235_77 rfl) ?_
  exact m_Rb.pick [0, 1] rfl (hr0 (okm hx0 k90) (okm hx1 k90) h90 f90 j89)
def D_c_EdgeHouse_endOverdue_0 (F : Nat) : Nat → Nat → Option Nat → tT → Option (tT)
  | 0, _, _, _ => none
  | n + 1, x0, x1, T => (x1).bind fun a1 => (tgr T a1 4 2).bind fun v4 => (v4).bind fun a8 => (tle T a8).bind fun v11 => cond (m_c1 .ne v11) (some T) ((tgi T x0 0 14).bind fun v16 => (tgr T a1 4 2).bind fun v19 => (v19).bind fun a23 => (tlg T a23 (0 : Int32)).bind fun b26 => (tcc T (some b26) 10).bind fun _ => (tgi T b26 10 10).bind fun v32 => cond (m_c2 .lt (v16 - v32) (10 : Int32)) (some T) ((tgr T a1 4 2).bind fun v37 => (v37).bind fun a41 => bd2 (tlr T a41 (0 : Int32)) fun b44 T45 => (tcc T45 (some b44) 10).bind fun _ => (tgi T45 a1 4 0).bind fun v51 => (D_c_EdgeHouse_isEdge F v51 T45).bind fun v54 => cond (m_c1 .eq v54) (D_c_EdgeHouse_endOverdue_68 F (D_c_EdgeHouse_endOverdue_0 F n) x0 (some a1) (some b44) T45) ((tgi T45 b44 10 8).bind fun v64 => (tgi T45 x0 0 14).bind fun v67 => (tcl T45 a1 4).bind fun _ => (D_c_Node_strike F a1 v64 v67 T45).bind fun T73 => D_c_EdgeHouse_endOverdue_68 F (D_c_EdgeHouse_endOverdue_0 F n) x0 (some a1) (some b44) T73)))
theorem T_c_EdgeHouse_endOverdue_0 {l : Launch} {w0 : List mM} {F : Nat} : ∀ (n : Nat) {x0 : Nat} {x1 : Option Nat} {T : tT} {w : List mM} {Tz : tT}, okr T.2.1 (some x0) → okr T.2.1 x1 → RT T w → m_Fm w0 w → D_c_EdgeHouse_endOverdue_0 F n x0 x1 T = some Tz → m_Rb l M_235 (0, [(0, .ref x0), (1, rv x1)], [], w) (fun v w' => v = none ∧ RT Tz w' ∧ m_Fm w0 w') T Tz 17 1700 := by
  intro n
  induction n with
  | zero => intro x0 x1 T w Tz hx0 hx1 h hF h0; cases h0
  | succ n ih =>
    intro x0 x1 T w Tz hx0 hx1 h hF h0
    rw [D_c_EdgeHouse_endOverdue_0] at h0
    refine m_Rb.n0 b_235 (x_aloadr_n (x := x1) d_235_0 rfl) ?_
    obtain ⟨a1, e2, j3⟩ := bS h0
    subst e2
    obtain ⟨v4, e5, j6⟩ := bS j3
    refine m_Rb.tgetR b_235 d_235_1 rfl h e5 (fun o7 => ?_)
    obtain ⟨a8, e9, j10⟩ := bS j6
    subst e9
    obtain ⟨v11, e12, j13⟩ := bS j10
    refine m_Rb.tlempty b_235 d_235_4 rfl (by simp only [m_okf, List.all_cons, List.all_nil, Bool.and_true, Bool.and_self, m_okv_i, m_okv_l, m_okv_0, m_okv_n0, m_okv_t, RT.okn h hx0, RT.okv h hx0, RT.okn h hx1, RT.okv h hx1, RT.okn h o7, RT.okv h o7]) (Nat.le_of_ble_eq_true rfl) h e12 ?_ (by decide) (by decide)
    cases hc14 : m_c1 .ne v11 with
    | true =>
      have j15 := cT hc14 j13
      refine m_Rb.n0 b_235 (x_ift d_235_7 rfl hc14) ?_
      cases j15
      exact m_Rb.ret b_235 (m_rt_vr d_235_80 rfl) ⟨rfl, h, hF⟩
    | false =>
      have j15 := cF hc14 j13
      refine m_Rb.n0 b_235 (x_iff d_235_7 rfl hc14) ?_
      refine m_Rb.n0 b_235 (x_aload_n d_235_10 rfl) ?_
      obtain ⟨v16, e17, j18⟩ := bS j15
      refine m_Rb.tgetI b_235 d_235_11 rfl h e17 ?_
      refine m_Rb.n0 b_235 (x_aload_n d_235_14 rfl) ?_
      obtain ⟨v19, e20, j21⟩ := bS j18
      refine m_Rb.tgetR b_235 d_235_15 rfl h e20 (fun o22 => ?_)
      refine m_Rb.n0 b_235 (x_iconst (z := 0) d_235_18 (by decide)) ?_
      obtain ⟨a23, e24, j25⟩ := bS j21
      subst e24
      obtain ⟨b26, e27, j28⟩ := bS j25
      refine m_Rb.tlget b_235 d_235_19 rfl (by simp only [m_okf, List.all_cons, List.all_nil, Bool.and_true, Bool.and_self, m_okv_i, m_okv_l, m_okv_0, m_okv_n0, m_okv_t, RT.okn h hx0, RT.okv h hx0, RT.okn h hx1, RT.okv h hx1, RT.okn h o22, RT.okv h o22]) (Nat.le_of_ble_eq_true rfl) h e27 (fun o29 => ?_) (by decide) (by decide)
      obtain ⟨_, e30, j31⟩ := bS j28
      refine m_Rb.tcast (z := (some b26)) b_235 d_235_22 rfl h e30 ?_
      obtain ⟨v32, e33, j34⟩ := bS j31
      refine m_Rb.tgetI b_235 d_235_25 rfl h e33 ?_
      refine m_Rb.n0 b_235 (x_isub d_235_28 rfl) ?_
      refine m_Rb.n0 b_235 (x_bipush (z := 10) d_235_29 (by decide)) ?_
      cases hc35 : m_c2 .lt (v16 - v32) (10 : Int32) with
      | true =>
        have j36 := cT hc35 j34
        refine m_Rb.n0 b_235 (x_ict d_235_31 rfl hc35) ?_
        cases j36
        exact m_Rb.ret b_235 (m_rt_vr d_235_80 rfl) ⟨rfl, h, hF⟩
      | false =>
        have j36 := cF hc35 j34
        refine m_Rb.n0 b_235 (x_icf d_235_31 rfl hc35) ?_
        refine m_Rb.n0 b_235 (x_aload_n d_235_34 rfl) ?_
        obtain ⟨v37, e38, j39⟩ := bS j36
        refine m_Rb.tgetR b_235 d_235_35 rfl h e38 (fun o40 => ?_)
        refine m_Rb.n0 b_235 (x_iconst (z := 0) d_235_38 (by decide)) ?_
        obtain ⟨a41, e42, j43⟩ := bS j39
        subst e42
        obtain ⟨b44, T45, e46, j47⟩ := bS2 j43
        refine m_Rb.tlrem b_235 d_235_39 rfl (by simp only [m_okf, List.all_cons, List.all_nil, Bool.and_true, Bool.and_self, m_okv_i, m_okv_l, m_okv_0, m_okv_n0, m_okv_t, RT.okn h hx0, RT.okv h hx0, RT.okn h hx1, RT.okv h hx1, RT.okn h o40, RT.okv h o40]) (Nat.le_of_ble_eq_true rfl) h hF e46 (fun w48 o48 h48 f48 k48 => ?_) (by decide) (by decide)
        obtain ⟨_, e49, j50⟩ := bS j47
        refine m_Rb.tcast (z := (some b44)) b_235 d_235_42 rfl h48 e49 ?_
        refine m_Rb.n0 b_235 (x_astore_n d_235_45 rfl (show m_put1 _ _ _ = [(2, _), (0, _), (1, _)] from rfl)) ?_
        refine m_Rb.n0 b_235 (x_aload_n d_235_46 rfl) ?_
        obtain ⟨v51, e52, j53⟩ := bS j50
        refine m_Rb.tgetI b_235 d_235_47 rfl h48 e52 ?_
        obtain ⟨v54, e55, j56⟩ := bS j53
        refine m_Rb.callI b_235 (y_cs d_235_50 rfl q_112 (show m_takeS _ _ = some (_, [_], []) from m_takeS_of (Nat.le_of_ble_eq_true rfl) rfl rfl (Nat.le_of_ble_eq_true rfl)) (by simp only [m_okf, List.all_cons, List.all_nil, Bool.and_true, Bool.and_self, m_okv_i, m_okv_l, m_okv_0, m_okv_n0, m_okv_t, RT.okn h48 o48, RT.okv h48 o48, RT.okn h48 (okm hx0 k48), RT.okv h48 (okm hx0 k48), RT.okn h48 (okm hx1 k48), RT.okv h48 (okm hx1 k48)]) rfl) (T_c_EdgeHouse_isEdge h48 e55) f48 rfl (fun w57 h57 f57 k57 => ?_) (by decide) (by decide)
        cases hc62 : m_c1 .eq v54 with
        | true =>
          have j63 := cT hc62 j56
          refine m_Rb.n0 b_235 (x_ift d_235_53 rfl hc62) ?_
          exact m_Rb.pick [1, 2, 0] rfl (T_c_EdgeHouse_endOverdue_68 ih (okm hx0 k48) (okm hx1 k48) o48 h57 f57 j63)
        | false =>
          have j63 := cF hc62 j56
          refine m_Rb.n0 b_235 (x_iff d_235_53 rfl hc62) ?_
          refine m_Rb.n0 b_235 (x_aload_n d_235_56 rfl) ?_
          refine m_Rb.n0 b_235 (x_aload_n d_235_57 rfl) ?_
          obtain ⟨v64, e65, j66⟩ := bS j63
          refine m_Rb.tgetI b_235 d_235_58 rfl h57 e65 ?_
          refine m_Rb.n0 b_235 (x_aload_n d_235_61 rfl) ?_
          obtain ⟨v67, e68, j69⟩ := bS j66
          refine m_Rb.tgetI b_235 d_235_62 rfl h57 e68 ?_
          obtain ⟨_, e70, j71⟩ := bS j69
          obtain ⟨_, g72⟩ := RT.cls h57 e70
          obtain ⟨T73, e74, j75⟩ := bS j71
          refine m_Rb.callV b_235 (y_cv d_235_65 rfl q_236 (m_isRecv_of rfl g72) (show m_takeI _ _ = some (_, [_, _, _], []) from m_takeI_of rfl rfl rfl (Nat.le_of_ble_eq_true rfl)) (by simp only [m_okf, List.all_cons, List.all_nil, Bool.and_true, Bool.and_self, m_okv_i, m_okv_l, m_okv_0, m_okv_n0, m_okv_t, RT.okn h57 o48, RT.okv h57 o48, RT.okn h57 (okm hx0 k48), RT.okv h57 (okm hx0 k48), RT.okn h57 (okm hx1 k48), RT.okv h57 (okm hx1 k48)]) rfl) (T_c_Node_strike (okm hx1 k48) h57 e74) f57 rfl (fun w76 h76 f76 k76 => ?_) (by decide) (by decide)
          exact m_Rb.pick [1, 2, 0] rfl (T_c_EdgeHouse_endOverdue_68 ih (okm (okm hx0 k48) k76) (okm (okm hx1 k48) k76) (okm o48 k76) h76 f76 j75)
def D_c_EdgeHouse_endOverdue (F : Nat) (a0 : Nat) (p0 : Option Nat) (T : tT) : Option (tT) := D_c_EdgeHouse_endOverdue_0 F F a0 p0 T
theorem T_c_EdgeHouse_endOverdue {l : Launch} {w : List mM} {F : Nat} {a0 : Nat} {p0 : Option Nat} {T : tT} {Tz : tT} (ha0 : okr T.2.1 (some a0)) (hp0 : okr T.2.1 p0) (h : RT T w) (h0 : D_c_EdgeHouse_endOverdue F a0 p0 T = some Tz) : m_Rb l M_235 (m_ent M_235 [.ref a0, rv p0] w) (fun v w' => v = none ∧ RT Tz w' ∧ m_Fm w w') T Tz 17 1700 := by
  rw [show m_ent M_235 [.ref a0, rv p0] w = (0, [(0, .ref a0), (1, rv p0)], [], w) from by first | rfl | (simp only [m_ent, lv_args_r, lv_args_a, lv_args_i, lv_args_l, lv_args_0]; done) | (simp only [m_ent, lv_args_r, lv_args_a, lv_args_i, lv_args_l, lv_args_0]; rfl)]
  generalize hw0 : w = w0 at h ⊢
  have hF : m_Fm w0 w0 := m_Fm.refl
  rw [D_c_EdgeHouse_endOverdue] at h0
  exact m_Rb.pick [0, 1] rfl (T_c_EdgeHouse_endOverdue_0 F ha0 hp0 h hF h0)
def D_c_EdgeHouse_tick_11 (F : Nat) (x0 : Nat) (T : tT) : Option (Int32 × tT) := none
theorem T_c_EdgeHouse_tick_11 {l : Launch} {w0 : List mM} {F : Nat} {x0 : Nat} {T : tT} {w : List mM} {yz : Int32} {Tz : tT} (hx0 : okr T.2.1 (some x0)) (h : RT T w) (hF : m_Fm w0 w) (h0 : D_c_EdgeHouse_tick_11 F x0 T = some (yz, Tz)) : m_Rb l M_234 (11, [(0, .ref x0)], [], w) (fun v w' => v = some (.int yz) ∧ RT Tz w' ∧ m_Fm w0 w') T Tz 18 1800 := by
  rw [D_c_EdgeHouse_tick_11] at h0
  cases h0
def D_c_EdgeHouse_tick_40 (F : Nat) (rec23 : Nat → Int32 → Int32 → tT → Option (Int32 × tT)) : Nat → Nat → Int32 → Int32 → Int32 → tT → Option (Int32 × tT)
  | 0, _, _, _, _, _ => none
  | n + 1, x0, x1, x2, x3, T => cond (m_c2 .gt x3 (6 : Int32)) (rec23 x0 x1 (x2 + Int32.ofInt 1) T) ((tgr T x0 0 3).bind fun v19 => (v19).bind fun a23 => (tar T a23 7 x3).bind fun v26 => (tcl T x0 0).bind fun _ => (D_c_EdgeHouse_endOverdue F x0 v26 T).bind fun T33 => D_c_EdgeHouse_tick_40 F rec23 n x0 x1 x2 (x3 + Int32.ofInt 1) T33)
theorem T_c_EdgeHouse_tick_40 {l : Launch} {w0 : List mM} {F : Nat} {rec23 : Nat → Int32 → Int32 → tT → Option (Int32 × tT)} (hr23 : ∀ {x0 : Nat} {x1 : Int32} {x2 : Int32} {T : tT} {w : List mM} {yz : Int32} {Tz : tT}, okr T.2.1 (some x0) → RT T w → m_Fm w0 w → rec23 x0 x1 x2 T = some (yz, Tz) → m_Rb l M_234 (23, [(0, .ref x0), (1, .int x1), (2, .int x2)], [], w) (fun v w' => v = some (.int yz) ∧ RT Tz w' ∧ m_Fm w0 w') T Tz 18 1800) : ∀ (n : Nat) {x0 : Nat} {x1 : Int32} {x2 : Int32} {x3 : Int32} {T : tT} {w : List mM} {yz : Int32} {Tz : tT}, okr T.2.1 (some x0) → RT T w → m_Fm w0 w → D_c_EdgeHouse_tick_40 F rec23 n x0 x1 x2 x3 T = some (yz, Tz) → m_Rb l M_234 (40, [(0, .ref x0), (1, .int x1), (2, .int x2), (3, .int x3)], [], w) (fun v w' => v = some (.int yz) ∧ RT Tz w' ∧ m_Fm w0 w') T Tz 18 1800 := by
  intro n
  induction n with
  | zero => intro x0 x1 x2 x3 T w yz Tz hx0 h hF h0; cases h0
  | succ n ih =>
    intro x0 x1 x2 x3 T w yz Tz hx0 h hF h0
    rw [D_c_EdgeHouse_tick_40] at h0
    refine m_Rb.n0 b_234 (x_iload_n d_234_40 rfl) ?_
    refine m_Rb.n0 b_234 (x_bipush (z := 6) d_234_41 (by decide)) ?_
    cases hc17 : m_c2 .gt x3 (6 : Int32) with
    | true =>
      have j18 := cT hc17 h0
      refine m_Rb.n0 b_234 (x_ict d_234_43 rfl hc17) ?_
      refine m_Rb.n0 b_234 (x_iinc d_234_62 rfl rfl rfl (show m_put1 _ _ _ = [(2, _), (0, _), (1, _), (3, _)] from rfl)) ?_
      refine m_Rb.n0 b_234 (x_goto d_234_65 rfl) ?_
      exact m_Rb.pick [1, 2, 0] rfl (hr23 hx0 h hF j18)
    | false =>
      have j18 := cF hc17 h0
      refine m_Rb.n0 b_234 (x_icf d_234_43 rfl hc17) ?_
      refine m_Rb.n0 b_234 (x_aload_n d_234_46 rfl) ?_
      refine m_Rb.n0 b_234 (x_aload_n d_234_47 rfl) ?_
      obtain ⟨v19, e20, j21⟩ := bS j18
      refine m_Rb.tgetR b_234 d_234_48 rfl h e20 (fun o22 => ?_)
      refine m_Rb.n0 b_234 (x_iload_n d_234_51 rfl) ?_
      obtain ⟨a23, e24, j25⟩ := bS j21
      subst e24
      obtain ⟨v26, e27, j28⟩ := bS j25
      refine m_Rb.tgetO (t := 7) b_234 d_234_52 rfl rfl h e27 (fun o29 => ?_)
      obtain ⟨_, e30, j31⟩ := bS j28
      obtain ⟨_, g32⟩ := RT.cls h e30
      obtain ⟨T33, e34, j35⟩ := bS j31
      refine m_Rb.callV b_234 (y_cv d_234_53 rfl q_235 (m_isRecv_of rfl g32) (show m_takeI _ _ = some (_, [_, _], []) from m_takeI_of rfl rfl rfl (Nat.le_of_ble_eq_true rfl)) (by simp only [m_okf, List.all_cons, List.all_nil, Bool.and_true, Bool.and_self, m_okv_i, m_okv_l, m_okv_0, m_okv_n0, m_okv_t, RT.okn h hx0, RT.okv h hx0, RT.okv h o29]) (decide_eq_true (by simp only [lgs_r, lgs_a, lgs_i, lgs_l, lgs_0]; exact Nat.le_of_ble_eq_true rfl))) (T_c_EdgeHouse_endOverdue hx0 o29 h e34) hF rfl (fun w36 h36 f36 k36 => ?_) (by decide) (by decide)
      refine m_Rb.n0 b_234 (x_iinc d_234_56 rfl rfl rfl (show m_put1 _ _ _ = [(3, _), (0, _), (1, _), (2, _)] from rfl)) ?_
      refine m_Rb.n0 b_234 (x_goto d_234_59 rfl) ?_
      exact m_Rb.pick [1, 2, 3, 0] rfl (ih (okm hx0 k36) h36 f36 j35)
def D_c_EdgeHouse_tick_23 (F : Nat) : Nat → Nat → Int32 → Int32 → tT → Option (Int32 × tT)
  | 0, _, _, _, _ => none
  | n + 1, x0, x1, x2, T => cond (m_c2 .ge x2 x1) ((tgi T x0 0 14).bind fun v7 => some (v7, T)) ((tgi T x0 0 14).bind fun v10 => (tpi T x0 0 14 (v10 + (1 : Int32))).bind fun T13 => D_c_EdgeHouse_tick_40 F (D_c_EdgeHouse_tick_23 F n) F x0 x1 x2 (1 : Int32) T13)
theorem T_c_EdgeHouse_tick_23 {l : Launch} {w0 : List mM} {F : Nat} : ∀ (n : Nat) {x0 : Nat} {x1 : Int32} {x2 : Int32} {T : tT} {w : List mM} {yz : Int32} {Tz : tT}, okr T.2.1 (some x0) → RT T w → m_Fm w0 w → D_c_EdgeHouse_tick_23 F n x0 x1 x2 T = some (yz, Tz) → m_Rb l M_234 (23, [(0, .ref x0), (1, .int x1), (2, .int x2)], [], w) (fun v w' => v = some (.int yz) ∧ RT Tz w' ∧ m_Fm w0 w') T Tz 18 1800 := by
  intro n
  induction n with
  | zero => intro x0 x1 x2 T w yz Tz hx0 h hF h0; cases h0
  | succ n ih =>
    intro x0 x1 x2 T w yz Tz hx0 h hF h0
    rw [D_c_EdgeHouse_tick_23] at h0
    refine m_Rb.n0 b_234 (x_iload_n d_234_23 rfl) ?_
    refine m_Rb.n0 b_234 (x_iload_n d_234_24 rfl) ?_
    cases hc5 : m_c2 .ge x2 x1 with
    | true =>
      have j6 := cT hc5 h0
      refine m_Rb.n0 b_234 (x_ict d_234_25 rfl hc5) ?_
      refine m_Rb.n0 b_234 (x_aload_n d_234_68 rfl) ?_
      obtain ⟨v7, e8, j9⟩ := bS j6
      refine m_Rb.tgetI b_234 d_234_69 rfl h e8 ?_
      cases j9
      exact m_Rb.ret b_234 (m_rt_ir d_234_72 rfl rfl) ⟨rfl, h, hF⟩
    | false =>
      have j6 := cF hc5 h0
      refine m_Rb.n0 b_234 (x_icf d_234_25 rfl hc5) ?_
      refine m_Rb.n0 b_234 (x_aload_n d_234_28 rfl) ?_
      refine m_Rb.n0 b_234 (x_dup d_234_29 rfl) ?_
      obtain ⟨v10, e11, j12⟩ := bS j6
      refine m_Rb.tgetI b_234 d_234_30 rfl h e11 ?_
      refine m_Rb.n0 b_234 (x_iconst (z := 1) d_234_33 (by decide)) ?_
      refine m_Rb.n0 b_234 (x_iadd d_234_34 rfl) ?_
      obtain ⟨T13, e14, j15⟩ := bS j12
      refine m_Rb.tputI b_234 d_234_35 rfl rfl (by decide) h hF e14 (fun w16 h16 f16 k16 => ?_)
      refine m_Rb.n0 b_234 (x_iconst (z := 1) d_234_38 (by decide)) ?_
      refine m_Rb.n0 b_234 (x_istore_n d_234_39 rfl (show m_put1 _ _ _ = [(3, _), (0, _), (1, _), (2, _)] from rfl)) ?_
      exact m_Rb.pick [1, 2, 3, 0] rfl (T_c_EdgeHouse_tick_40 ih F (okm hx0 k16) h16 f16 j15)
def D_c_EdgeHouse_tick (F : Nat) (a0 : Nat) (p0 : Int32) (T : tT) : Option (Int32 × tT) := cond (m_c2 .lt p0 (1 : Int32)) (D_c_EdgeHouse_tick_11 F a0 T) (cond (m_c2 .le p0 (100 : Int32)) (D_c_EdgeHouse_tick_23 F F a0 p0 (0 : Int32) T) (D_c_EdgeHouse_tick_11 F a0 T))
theorem T_c_EdgeHouse_tick {l : Launch} {w : List mM} {F : Nat} {a0 : Nat} {p0 : Int32} {T : tT} {yz : Int32} {Tz : tT} (ha0 : okr T.2.1 (some a0)) (h : RT T w) (h0 : D_c_EdgeHouse_tick F a0 p0 T = some (yz, Tz)) : m_Rb l M_234 (m_ent M_234 [.ref a0, .int p0] w) (fun v w' => v = some (.int yz) ∧ RT Tz w' ∧ m_Fm w w') T Tz 18 1800 := by
  rw [show m_ent M_234 [.ref a0, .int p0] w = (0, [(0, .ref a0), (1, .int p0)], [], w) from by first | rfl | (simp only [m_ent, lv_args_r, lv_args_a, lv_args_i, lv_args_l, lv_args_0]; done) | (simp only [m_ent, lv_args_r, lv_args_a, lv_args_i, lv_args_l, lv_args_0]; rfl)]
  generalize hw0 : w = w0 at h ⊢
  have hF : m_Fm w0 w0 := m_Fm.refl
  rw [D_c_EdgeHouse_tick] at h0
  refine m_Rb.n0 b_234 (x_iload_n d_234_0 rfl) ?_
  refine m_Rb.n0 b_234 (x_iconst (z := 1) d_234_1 (by decide)) ?_
  cases hc1 : m_c2 .lt p0 (1 : Int32) with
  | true =>
    have j2 := cT hc1 h0
    refine m_Rb.n0 b_234 (x_ict d_234_2 rfl hc1) ?_
    exact m_Rb.pick [0] rfl (T_c_EdgeHouse_tick_11 ha0 h hF j2)
  | false =>
    have j2 := cF hc1 h0
    refine m_Rb.n0 b_234 (x_icf d_234_2 rfl hc1) ?_
    refine m_Rb.n0 b_234 (x_iload_n d_234_5 rfl) ?_
    refine m_Rb.n0 b_234 (x_bipush (z := 100) d_234_6 (by decide)) ?_
    cases hc3 : m_c2 .le p0 (100 : Int32) with
    | true =>
      have j4 := cT hc3 j2
      refine m_Rb.n0 b_234 (x_ict d_234_8 rfl hc3) ?_
      refine m_Rb.n0 b_234 (x_iconst (z := 0) d_234_21 (by decide)) ?_
      refine m_Rb.n0 b_234 (x_istore_n d_234_22 rfl (show m_put1 _ _ _ = [(2, _), (0, _), (1, _)] from rfl)) ?_
      exact m_Rb.pick [1, 2, 0] rfl (T_c_EdgeHouse_tick_23 F ha0 h hF j4)
    | false =>
      have j4 := cF hc3 j2
      refine m_Rb.n0 b_234 (x_icf d_234_8 rfl hc3) ?_
      exact m_Rb.pick [0] rfl (T_c_EdgeHouse_tick_11 ha0 h hF j4)
def D_c_Reply_tell (F : Nat) (a0 : Nat) (p0 : Int32) (T0 : tT) : Option (Int32) := cond (decide (p0 = (0 : Int32))) ((tgi T0 a0 8 1).bind fun v3 => some v3) (cond (decide (p0 = (1 : Int32))) ((tgi T0 a0 8 3).bind fun v8 => some v8) (cond (decide (p0 = (2 : Int32))) ((tgi T0 a0 8 6).bind fun v13 => some v13) (cond (decide (p0 = (3 : Int32))) ((tgi T0 a0 8 10).bind fun v18 => some v18) (cond (decide (p0 = (4 : Int32))) ((tgi T0 a0 8 7).bind fun v23 => some v23) (cond (decide (p0 = (5 : Int32))) (some ((-1) : Int32)) (cond (decide (p0 = (6 : Int32))) ((tgi T0 a0 8 12).bind fun v30 => some v30) (cond (decide (p0 = (7 : Int32))) ((tgi T0 a0 8 0).bind fun v35 => some v35) (cond (decide (p0 = (8 : Int32))) ((tgi T0 a0 8 4).bind fun v40 => some v40) (some ((-1) : Int32))))))))))
theorem T_c_Reply_tell {l : Launch} {w : List mM} {F : Nat} {a0 : Nat} {p0 : Int32} {T0 : tT} {yz : Int32} (ha0 : okr T0.2.1 (some a0)) (h : RT T0 w) (h0 : D_c_Reply_tell F a0 p0 T0 = some yz) : m_Rb l M_239 (m_ent M_239 [.ref a0, .int p0] w) (fun v w' => v = some (.int yz) ∧ RT T0 w' ∧ m_Fm w w') T0 T0 0 0 := by
  rw [show m_ent M_239 [.ref a0, .int p0] w = (0, [(0, .ref a0), (1, .int p0)], [], w) from by first | rfl | (simp only [m_ent, lv_args_r, lv_args_a, lv_args_i, lv_args_l, lv_args_0]; done) | (simp only [m_ent, lv_args_r, lv_args_a, lv_args_i, lv_args_l, lv_args_0]; rfl)]
  generalize hw0 : w = w0 at h ⊢
  have hF : m_Fm w0 w0 := m_Fm.refl
  rw [D_c_Reply_tell] at h0
  refine m_Rb.n0 b_239 (x_iload_n d_239_0 rfl) ?_
  cases hc1 : decide (p0 = (0 : Int32)) with
  | true =>
    have j2 := cT hc1 h0
    refine m_Rb.n0 b_239 (x_tsw (t := 52) d_239_1 (by rw [of_decide_eq_true hc1]; rfl)) ?_
    refine m_Rb.n0 b_239 (x_aload_n d_239_52 rfl) ?_
    obtain ⟨v3, e4, j5⟩ := bS j2
    refine m_Rb.tgetI b_239 d_239_53 rfl h e4 ?_
    cases j5
    exact m_Rb.ret b_239 (m_rt_ir d_239_56 rfl rfl) ⟨rfl, h, hF⟩
  | false =>
    have j2 := cF hc1 h0
    cases hc6 : decide (p0 = (1 : Int32)) with
    | true =>
      have j7 := cT hc6 j2
      refine m_Rb.n0 b_239 (x_tsw (t := 57) d_239_1 (by rw [of_decide_eq_true hc6]; rfl)) ?_
      refine m_Rb.n0 b_239 (x_aload_n d_239_57 rfl) ?_
      obtain ⟨v8, e9, j10⟩ := bS j7
      refine m_Rb.tgetI b_239 d_239_58 rfl h e9 ?_
      cases j10
      exact m_Rb.ret b_239 (m_rt_ir d_239_61 rfl rfl) ⟨rfl, h, hF⟩
    | false =>
      have j7 := cF hc6 j2
      cases hc11 : decide (p0 = (2 : Int32)) with
      | true =>
        have j12 := cT hc11 j7
        refine m_Rb.n0 b_239 (x_tsw (t := 62) d_239_1 (by rw [of_decide_eq_true hc11]; rfl)) ?_
        refine m_Rb.n0 b_239 (x_aload_n d_239_62 rfl) ?_
        obtain ⟨v13, e14, j15⟩ := bS j12
        refine m_Rb.tgetI b_239 d_239_63 rfl h e14 ?_
        cases j15
        exact m_Rb.ret b_239 (m_rt_ir d_239_66 rfl rfl) ⟨rfl, h, hF⟩
      | false =>
        have j12 := cF hc11 j7
        cases hc16 : decide (p0 = (3 : Int32)) with
        | true =>
          have j17 := cT hc16 j12
          refine m_Rb.n0 b_239 (x_tsw (t := 67) d_239_1 (by rw [of_decide_eq_true hc16]; rfl)) ?_
          refine m_Rb.n0 b_239 (x_aload_n d_239_67 rfl) ?_
          obtain ⟨v18, e19, j20⟩ := bS j17
          refine m_Rb.tgetI b_239 d_239_68 rfl h e19 ?_
          cases j20
          exact m_Rb.ret b_239 (m_rt_ir d_239_71 rfl rfl) ⟨rfl, h, hF⟩
        | false =>
          have j17 := cF hc16 j12
          cases hc21 : decide (p0 = (4 : Int32)) with
          | true =>
            have j22 := cT hc21 j17
            refine m_Rb.n0 b_239 (x_tsw (t := 72) d_239_1 (by rw [of_decide_eq_true hc21]; rfl)) ?_
            refine m_Rb.n0 b_239 (x_aload_n d_239_72 rfl) ?_
            obtain ⟨v23, e24, j25⟩ := bS j22
            refine m_Rb.tgetI b_239 d_239_73 rfl h e24 ?_
            cases j25
            exact m_Rb.ret b_239 (m_rt_ir d_239_76 rfl rfl) ⟨rfl, h, hF⟩
          | false =>
            have j22 := cF hc21 j17
            cases hc26 : decide (p0 = (5 : Int32)) with
            | true =>
              have j27 := cT hc26 j22
              refine m_Rb.n0 b_239 (x_tsw (t := 92) d_239_1 (by rw [of_decide_eq_true hc26]; rfl)) ?_
              refine m_Rb.n0 b_239 (x_iconst (z := (-1)) d_239_92 (by decide)) ?_
              cases j27
              exact m_Rb.ret b_239 (m_rt_ir d_239_93 rfl rfl) ⟨rfl, h, hF⟩
            | false =>
              have j27 := cF hc26 j22
              cases hc28 : decide (p0 = (6 : Int32)) with
              | true =>
                have j29 := cT hc28 j27
                refine m_Rb.n0 b_239 (x_tsw (t := 77) d_239_1 (by rw [of_decide_eq_true hc28]; rfl)) ?_
                refine m_Rb.n0 b_239 (x_aload_n d_239_77 rfl) ?_
                obtain ⟨v30, e31, j32⟩ := bS j29
                refine m_Rb.tgetI b_239 d_239_78 rfl h e31 ?_
                cases j32
                exact m_Rb.ret b_239 (m_rt_ir d_239_81 rfl rfl) ⟨rfl, h, hF⟩
              | false =>
                have j29 := cF hc28 j27
                cases hc33 : decide (p0 = (7 : Int32)) with
                | true =>
                  have j34 := cT hc33 j29
                  refine m_Rb.n0 b_239 (x_tsw (t := 82) d_239_1 (by rw [of_decide_eq_true hc33]; rfl)) ?_
                  refine m_Rb.n0 b_239 (x_aload_n d_239_82 rfl) ?_
                  obtain ⟨v35, e36, j37⟩ := bS j34
                  refine m_Rb.tgetI b_239 d_239_83 rfl h e36 ?_
                  cases j37
                  exact m_Rb.ret b_239 (m_rt_ir d_239_86 rfl rfl) ⟨rfl, h, hF⟩
                | false =>
                  have j34 := cF hc33 j29
                  cases hc38 : decide (p0 = (8 : Int32)) with
                  | true =>
                    have j39 := cT hc38 j34
                    refine m_Rb.n0 b_239 (x_tsw (t := 87) d_239_1 (by rw [of_decide_eq_true hc38]; rfl)) ?_
                    refine m_Rb.n0 b_239 (x_aload_n d_239_87 rfl) ?_
                    obtain ⟨v40, e41, j42⟩ := bS j39
                    refine m_Rb.tgetI b_239 d_239_88 rfl h e41 ?_
                    cases j42
                    exact m_Rb.ret b_239 (m_rt_ir d_239_91 rfl rfl) ⟨rfl, h, hF⟩
                  | false =>
                    have j39 := cF hc38 j34
                    refine m_Rb.n0 b_239 (x_tsw (t := 92) d_239_1 (m_tsw_0 (n := 9) rfl (fun k hk => by match k, hk with | 0, _ => exact of_decide_eq_false hc1 | 1, _ => exact of_decide_eq_false hc6 | 2, _ => exact of_decide_eq_false hc11 | 3, _ => exact of_decide_eq_false hc16 | 4, _ => exact of_decide_eq_false hc21 | 5, _ => exact of_decide_eq_false hc26 | 6, _ => exact of_decide_eq_false hc28 | 7, _ => exact of_decide_eq_false hc33 | 8, _ => exact of_decide_eq_false hc38 | k + 9, hk => omega) rfl)) ?_
                    refine m_Rb.n0 b_239 (x_iconst (z := (-1)) d_239_92 (by decide)) ?_
                    cases j39
                    exact m_Rb.ret b_239 (m_rt_ir d_239_93 rfl rfl) ⟨rfl, h, hF⟩
