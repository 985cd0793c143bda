/-! The reference's straight methods as functions on its state. Written by wip/tool/mstate.py. -/
/-- a boolean -/
abbrev m_nb (x : Int32) : Prop := narrow .boolean (.int x) = .int x
theorem m_nb0 : m_nb 0 := by decide
theorem m_nb1 : m_nb 1 := by decide
theorem m_nb_c {c : Bool} {a b : Int32 × mS} (ha : m_nb a.1) (hb : m_nb b.1) : m_nb (cond c a b).1 := by
  cases c
  · exact hb
  · exact ha
theorem m_Rs.callS {l : Launch} {I J : mI} {pc pc' : Nat} {lv : List (Nat × Value)} {st as rest : List Value} {w w0 : List mM} {S' : mS} {x0 : Int32} {P : Option Value → List mM → Prop} {c s f lo f1 l1 : Nat} (hI : m_bOk I) (h : m_at1 I (pc, lv, st, w) = some (J, as, rest)) (hJ : m_Rs l J (m_ent J as w) (fun v w' => v = some (.int x0) ∧ m_RM S' w' ∧ m_Fr w w' m_dom) 0 0 f1 l1) (hF : m_Fr w0 w m_dom) (hp : pc + 3 = pc') (k : ∀ w', m_RM S' w' → m_Fr w0 w' m_dom → m_Rs l I (pc', lv, .int x0 :: rest, w') P c s f lo) (hf : f1 + 1 ≤ f) (hl : 8 + (J.2.2.1 + 11) + l1 ≤ lo) : m_Rs l I (pc, lv, st, w) P c s f lo := by
  have := m_Rs.callP (P := P) (c := c) (s := s) hI h hJ hp (fun v w' hv => by obtain ⟨rfl, h2, h3⟩ := hv; exact k w' h2 (hF.trans h3 (fun b hb => Or.inl hb))) hf hl
  rw [Nat.zero_add, Nat.zero_add] at this
  exact this
theorem m_Rs.callSv {l : Launch} {I J : mI} {pc pc' : Nat} {lv : List (Nat × Value)} {st as rest : List Value} {w w0 : List mM} {S' : mS} {P : Option Value → List mM → Prop} {c s f lo f1 l1 : Nat} (hI : m_bOk I) (h : m_at1 I (pc, lv, st, w) = some (J, as, rest)) (hJ : m_Rs l J (m_ent J as w) (fun v w' => v = none ∧ m_RM S' w' ∧ m_Fr w w' m_dom) 0 0 f1 l1) (hF : m_Fr w0 w m_dom) (hp : pc + 3 = pc') (k : ∀ w', m_RM S' w' → m_Fr w0 w' m_dom → m_Rs l I (pc', lv, rest, w') P c s f lo) (hf : f1 + 1 ≤ f) (hl : 8 + (J.2.2.1 + 11) + l1 ≤ lo) : m_Rs l I (pc, lv, st, w) P c s f lo := by
  have := m_Rs.callP (P := P) (c := c) (s := s) hI h hJ hp (fun v w' hv => by obtain ⟨rfl, h2, h3⟩ := hv; exact k w' h2 (hF.trans h3 (fun b hb => Or.inl hb))) hf hl
  rw [Nat.zero_add, Nat.zero_add] at this
  exact this
theorem q_245 : m_mt[245]? = some M_245 := by rfl
theorem q_248 : m_mt[248]? = some M_248 := by rfl
theorem q_247 : m_mt[247]? = some M_247 := by rfl
theorem q_295 : m_mt[295]? = some M_295 := by rfl
theorem q_319 : m_mt[319]? = some M_319 := by rfl
theorem q_331 : m_mt[331]? = some M_331 := by rfl
theorem q_275 : m_mt[275]? = some M_275 := by rfl
theorem q_270 : m_mt[270]? = some M_270 := by rfl
theorem b_245 : m_bOk M_245 := (m_mt_ok M_245 (List.mem_of_getElem? q_245)).body
theorem b_248 : m_bOk M_248 := (m_mt_ok M_248 (List.mem_of_getElem? q_248)).body
theorem b_247 : m_bOk M_247 := (m_mt_ok M_247 (List.mem_of_getElem? q_247)).body
theorem b_295 : m_bOk M_295 := (m_mt_ok M_295 (List.mem_of_getElem? q_295)).body
theorem b_319 : m_bOk M_319 := (m_mt_ok M_319 (List.mem_of_getElem? q_319)).body
theorem b_331 : m_bOk M_331 := (m_mt_ok M_331 (List.mem_of_getElem? q_331)).body
theorem b_275 : m_bOk M_275 := (m_mt_ok M_275 (List.mem_of_getElem? q_275)).body
theorem b_270 : m_bOk M_270 := (m_mt_ok M_270 (List.mem_of_getElem? q_270)).body
theorem d_245_0 : m_dn M_245 0 (.aload_n 0) 1 1 := by decide +kernel
theorem d_245_1 : m_dn M_245 1 (.getfield 163) 3 4 := by decide +kernel
theorem d_245_11 : m_dn M_245 11 (.aload_n 0) 1 12 := by decide +kernel
theorem d_245_12 : m_dn M_245 12 (.getfield 7) 3 15 := by decide +kernel
theorem d_245_15 : m_dn M_245 15 (.aload_n 0) 1 16 := by decide +kernel
theorem d_245_16 : m_dn M_245 16 (.getfield 163) 3 19 := by decide +kernel
theorem d_245_19 : m_dn M_245 19 (.iaload) 1 20 := by decide +kernel
theorem d_245_20 : m_dn M_245 20 (.goto 4) 3 23 := by decide +kernel
theorem d_245_23 : m_dn M_245 23 (.iconst (-1)) 1 24 := by decide +kernel
theorem d_245_24 : m_dn M_245 24 (.ireturn) 1 25 := by decide +kernel
theorem d_245_4 : m_dn M_245 4 (.aload_n 0) 1 5 := by decide +kernel
theorem d_245_5 : m_dn M_245 5 (.getfield 158) 3 8 := by decide +kernel
theorem d_245_8 : m_dn M_245 8 (.if_icmp .ge 15) 3 11 := by decide +kernel
theorem d_247_0 : m_dn M_247 0 (.aload_n 0) 1 1 := by decide +kernel
theorem d_247_1 : m_dn M_247 1 (.getfield 166) 3 4 := by decide +kernel
theorem d_247_10 : m_dn M_247 10 (.invokevirtual 173) 3 13 := by decide +kernel
theorem d_247_13 : m_dn M_247 13 (.iload_n 1) 1 14 := by decide +kernel
theorem d_247_14 : m_dn M_247 14 (.if_icmp .eq 12) 3 17 := by decide +kernel
theorem d_247_17 : m_dn M_247 17 (.aload_n 0) 1 18 := by decide +kernel
theorem d_247_18 : m_dn M_247 18 (.aload_n 0) 1 19 := by decide +kernel
theorem d_247_19 : m_dn M_247 19 (.getfield 163) 3 22 := by decide +kernel
theorem d_247_22 : m_dn M_247 22 (.invokevirtual 177) 3 25 := by decide +kernel
theorem d_247_25 : m_dn M_247 25 (.ireturn) 1 26 := by decide +kernel
theorem d_247_26 : m_dn M_247 26 (.aload_n 0) 1 27 := by decide +kernel
theorem d_247_27 : m_dn M_247 27 (.dup) 1 28 := by decide +kernel
theorem d_247_28 : m_dn M_247 28 (.getfield 163) 3 31 := by decide +kernel
theorem d_247_31 : m_dn M_247 31 (.iconst 1) 1 32 := by decide +kernel
theorem d_247_32 : m_dn M_247 32 (.iadd) 1 33 := by decide +kernel
theorem d_247_33 : m_dn M_247 33 (.putfield 163) 3 36 := by decide +kernel
theorem d_247_36 : m_dn M_247 36 (.iconst 1) 1 37 := by decide +kernel
theorem d_247_37 : m_dn M_247 37 (.ireturn) 1 38 := by decide +kernel
theorem d_247_4 : m_dn M_247 4 (.ifCond .eq 5) 3 7 := by decide +kernel
theorem d_247_7 : m_dn M_247 7 (.iconst 0) 1 8 := by decide +kernel
theorem d_247_8 : m_dn M_247 8 (.ireturn) 1 9 := by decide +kernel
theorem d_247_9 : m_dn M_247 9 (.aload_n 0) 1 10 := by decide +kernel
theorem d_248_0 : m_dn M_248 0 (.aload_n 0) 1 1 := by decide +kernel
theorem d_248_1 : m_dn M_248 1 (.getfield 166) 3 4 := by decide +kernel
theorem d_248_12 : m_dn M_248 12 (.aload_n 0) 1 13 := by decide +kernel
theorem d_248_13 : m_dn M_248 13 (.iload_n 1) 1 14 := by decide +kernel
theorem d_248_14 : m_dn M_248 14 (.putfield 170) 3 17 := by decide +kernel
theorem d_248_17 : m_dn M_248 17 (.iconst 0) 1 18 := by decide +kernel
theorem d_248_18 : m_dn M_248 18 (.ireturn) 1 19 := by decide +kernel
theorem d_248_4 : m_dn M_248 4 (.ifCond .ne 13) 3 7 := by decide +kernel
theorem d_248_7 : m_dn M_248 7 (.aload_n 0) 1 8 := by decide +kernel
theorem d_248_8 : m_dn M_248 8 (.iconst 1) 1 9 := by decide +kernel
theorem d_248_9 : m_dn M_248 9 (.putfield 166) 3 12 := by decide +kernel
theorem d_270_0 : m_dn M_270 0 (.bipush 9) 2 2 := by decide +kernel
theorem d_270_10 : m_dn M_270 10 (.iload_n 1) 1 11 := by decide +kernel
theorem d_270_102 : m_dn M_270 102 (.iconst 0) 1 103 := by decide +kernel
theorem d_270_103 : m_dn M_270 103 (.iastore) 1 104 := by decide +kernel
theorem d_270_104 : m_dn M_270 104 (.aload_n 0) 1 105 := by decide +kernel
theorem d_270_105 : m_dn M_270 105 (.getfield 146) 3 108 := by decide +kernel
theorem d_270_108 : m_dn M_270 108 (.iload 5) 2 110 := by decide +kernel
theorem d_270_11 : m_dn M_270 11 (.iconst 0) 1 12 := by decide +kernel
theorem d_270_110 : m_dn M_270 110 (.iconst 4) 1 111 := by decide +kernel
theorem d_270_111 : m_dn M_270 111 (.iadd) 1 112 := by decide +kernel
theorem d_270_112 : m_dn M_270 112 (.iload 4) 2 114 := by decide +kernel
theorem d_270_114 : m_dn M_270 114 (.iconst 1) 1 115 := by decide +kernel
theorem d_270_115 : m_dn M_270 115 (.if_icmp .ne 7) 3 118 := by decide +kernel
theorem d_270_118 : m_dn M_270 118 (.iload_n 3) 1 119 := by decide +kernel
theorem d_270_119 : m_dn M_270 119 (.goto 4) 3 122 := by decide +kernel
theorem d_270_12 : m_dn M_270 12 (.bastore) 1 13 := by decide +kernel
theorem d_270_122 : m_dn M_270 122 (.iconst 0) 1 123 := by decide +kernel
theorem d_270_123 : m_dn M_270 123 (.iastore) 1 124 := by decide +kernel
theorem d_270_124 : m_dn M_270 124 (.aload_n 0) 1 125 := by decide +kernel
theorem d_270_125 : m_dn M_270 125 (.getfield 146) 3 128 := by decide +kernel
theorem d_270_128 : m_dn M_270 128 (.iload 5) 2 130 := by decide +kernel
theorem d_270_13 : m_dn M_270 13 (.aload_n 0) 1 14 := by decide +kernel
theorem d_270_130 : m_dn M_270 130 (.iconst 5) 1 131 := by decide +kernel
theorem d_270_131 : m_dn M_270 131 (.iadd) 1 132 := by decide +kernel
theorem d_270_132 : m_dn M_270 132 (.aload_n 0) 1 133 := by decide +kernel
theorem d_270_133 : m_dn M_270 133 (.getfield 390) 3 136 := by decide +kernel
theorem d_270_136 : m_dn M_270 136 (.iastore) 1 137 := by decide +kernel
theorem d_270_137 : m_dn M_270 137 (.aload_n 0) 1 138 := by decide +kernel
theorem d_270_138 : m_dn M_270 138 (.getfield 146) 3 141 := by decide +kernel
theorem d_270_14 : m_dn M_270 14 (.dup) 1 15 := by decide +kernel
theorem d_270_141 : m_dn M_270 141 (.iload 5) 2 143 := by decide +kernel
theorem d_270_143 : m_dn M_270 143 (.bipush 7) 2 145 := by decide +kernel
theorem d_270_145 : m_dn M_270 145 (.iadd) 1 146 := by decide +kernel
theorem d_270_146 : m_dn M_270 146 (.iload 4) 2 148 := by decide +kernel
theorem d_270_148 : m_dn M_270 148 (.iconst 1) 1 149 := by decide +kernel
theorem d_270_149 : m_dn M_270 149 (.if_icmp .ne 10) 3 152 := by decide +kernel
theorem d_270_15 : m_dn M_270 15 (.getfield 563) 3 18 := by decide +kernel
theorem d_270_152 : m_dn M_270 152 (.aload_n 0) 1 153 := by decide +kernel
theorem d_270_153 : m_dn M_270 153 (.getfield 542) 3 156 := by decide +kernel
theorem d_270_156 : m_dn M_270 156 (.goto 4) 3 159 := by decide +kernel
theorem d_270_159 : m_dn M_270 159 (.iconst 0) 1 160 := by decide +kernel
theorem d_270_160 : m_dn M_270 160 (.iastore) 1 161 := by decide +kernel
theorem d_270_161 : m_dn M_270 161 (.aload_n 0) 1 162 := by decide +kernel
theorem d_270_162 : m_dn M_270 162 (.getfield 146) 3 165 := by decide +kernel
theorem d_270_165 : m_dn M_270 165 (.iload 5) 2 167 := by decide +kernel
theorem d_270_167 : m_dn M_270 167 (.bipush 8) 2 169 := by decide +kernel
theorem d_270_169 : m_dn M_270 169 (.iadd) 1 170 := by decide +kernel
theorem d_270_170 : m_dn M_270 170 (.iload 4) 2 172 := by decide +kernel
theorem d_270_172 : m_dn M_270 172 (.iconst 1) 1 173 := by decide +kernel
theorem d_270_173 : m_dn M_270 173 (.if_icmp .ne 13) 3 176 := by decide +kernel
theorem d_270_176 : m_dn M_270 176 (.aload_n 0) 1 177 := by decide +kernel
theorem d_270_177 : m_dn M_270 177 (.getfield 143) 3 180 := by decide +kernel
theorem d_270_18 : m_dn M_270 18 (.iconst 1) 1 19 := by decide +kernel
theorem d_270_180 : m_dn M_270 180 (.bipush 8) 2 182 := by decide +kernel
theorem d_270_182 : m_dn M_270 182 (.iaload) 1 183 := by decide +kernel
theorem d_270_183 : m_dn M_270 183 (.goto 4) 3 186 := by decide +kernel
theorem d_270_186 : m_dn M_270 186 (.iconst 0) 1 187 := by decide +kernel
theorem d_270_187 : m_dn M_270 187 (.iastore) 1 188 := by decide +kernel
theorem d_270_188 : m_dn M_270 188 (.return_) 1 189 := by decide +kernel
theorem d_270_19 : m_dn M_270 19 (.iadd) 1 20 := by decide +kernel
theorem d_270_2 : m_dn M_270 2 (.iload_n 1) 1 3 := by decide +kernel
theorem d_270_20 : m_dn M_270 20 (.putfield 563) 3 23 := by decide +kernel
theorem d_270_23 : m_dn M_270 23 (.aload_n 0) 1 24 := by decide +kernel
theorem d_270_24 : m_dn M_270 24 (.getfield 146) 3 27 := by decide +kernel
theorem d_270_27 : m_dn M_270 27 (.iload 5) 2 29 := by decide +kernel
theorem d_270_29 : m_dn M_270 29 (.iload_n 2) 1 30 := by decide +kernel
theorem d_270_3 : m_dn M_270 3 (.imul) 1 4 := by decide +kernel
theorem d_270_30 : m_dn M_270 30 (.iastore) 1 31 := by decide +kernel
theorem d_270_31 : m_dn M_270 31 (.aload_n 0) 1 32 := by decide +kernel
theorem d_270_32 : m_dn M_270 32 (.getfield 146) 3 35 := by decide +kernel
theorem d_270_35 : m_dn M_270 35 (.iload 5) 2 37 := by decide +kernel
theorem d_270_37 : m_dn M_270 37 (.iconst 1) 1 38 := by decide +kernel
theorem d_270_38 : m_dn M_270 38 (.iadd) 1 39 := by decide +kernel
theorem d_270_39 : m_dn M_270 39 (.iload 4) 2 41 := by decide +kernel
theorem d_270_4 : m_dn M_270 4 (.istore 5) 2 6 := by decide +kernel
theorem d_270_41 : m_dn M_270 41 (.iconst 1) 1 42 := by decide +kernel
theorem d_270_42 : m_dn M_270 42 (.if_icmp .ne 12) 3 45 := by decide +kernel
theorem d_270_45 : m_dn M_270 45 (.aload_n 0) 1 46 := by decide +kernel
theorem d_270_46 : m_dn M_270 46 (.getfield 143) 3 49 := by decide +kernel
theorem d_270_49 : m_dn M_270 49 (.iconst 0) 1 50 := by decide +kernel
theorem d_270_50 : m_dn M_270 50 (.iaload) 1 51 := by decide +kernel
theorem d_270_51 : m_dn M_270 51 (.goto 4) 3 54 := by decide +kernel
theorem d_270_54 : m_dn M_270 54 (.iconst 0) 1 55 := by decide +kernel
theorem d_270_55 : m_dn M_270 55 (.iastore) 1 56 := by decide +kernel
theorem d_270_56 : m_dn M_270 56 (.aload_n 0) 1 57 := by decide +kernel
theorem d_270_57 : m_dn M_270 57 (.getfield 146) 3 60 := by decide +kernel
theorem d_270_6 : m_dn M_270 6 (.aload_n 0) 1 7 := by decide +kernel
theorem d_270_60 : m_dn M_270 60 (.iload 5) 2 62 := by decide +kernel
theorem d_270_62 : m_dn M_270 62 (.iconst 2) 1 63 := by decide +kernel
theorem d_270_63 : m_dn M_270 63 (.iadd) 1 64 := by decide +kernel
theorem d_270_64 : m_dn M_270 64 (.iload 4) 2 66 := by decide +kernel
theorem d_270_66 : m_dn M_270 66 (.iconst 1) 1 67 := by decide +kernel
theorem d_270_67 : m_dn M_270 67 (.if_icmp .ne 10) 3 70 := by decide +kernel
theorem d_270_7 : m_dn M_270 7 (.getfield 127) 3 10 := by decide +kernel
theorem d_270_70 : m_dn M_270 70 (.aload_n 0) 1 71 := by decide +kernel
theorem d_270_71 : m_dn M_270 71 (.getfield 548) 3 74 := by decide +kernel
theorem d_270_74 : m_dn M_270 74 (.goto 4) 3 77 := by decide +kernel
theorem d_270_77 : m_dn M_270 77 (.iconst 0) 1 78 := by decide +kernel
theorem d_270_78 : m_dn M_270 78 (.iastore) 1 79 := by decide +kernel
theorem d_270_79 : m_dn M_270 79 (.aload_n 0) 1 80 := by decide +kernel
theorem d_270_80 : m_dn M_270 80 (.getfield 146) 3 83 := by decide +kernel
theorem d_270_83 : m_dn M_270 83 (.iload 5) 2 85 := by decide +kernel
theorem d_270_85 : m_dn M_270 85 (.iconst 3) 1 86 := by decide +kernel
theorem d_270_86 : m_dn M_270 86 (.iadd) 1 87 := by decide +kernel
theorem d_270_87 : m_dn M_270 87 (.iload 4) 2 89 := by decide +kernel
theorem d_270_89 : m_dn M_270 89 (.iconst 1) 1 90 := by decide +kernel
theorem d_270_90 : m_dn M_270 90 (.if_icmp .ne 12) 3 93 := by decide +kernel
theorem d_270_93 : m_dn M_270 93 (.aload_n 0) 1 94 := by decide +kernel
theorem d_270_94 : m_dn M_270 94 (.getfield 143) 3 97 := by decide +kernel
theorem d_270_97 : m_dn M_270 97 (.iconst 1) 1 98 := by decide +kernel
theorem d_270_98 : m_dn M_270 98 (.iaload) 1 99 := by decide +kernel
theorem d_270_99 : m_dn M_270 99 (.goto 4) 3 102 := by decide +kernel
theorem d_275_0 : m_dn M_275 0 (.bipush 12) 2 2 := by decide +kernel
theorem d_275_2 : m_dn M_275 2 (.aload_n 0) 1 3 := by decide +kernel
theorem d_275_3 : m_dn M_275 3 (.getfield 507) 3 6 := by decide +kernel
theorem d_275_6 : m_dn M_275 6 (.iconst 1) 1 7 := by decide +kernel
theorem d_275_7 : m_dn M_275 7 (.iadd) 1 8 := by decide +kernel
theorem d_275_8 : m_dn M_275 8 (.imul) 1 9 := by decide +kernel
theorem d_275_9 : m_dn M_275 9 (.ireturn) 1 10 := by decide +kernel
theorem d_295_0 : m_dn M_295 0 (.aload_n 0) 1 1 := by decide +kernel
theorem d_295_1 : m_dn M_295 1 (.dup) 1 2 := by decide +kernel
theorem d_295_10 : m_dn M_295 10 (.aload_n 0) 1 11 := by decide +kernel
theorem d_295_11 : m_dn M_295 11 (.getfield 88) 3 14 := by decide +kernel
theorem d_295_14 : m_dn M_295 14 (.iload_n 1) 1 15 := by decide +kernel
theorem d_295_15 : m_dn M_295 15 (.aload_n 0) 1 16 := by decide +kernel
theorem d_295_16 : m_dn M_295 16 (.getfield 415) 3 19 := by decide +kernel
theorem d_295_19 : m_dn M_295 19 (.iastore) 1 20 := by decide +kernel
theorem d_295_2 : m_dn M_295 2 (.getfield 415) 3 5 := by decide +kernel
theorem d_295_20 : m_dn M_295 20 (.return_) 1 21 := by decide +kernel
theorem d_295_5 : m_dn M_295 5 (.iconst 1) 1 6 := by decide +kernel
theorem d_295_6 : m_dn M_295 6 (.iadd) 1 7 := by decide +kernel
theorem d_295_7 : m_dn M_295 7 (.putfield 415) 3 10 := by decide +kernel
theorem d_319_0 : m_dn M_319 0 (.aload_n 0) 1 1 := by decide +kernel
theorem d_319_1 : m_dn M_319 1 (.getfield 118) 3 4 := by decide +kernel
theorem d_319_10 : m_dn M_319 10 (.isub) 1 11 := by decide +kernel
theorem d_319_11 : m_dn M_319 11 (.iconst 0) 1 12 := by decide +kernel
theorem d_319_12 : m_dn M_319 12 (.iastore) 1 13 := by decide +kernel
theorem d_319_13 : m_dn M_319 13 (.aload_n 0) 1 14 := by decide +kernel
theorem d_319_14 : m_dn M_319 14 (.getfield 121) 3 17 := by decide +kernel
theorem d_319_17 : m_dn M_319 17 (.iconst 2) 1 18 := by decide +kernel
theorem d_319_18 : m_dn M_319 18 (.iload_n 1) 1 19 := by decide +kernel
theorem d_319_19 : m_dn M_319 19 (.imul) 1 20 := by decide +kernel
theorem d_319_20 : m_dn M_319 20 (.iload_n 2) 1 21 := by decide +kernel
theorem d_319_21 : m_dn M_319 21 (.iadd) 1 22 := by decide +kernel
theorem d_319_22 : m_dn M_319 22 (.iconst 1) 1 23 := by decide +kernel
theorem d_319_23 : m_dn M_319 23 (.isub) 1 24 := by decide +kernel
theorem d_319_24 : m_dn M_319 24 (.iconst 0) 1 25 := by decide +kernel
theorem d_319_25 : m_dn M_319 25 (.iastore) 1 26 := by decide +kernel
theorem d_319_26 : m_dn M_319 26 (.return_) 1 27 := by decide +kernel
theorem d_319_4 : m_dn M_319 4 (.iconst 2) 1 5 := by decide +kernel
theorem d_319_5 : m_dn M_319 5 (.iload_n 1) 1 6 := by decide +kernel
theorem d_319_6 : m_dn M_319 6 (.imul) 1 7 := by decide +kernel
theorem d_319_7 : m_dn M_319 7 (.iload_n 2) 1 8 := by decide +kernel
theorem d_319_8 : m_dn M_319 8 (.iadd) 1 9 := by decide +kernel
theorem d_319_9 : m_dn M_319 9 (.iconst 1) 1 10 := by decide +kernel
theorem d_331_0 : m_dn M_331 0 (.iconst 2) 1 1 := by decide +kernel
theorem d_331_1 : m_dn M_331 1 (.iload_n 1) 1 2 := by decide +kernel
theorem d_331_12 : m_dn M_331 12 (.iload_n 3) 1 13 := by decide +kernel
theorem d_331_13 : m_dn M_331 13 (.dup2) 1 14 := by decide +kernel
theorem d_331_14 : m_dn M_331 14 (.iaload) 1 15 := by decide +kernel
theorem d_331_15 : m_dn M_331 15 (.iconst 1) 1 16 := by decide +kernel
theorem d_331_16 : m_dn M_331 16 (.iadd) 1 17 := by decide +kernel
theorem d_331_17 : m_dn M_331 17 (.iastore) 1 18 := by decide +kernel
theorem d_331_18 : m_dn M_331 18 (.aload_n 0) 1 19 := by decide +kernel
theorem d_331_19 : m_dn M_331 19 (.getfield 118) 3 22 := by decide +kernel
theorem d_331_2 : m_dn M_331 2 (.imul) 1 3 := by decide +kernel
theorem d_331_22 : m_dn M_331 22 (.iload_n 3) 1 23 := by decide +kernel
theorem d_331_23 : m_dn M_331 23 (.iaload) 1 24 := by decide +kernel
theorem d_331_24 : m_dn M_331 24 (.iconst 2) 1 25 := by decide +kernel
theorem d_331_25 : m_dn M_331 25 (.if_icmp .ge 4) 3 28 := by decide +kernel
theorem d_331_28 : m_dn M_331 28 (.return_) 1 29 := by decide +kernel
theorem d_331_29 : m_dn M_331 29 (.aload_n 0) 1 30 := by decide +kernel
theorem d_331_3 : m_dn M_331 3 (.iload_n 2) 1 4 := by decide +kernel
theorem d_331_30 : m_dn M_331 30 (.getfield 118) 3 33 := by decide +kernel
theorem d_331_33 : m_dn M_331 33 (.iload_n 3) 1 34 := by decide +kernel
theorem d_331_34 : m_dn M_331 34 (.iconst 0) 1 35 := by decide +kernel
theorem d_331_35 : m_dn M_331 35 (.iastore) 1 36 := by decide +kernel
theorem d_331_36 : m_dn M_331 36 (.aload_n 0) 1 37 := by decide +kernel
theorem d_331_37 : m_dn M_331 37 (.getfield 121) 3 40 := by decide +kernel
theorem d_331_4 : m_dn M_331 4 (.iadd) 1 5 := by decide +kernel
theorem d_331_40 : m_dn M_331 40 (.iload_n 3) 1 41 := by decide +kernel
theorem d_331_41 : m_dn M_331 41 (.aload_n 0) 1 42 := by decide +kernel
theorem d_331_42 : m_dn M_331 42 (.getfield 390) 3 45 := by decide +kernel
theorem d_331_45 : m_dn M_331 45 (.bipush 20) 2 47 := by decide +kernel
theorem d_331_47 : m_dn M_331 47 (.iadd) 1 48 := by decide +kernel
theorem d_331_48 : m_dn M_331 48 (.iastore) 1 49 := by decide +kernel
theorem d_331_49 : m_dn M_331 49 (.return_) 1 50 := by decide +kernel
theorem d_331_5 : m_dn M_331 5 (.iconst 1) 1 6 := by decide +kernel
theorem d_331_6 : m_dn M_331 6 (.isub) 1 7 := by decide +kernel
theorem d_331_7 : m_dn M_331 7 (.istore_n 3) 1 8 := by decide +kernel
theorem d_331_8 : m_dn M_331 8 (.aload_n 0) 1 9 := by decide +kernel
theorem d_331_9 : m_dn M_331 9 (.getfield 118) 3 12 := by decide +kernel
def G_see (S : mS) : Int32 × mS := (cond (m_c2 .ge (S.1 4) (S.1 2)) (((-1) : Int32), S) ((m_rd 0 (S.2 584) (S.1 4)), S))
theorem T_see {l : Launch} {w : List mM} {S : mS} (h : m_RM S w) (g1 : m_c2 .ge (S.1 4) (S.1 2) = false → m_ix (S.1 4) 300) : m_Rs l M_245 (m_ent M_245 [.ref 583] w) (fun v w' => v = some (.int (G_see S).1) ∧ m_RM (G_see S).2 w' ∧ m_Fr w w' m_dom) 0 0 0 0 := by
  show m_Rs l M_245 (0, [(0, .ref 583)], [], w) _ 0 0 0 0
  have hF : m_Fr w w m_dom := m_Fr.refl
  refine m_Rs.n0 b_245 (x_aload_n d_245_0 rfl) ?_
  refine m_Rs.n0 b_245 (x_getf d_245_1 rfl h.1 rfl) ?_
  refine m_Rs.n0 b_245 (x_aload_n d_245_4 rfl) ?_
  refine m_Rs.n0 b_245 (x_getf d_245_5 rfl h.1 rfl) ?_
  cases hc1 : m_c2 .ge (S.1 4) (S.1 2) with
  | true =>
    refine m_Rs.n0 b_245 (x_ict d_245_8 rfl hc1) ?_
    refine m_Rs.n0 b_245 (x_iconst (z := (-1)) d_245_23 (by decide)) ?_
    refine m_Rs.ret b_245 (m_rt_ir d_245_24 rfl rfl) ?_
    have e9 : G_see S = (((-1) : Int32), S) := by simp only [G_see, hc1, cond_true, cond_false]
    exact ⟨by rw [e9], by rw [e9]; exact h, hF⟩
  | false =>
    refine m_Rs.n0 b_245 (x_icf d_245_8 rfl hc1) ?_
    refine m_Rs.n0 b_245 (x_aload_n d_245_11 rfl) ?_
    refine m_Rs.n0 b_245 (x_getf d_245_12 rfl h.1 rfl) ?_
    refine m_Rs.n0 b_245 (x_aload_n d_245_15 rfl) ?_
    refine m_Rs.n0 b_245 (x_getf d_245_16 rfl h.1 rfl) ?_
    refine m_Rs.n0 b_245 (x_ldG d_245_19 (h.a 0 rfl) rfl ((g1 hc1))) ?_
    refine m_Rs.n0 b_245 (x_goto d_245_20 rfl) ?_
    refine m_Rs.ret b_245 (m_rt_ir d_245_24 rfl rfl) ?_
    have e9 : G_see S = ((m_rd 0 (S.2 584) (S.1 4)), S) := by simp only [G_see, hc1, cond_true, cond_false]
    exact ⟨by rw [e9], by rw [e9]; exact h, hF⟩
def G_wrong (S : mS) (place : Int32) : Int32 × mS := (cond (m_c1 .ne (S.1 5)) ((0 : Int32), S) ((0 : Int32), (up1 (up1 S 5 (1 : Int32)) 6 place)))
theorem T_wrong {l : Launch} {w : List mM} {S : mS} {place : Int32} (h : m_RM S w) : m_Rs l M_248 (m_ent M_248 [.ref 583, .int place] w) (fun v w' => v = some (.int (G_wrong S place).1) ∧ m_RM (G_wrong S place).2 w' ∧ m_Fr w w' m_dom) 0 0 0 0 := by
  show m_Rs l M_248 (0, [(0, .ref 583), (1, .int place)], [], w) _ 0 0 0 0
  have hF : m_Fr w w m_dom := m_Fr.refl
  refine m_Rs.n0 b_248 (x_aload_n d_248_0 rfl) ?_
  refine m_Rs.n0 b_248 (x_getf d_248_1 rfl h.1 rfl) ?_
  cases hc1 : m_c1 .ne (S.1 5) with
  | true =>
    refine m_Rs.n0 b_248 (x_ift d_248_4 rfl hc1) ?_
    refine m_Rs.n0 b_248 (x_iconst (z := 0) d_248_17 (by decide)) ?_
    refine m_Rs.ret b_248 (m_rt_ir d_248_18 rfl m_nb0) ?_
    have e9 : G_wrong S place = ((0 : Int32), S) := by simp only [G_wrong, hc1, cond_true, cond_false]
    exact ⟨by rw [e9], by rw [e9]; exact h, hF⟩
  | false =>
    refine m_Rs.n0 b_248 (x_iff d_248_4 rfl hc1) ?_
    refine m_Rs.n0 b_248 (x_aload_n d_248_7 rfl) ?_
    refine m_Rs.n0 b_248 (x_iconst (z := 1) d_248_8 (by decide)) ?_
    refine m_Rs.mput b_248 d_248_9 h hF rfl rfl rfl rfl rfl rfl (fun w1 h hF => ?_)
    refine m_Rs.n0 b_248 (x_aload_n d_248_12 rfl) ?_
    refine m_Rs.n0 b_248 (x_iload_n d_248_13 rfl) ?_
    refine m_Rs.mput b_248 d_248_14 h hF rfl rfl rfl rfl rfl rfl (fun w1 h hF => ?_)
    refine m_Rs.n0 b_248 (x_iconst (z := 0) d_248_17 (by decide)) ?_
    refine m_Rs.ret b_248 (m_rt_ir d_248_18 rfl m_nb0) ?_
    have e9 : G_wrong S place = ((0 : Int32), (up1 (up1 S 5 (1 : Int32)) 6 place)) := by simp only [G_wrong, hc1, cond_true, cond_false]
    exact ⟨by rw [e9], by rw [e9]; exact h, hF⟩
theorem N_wrong {S : mS} {place : Int32} : m_nb (G_wrong S place).1 := (m_nb_c m_nb0 m_nb0)
def G_expect (S : mS) (ch : Int32) : Int32 × mS := (cond (m_c1 .eq (S.1 5)) (cond (m_c2 .eq (G_see S).1 ch) ((1 : Int32), (up1 (G_see S).2 4 (((G_see S).2.1 4) + (1 : Int32)))) ((G_wrong (G_see S).2 ((G_see S).2.1 4)).1, (G_wrong (G_see S).2 ((G_see S).2.1 4)).2)) ((0 : Int32), S))
theorem T_expect {l : Launch} {w : List mM} {S : mS} {ch : Int32} (h : m_RM S w) (g1 : m_c1 .eq (S.1 5) = true → m_c2 .ge (S.1 4) (S.1 2) = false → m_ix (S.1 4) 300) : m_Rs l M_247 (m_ent M_247 [.ref 583, .int ch] w) (fun v w' => v = some (.int (G_expect S ch).1) ∧ m_RM (G_expect S ch).2 w' ∧ m_Fr w w' m_dom) 0 0 1 100 := by
  show m_Rs l M_247 (0, [(0, .ref 583), (1, .int ch)], [], w) _ 0 0 1 100
  have hF : m_Fr w w m_dom := m_Fr.refl
  refine m_Rs.n0 b_247 (x_aload_n d_247_0 rfl) ?_
  refine m_Rs.n0 b_247 (x_getf d_247_1 rfl h.1 rfl) ?_
  cases hc1 : m_c1 .eq (S.1 5) with
  | true =>
    refine m_Rs.n0 b_247 (x_ift d_247_4 rfl hc1) ?_
    refine m_Rs.n0 b_247 (x_aload_n d_247_9 rfl) ?_
    refine m_Rs.callS b_247 (y_cv d_247_10 rfl q_245 (m_isRecv_of rfl h.1) (show m_takeI _ _ = some (_, [_], []) from rfl) (by simp only [m_okf, List.all_cons, List.all_nil, Bool.and_true, Bool.and_self, m_okv_i, m_okv_l, m_okv_0, m_okv_t, m_okv_at h.1]) rfl) (T_see h (g1 hc1)) hF rfl (fun w1 h hF => ?_) (by decide) (by decide)
    refine m_Rs.n0 b_247 (x_iload_n d_247_13 rfl) ?_
    cases hc2 : m_c2 .eq (G_see S).1 ch with
    | true =>
      refine m_Rs.n0 b_247 (x_ict d_247_14 rfl hc2) ?_
      refine m_Rs.n0 b_247 (x_aload_n d_247_26 rfl) ?_
      refine m_Rs.n0 b_247 (x_dup d_247_27 rfl) ?_
      refine m_Rs.n0 b_247 (x_getf d_247_28 rfl h.1 rfl) ?_
      refine m_Rs.n0 b_247 (x_iconst (z := 1) d_247_31 (by decide)) ?_
      refine m_Rs.n0 b_247 (x_iadd d_247_32 rfl) ?_
      refine m_Rs.mput b_247 d_247_33 h hF rfl rfl rfl rfl rfl rfl (fun w1 h hF => ?_)
      refine m_Rs.n0 b_247 (x_iconst (z := 1) d_247_36 (by decide)) ?_
      refine m_Rs.ret b_247 (m_rt_ir d_247_37 rfl m_nb1) ?_
      have e9 : G_expect S ch = ((1 : Int32), (up1 (G_see S).2 4 (((G_see S).2.1 4) + (1 : Int32)))) := by simp only [G_expect, hc1, hc2, cond_true, cond_false]
      exact ⟨by rw [e9], by rw [e9]; exact h, hF⟩
    | false =>
      refine m_Rs.n0 b_247 (x_icf d_247_14 rfl hc2) ?_
      refine m_Rs.n0 b_247 (x_aload_n d_247_17 rfl) ?_
      refine m_Rs.n0 b_247 (x_aload_n d_247_18 rfl) ?_
      refine m_Rs.n0 b_247 (x_getf d_247_19 rfl h.1 rfl) ?_
      refine m_Rs.callS b_247 (y_cv d_247_22 rfl q_248 (m_isRecv_of rfl h.1) (show m_takeI _ _ = some (_, [_, _], []) from rfl) (by simp only [m_okf, List.all_cons, List.all_nil, Bool.and_true, Bool.and_self, m_okv_i, m_okv_l, m_okv_0, m_okv_t, m_okv_at h.1]) rfl) (T_wrong h) hF rfl (fun w1 h hF => ?_) (by decide) (by decide)
      refine m_Rs.ret b_247 (m_rt_ir d_247_25 rfl N_wrong) ?_
      have e9 : G_expect S ch = ((G_wrong (G_see S).2 ((G_see S).2.1 4)).1, (G_wrong (G_see S).2 ((G_see S).2.1 4)).2) := by simp only [G_expect, hc1, hc2, cond_true, cond_false]
      exact ⟨by rw [e9], by rw [e9]; exact h, hF⟩
  | false =>
    refine m_Rs.n0 b_247 (x_iff d_247_4 rfl hc1) ?_
    refine m_Rs.n0 b_247 (x_iconst (z := 0) d_247_7 (by decide)) ?_
    refine m_Rs.ret b_247 (m_rt_ir d_247_8 rfl m_nb0) ?_
    have e9 : G_expect S ch = ((0 : Int32), S) := by simp only [G_expect, hc1, cond_true, cond_false]
    exact ⟨by rw [e9], by rw [e9]; exact h, hF⟩
theorem N_expect {S : mS} {ch : Int32} : m_nb (G_expect S ch).1 := (m_nb_c (m_nb_c m_nb1 N_wrong) m_nb0)
def G_newest (S : mS) (en : Int32) : mS := (up2 (up1 S 58 ((S.1 58) + (1 : Int32))) 608 (en).toNatClampNeg ((up1 S 58 ((S.1 58) + (1 : Int32))).1 58))
theorem T_newest {l : Launch} {w : List mM} {S : mS} {en : Int32} (h : m_RM S w) (g1 : m_ix en 7168) : m_Rs l M_295 (m_ent M_295 [.ref 583, .int en] w) (fun v w' => v = none ∧ m_RM (G_newest S en) w' ∧ m_Fr w w' m_dom) 0 0 0 0 := by
  show m_Rs l M_295 (0, [(0, .ref 583), (1, .int en)], [], w) _ 0 0 0 0
  have hF : m_Fr w w m_dom := m_Fr.refl
  refine m_Rs.n0 b_295 (x_aload_n d_295_0 rfl) ?_
  refine m_Rs.n0 b_295 (x_dup d_295_1 rfl) ?_
  refine m_Rs.n0 b_295 (x_getf d_295_2 rfl h.1 rfl) ?_
  refine m_Rs.n0 b_295 (x_iconst (z := 1) d_295_5 (by decide)) ?_
  refine m_Rs.n0 b_295 (x_iadd d_295_6 rfl) ?_
  refine m_Rs.mput b_295 d_295_7 h hF rfl rfl rfl rfl rfl rfl (fun w1 h hF => ?_)
  refine m_Rs.n0 b_295 (x_aload_n d_295_10 rfl) ?_
  refine m_Rs.n0 b_295 (x_getf d_295_11 rfl h.1 rfl) ?_
  refine m_Rs.n0 b_295 (x_iload_n d_295_14 rfl) ?_
  refine m_Rs.n0 b_295 (x_aload_n d_295_15 rfl) ?_
  refine m_Rs.n0 b_295 (x_getf d_295_16 rfl h.1 rfl) ?_
  refine m_Rs.mias b_295 d_295_19 h hF 24 rfl ((g1)) (fun w1 h hF => ?_)
  refine m_Rs.ret b_295 (m_rt_vr d_295_20 rfl) ?_
  have e9 : G_newest S en = (up2 (up1 S 58 ((S.1 58) + (1 : Int32))) 608 (en).toNatClampNeg ((up1 S 58 ((S.1 58) + (1 : Int32))).1 58)) := by simp only [G_newest]
  exact ⟨rfl, by rw [e9]; exact h, hF⟩
def G_forgive (S : mS) (n pa : Int32) : mS := (up2 (up2 S 618 (((((2 : Int32) * n) + pa) - (1 : Int32))).toNatClampNeg (0 : Int32)) 619 (((((2 : Int32) * n) + pa) - (1 : Int32))).toNatClampNeg (0 : Int32))
theorem T_forgive {l : Launch} {w : List mM} {S : mS} {n pa : Int32} (h : m_RM S w) (g1 : m_ix ((((2 : Int32) * n) + pa) - (1 : Int32)) 14) (g2 : m_ix ((((2 : Int32) * n) + pa) - (1 : Int32)) 14) : m_Rs l M_319 (m_ent M_319 [.ref 583, .int n, .int pa] w) (fun v w' => v = none ∧ m_RM (G_forgive S n pa) w' ∧ m_Fr w w' m_dom) 0 0 0 0 := by
  show m_Rs l M_319 (0, [(0, .ref 583), (1, .int n), (2, .int pa)], [], w) _ 0 0 0 0
  have hF : m_Fr w w m_dom := m_Fr.refl
  refine m_Rs.n0 b_319 (x_aload_n d_319_0 rfl) ?_
  refine m_Rs.n0 b_319 (x_getf d_319_1 rfl h.1 rfl) ?_
  refine m_Rs.n0 b_319 (x_iconst (z := 2) d_319_4 (by decide)) ?_
  refine m_Rs.n0 b_319 (x_iload_n d_319_5 rfl) ?_
  refine m_Rs.n0 b_319 (x_imul d_319_6 rfl) ?_
  refine m_Rs.n0 b_319 (x_iload_n d_319_7 rfl) ?_
  refine m_Rs.n0 b_319 (x_iadd d_319_8 rfl) ?_
  refine m_Rs.n0 b_319 (x_iconst (z := 1) d_319_9 (by decide)) ?_
  refine m_Rs.n0 b_319 (x_isub d_319_10 rfl) ?_
  refine m_Rs.n0 b_319 (x_iconst (z := 0) d_319_11 (by decide)) ?_
  refine m_Rs.mias b_319 d_319_12 h hF 34 rfl ((g1)) (fun w1 h hF => ?_)
  refine m_Rs.n0 b_319 (x_aload_n d_319_13 rfl) ?_
  refine m_Rs.n0 b_319 (x_getf d_319_14 rfl h.1 rfl) ?_
  refine m_Rs.n0 b_319 (x_iconst (z := 2) d_319_17 (by decide)) ?_
  refine m_Rs.n0 b_319 (x_iload_n d_319_18 rfl) ?_
  refine m_Rs.n0 b_319 (x_imul d_319_19 rfl) ?_
  refine m_Rs.n0 b_319 (x_iload_n d_319_20 rfl) ?_
  refine m_Rs.n0 b_319 (x_iadd d_319_21 rfl) ?_
  refine m_Rs.n0 b_319 (x_iconst (z := 1) d_319_22 (by decide)) ?_
  refine m_Rs.n0 b_319 (x_isub d_319_23 rfl) ?_
  refine m_Rs.n0 b_319 (x_iconst (z := 0) d_319_24 (by decide)) ?_
  refine m_Rs.mias b_319 d_319_25 h hF 35 rfl ((g2)) (fun w1 h hF => ?_)
  refine m_Rs.ret b_319 (m_rt_vr d_319_26 rfl) ?_
  have e9 : G_forgive S n pa = (up2 (up2 S 618 (((((2 : Int32) * n) + pa) - (1 : Int32))).toNatClampNeg (0 : Int32)) 619 (((((2 : Int32) * n) + pa) - (1 : Int32))).toNatClampNeg (0 : Int32)) := by simp only [G_forgive]
  exact ⟨rfl, by rw [e9]; exact h, hF⟩
def G_strike (S : mS) (n pa : Int32) : mS := (cond (m_c2 .ge (m_rd 0 ((up2 S 618 (((((2 : Int32) * n) + pa) - (1 : Int32))).toNatClampNeg ((m_rd 0 (S.2 618) ((((2 : Int32) * n) + pa) - (1 : Int32))) + (1 : Int32))).2 618) ((((2 : Int32) * n) + pa) - (1 : Int32))) (2 : Int32)) (up2 (up2 (up2 S 618 (((((2 : Int32) * n) + pa) - (1 : Int32))).toNatClampNeg ((m_rd 0 (S.2 618) ((((2 : Int32) * n) + pa) - (1 : Int32))) + (1 : Int32))) 618 (((((2 : Int32) * n) + pa) - (1 : Int32))).toNatClampNeg (0 : Int32)) 619 (((((2 : Int32) * n) + pa) - (1 : Int32))).toNatClampNeg (((up2 (up2 S 618 (((((2 : Int32) * n) + pa) - (1 : Int32))).toNatClampNeg ((m_rd 0 (S.2 618) ((((2 : Int32) * n) + pa) - (1 : Int32))) + (1 : Int32))) 618 (((((2 : Int32) * n) + pa) - (1 : Int32))).toNatClampNeg (0 : Int32)).1 36) + (20 : Int32))) (up2 S 618 (((((2 : Int32) * n) + pa) - (1 : Int32))).toNatClampNeg ((m_rd 0 (S.2 618) ((((2 : Int32) * n) + pa) - (1 : Int32))) + (1 : Int32))))
theorem T_strike {l : Launch} {w : List mM} {S : mS} {n pa : Int32} (h : m_RM S w) (g1 : m_ix ((((2 : Int32) * n) + pa) - (1 : Int32)) 14) (g2 : m_ix ((((2 : Int32) * n) + pa) - (1 : Int32)) 14) (g3 : m_ix ((((2 : Int32) * n) + pa) - (1 : Int32)) 14) (g4 : m_c2 .ge (m_rd 0 ((up2 S 618 (((((2 : Int32) * n) + pa) - (1 : Int32))).toNatClampNeg ((m_rd 0 (S.2 618) ((((2 : Int32) * n) + pa) - (1 : Int32))) + (1 : Int32))).2 618) ((((2 : Int32) * n) + pa) - (1 : Int32))) (2 : Int32) = true → m_ix ((((2 : Int32) * n) + pa) - (1 : Int32)) 14) (g5 : m_c2 .ge (m_rd 0 ((up2 S 618 (((((2 : Int32) * n) + pa) - (1 : Int32))).toNatClampNeg ((m_rd 0 (S.2 618) ((((2 : Int32) * n) + pa) - (1 : Int32))) + (1 : Int32))).2 618) ((((2 : Int32) * n) + pa) - (1 : Int32))) (2 : Int32) = true → m_ix ((((2 : Int32) * n) + pa) - (1 : Int32)) 14) : m_Rs l M_331 (m_ent M_331 [.ref 583, .int n, .int pa] w) (fun v w' => v = none ∧ m_RM (G_strike S n pa) w' ∧ m_Fr w w' m_dom) 0 0 0 0 := by
  show m_Rs l M_331 (0, [(0, .ref 583), (1, .int n), (2, .int pa)], [], w) _ 0 0 0 0
  have hF : m_Fr w w m_dom := m_Fr.refl
  refine m_Rs.n0 b_331 (x_iconst (z := 2) d_331_0 (by decide)) ?_
  refine m_Rs.n0 b_331 (x_iload_n d_331_1 rfl) ?_
  refine m_Rs.n0 b_331 (x_imul d_331_2 rfl) ?_
  refine m_Rs.n0 b_331 (x_iload_n d_331_3 rfl) ?_
  refine m_Rs.n0 b_331 (x_iadd d_331_4 rfl) ?_
  refine m_Rs.n0 b_331 (x_iconst (z := 1) d_331_5 (by decide)) ?_
  refine m_Rs.n0 b_331 (x_isub d_331_6 rfl) ?_
  refine m_Rs.n0 b_331 (x_istore_n d_331_7 rfl (show m_put1 _ _ _ = [(3, _), (0, _), (1, _), (2, _)] from rfl)) ?_
  refine m_Rs.n0 b_331 (x_aload_n d_331_8 rfl) ?_
  refine m_Rs.n0 b_331 (x_getf d_331_9 rfl h.1 rfl) ?_
  refine m_Rs.n0 b_331 (x_iload_n d_331_12 rfl) ?_
  refine m_Rs.n0 b_331 (x_dup2 d_331_13 rfl rfl) ?_
  refine m_Rs.n0 b_331 (x_ldG d_331_14 (h.a 34 rfl) rfl ((g1))) ?_
  refine m_Rs.n0 b_331 (x_iconst (z := 1) d_331_15 (by decide)) ?_
  refine m_Rs.n0 b_331 (x_iadd d_331_16 rfl) ?_
  refine m_Rs.mias b_331 d_331_17 h hF 34 rfl ((g2)) (fun w1 h hF => ?_)
  refine m_Rs.n0 b_331 (x_aload_n d_331_18 rfl) ?_
  refine m_Rs.n0 b_331 (x_getf d_331_19 rfl h.1 rfl) ?_
  refine m_Rs.n0 b_331 (x_iload_n d_331_22 rfl) ?_
  refine m_Rs.n0 b_331 (x_ldG d_331_23 (h.a 34 rfl) rfl ((g3))) ?_
  refine m_Rs.n0 b_331 (x_iconst (z := 2) d_331_24 (by decide)) ?_
  cases hc1 : m_c2 .ge (m_rd 0 ((up2 S 618 (((((2 : Int32) * n) + pa) - (1 : Int32))).toNatClampNeg ((m_rd 0 (S.2 618) ((((2 : Int32) * n) + pa) - (1 : Int32))) + (1 : Int32))).2 618) ((((2 : Int32) * n) + pa) - (1 : Int32))) (2 : Int32) with
  | true =>
    refine m_Rs.n0 b_331 (x_ict d_331_25 rfl hc1) ?_
    refine m_Rs.n0 b_331 (x_aload_n d_331_29 rfl) ?_
    refine m_Rs.n0 b_331 (x_getf d_331_30 rfl h.1 rfl) ?_
    refine m_Rs.n0 b_331 (x_iload_n d_331_33 rfl) ?_
    refine m_Rs.n0 b_331 (x_iconst (z := 0) d_331_34 (by decide)) ?_
    refine m_Rs.mias b_331 d_331_35 h hF 34 rfl ((g4 hc1)) (fun w1 h hF => ?_)
    refine m_Rs.n0 b_331 (x_aload_n d_331_36 rfl) ?_
    refine m_Rs.n0 b_331 (x_getf d_331_37 rfl h.1 rfl) ?_
    refine m_Rs.n0 b_331 (x_iload_n d_331_40 rfl) ?_
    refine m_Rs.n0 b_331 (x_aload_n d_331_41 rfl) ?_
    refine m_Rs.n0 b_331 (x_getf d_331_42 rfl h.1 rfl) ?_
    refine m_Rs.n0 b_331 (x_bipush (z := 20) d_331_45 (by decide)) ?_
    refine m_Rs.n0 b_331 (x_iadd d_331_47 rfl) ?_
    refine m_Rs.mias b_331 d_331_48 h hF 35 rfl ((g5 hc1)) (fun w1 h hF => ?_)
    refine m_Rs.ret b_331 (m_rt_vr d_331_49 rfl) ?_
    have e9 : G_strike S n pa = (up2 (up2 (up2 S 618 (((((2 : Int32) * n) + pa) - (1 : Int32))).toNatClampNeg ((m_rd 0 (S.2 618) ((((2 : Int32) * n) + pa) - (1 : Int32))) + (1 : Int32))) 618 (((((2 : Int32) * n) + pa) - (1 : Int32))).toNatClampNeg (0 : Int32)) 619 (((((2 : Int32) * n) + pa) - (1 : Int32))).toNatClampNeg (((up2 (up2 S 618 (((((2 : Int32) * n) + pa) - (1 : Int32))).toNatClampNeg ((m_rd 0 (S.2 618) ((((2 : Int32) * n) + pa) - (1 : Int32))) + (1 : Int32))) 618 (((((2 : Int32) * n) + pa) - (1 : Int32))).toNatClampNeg (0 : Int32)).1 36) + (20 : Int32))) := by simp only [G_strike, hc1, cond_true, cond_false]
    exact ⟨rfl, by rw [e9]; exact h, hF⟩
  | false =>
    refine m_Rs.n0 b_331 (x_icf d_331_25 rfl hc1) ?_
    refine m_Rs.ret b_331 (m_rt_vr d_331_28 rfl) ?_
    have e9 : G_strike S n pa = (up2 S 618 (((((2 : Int32) * n) + pa) - (1 : Int32))).toNatClampNeg ((m_rd 0 (S.2 618) ((((2 : Int32) * n) + pa) - (1 : Int32))) + (1 : Int32))) := by simp only [G_strike, hc1, cond_true, cond_false]
    exact ⟨rfl, by rw [e9]; exact h, hF⟩
def G_spare (S : mS) : Int32 × mS := (((12 : Int32) * ((S.1 74) + (1 : Int32))), S)
theorem T_spare {l : Launch} {w : List mM} {S : mS} (h : m_RM S w) : m_Rs l M_275 (m_ent M_275 [.ref 583] w) (fun v w' => v = some (.int (G_spare S).1) ∧ m_RM (G_spare S).2 w' ∧ m_Fr w w' m_dom) 0 0 0 0 := by
  show m_Rs l M_275 (0, [(0, .ref 583)], [], w) _ 0 0 0 0
  have hF : m_Fr w w m_dom := m_Fr.refl
  refine m_Rs.n0 b_275 (x_bipush (z := 12) d_275_0 (by decide)) ?_
  refine m_Rs.n0 b_275 (x_aload_n d_275_2 rfl) ?_
  refine m_Rs.n0 b_275 (x_getf d_275_3 rfl h.1 rfl) ?_
  refine m_Rs.n0 b_275 (x_iconst (z := 1) d_275_6 (by decide)) ?_
  refine m_Rs.n0 b_275 (x_iadd d_275_7 rfl) ?_
  refine m_Rs.n0 b_275 (x_imul d_275_8 rfl) ?_
  refine m_Rs.ret b_275 (m_rt_ir d_275_9 rfl rfl) ?_
  have e9 : G_spare S = (((12 : Int32) * ((S.1 74) + (1 : Int32))), S) := by simp only [G_spare]
  exact ⟨by rw [e9], by rw [e9]; exact h, hF⟩
def G_mclose (S : mS) (rq status how frm : Int32) : mS := (cond (m_c2 .ne frm (1 : Int32)) (up2 (up2 (up2 (up2 (up2 (up2 (up2 (up2 (up1 (up2 S 621 (rq).toNatClampNeg (0 : Int32)) 71 (((up2 S 621 (rq).toNatClampNeg (0 : Int32)).1 71) + (1 : Int32))) 627 (((9 : Int32) * rq)).toNatClampNeg status) 627 ((((9 : Int32) * rq) + (1 : Int32))).toNatClampNeg (0 : Int32)) 627 ((((9 : Int32) * rq) + (2 : Int32))).toNatClampNeg (0 : Int32)) 627 ((((9 : Int32) * rq) + (3 : Int32))).toNatClampNeg (0 : Int32)) 627 ((((9 : Int32) * rq) + (4 : Int32))).toNatClampNeg (0 : Int32)) 627 ((((9 : Int32) * rq) + (5 : Int32))).toNatClampNeg ((up2 (up2 (up2 (up2 (up2 (up1 (up2 S 621 (rq).toNatClampNeg (0 : Int32)) 71 (((up2 S 621 (rq).toNatClampNeg (0 : Int32)).1 71) + (1 : Int32))) 627 (((9 : Int32) * rq)).toNatClampNeg status) 627 ((((9 : Int32) * rq) + (1 : Int32))).toNatClampNeg (0 : Int32)) 627 ((((9 : Int32) * rq) + (2 : Int32))).toNatClampNeg (0 : Int32)) 627 ((((9 : Int32) * rq) + (3 : Int32))).toNatClampNeg (0 : Int32)) 627 ((((9 : Int32) * rq) + (4 : Int32))).toNatClampNeg (0 : Int32)).1 36)) 627 ((((9 : Int32) * rq) + (7 : Int32))).toNatClampNeg (0 : Int32)) 627 ((((9 : Int32) * rq) + (8 : Int32))).toNatClampNeg (0 : Int32)) (up2 (up2 (up2 (up2 (up2 (up2 (up2 (up2 (up1 (up2 S 621 (rq).toNatClampNeg (0 : Int32)) 71 (((up2 S 621 (rq).toNatClampNeg (0 : Int32)).1 71) + (1 : Int32))) 627 (((9 : Int32) * rq)).toNatClampNeg status) 627 ((((9 : Int32) * rq) + (1 : Int32))).toNatClampNeg (m_rd 0 ((up2 (up1 (up2 S 621 (rq).toNatClampNeg (0 : Int32)) 71 (((up2 S 621 (rq).toNatClampNeg (0 : Int32)).1 71) + (1 : Int32))) 627 (((9 : Int32) * rq)).toNatClampNeg status).2 626) (0 : Int32))) 627 ((((9 : Int32) * rq) + (2 : Int32))).toNatClampNeg ((up2 (up2 (up1 (up2 S 621 (rq).toNatClampNeg (0 : Int32)) 71 (((up2 S 621 (rq).toNatClampNeg (0 : Int32)).1 71) + (1 : Int32))) 627 (((9 : Int32) * rq)).toNatClampNeg status) 627 ((((9 : Int32) * rq) + (1 : Int32))).toNatClampNeg (m_rd 0 ((up2 (up1 (up2 S 621 (rq).toNatClampNeg (0 : Int32)) 71 (((up2 S 621 (rq).toNatClampNeg (0 : Int32)).1 71) + (1 : Int32))) 627 (((9 : Int32) * rq)).toNatClampNeg status).2 626) (0 : Int32))).1 85)) 627 ((((9 : Int32) * rq) + (3 : Int32))).toNatClampNeg (m_rd 0 ((up2 (up2 (up2 (up1 (up2 S 621 (rq).toNatClampNeg (0 : Int32)) 71 (((up2 S 621 (rq).toNatClampNeg (0 : Int32)).1 71) + (1 : Int32))) 627 (((9 : Int32) * rq)).toNatClampNeg status) 627 ((((9 : Int32) * rq) + (1 : Int32))).toNatClampNeg (m_rd 0 ((up2 (up1 (up2 S 621 (rq).toNatClampNeg (0 : Int32)) 71 (((up2 S 621 (rq).toNatClampNeg (0 : Int32)).1 71) + (1 : Int32))) 627 (((9 : Int32) * rq)).toNatClampNeg status).2 626) (0 : Int32))) 627 ((((9 : Int32) * rq) + (2 : Int32))).toNatClampNeg ((up2 (up2 (up1 (up2 S 621 (rq).toNatClampNeg (0 : Int32)) 71 (((up2 S 621 (rq).toNatClampNeg (0 : Int32)).1 71) + (1 : Int32))) 627 (((9 : Int32) * rq)).toNatClampNeg status) 627 ((((9 : Int32) * rq) + (1 : Int32))).toNatClampNeg (m_rd 0 ((up2 (up1 (up2 S 621 (rq).toNatClampNeg (0 : Int32)) 71 (((up2 S 621 (rq).toNatClampNeg (0 : Int32)).1 71) + (1 : Int32))) 627 (((9 : Int32) * rq)).toNatClampNeg status).2 626) (0 : Int32))).1 85)).2 626) (1 : Int32))) 627 ((((9 : Int32) * rq) + (4 : Int32))).toNatClampNeg how) 627 ((((9 : Int32) * rq) + (5 : Int32))).toNatClampNeg ((up2 (up2 (up2 (up2 (up2 (up1 (up2 S 621 (rq).toNatClampNeg (0 : Int32)) 71 (((up2 S 621 (rq).toNatClampNeg (0 : Int32)).1 71) + (1 : Int32))) 627 (((9 : Int32) * rq)).toNatClampNeg status) 627 ((((9 : Int32) * rq) + (1 : Int32))).toNatClampNeg (m_rd 0 ((up2 (up1 (up2 S 621 (rq).toNatClampNeg (0 : Int32)) 71 (((up2 S 621 (rq).toNatClampNeg (0 : Int32)).1 71) + (1 : Int32))) 627 (((9 : Int32) * rq)).toNatClampNeg status).2 626) (0 : Int32))) 627 ((((9 : Int32) * rq) + (2 : Int32))).toNatClampNeg ((up2 (up2 (up1 (up2 S 621 (rq).toNatClampNeg (0 : Int32)) 71 (((up2 S 621 (rq).toNatClampNeg (0 : Int32)).1 71) + (1 : Int32))) 627 (((9 : Int32) * rq)).toNatClampNeg status) 627 ((((9 : Int32) * rq) + (1 : Int32))).toNatClampNeg (m_rd 0 ((up2 (up1 (up2 S 621 (rq).toNatClampNeg (0 : Int32)) 71 (((up2 S 621 (rq).toNatClampNeg (0 : Int32)).1 71) + (1 : Int32))) 627 (((9 : Int32) * rq)).toNatClampNeg status).2 626) (0 : Int32))).1 85)) 627 ((((9 : Int32) * rq) + (3 : Int32))).toNatClampNeg (m_rd 0 ((up2 (up2 (up2 (up1 (up2 S 621 (rq).toNatClampNeg (0 : Int32)) 71 (((up2 S 621 (rq).toNatClampNeg (0 : Int32)).1 71) + (1 : Int32))) 627 (((9 : Int32) * rq)).toNatClampNeg status) 627 ((((9 : Int32) * rq) + (1 : Int32))).toNatClampNeg (m_rd 0 ((up2 (up1 (up2 S 621 (rq).toNatClampNeg (0 : Int32)) 71 (((up2 S 621 (rq).toNatClampNeg (0 : Int32)).1 71) + (1 : Int32))) 627 (((9 : Int32) * rq)).toNatClampNeg status).2 626) (0 : Int32))) 627 ((((9 : Int32) * rq) + (2 : Int32))).toNatClampNeg ((up2 (up2 (up1 (up2 S 621 (rq).toNatClampNeg (0 : Int32)) 71 (((up2 S 621 (rq).toNatClampNeg (0 : Int32)).1 71) + (1 : Int32))) 627 (((9 : Int32) * rq)).toNatClampNeg status) 627 ((((9 : Int32) * rq) + (1 : Int32))).toNatClampNeg (m_rd 0 ((up2 (up1 (up2 S 621 (rq).toNatClampNeg (0 : Int32)) 71 (((up2 S 621 (rq).toNatClampNeg (0 : Int32)).1 71) + (1 : Int32))) 627 (((9 : Int32) * rq)).toNatClampNeg status).2 626) (0 : Int32))).1 85)).2 626) (1 : Int32))) 627 ((((9 : Int32) * rq) + (4 : Int32))).toNatClampNeg how).1 36)) 627 ((((9 : Int32) * rq) + (7 : Int32))).toNatClampNeg ((up2 (up2 (up2 (up2 (up2 (up2 (up1 (up2 S 621 (rq).toNatClampNeg (0 : Int32)) 71 (((up2 S 621 (rq).toNatClampNeg (0 : Int32)).1 71) + (1 : Int32))) 627 (((9 : Int32) * rq)).toNatClampNeg status) 627 ((((9 : Int32) * rq) + (1 : Int32))).toNatClampNeg (m_rd 0 ((up2 (up1 (up2 S 621 (rq).toNatClampNeg (0 : Int32)) 71 (((up2 S 621 (rq).toNatClampNeg (0 : Int32)).1 71) + (1 : Int32))) 627 (((9 : Int32) * rq)).toNatClampNeg status).2 626) (0 : Int32))) 627 ((((9 : Int32) * rq) + (2 : Int32))).toNatClampNeg ((up2 (up2 (up1 (up2 S 621 (rq).toNatClampNeg (0 : Int32)) 71 (((up2 S 621 (rq).toNatClampNeg (0 : Int32)).1 71) + (1 : Int32))) 627 (((9 : Int32) * rq)).toNatClampNeg status) 627 ((((9 : Int32) * rq) + (1 : Int32))).toNatClampNeg (m_rd 0 ((up2 (up1 (up2 S 621 (rq).toNatClampNeg (0 : Int32)) 71 (((up2 S 621 (rq).toNatClampNeg (0 : Int32)).1 71) + (1 : Int32))) 627 (((9 : Int32) * rq)).toNatClampNeg status).2 626) (0 : Int32))).1 85)) 627 ((((9 : Int32) * rq) + (3 : Int32))).toNatClampNeg (m_rd 0 ((up2 (up2 (up2 (up1 (up2 S 621 (rq).toNatClampNeg (0 : Int32)) 71 (((up2 S 621 (rq).toNatClampNeg (0 : Int32)).1 71) + (1 : Int32))) 627 (((9 : Int32) * rq)).toNatClampNeg status) 627 ((((9 : Int32) * rq) + (1 : Int32))).toNatClampNeg (m_rd 0 ((up2 (up1 (up2 S 621 (rq).toNatClampNeg (0 : Int32)) 71 (((up2 S 621 (rq).toNatClampNeg (0 : Int32)).1 71) + (1 : Int32))) 627 (((9 : Int32) * rq)).toNatClampNeg status).2 626) (0 : Int32))) 627 ((((9 : Int32) * rq) + (2 : Int32))).toNatClampNeg ((up2 (up2 (up1 (up2 S 621 (rq).toNatClampNeg (0 : Int32)) 71 (((up2 S 621 (rq).toNatClampNeg (0 : Int32)).1 71) + (1 : Int32))) 627 (((9 : Int32) * rq)).toNatClampNeg status) 627 ((((9 : Int32) * rq) + (1 : Int32))).toNatClampNeg (m_rd 0 ((up2 (up1 (up2 S 621 (rq).toNatClampNeg (0 : Int32)) 71 (((up2 S 621 (rq).toNatClampNeg (0 : Int32)).1 71) + (1 : Int32))) 627 (((9 : Int32) * rq)).toNatClampNeg status).2 626) (0 : Int32))).1 85)).2 626) (1 : Int32))) 627 ((((9 : Int32) * rq) + (4 : Int32))).toNatClampNeg how) 627 ((((9 : Int32) * rq) + (5 : Int32))).toNatClampNeg ((up2 (up2 (up2 (up2 (up2 (up1 (up2 S 621 (rq).toNatClampNeg (0 : Int32)) 71 (((up2 S 621 (rq).toNatClampNeg (0 : Int32)).1 71) + (1 : Int32))) 627 (((9 : Int32) * rq)).toNatClampNeg status) 627 ((((9 : Int32) * rq) + (1 : Int32))).toNatClampNeg (m_rd 0 ((up2 (up1 (up2 S 621 (rq).toNatClampNeg (0 : Int32)) 71 (((up2 S 621 (rq).toNatClampNeg (0 : Int32)).1 71) + (1 : Int32))) 627 (((9 : Int32) * rq)).toNatClampNeg status).2 626) (0 : Int32))) 627 ((((9 : Int32) * rq) + (2 : Int32))).toNatClampNeg ((up2 (up2 (up1 (up2 S 621 (rq).toNatClampNeg (0 : Int32)) 71 (((up2 S 621 (rq).toNatClampNeg (0 : Int32)).1 71) + (1 : Int32))) 627 (((9 : Int32) * rq)).toNatClampNeg status) 627 ((((9 : Int32) * rq) + (1 : Int32))).toNatClampNeg (m_rd 0 ((up2 (up1 (up2 S 621 (rq).toNatClampNeg (0 : Int32)) 71 (((up2 S 621 (rq).toNatClampNeg (0 : Int32)).1 71) + (1 : Int32))) 627 (((9 : Int32) * rq)).toNatClampNeg status).2 626) (0 : Int32))).1 85)) 627 ((((9 : Int32) * rq) + (3 : Int32))).toNatClampNeg (m_rd 0 ((up2 (up2 (up2 (up1 (up2 S 621 (rq).toNatClampNeg (0 : Int32)) 71 (((up2 S 621 (rq).toNatClampNeg (0 : Int32)).1 71) + (1 : Int32))) 627 (((9 : Int32) * rq)).toNatClampNeg status) 627 ((((9 : Int32) * rq) + (1 : Int32))).toNatClampNeg (m_rd 0 ((up2 (up1 (up2 S 621 (rq).toNatClampNeg (0 : Int32)) 71 (((up2 S 621 (rq).toNatClampNeg (0 : Int32)).1 71) + (1 : Int32))) 627 (((9 : Int32) * rq)).toNatClampNeg status).2 626) (0 : Int32))) 627 ((((9 : Int32) * rq) + (2 : Int32))).toNatClampNeg ((up2 (up2 (up1 (up2 S 621 (rq).toNatClampNeg (0 : Int32)) 71 (((up2 S 621 (rq).toNatClampNeg (0 : Int32)).1 71) + (1 : Int32))) 627 (((9 : Int32) * rq)).toNatClampNeg status) 627 ((((9 : Int32) * rq) + (1 : Int32))).toNatClampNeg (m_rd 0 ((up2 (up1 (up2 S 621 (rq).toNatClampNeg (0 : Int32)) 71 (((up2 S 621 (rq).toNatClampNeg (0 : Int32)).1 71) + (1 : Int32))) 627 (((9 : Int32) * rq)).toNatClampNeg status).2 626) (0 : Int32))).1 85)).2 626) (1 : Int32))) 627 ((((9 : Int32) * rq) + (4 : Int32))).toNatClampNeg how).1 36)).1 87)) 627 ((((9 : Int32) * rq) + (8 : Int32))).toNatClampNeg (m_rd 0 ((up2 (up2 (up2 (up2 (up2 (up2 (up2 (up1 (up2 S 621 (rq).toNatClampNeg (0 : Int32)) 71 (((up2 S 621 (rq).toNatClampNeg (0 : Int32)).1 71) + (1 : Int32))) 627 (((9 : Int32) * rq)).toNatClampNeg status) 627 ((((9 : Int32) * rq) + (1 : Int32))).toNatClampNeg (m_rd 0 ((up2 (up1 (up2 S 621 (rq).toNatClampNeg (0 : Int32)) 71 (((up2 S 621 (rq).toNatClampNeg (0 : Int32)).1 71) + (1 : Int32))) 627 (((9 : Int32) * rq)).toNatClampNeg status).2 626) (0 : Int32))) 627 ((((9 : Int32) * rq) + (2 : Int32))).toNatClampNeg ((up2 (up2 (up1 (up2 S 621 (rq).toNatClampNeg (0 : Int32)) 71 (((up2 S 621 (rq).toNatClampNeg (0 : Int32)).1 71) + (1 : Int32))) 627 (((9 : Int32) * rq)).toNatClampNeg status) 627 ((((9 : Int32) * rq) + (1 : Int32))).toNatClampNeg (m_rd 0 ((up2 (up1 (up2 S 621 (rq).toNatClampNeg (0 : Int32)) 71 (((up2 S 621 (rq).toNatClampNeg (0 : Int32)).1 71) + (1 : Int32))) 627 (((9 : Int32) * rq)).toNatClampNeg status).2 626) (0 : Int32))).1 85)) 627 ((((9 : Int32) * rq) + (3 : Int32))).toNatClampNeg (m_rd 0 ((up2 (up2 (up2 (up1 (up2 S 621 (rq).toNatClampNeg (0 : Int32)) 71 (((up2 S 621 (rq).toNatClampNeg (0 : Int32)).1 71) + (1 : Int32))) 627 (((9 : Int32) * rq)).toNatClampNeg status) 627 ((((9 : Int32) * rq) + (1 : Int32))).toNatClampNeg (m_rd 0 ((up2 (up1 (up2 S 621 (rq).toNatClampNeg (0 : Int32)) 71 (((up2 S 621 (rq).toNatClampNeg (0 : Int32)).1 71) + (1 : Int32))) 627 (((9 : Int32) * rq)).toNatClampNeg status).2 626) (0 : Int32))) 627 ((((9 : Int32) * rq) + (2 : Int32))).toNatClampNeg ((up2 (up2 (up1 (up2 S 621 (rq).toNatClampNeg (0 : Int32)) 71 (((up2 S 621 (rq).toNatClampNeg (0 : Int32)).1 71) + (1 : Int32))) 627 (((9 : Int32) * rq)).toNatClampNeg status) 627 ((((9 : Int32) * rq) + (1 : Int32))).toNatClampNeg (m_rd 0 ((up2 (up1 (up2 S 621 (rq).toNatClampNeg (0 : Int32)) 71 (((up2 S 621 (rq).toNatClampNeg (0 : Int32)).1 71) + (1 : Int32))) 627 (((9 : Int32) * rq)).toNatClampNeg status).2 626) (0 : Int32))).1 85)).2 626) (1 : Int32))) 627 ((((9 : Int32) * rq) + (4 : Int32))).toNatClampNeg how) 627 ((((9 : Int32) * rq) + (5 : Int32))).toNatClampNeg ((up2 (up2 (up2 (up2 (up2 (up1 (up2 S 621 (rq).toNatClampNeg (0 : Int32)) 71 (((up2 S 621 (rq).toNatClampNeg (0 : Int32)).1 71) + (1 : Int32))) 627 (((9 : Int32) * rq)).toNatClampNeg status) 627 ((((9 : Int32) * rq) + (1 : Int32))).toNatClampNeg (m_rd 0 ((up2 (up1 (up2 S 621 (rq).toNatClampNeg (0 : Int32)) 71 (((up2 S 621 (rq).toNatClampNeg (0 : Int32)).1 71) + (1 : Int32))) 627 (((9 : Int32) * rq)).toNatClampNeg status).2 626) (0 : Int32))) 627 ((((9 : Int32) * rq) + (2 : Int32))).toNatClampNeg ((up2 (up2 (up1 (up2 S 621 (rq).toNatClampNeg (0 : Int32)) 71 (((up2 S 621 (rq).toNatClampNeg (0 : Int32)).1 71) + (1 : Int32))) 627 (((9 : Int32) * rq)).toNatClampNeg status) 627 ((((9 : Int32) * rq) + (1 : Int32))).toNatClampNeg (m_rd 0 ((up2 (up1 (up2 S 621 (rq).toNatClampNeg (0 : Int32)) 71 (((up2 S 621 (rq).toNatClampNeg (0 : Int32)).1 71) + (1 : Int32))) 627 (((9 : Int32) * rq)).toNatClampNeg status).2 626) (0 : Int32))).1 85)) 627 ((((9 : Int32) * rq) + (3 : Int32))).toNatClampNeg (m_rd 0 ((up2 (up2 (up2 (up1 (up2 S 621 (rq).toNatClampNeg (0 : Int32)) 71 (((up2 S 621 (rq).toNatClampNeg (0 : Int32)).1 71) + (1 : Int32))) 627 (((9 : Int32) * rq)).toNatClampNeg status) 627 ((((9 : Int32) * rq) + (1 : Int32))).toNatClampNeg (m_rd 0 ((up2 (up1 (up2 S 621 (rq).toNatClampNeg (0 : Int32)) 71 (((up2 S 621 (rq).toNatClampNeg (0 : Int32)).1 71) + (1 : Int32))) 627 (((9 : Int32) * rq)).toNatClampNeg status).2 626) (0 : Int32))) 627 ((((9 : Int32) * rq) + (2 : Int32))).toNatClampNeg ((up2 (up2 (up1 (up2 S 621 (rq).toNatClampNeg (0 : Int32)) 71 (((up2 S 621 (rq).toNatClampNeg (0 : Int32)).1 71) + (1 : Int32))) 627 (((9 : Int32) * rq)).toNatClampNeg status) 627 ((((9 : Int32) * rq) + (1 : Int32))).toNatClampNeg (m_rd 0 ((up2 (up1 (up2 S 621 (rq).toNatClampNeg (0 : Int32)) 71 (((up2 S 621 (rq).toNatClampNeg (0 : Int32)).1 71) + (1 : Int32))) 627 (((9 : Int32) * rq)).toNatClampNeg status).2 626) (0 : Int32))).1 85)).2 626) (1 : Int32))) 627 ((((9 : Int32) * rq) + (4 : Int32))).toNatClampNeg how).1 36)) 627 ((((9 : Int32) * rq) + (7 : Int32))).toNatClampNeg ((up2 (up2 (up2 (up2 (up2 (up2 (up1 (up2 S 621 (rq).toNatClampNeg (0 : Int32)) 71 (((up2 S 621 (rq).toNatClampNeg (0 : Int32)).1 71) + (1 : Int32))) 627 (((9 : Int32) * rq)).toNatClampNeg status) 627 ((((9 : Int32) * rq) + (1 : Int32))).toNatClampNeg (m_rd 0 ((up2 (up1 (up2 S 621 (rq).toNatClampNeg (0 : Int32)) 71 (((up2 S 621 (rq).toNatClampNeg (0 : Int32)).1 71) + (1 : Int32))) 627 (((9 : Int32) * rq)).toNatClampNeg status).2 626) (0 : Int32))) 627 ((((9 : Int32) * rq) + (2 : Int32))).toNatClampNeg ((up2 (up2 (up1 (up2 S 621 (rq).toNatClampNeg (0 : Int32)) 71 (((up2 S 621 (rq).toNatClampNeg (0 : Int32)).1 71) + (1 : Int32))) 627 (((9 : Int32) * rq)).toNatClampNeg status) 627 ((((9 : Int32) * rq) + (1 : Int32))).toNatClampNeg (m_rd 0 ((up2 (up1 (up2 S 621 (rq).toNatClampNeg (0 : Int32)) 71 (((up2 S 621 (rq).toNatClampNeg (0 : Int32)).1 71) + (1 : Int32))) 627 (((9 : Int32) * rq)).toNatClampNeg status).2 626) (0 : Int32))).1 85)) 627 ((((9 : Int32) * rq) + (3 : Int32))).toNatClampNeg (m_rd 0 ((up2 (up2 (up2 (up1 (up2 S 621 (rq).toNatClampNeg (0 : Int32)) 71 (((up2 S 621 (rq).toNatClampNeg (0 : Int32)).1 71) + (1 : Int32))) 627 (((9 : Int32) * rq)).toNatClampNeg status) 627 ((((9 : Int32) * rq) + (1 : Int32))).toNatClampNeg (m_rd 0 ((up2 (up1 (up2 S 621 (rq).toNatClampNeg (0 : Int32)) 71 (((up2 S 621 (rq).toNatClampNeg (0 : Int32)).1 71) + (1 : Int32))) 627 (((9 : Int32) * rq)).toNatClampNeg status).2 626) (0 : Int32))) 627 ((((9 : Int32) * rq) + (2 : Int32))).toNatClampNeg ((up2 (up2 (up1 (up2 S 621 (rq).toNatClampNeg (0 : Int32)) 71 (((up2 S 621 (rq).toNatClampNeg (0 : Int32)).1 71) + (1 : Int32))) 627 (((9 : Int32) * rq)).toNatClampNeg status) 627 ((((9 : Int32) * rq) + (1 : Int32))).toNatClampNeg (m_rd 0 ((up2 (up1 (up2 S 621 (rq).toNatClampNeg (0 : Int32)) 71 (((up2 S 621 (rq).toNatClampNeg (0 : Int32)).1 71) + (1 : Int32))) 627 (((9 : Int32) * rq)).toNatClampNeg status).2 626) (0 : Int32))).1 85)).2 626) (1 : Int32))) 627 ((((9 : Int32) * rq) + (4 : Int32))).toNatClampNeg how) 627 ((((9 : Int32) * rq) + (5 : Int32))).toNatClampNeg ((up2 (up2 (up2 (up2 (up2 (up1 (up2 S 621 (rq).toNatClampNeg (0 : Int32)) 71 (((up2 S 621 (rq).toNatClampNeg (0 : Int32)).1 71) + (1 : Int32))) 627 (((9 : Int32) * rq)).toNatClampNeg status) 627 ((((9 : Int32) * rq) + (1 : Int32))).toNatClampNeg (m_rd 0 ((up2 (up1 (up2 S 621 (rq).toNatClampNeg (0 : Int32)) 71 (((up2 S 621 (rq).toNatClampNeg (0 : Int32)).1 71) + (1 : Int32))) 627 (((9 : Int32) * rq)).toNatClampNeg status).2 626) (0 : Int32))) 627 ((((9 : Int32) * rq) + (2 : Int32))).toNatClampNeg ((up2 (up2 (up1 (up2 S 621 (rq).toNatClampNeg (0 : Int32)) 71 (((up2 S 621 (rq).toNatClampNeg (0 : Int32)).1 71) + (1 : Int32))) 627 (((9 : Int32) * rq)).toNatClampNeg status) 627 ((((9 : Int32) * rq) + (1 : Int32))).toNatClampNeg (m_rd 0 ((up2 (up1 (up2 S 621 (rq).toNatClampNeg (0 : Int32)) 71 (((up2 S 621 (rq).toNatClampNeg (0 : Int32)).1 71) + (1 : Int32))) 627 (((9 : Int32) * rq)).toNatClampNeg status).2 626) (0 : Int32))).1 85)) 627 ((((9 : Int32) * rq) + (3 : Int32))).toNatClampNeg (m_rd 0 ((up2 (up2 (up2 (up1 (up2 S 621 (rq).toNatClampNeg (0 : Int32)) 71 (((up2 S 621 (rq).toNatClampNeg (0 : Int32)).1 71) + (1 : Int32))) 627 (((9 : Int32) * rq)).toNatClampNeg status) 627 ((((9 : Int32) * rq) + (1 : Int32))).toNatClampNeg (m_rd 0 ((up2 (up1 (up2 S 621 (rq).toNatClampNeg (0 : Int32)) 71 (((up2 S 621 (rq).toNatClampNeg (0 : Int32)).1 71) + (1 : Int32))) 627 (((9 : Int32) * rq)).toNatClampNeg status).2 626) (0 : Int32))) 627 ((((9 : Int32) * rq) + (2 : Int32))).toNatClampNeg ((up2 (up2 (up1 (up2 S 621 (rq).toNatClampNeg (0 : Int32)) 71 (((up2 S 621 (rq).toNatClampNeg (0 : Int32)).1 71) + (1 : Int32))) 627 (((9 : Int32) * rq)).toNatClampNeg status) 627 ((((9 : Int32) * rq) + (1 : Int32))).toNatClampNeg (m_rd 0 ((up2 (up1 (up2 S 621 (rq).toNatClampNeg (0 : Int32)) 71 (((up2 S 621 (rq).toNatClampNeg (0 : Int32)).1 71) + (1 : Int32))) 627 (((9 : Int32) * rq)).toNatClampNeg status).2 626) (0 : Int32))).1 85)).2 626) (1 : Int32))) 627 ((((9 : Int32) * rq) + (4 : Int32))).toNatClampNeg how).1 36)).1 87)).2 626) (8 : Int32))))
theorem T_mclose {l : Launch} {w : List mM} {S : mS} {rq status how frm : Int32} (h : m_RM S w) (g1 : m_ix rq 300) (g2 : m_ix ((9 : Int32) * rq) 2700) (g3 : m_c2 .ne frm (1 : Int32) = true → m_ix (((9 : Int32) * rq) + (1 : Int32)) 2700) (g4 : m_c2 .ne frm (1 : Int32) = true → m_ix (((9 : Int32) * rq) + (2 : Int32)) 2700) (g5 : m_c2 .ne frm (1 : Int32) = true → m_ix (((9 : Int32) * rq) + (3 : Int32)) 2700) (g6 : m_c2 .ne frm (1 : Int32) = true → m_ix (((9 : Int32) * rq) + (4 : Int32)) 2700) (g7 : m_c2 .ne frm (1 : Int32) = true → m_ix (((9 : Int32) * rq) + (5 : Int32)) 2700) (g8 : m_c2 .ne frm (1 : Int32) = true → m_ix (((9 : Int32) * rq) + (7 : Int32)) 2700) (g9 : m_c2 .ne frm (1 : Int32) = true → m_ix (((9 : Int32) * rq) + (8 : Int32)) 2700) (g10 : m_c2 .ne frm (1 : Int32) = false → m_ix (0 : Int32) 9) (g11 : m_c2 .ne frm (1 : Int32) = false → m_ix (((9 : Int32) * rq) + (1 : Int32)) 2700) (g12 : m_c2 .ne frm (1 : Int32) = false → m_ix (((9 : Int32) * rq) + (2 : Int32)) 2700) (g13 : m_c2 .ne frm (1 : Int32) = false → m_ix (1 : Int32) 9) (g14 : m_c2 .ne frm (1 : Int32) = false → m_ix (((9 : Int32) * rq) + (3 : Int32)) 2700) (g15 : m_c2 .ne frm (1 : Int32) = false → m_ix (((9 : Int32) * rq) + (4 : Int32)) 2700) (g16 : m_c2 .ne frm (1 : Int32) = false → m_ix (((9 : Int32) * rq) + (5 : Int32)) 2700) (g17 : m_c2 .ne frm (1 : Int32) = false → m_ix (((9 : Int32) * rq) + (7 : Int32)) 2700) (g18 : m_c2 .ne frm (1 : Int32) = false → m_ix (8 : Int32) 9) (g19 : m_c2 .ne frm (1 : Int32) = false → m_ix (((9 : Int32) * rq) + (8 : Int32)) 2700) : m_Rs l M_270 (m_ent M_270 [.ref 583, .int rq, .int status, .int how, .int frm] w) (fun v w' => v = none ∧ m_RM (G_mclose S rq status how frm) w' ∧ m_Fr w w' m_dom) 0 0 0 0 := by
  show m_Rs l M_270 (0, [(0, .ref 583), (1, .int rq), (2, .int status), (3, .int how), (4, .int frm)], [], w) _ 0 0 0 0
  have hF : m_Fr w w m_dom := m_Fr.refl
  refine m_Rs.n0 b_270 (x_bipush (z := 9) d_270_0 (by decide)) ?_
  refine m_Rs.n0 b_270 (x_iload_n d_270_2 rfl) ?_
  refine m_Rs.n0 b_270 (x_imul d_270_3 rfl) ?_
  refine m_Rs.n0 b_270 (x_istore d_270_4 rfl (show m_put1 _ _ _ = [(5, _), (0, _), (1, _), (2, _), (3, _), (4, _)] from rfl)) ?_
  refine m_Rs.n0 b_270 (x_aload_n d_270_6 rfl) ?_
  refine m_Rs.n0 b_270 (x_getf d_270_7 rfl h.1 rfl) ?_
  refine m_Rs.n0 b_270 (x_iload_n d_270_10 rfl) ?_
  refine m_Rs.n0 b_270 (x_iconst (z := 0) d_270_11 (by decide)) ?_
  refine m_Rs.mbas b_270 d_270_12 h hF 37 rfl ((g1)) rfl (fun w1 h hF => ?_)
  refine m_Rs.n0 b_270 (x_aload_n d_270_13 rfl) ?_
  refine m_Rs.n0 b_270 (x_dup d_270_14 rfl) ?_
  refine m_Rs.n0 b_270 (x_getf d_270_15 rfl h.1 rfl) ?_
  refine m_Rs.n0 b_270 (x_iconst (z := 1) d_270_18 (by decide)) ?_
  refine m_Rs.n0 b_270 (x_iadd d_270_19 rfl) ?_
  refine m_Rs.mput b_270 d_270_20 h hF rfl rfl rfl rfl rfl rfl (fun w1 h hF => ?_)
  refine m_Rs.n0 b_270 (x_aload_n d_270_23 rfl) ?_
  refine m_Rs.n0 b_270 (x_getf d_270_24 rfl h.1 rfl) ?_
  refine m_Rs.n0 b_270 (x_iload d_270_27 rfl) ?_
  refine m_Rs.n0 b_270 (x_iload_n d_270_29 rfl) ?_
  refine m_Rs.mias b_270 d_270_30 h hF 43 rfl ((g2)) (fun w1 h hF => ?_)
  refine m_Rs.n0 b_270 (x_aload_n d_270_31 rfl) ?_
  refine m_Rs.n0 b_270 (x_getf d_270_32 rfl h.1 rfl) ?_
  refine m_Rs.n0 b_270 (x_iload d_270_35 rfl) ?_
  refine m_Rs.n0 b_270 (x_iconst (z := 1) d_270_37 (by decide)) ?_
  refine m_Rs.n0 b_270 (x_iadd d_270_38 rfl) ?_
  refine m_Rs.n0 b_270 (x_iload d_270_39 rfl) ?_
  refine m_Rs.n0 b_270 (x_iconst (z := 1) d_270_41 (by decide)) ?_
  cases hc1 : m_c2 .ne frm (1 : Int32) with
  | true =>
    refine m_Rs.n0 b_270 (x_ict d_270_42 rfl hc1) ?_
    refine m_Rs.n0 b_270 (x_iconst (z := 0) d_270_54 (by decide)) ?_
    refine m_Rs.mias b_270 d_270_55 h hF 43 rfl ((g3 hc1)) (fun w1 h hF => ?_)
    refine m_Rs.n0 b_270 (x_aload_n d_270_56 rfl) ?_
    refine m_Rs.n0 b_270 (x_getf d_270_57 rfl h.1 rfl) ?_
    refine m_Rs.n0 b_270 (x_iload d_270_60 rfl) ?_
    refine m_Rs.n0 b_270 (x_iconst (z := 2) d_270_62 (by decide)) ?_
    refine m_Rs.n0 b_270 (x_iadd d_270_63 rfl) ?_
    refine m_Rs.n0 b_270 (x_iload d_270_64 rfl) ?_
    refine m_Rs.n0 b_270 (x_iconst (z := 1) d_270_66 (by decide)) ?_
    refine m_Rs.n0 b_270 (x_ict d_270_67 rfl hc1) ?_
    refine m_Rs.n0 b_270 (x_iconst (z := 0) d_270_77 (by decide)) ?_
    refine m_Rs.mias b_270 d_270_78 h hF 43 rfl ((g4 hc1)) (fun w1 h hF => ?_)
    refine m_Rs.n0 b_270 (x_aload_n d_270_79 rfl) ?_
    refine m_Rs.n0 b_270 (x_getf d_270_80 rfl h.1 rfl) ?_
    refine m_Rs.n0 b_270 (x_iload d_270_83 rfl) ?_
    refine m_Rs.n0 b_270 (x_iconst (z := 3) d_270_85 (by decide)) ?_
    refine m_Rs.n0 b_270 (x_iadd d_270_86 rfl) ?_
    refine m_Rs.n0 b_270 (x_iload d_270_87 rfl) ?_
    refine m_Rs.n0 b_270 (x_iconst (z := 1) d_270_89 (by decide)) ?_
    refine m_Rs.n0 b_270 (x_ict d_270_90 rfl hc1) ?_
    refine m_Rs.n0 b_270 (x_iconst (z := 0) d_270_102 (by decide)) ?_
    refine m_Rs.mias b_270 d_270_103 h hF 43 rfl ((g5 hc1)) (fun w1 h hF => ?_)
    refine m_Rs.n0 b_270 (x_aload_n d_270_104 rfl) ?_
    refine m_Rs.n0 b_270 (x_getf d_270_105 rfl h.1 rfl) ?_
    refine m_Rs.n0 b_270 (x_iload d_270_108 rfl) ?_
    refine m_Rs.n0 b_270 (x_iconst (z := 4) d_270_110 (by decide)) ?_
    refine m_Rs.n0 b_270 (x_iadd d_270_111 rfl) ?_
    refine m_Rs.n0 b_270 (x_iload d_270_112 rfl) ?_
    refine m_Rs.n0 b_270 (x_iconst (z := 1) d_270_114 (by decide)) ?_
    refine m_Rs.n0 b_270 (x_ict d_270_115 rfl hc1) ?_
    refine m_Rs.n0 b_270 (x_iconst (z := 0) d_270_122 (by decide)) ?_
    refine m_Rs.mias b_270 d_270_123 h hF 43 rfl ((g6 hc1)) (fun w1 h hF => ?_)
    refine m_Rs.n0 b_270 (x_aload_n d_270_124 rfl) ?_
    refine m_Rs.n0 b_270 (x_getf d_270_125 rfl h.1 rfl) ?_
    refine m_Rs.n0 b_270 (x_iload d_270_128 rfl) ?_
    refine m_Rs.n0 b_270 (x_iconst (z := 5) d_270_130 (by decide)) ?_
    refine m_Rs.n0 b_270 (x_iadd d_270_131 rfl) ?_
    refine m_Rs.n0 b_270 (x_aload_n d_270_132 rfl) ?_
    refine m_Rs.n0 b_270 (x_getf d_270_133 rfl h.1 rfl) ?_
    refine m_Rs.mias b_270 d_270_136 h hF 43 rfl ((g7 hc1)) (fun w1 h hF => ?_)
    refine m_Rs.n0 b_270 (x_aload_n d_270_137 rfl) ?_
    refine m_Rs.n0 b_270 (x_getf d_270_138 rfl h.1 rfl) ?_
    refine m_Rs.n0 b_270 (x_iload d_270_141 rfl) ?_
    refine m_Rs.n0 b_270 (x_bipush (z := 7) d_270_143 (by decide)) ?_
    refine m_Rs.n0 b_270 (x_iadd d_270_145 rfl) ?_
    refine m_Rs.n0 b_270 (x_iload d_270_146 rfl) ?_
    refine m_Rs.n0 b_270 (x_iconst (z := 1) d_270_148 (by decide)) ?_
    refine m_Rs.n0 b_270 (x_ict d_270_149 rfl hc1) ?_
    refine m_Rs.n0 b_270 (x_iconst (z := 0) d_270_159 (by decide)) ?_
    refine m_Rs.mias b_270 d_270_160 h hF 43 rfl ((g8 hc1)) (fun w1 h hF => ?_)
    refine m_Rs.n0 b_270 (x_aload_n d_270_161 rfl) ?_
    refine m_Rs.n0 b_270 (x_getf d_270_162 rfl h.1 rfl) ?_
    refine m_Rs.n0 b_270 (x_iload d_270_165 rfl) ?_
    refine m_Rs.n0 b_270 (x_bipush (z := 8) d_270_167 (by decide)) ?_
    refine m_Rs.n0 b_270 (x_iadd d_270_169 rfl) ?_
    refine m_Rs.n0 b_270 (x_iload d_270_170 rfl) ?_
    refine m_Rs.n0 b_270 (x_iconst (z := 1) d_270_172 (by decide)) ?_
    refine m_Rs.n0 b_270 (x_ict d_270_173 rfl hc1) ?_
    refine m_Rs.n0 b_270 (x_iconst (z := 0) d_270_186 (by decide)) ?_
    refine m_Rs.mias b_270 d_270_187 h hF 43 rfl ((g9 hc1)) (fun w1 h hF => ?_)
    refine m_Rs.ret b_270 (m_rt_vr d_270_188 rfl) ?_
    have e9 : G_mclose S rq status how frm = (up2 (up2 (up2 (up2 (up2 (up2 (up2 (up2 (up1 (up2 S 621 (rq).toNatClampNeg (0 : Int32)) 71 (((up2 S 621 (rq).toNatClampNeg (0 : Int32)).1 71) + (1 : Int32))) 627 (((9 : Int32) * rq)).toNatClampNeg status) 627 ((((9 : Int32) * rq) + (1 : Int32))).toNatClampNeg (0 : Int32)) 627 ((((9 : Int32) * rq) + (2 : Int32))).toNatClampNeg (0 : Int32)) 627 ((((9 : Int32) * rq) + (3 : Int32))).toNatClampNeg (0 : Int32)) 627 ((((9 : Int32) * rq) + (4 : Int32))).toNatClampNeg (0 : Int32)) 627 ((((9 : Int32) * rq) + (5 : Int32))).toNatClampNeg ((up2 (up2 (up2 (up2 (up2 (up1 (up2 S 621 (rq).toNatClampNeg (0 : Int32)) 71 (((up2 S 621 (rq).toNatClampNeg (0 : Int32)).1 71) + (1 : Int32))) 627 (((9 : Int32) * rq)).toNatClampNeg status) 627 ((((9 : Int32) * rq) + (1 : Int32))).toNatClampNeg (0 : Int32)) 627 ((((9 : Int32) * rq) + (2 : Int32))).toNatClampNeg (0 : Int32)) 627 ((((9 : Int32) * rq) + (3 : Int32))).toNatClampNeg (0 : Int32)) 627 ((((9 : Int32) * rq) + (4 : Int32))).toNatClampNeg (0 : Int32)).1 36)) 627 ((((9 : Int32) * rq) + (7 : Int32))).toNatClampNeg (0 : Int32)) 627 ((((9 : Int32) * rq) + (8 : Int32))).toNatClampNeg (0 : Int32)) := by simp only [G_mclose, hc1, cond_true, cond_false]
    exact ⟨rfl, by rw [e9]; exact h, hF⟩
  | false =>
    refine m_Rs.n0 b_270 (x_icf d_270_42 rfl hc1) ?_
    refine m_Rs.n0 b_270 (x_aload_n d_270_45 rfl) ?_
    refine m_Rs.n0 b_270 (x_getf d_270_46 rfl h.1 rfl) ?_
    refine m_Rs.n0 b_270 (x_iconst (z := 0) d_270_49 (by decide)) ?_
    refine m_Rs.n0 b_270 (x_ldG d_270_50 (h.a 42 rfl) rfl ((g10 hc1))) ?_
    refine m_Rs.n0 b_270 (x_goto d_270_51 rfl) ?_
    refine m_Rs.mias b_270 d_270_55 h hF 43 rfl ((g11 hc1)) (fun w1 h hF => ?_)
    refine m_Rs.n0 b_270 (x_aload_n d_270_56 rfl) ?_
    refine m_Rs.n0 b_270 (x_getf d_270_57 rfl h.1 rfl) ?_
    refine m_Rs.n0 b_270 (x_iload d_270_60 rfl) ?_
    refine m_Rs.n0 b_270 (x_iconst (z := 2) d_270_62 (by decide)) ?_
    refine m_Rs.n0 b_270 (x_iadd d_270_63 rfl) ?_
    refine m_Rs.n0 b_270 (x_iload d_270_64 rfl) ?_
    refine m_Rs.n0 b_270 (x_iconst (z := 1) d_270_66 (by decide)) ?_
    refine m_Rs.n0 b_270 (x_icf d_270_67 rfl hc1) ?_
    refine m_Rs.n0 b_270 (x_aload_n d_270_70 rfl) ?_
    refine m_Rs.n0 b_270 (x_getf d_270_71 rfl h.1 rfl) ?_
    refine m_Rs.n0 b_270 (x_goto d_270_74 rfl) ?_
    refine m_Rs.mias b_270 d_270_78 h hF 43 rfl ((g12 hc1)) (fun w1 h hF => ?_)
    refine m_Rs.n0 b_270 (x_aload_n d_270_79 rfl) ?_
    refine m_Rs.n0 b_270 (x_getf d_270_80 rfl h.1 rfl) ?_
    refine m_Rs.n0 b_270 (x_iload d_270_83 rfl) ?_
    refine m_Rs.n0 b_270 (x_iconst (z := 3) d_270_85 (by decide)) ?_
    refine m_Rs.n0 b_270 (x_iadd d_270_86 rfl) ?_
    refine m_Rs.n0 b_270 (x_iload d_270_87 rfl) ?_
    refine m_Rs.n0 b_270 (x_iconst (z := 1) d_270_89 (by decide)) ?_
    refine m_Rs.n0 b_270 (x_icf d_270_90 rfl hc1) ?_
    refine m_Rs.n0 b_270 (x_aload_n d_270_93 rfl) ?_
    refine m_Rs.n0 b_270 (x_getf d_270_94 rfl h.1 rfl) ?_
    refine m_Rs.n0 b_270 (x_iconst (z := 1) d_270_97 (by decide)) ?_
    refine m_Rs.n0 b_270 (x_ldG d_270_98 (h.a 42 rfl) rfl ((g13 hc1))) ?_
    refine m_Rs.n0 b_270 (x_goto d_270_99 rfl) ?_
    refine m_Rs.mias b_270 d_270_103 h hF 43 rfl ((g14 hc1)) (fun w1 h hF => ?_)
    refine m_Rs.n0 b_270 (x_aload_n d_270_104 rfl) ?_
    refine m_Rs.n0 b_270 (x_getf d_270_105 rfl h.1 rfl) ?_
    refine m_Rs.n0 b_270 (x_iload d_270_108 rfl) ?_
    refine m_Rs.n0 b_270 (x_iconst (z := 4) d_270_110 (by decide)) ?_
    refine m_Rs.n0 b_270 (x_iadd d_270_111 rfl) ?_
    refine m_Rs.n0 b_270 (x_iload d_270_112 rfl) ?_
    refine m_Rs.n0 b_270 (x_iconst (z := 1) d_270_114 (by decide)) ?_
    refine m_Rs.n0 b_270 (x_icf d_270_115 rfl hc1) ?_
    refine m_Rs.n0 b_270 (x_iload_n d_270_118 rfl) ?_
    refine m_Rs.n0 b_270 (x_goto d_270_119 rfl) ?_
    refine m_Rs.mias b_270 d_270_123 h hF 43 rfl ((g15 hc1)) (fun w1 h hF => ?_)
    refine m_Rs.n0 b_270 (x_aload_n d_270_124 rfl) ?_
    refine m_Rs.n0 b_270 (x_getf d_270_125 rfl h.1 rfl) ?_
    refine m_Rs.n0 b_270 (x_iload d_270_128 rfl) ?_
    refine m_Rs.n0 b_270 (x_iconst (z := 5) d_270_130 (by decide)) ?_
    refine m_Rs.n0 b_270 (x_iadd d_270_131 rfl) ?_
    refine m_Rs.n0 b_270 (x_aload_n d_270_132 rfl) ?_
    refine m_Rs.n0 b_270 (x_getf d_270_133 rfl h.1 rfl) ?_
    refine m_Rs.mias b_270 d_270_136 h hF 43 rfl ((g16 hc1)) (fun w1 h hF => ?_)
    refine m_Rs.n0 b_270 (x_aload_n d_270_137 rfl) ?_
    refine m_Rs.n0 b_270 (x_getf d_270_138 rfl h.1 rfl) ?_
    refine m_Rs.n0 b_270 (x_iload d_270_141 rfl) ?_
    refine m_Rs.n0 b_270 (x_bipush (z := 7) d_270_143 (by decide)) ?_
    refine m_Rs.n0 b_270 (x_iadd d_270_145 rfl) ?_
    refine m_Rs.n0 b_270 (x_iload d_270_146 rfl) ?_
    refine m_Rs.n0 b_270 (x_iconst (z := 1) d_270_148 (by decide)) ?_
    refine m_Rs.n0 b_270 (x_icf d_270_149 rfl hc1) ?_
    refine m_Rs.n0 b_270 (x_aload_n d_270_152 rfl) ?_
    refine m_Rs.n0 b_270 (x_getf d_270_153 rfl h.1 rfl) ?_
    refine m_Rs.n0 b_270 (x_goto d_270_156 rfl) ?_
    refine m_Rs.mias b_270 d_270_160 h hF 43 rfl ((g17 hc1)) (fun w1 h hF => ?_)
    refine m_Rs.n0 b_270 (x_aload_n d_270_161 rfl) ?_
    refine m_Rs.n0 b_270 (x_getf d_270_162 rfl h.1 rfl) ?_
    refine m_Rs.n0 b_270 (x_iload d_270_165 rfl) ?_
    refine m_Rs.n0 b_270 (x_bipush (z := 8) d_270_167 (by decide)) ?_
    refine m_Rs.n0 b_270 (x_iadd d_270_169 rfl) ?_
    refine m_Rs.n0 b_270 (x_iload d_270_170 rfl) ?_
    refine m_Rs.n0 b_270 (x_iconst (z := 1) d_270_172 (by decide)) ?_
    refine m_Rs.n0 b_270 (x_icf d_270_173 rfl hc1) ?_
    refine m_Rs.n0 b_270 (x_aload_n d_270_176 rfl) ?_
    refine m_Rs.n0 b_270 (x_getf d_270_177 rfl h.1 rfl) ?_
    refine m_Rs.n0 b_270 (x_bipush (z := 8) d_270_180 (by decide)) ?_
    refine m_Rs.n0 b_270 (x_ldG d_270_182 (h.a 42 rfl) rfl ((g18 hc1))) ?_
    refine m_Rs.n0 b_270 (x_goto d_270_183 rfl) ?_
    refine m_Rs.mias b_270 d_270_187 h hF 43 rfl ((g19 hc1)) (fun w1 h hF => ?_)
    refine m_Rs.ret b_270 (m_rt_vr d_270_188 rfl) ?_
    have e9 : G_mclose S rq status how frm = (up2 (up2 (up2 (up2 (up2 (up2 (up2 (up2 (up1 (up2 S 621 (rq).toNatClampNeg (0 : Int32)) 71 (((up2 S 621 (rq).toNatClampNeg (0 : Int32)).1 71) + (1 : Int32))) 627 (((9 : Int32) * rq)).toNatClampNeg status) 627 ((((9 : Int32) * rq) + (1 : Int32))).toNatClampNeg (m_rd 0 ((up2 (up1 (up2 S 621 (rq).toNatClampNeg (0 : Int32)) 71 (((up2 S 621 (rq).toNatClampNeg (0 : Int32)).1 71) + (1 : Int32))) 627 (((9 : Int32) * rq)).toNatClampNeg status).2 626) (0 : Int32))) 627 ((((9 : Int32) * rq) + (2 : Int32))).toNatClampNeg ((up2 (up2 (up1 (up2 S 621 (rq).toNatClampNeg (0 : Int32)) 71 (((up2 S 621 (rq).toNatClampNeg (0 : Int32)).1 71) + (1 : Int32))) 627 (((9 : Int32) * rq)).toNatClampNeg status) 627 ((((9 : Int32) * rq) + (1 : Int32))).toNatClampNeg (m_rd 0 ((up2 (up1 (up2 S 621 (rq).toNatClampNeg (0 : Int32)) 71 (((up2 S 621 (rq).toNatClampNeg (0 : Int32)).1 71) + (1 : Int32))) 627 (((9 : Int32) * rq)).toNatClampNeg status).2 626) (0 : Int32))).1 85)) 627 ((((9 : Int32) * rq) + (3 : Int32))).toNatClampNeg (m_rd 0 ((up2 (up2 (up2 (up1 (up2 S 621 (rq).toNatClampNeg (0 : Int32)) 71 (((up2 S 621 (rq).toNatClampNeg (0 : Int32)).1 71) + (1 : Int32))) 627 (((9 : Int32) * rq)).toNatClampNeg status) 627 ((((9 : Int32) * rq) + (1 : Int32))).toNatClampNeg (m_rd 0 ((up2 (up1 (up2 S 621 (rq).toNatClampNeg (0 : Int32)) 71 (((up2 S 621 (rq).toNatClampNeg (0 : Int32)).1 71) + (1 : Int32))) 627 (((9 : Int32) * rq)).toNatClampNeg status).2 626) (0 : Int32))) 627 ((((9 : Int32) * rq) + (2 : Int32))).toNatClampNeg ((up2 (up2 (up1 (up2 S 621 (rq).toNatClampNeg (0 : Int32)) 71 (((up2 S 621 (rq).toNatClampNeg (0 : Int32)).1 71) + (1 : Int32))) 627 (((9 : Int32) * rq)).toNatClampNeg status) 627 ((((9 : Int32) * rq) + (1 : Int32))).toNatClampNeg (m_rd 0 ((up2 (up1 (up2 S 621 (rq).toNatClampNeg (0 : Int32)) 71 (((up2 S 621 (rq).toNatClampNeg (0 : Int32)).1 71) + (1 : Int32))) 627 (((9 : Int32) * rq)).toNatClampNeg status).2 626) (0 : Int32))).1 85)).2 626) (1 : Int32))) 627 ((((9 : Int32) * rq) + (4 : Int32))).toNatClampNeg how) 627 ((((9 : Int32) * rq) + (5 : Int32))).toNatClampNeg ((up2 (up2 (up2 (up2 (up2 (up1 (up2 S 621 (rq).toNatClampNeg (0 : Int32)) 71 (((up2 S 621 (rq).toNatClampNeg (0 : Int32)).1 71) + (1 : Int32))) 627 (((9 : Int32) * rq)).toNatClampNeg status) 627 ((((9 : Int32) * rq) + (1 : Int32))).toNatClampNeg (m_rd 0 ((up2 (up1 (up2 S 621 (rq).toNatClampNeg (0 : Int32)) 71 (((up2 S 621 (rq).toNatClampNeg (0 : Int32)).1 71) + (1 : Int32))) 627 (((9 : Int32) * rq)).toNatClampNeg status).2 626) (0 : Int32))) 627 ((((9 : Int32) * rq) + (2 : Int32))).toNatClampNeg ((up2 (up2 (up1 (up2 S 621 (rq).toNatClampNeg (0 : Int32)) 71 (((up2 S 621 (rq).toNatClampNeg (0 : Int32)).1 71) + (1 : Int32))) 627 (((9 : Int32) * rq)).toNatClampNeg status) 627 ((((9 : Int32) * rq) + (1 : Int32))).toNatClampNeg (m_rd 0 ((up2 (up1 (up2 S 621 (rq).toNatClampNeg (0 : Int32)) 71 (((up2 S 621 (rq).toNatClampNeg (0 : Int32)).1 71) + (1 : Int32))) 627 (((9 : Int32) * rq)).toNatClampNeg status).2 626) (0 : Int32))).1 85)) 627 ((((9 : Int32) * rq) + (3 : Int32))).toNatClampNeg (m_rd 0 ((up2 (up2 (up2 (up1 (up2 S 621 (rq).toNatClampNeg (0 : Int32)) 71 (((up2 S 621 (rq).toNatClampNeg (0 : Int32)).1 71) + (1 : Int32))) 627 (((9 : Int32) * rq)).toNatClampNeg status) 627 ((((9 : Int32) * rq) + (1 : Int32))).toNatClampNeg (m_rd 0 ((up2 (up1 (up2 S 621 (rq).toNatClampNeg (0 : Int32)) 71 (((up2 S 621 (rq).toNatClampNeg (0 : Int32)).1 71) + (1 : Int32))) 627 (((9 : Int32) * rq)).toNatClampNeg status).2 626) (0 : Int32))) 627 ((((9 : Int32) * rq) + (2 : Int32))).toNatClampNeg ((up2 (up2 (up1 (up2 S 621 (rq).toNatClampNeg (0 : Int32)) 71 (((up2 S 621 (rq).toNatClampNeg (0 : Int32)).1 71) + (1 : Int32))) 627 (((9 : Int32) * rq)).toNatClampNeg status) 627 ((((9 : Int32) * rq) + (1 : Int32))).toNatClampNeg (m_rd 0 ((up2 (up1 (up2 S 621 (rq).toNatClampNeg (0 : Int32)) 71 (((up2 S 621 (rq).toNatClampNeg (0 : Int32)).1 71) + (1 : Int32))) 627 (((9 : Int32) * rq)).toNatClampNeg status).2 626) (0 : Int32))).1 85)).2 626) (1 : Int32))) 627 ((((9 : Int32) * rq) + (4 : Int32))).toNatClampNeg how).1 36)) 627 ((((9 : Int32) * rq) + (7 : Int32))).toNatClampNeg ((up2 (up2 (up2 (up2 (up2 (up2 (up1 (up2 S 621 (rq).toNatClampNeg (0 : Int32)) 71 (((up2 S 621 (rq).toNatClampNeg (0 : Int32)).1 71) + (1 : Int32))) 627 (((9 : Int32) * rq)).toNatClampNeg status) 627 ((((9 : Int32) * rq) + (1 : Int32))).toNatClampNeg (m_rd 0 ((up2 (up1 (up2 S 621 (rq).toNatClampNeg (0 : Int32)) 71 (((up2 S 621 (rq).toNatClampNeg (0 : Int32)).1 71) + (1 : Int32))) 627 (((9 : Int32) * rq)).toNatClampNeg status).2 626) (0 : Int32))) 627 ((((9 : Int32) * rq) + (2 : Int32))).toNatClampNeg ((up2 (up2 (up1 (up2 S 621 (rq).toNatClampNeg (0 : Int32)) 71 (((up2 S 621 (rq).toNatClampNeg (0 : Int32)).1 71) + (1 : Int32))) 627 (((9 : Int32) * rq)).toNatClampNeg status) 627 ((((9 : Int32) * rq) + (1 : Int32))).toNatClampNeg (m_rd 0 ((up2 (up1 (up2 S 621 (rq).toNatClampNeg (0 : Int32)) 71 (((up2 S 621 (rq).toNatClampNeg (0 : Int32)).1 71) + (1 : Int32))) 627 (((9 : Int32) * rq)).toNatClampNeg status).2 626) (0 : Int32))).1 85)) 627 ((((9 : Int32) * rq) + (3 : Int32))).toNatClampNeg (m_rd 0 ((up2 (up2 (up2 (up1 (up2 S 621 (rq).toNatClampNeg (0 : Int32)) 71 (((up2 S 621 (rq).toNatClampNeg (0 : Int32)).1 71) + (1 : Int32))) 627 (((9 : Int32) * rq)).toNatClampNeg status) 627 ((((9 : Int32) * rq) + (1 : Int32))).toNatClampNeg (m_rd 0 ((up2 (up1 (up2 S 621 (rq).toNatClampNeg (0 : Int32)) 71 (((up2 S 621 (rq).toNatClampNeg (0 : Int32)).1 71) + (1 : Int32))) 627 (((9 : Int32) * rq)).toNatClampNeg status).2 626) (0 : Int32))) 627 ((((9 : Int32) * rq) + (2 : Int32))).toNatClampNeg ((up2 (up2 (up1 (up2 S 621 (rq).toNatClampNeg (0 : Int32)) 71 (((up2 S 621 (rq).toNatClampNeg (0 : Int32)).1 71) + (1 : Int32))) 627 (((9 : Int32) * rq)).toNatClampNeg status) 627 ((((9 : Int32) * rq) + (1 : Int32))).toNatClampNeg (m_rd 0 ((up2 (up1 (up2 S 621 (rq).toNatClampNeg (0 : Int32)) 71 (((up2 S 621 (rq).toNatClampNeg (0 : Int32)).1 71) + (1 : Int32))) 627 (((9 : Int32) * rq)).toNatClampNeg status).2 626) (0 : Int32))).1 85)).2 626) (1 : Int32))) 627 ((((9 : Int32) * rq) + (4 : Int32))).toNatClampNeg how) 627 ((((9 : Int32) * rq) + (5 : Int32))).toNatClampNeg ((up2 (up2 (up2 (up2 (up2 (up1 (up2 S 621 (rq).toNatClampNeg (0 : Int32)) 71 (((up2 S 621 (rq).toNatClampNeg (0 : Int32)).1 71) + (1 : Int32))) 627 (((9 : Int32) * rq)).toNatClampNeg status) 627 ((((9 : Int32) * rq) + (1 : Int32))).toNatClampNeg (m_rd 0 ((up2 (up1 (up2 S 621 (rq).toNatClampNeg (0 : Int32)) 71 (((up2 S 621 (rq).toNatClampNeg (0 : Int32)).1 71) + (1 : Int32))) 627 (((9 : Int32) * rq)).toNatClampNeg status).2 626) (0 : Int32))) 627 ((((9 : Int32) * rq) + (2 : Int32))).toNatClampNeg ((up2 (up2 (up1 (up2 S 621 (rq).toNatClampNeg (0 : Int32)) 71 (((up2 S 621 (rq).toNatClampNeg (0 : Int32)).1 71) + (1 : Int32))) 627 (((9 : Int32) * rq)).toNatClampNeg status) 627 ((((9 : Int32) * rq) + (1 : Int32))).toNatClampNeg (m_rd 0 ((up2 (up1 (up2 S 621 (rq).toNatClampNeg (0 : Int32)) 71 (((up2 S 621 (rq).toNatClampNeg (0 : Int32)).1 71) + (1 : Int32))) 627 (((9 : Int32) * rq)).toNatClampNeg status).2 626) (0 : Int32))).1 85)) 627 ((((9 : Int32) * rq) + (3 : Int32))).toNatClampNeg (m_rd 0 ((up2 (up2 (up2 (up1 (up2 S 621 (rq).toNatClampNeg (0 : Int32)) 71 (((up2 S 621 (rq).toNatClampNeg (0 : Int32)).1 71) + (1 : Int32))) 627 (((9 : Int32) * rq)).toNatClampNeg status) 627 ((((9 : Int32) * rq) + (1 : Int32))).toNatClampNeg (m_rd 0 ((up2 (up1 (up2 S 621 (rq).toNatClampNeg (0 : Int32)) 71 (((up2 S 621 (rq).toNatClampNeg (0 : Int32)).1 71) + (1 : Int32))) 627 (((9 : Int32) * rq)).toNatClampNeg status).2 626) (0 : Int32))) 627 ((((9 : Int32) * rq) + (2 : Int32))).toNatClampNeg ((up2 (up2 (up1 (up2 S 621 (rq).toNatClampNeg (0 : Int32)) 71 (((up2 S 621 (rq).toNatClampNeg (0 : Int32)).1 71) + (1 : Int32))) 627 (((9 : Int32) * rq)).toNatClampNeg status) 627 ((((9 : Int32) * rq) + (1 : Int32))).toNatClampNeg (m_rd 0 ((up2 (up1 (up2 S 621 (rq).toNatClampNeg (0 : Int32)) 71 (((up2 S 621 (rq).toNatClampNeg (0 : Int32)).1 71) + (1 : Int32))) 627 (((9 : Int32) * rq)).toNatClampNeg status).2 626) (0 : Int32))).1 85)).2 626) (1 : Int32))) 627 ((((9 : Int32) * rq) + (4 : Int32))).toNatClampNeg how).1 36)).1 87)) 627 ((((9 : Int32) * rq) + (8 : Int32))).toNatClampNeg (m_rd 0 ((up2 (up2 (up2 (up2 (up2 (up2 (up2 (up1 (up2 S 621 (rq).toNatClampNeg (0 : Int32)) 71 (((up2 S 621 (rq).toNatClampNeg (0 : Int32)).1 71) + (1 : Int32))) 627 (((9 : Int32) * rq)).toNatClampNeg status) 627 ((((9 : Int32) * rq) + (1 : Int32))).toNatClampNeg (m_rd 0 ((up2 (up1 (up2 S 621 (rq).toNatClampNeg (0 : Int32)) 71 (((up2 S 621 (rq).toNatClampNeg (0 : Int32)).1 71) + (1 : Int32))) 627 (((9 : Int32) * rq)).toNatClampNeg status).2 626) (0 : Int32))) 627 ((((9 : Int32) * rq) + (2 : Int32))).toNatClampNeg ((up2 (up2 (up1 (up2 S 621 (rq).toNatClampNeg (0 : Int32)) 71 (((up2 S 621 (rq).toNatClampNeg (0 : Int32)).1 71) + (1 : Int32))) 627 (((9 : Int32) * rq)).toNatClampNeg status) 627 ((((9 : Int32) * rq) + (1 : Int32))).toNatClampNeg (m_rd 0 ((up2 (up1 (up2 S 621 (rq).toNatClampNeg (0 : Int32)) 71 (((up2 S 621 (rq).toNatClampNeg (0 : Int32)).1 71) + (1 : Int32))) 627 (((9 : Int32) * rq)).toNatClampNeg status).2 626) (0 : Int32))).1 85)) 627 ((((9 : Int32) * rq) + (3 : Int32))).toNatClampNeg (m_rd 0 ((up2 (up2 (up2 (up1 (up2 S 621 (rq).toNatClampNeg (0 : Int32)) 71 (((up2 S 621 (rq).toNatClampNeg (0 : Int32)).1 71) + (1 : Int32))) 627 (((9 : Int32) * rq)).toNatClampNeg status) 627 ((((9 : Int32) * rq) + (1 : Int32))).toNatClampNeg (m_rd 0 ((up2 (up1 (up2 S 621 (rq).toNatClampNeg (0 : Int32)) 71 (((up2 S 621 (rq).toNatClampNeg (0 : Int32)).1 71) + (1 : Int32))) 627 (((9 : Int32) * rq)).toNatClampNeg status).2 626) (0 : Int32))) 627 ((((9 : Int32) * rq) + (2 : Int32))).toNatClampNeg ((up2 (up2 (up1 (up2 S 621 (rq).toNatClampNeg (0 : Int32)) 71 (((up2 S 621 (rq).toNatClampNeg (0 : Int32)).1 71) + (1 : Int32))) 627 (((9 : Int32) * rq)).toNatClampNeg status) 627 ((((9 : Int32) * rq) + (1 : Int32))).toNatClampNeg (m_rd 0 ((up2 (up1 (up2 S 621 (rq).toNatClampNeg (0 : Int32)) 71 (((up2 S 621 (rq).toNatClampNeg (0 : Int32)).1 71) + (1 : Int32))) 627 (((9 : Int32) * rq)).toNatClampNeg status).2 626) (0 : Int32))).1 85)).2 626) (1 : Int32))) 627 ((((9 : Int32) * rq) + (4 : Int32))).toNatClampNeg how) 627 ((((9 : Int32) * rq) + (5 : Int32))).toNatClampNeg ((up2 (up2 (up2 (up2 (up2 (up1 (up2 S 621 (rq).toNatClampNeg (0 : Int32)) 71 (((up2 S 621 (rq).toNatClampNeg (0 : Int32)).1 71) + (1 : Int32))) 627 (((9 : Int32) * rq)).toNatClampNeg status) 627 ((((9 : Int32) * rq) + (1 : Int32))).toNatClampNeg (m_rd 0 ((up2 (up1 (up2 S 621 (rq).toNatClampNeg (0 : Int32)) 71 (((up2 S 621 (rq).toNatClampNeg (0 : Int32)).1 71) + (1 : Int32))) 627 (((9 : Int32) * rq)).toNatClampNeg status).2 626) (0 : Int32))) 627 ((((9 : Int32) * rq) + (2 : Int32))).toNatClampNeg ((up2 (up2 (up1 (up2 S 621 (rq).toNatClampNeg (0 : Int32)) 71 (((up2 S 621 (rq).toNatClampNeg (0 : Int32)).1 71) + (1 : Int32))) 627 (((9 : Int32) * rq)).toNatClampNeg status) 627 ((((9 : Int32) * rq) + (1 : Int32))).toNatClampNeg (m_rd 0 ((up2 (up1 (up2 S 621 (rq).toNatClampNeg (0 : Int32)) 71 (((up2 S 621 (rq).toNatClampNeg (0 : Int32)).1 71) + (1 : Int32))) 627 (((9 : Int32) * rq)).toNatClampNeg status).2 626) (0 : Int32))).1 85)) 627 ((((9 : Int32) * rq) + (3 : Int32))).toNatClampNeg (m_rd 0 ((up2 (up2 (up2 (up1 (up2 S 621 (rq).toNatClampNeg (0 : Int32)) 71 (((up2 S 621 (rq).toNatClampNeg (0 : Int32)).1 71) + (1 : Int32))) 627 (((9 : Int32) * rq)).toNatClampNeg status) 627 ((((9 : Int32) * rq) + (1 : Int32))).toNatClampNeg (m_rd 0 ((up2 (up1 (up2 S 621 (rq).toNatClampNeg (0 : Int32)) 71 (((up2 S 621 (rq).toNatClampNeg (0 : Int32)).1 71) + (1 : Int32))) 627 (((9 : Int32) * rq)).toNatClampNeg status).2 626) (0 : Int32))) 627 ((((9 : Int32) * rq) + (2 : Int32))).toNatClampNeg ((up2 (up2 (up1 (up2 S 621 (rq).toNatClampNeg (0 : Int32)) 71 (((up2 S 621 (rq).toNatClampNeg (0 : Int32)).1 71) + (1 : Int32))) 627 (((9 : Int32) * rq)).toNatClampNeg status) 627 ((((9 : Int32) * rq) + (1 : Int32))).toNatClampNeg (m_rd 0 ((up2 (up1 (up2 S 621 (rq).toNatClampNeg (0 : Int32)) 71 (((up2 S 621 (rq).toNatClampNeg (0 : Int32)).1 71) + (1 : Int32))) 627 (((9 : Int32) * rq)).toNatClampNeg status).2 626) (0 : Int32))).1 85)).2 626) (1 : Int32))) 627 ((((9 : Int32) * rq) + (4 : Int32))).toNatClampNeg how).1 36)) 627 ((((9 : Int32) * rq) + (7 : Int32))).toNatClampNeg ((up2 (up2 (up2 (up2 (up2 (up2 (up1 (up2 S 621 (rq).toNatClampNeg (0 : Int32)) 71 (((up2 S 621 (rq).toNatClampNeg (0 : Int32)).1 71) + (1 : Int32))) 627 (((9 : Int32) * rq)).toNatClampNeg status) 627 ((((9 : Int32) * rq) + (1 : Int32))).toNatClampNeg (m_rd 0 ((up2 (up1 (up2 S 621 (rq).toNatClampNeg (0 : Int32)) 71 (((up2 S 621 (rq).toNatClampNeg (0 : Int32)).1 71) + (1 : Int32))) 627 (((9 : Int32) * rq)).toNatClampNeg status).2 626) (0 : Int32))) 627 ((((9 : Int32) * rq) + (2 : Int32))).toNatClampNeg ((up2 (up2 (up1 (up2 S 621 (rq).toNatClampNeg (0 : Int32)) 71 (((up2 S 621 (rq).toNatClampNeg (0 : Int32)).1 71) + (1 : Int32))) 627 (((9 : Int32) * rq)).toNatClampNeg status) 627 ((((9 : Int32) * rq) + (1 : Int32))).toNatClampNeg (m_rd 0 ((up2 (up1 (up2 S 621 (rq).toNatClampNeg (0 : Int32)) 71 (((up2 S 621 (rq).toNatClampNeg (0 : Int32)).1 71) + (1 : Int32))) 627 (((9 : Int32) * rq)).toNatClampNeg status).2 626) (0 : Int32))).1 85)) 627 ((((9 : Int32) * rq) + (3 : Int32))).toNatClampNeg (m_rd 0 ((up2 (up2 (up2 (up1 (up2 S 621 (rq).toNatClampNeg (0 : Int32)) 71 (((up2 S 621 (rq).toNatClampNeg (0 : Int32)).1 71) + (1 : Int32))) 627 (((9 : Int32) * rq)).toNatClampNeg status) 627 ((((9 : Int32) * rq) + (1 : Int32))).toNatClampNeg (m_rd 0 ((up2 (up1 (up2 S 621 (rq).toNatClampNeg (0 : Int32)) 71 (((up2 S 621 (rq).toNatClampNeg (0 : Int32)).1 71) + (1 : Int32))) 627 (((9 : Int32) * rq)).toNatClampNeg status).2 626) (0 : Int32))) 627 ((((9 : Int32) * rq) + (2 : Int32))).toNatClampNeg ((up2 (up2 (up1 (up2 S 621 (rq).toNatClampNeg (0 : Int32)) 71 (((up2 S 621 (rq).toNatClampNeg (0 : Int32)).1 71) + (1 : Int32))) 627 (((9 : Int32) * rq)).toNatClampNeg status) 627 ((((9 : Int32) * rq) + (1 : Int32))).toNatClampNeg (m_rd 0 ((up2 (up1 (up2 S 621 (rq).toNatClampNeg (0 : Int32)) 71 (((up2 S 621 (rq).toNatClampNeg (0 : Int32)).1 71) + (1 : Int32))) 627 (((9 : Int32) * rq)).toNatClampNeg status).2 626) (0 : Int32))).1 85)).2 626) (1 : Int32))) 627 ((((9 : Int32) * rq) + (4 : Int32))).toNatClampNeg how) 627 ((((9 : Int32) * rq) + (5 : Int32))).toNatClampNeg ((up2 (up2 (up2 (up2 (up2 (up1 (up2 S 621 (rq).toNatClampNeg (0 : Int32)) 71 (((up2 S 621 (rq).toNatClampNeg (0 : Int32)).1 71) + (1 : Int32))) 627 (((9 : Int32) * rq)).toNatClampNeg status) 627 ((((9 : Int32) * rq) + (1 : Int32))).toNatClampNeg (m_rd 0 ((up2 (up1 (up2 S 621 (rq).toNatClampNeg (0 : Int32)) 71 (((up2 S 621 (rq).toNatClampNeg (0 : Int32)).1 71) + (1 : Int32))) 627 (((9 : Int32) * rq)).toNatClampNeg status).2 626) (0 : Int32))) 627 ((((9 : Int32) * rq) + (2 : Int32))).toNatClampNeg ((up2 (up2 (up1 (up2 S 621 (rq).toNatClampNeg (0 : Int32)) 71 (((up2 S 621 (rq).toNatClampNeg (0 : Int32)).1 71) + (1 : Int32))) 627 (((9 : Int32) * rq)).toNatClampNeg status) 627 ((((9 : Int32) * rq) + (1 : Int32))).toNatClampNeg (m_rd 0 ((up2 (up1 (up2 S 621 (rq).toNatClampNeg (0 : Int32)) 71 (((up2 S 621 (rq).toNatClampNeg (0 : Int32)).1 71) + (1 : Int32))) 627 (((9 : Int32) * rq)).toNatClampNeg status).2 626) (0 : Int32))).1 85)) 627 ((((9 : Int32) * rq) + (3 : Int32))).toNatClampNeg (m_rd 0 ((up2 (up2 (up2 (up1 (up2 S 621 (rq).toNatClampNeg (0 : Int32)) 71 (((up2 S 621 (rq).toNatClampNeg (0 : Int32)).1 71) + (1 : Int32))) 627 (((9 : Int32) * rq)).toNatClampNeg status) 627 ((((9 : Int32) * rq) + (1 : Int32))).toNatClampNeg (m_rd 0 ((up2 (up1 (up2 S 621 (rq).toNatClampNeg (0 : Int32)) 71 (((up2 S 621 (rq).toNatClampNeg (0 : Int32)).1 71) + (1 : Int32))) 627 (((9 : Int32) * rq)).toNatClampNeg status).2 626) (0 : Int32))) 627 ((((9 : Int32) * rq) + (2 : Int32))).toNatClampNeg ((up2 (up2 (up1 (up2 S 621 (rq).toNatClampNeg (0 : Int32)) 71 (((up2 S 621 (rq).toNatClampNeg (0 : Int32)).1 71) + (1 : Int32))) 627 (((9 : Int32) * rq)).toNatClampNeg status) 627 ((((9 : Int32) * rq) + (1 : Int32))).toNatClampNeg (m_rd 0 ((up2 (up1 (up2 S 621 (rq).toNatClampNeg (0 : Int32)) 71 (((up2 S 621 (rq).toNatClampNeg (0 : Int32)).1 71) + (1 : Int32))) 627 (((9 : Int32) * rq)).toNatClampNeg status).2 626) (0 : Int32))).1 85)).2 626) (1 : Int32))) 627 ((((9 : Int32) * rq) + (4 : Int32))).toNatClampNeg how).1 36)).1 87)).2 626) (8 : Int32))) := by simp only [G_mclose, hc1, cond_true, cond_false]
    exact ⟨rfl, by rw [e9]; exact h, hF⟩
