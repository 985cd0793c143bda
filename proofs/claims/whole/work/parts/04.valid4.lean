set_option maxRecDepth 4000 in
theorem vf_180 : ∀ q ∈ M_180.2.2.2.2.2.1, m_fOk M_180.1 q := (fun _ h => absurd h List.not_mem_nil)
set_option maxRecDepth 4000 in
theorem vc_180 : ∀ q ∈ M_180.2.2.2.2.2.2.1, m_cOk M_180.1 q := (List.forall_mem_cons.mpr ⟨⟨m_n0 rfl, m_n0 rfl, m_n0 rfl, fun _ => ⟨M_33, rfl, m_n0 rfl, m_n0 rfl, fun _ => ⟨(m_gi3 24 rfl rfl), (m_gi3 25 rfl rfl)⟩, m_n0 rfl⟩⟩, (List.forall_mem_cons.mpr ⟨⟨m_n0 rfl, m_n0 rfl, m_n0 rfl, fun _ => ⟨M_181, rfl, m_n0 rfl, m_n0 rfl, fun _ => ⟨(m_gi7 12 rfl rfl), (m_gi7 13 rfl rfl)⟩, m_n0 rfl⟩⟩, (fun _ h => absurd h List.not_mem_nil)⟩)⟩)
set_option maxRecDepth 4000 in
theorem vo_180 : ∀ q ∈ M_180.2.2.2.2.2.2.2.1, m_oOk M_180.1 q := (fun _ h => absurd h List.not_mem_nil)
set_option maxRecDepth 4000 in
theorem vk_180 : ∀ q ∈ M_180.2.2.2.2.2.2.2.2, decode M_180.2.1 q.1 = .ok (q.2.1, q.2.2) := by decide +kernel
set_option maxRecDepth 4000 in
theorem v_180 : m_mOk M_180 := ⟨(m_gi7 11 rfl rfl), (m_gi1 9 rfl rfl), by decide +kernel, ⟨by decide +kernel, by decide +kernel⟩, by decide +kernel, vf_180, vc_180, vo_180, vk_180⟩
set_option maxRecDepth 4000 in
theorem vf_181 : ∀ q ∈ M_181.2.2.2.2.2.1, m_fOk M_181.1 q := (fun _ h => absurd h List.not_mem_nil)
set_option maxRecDepth 4000 in
theorem vc_181 : ∀ q ∈ M_181.2.2.2.2.2.2.1, m_cOk M_181.1 q := (List.forall_mem_cons.mpr ⟨⟨m_n0 rfl, m_n0 rfl, m_n0 rfl, fun _ => ⟨M_182, rfl, m_n0 rfl, m_n0 rfl, fun _ => ⟨(m_gi7 15 rfl rfl), (m_gi7 16 rfl rfl)⟩, m_n0 rfl⟩⟩, (fun _ h => absurd h List.not_mem_nil)⟩)
set_option maxRecDepth 4000 in
theorem vo_181 : ∀ q ∈ M_181.2.2.2.2.2.2.2.1, m_oOk M_181.1 q := (List.forall_mem_cons.mpr ⟨⟨m_n0 rfl, m_n0 rfl, m_n0 rfl, m_n0 rfl, fun _ => ⟨"jdk/internal/util/Preconditions", "SIOOBE_FORMATTER", "Ljava/util/function/BiFunction;", by decide, (m_gi3 13 rfl rfl)⟩, m_n0 rfl, m_n0 rfl, Nat.le_of_ble_eq_true rfl⟩, (fun _ h => absurd h List.not_mem_nil)⟩)
set_option maxRecDepth 4000 in
theorem vk_181 : ∀ q ∈ M_181.2.2.2.2.2.2.2.2, decode M_181.2.1 q.1 = .ok (q.2.1, q.2.2) := by decide +kernel
set_option maxRecDepth 4000 in
theorem v_181 : m_mOk M_181 := ⟨(m_gi7 14 rfl rfl), (m_gi1 8 rfl rfl), by decide +kernel, ⟨by decide +kernel, by decide +kernel⟩, by decide +kernel, vf_181, vc_181, vo_181, vk_181⟩
set_option maxRecDepth 4000 in
theorem vf_182 : ∀ q ∈ M_182.2.2.2.2.2.1, m_fOk M_182.1 q := (fun _ h => absurd h List.not_mem_nil)
set_option maxRecDepth 4000 in
theorem vc_182 : ∀ q ∈ M_182.2.2.2.2.2.2.1, m_cOk M_182.1 q := (fun _ h => absurd h List.not_mem_nil)
set_option maxRecDepth 4000 in
theorem vo_182 : ∀ q ∈ M_182.2.2.2.2.2.2.2.1, m_oOk M_182.1 q := (fun _ h => absurd h List.not_mem_nil)
set_option maxRecDepth 4000 in
theorem vk_182 : ∀ q ∈ M_182.2.2.2.2.2.2.2.2, decode M_182.2.1 q.1 = .ok (q.2.1, q.2.2) := by decide +kernel
set_option maxRecDepth 4000 in
theorem v_182 : m_mOk M_182 := ⟨(m_gi7 17 rfl rfl), (m_gi1 15 rfl rfl), by decide +kernel, ⟨by decide +kernel, by decide +kernel⟩, by decide +kernel, vf_182, vc_182, vo_182, vk_182⟩
set_option maxRecDepth 4000 in
theorem vf_183 : ∀ q ∈ M_183.2.2.2.2.2.1, m_fOk M_183.1 q := (List.forall_mem_cons.mpr ⟨⟨(R_12, F_12, 4), rfl, Nat.le_of_ble_eq_true rfl, ⟨"java/lang/String", (m_gi7 169 rfl rfl), Or.inl rfl⟩, m_n0 rfl, m_n0 rfl⟩, (fun _ h => absurd h List.not_mem_nil)⟩)
set_option maxRecDepth 4000 in
theorem vc_183 : ∀ q ∈ M_183.2.2.2.2.2.2.1, m_cOk M_183.1 q := (List.forall_mem_cons.mpr ⟨⟨m_n0 rfl, m_n0 rfl, m_n0 rfl, fun _ => ⟨M_178, rfl, m_n0 rfl, m_n0 rfl, fun _ => ⟨(m_gi7 23 rfl rfl), (m_gi7 4 rfl rfl)⟩, m_n0 rfl⟩⟩, (List.forall_mem_cons.mpr ⟨⟨m_n0 rfl, m_n0 rfl, m_n0 rfl, fun _ => ⟨M_25, rfl, m_n0 rfl, fun _ => ⟨(m_gi2 234 rfl rfl), (m_gi2 235 rfl rfl), (R_12, F_12, 4), rfl, rfl, (m_gi2 236 rfl rfl)⟩, m_n0 rfl, m_n0 rfl⟩⟩, (fun _ h => absurd h List.not_mem_nil)⟩)⟩)
set_option maxRecDepth 4000 in
theorem vo_183 : ∀ q ∈ M_183.2.2.2.2.2.2.2.1, m_oOk M_183.1 q := (fun _ h => absurd h List.not_mem_nil)
set_option maxRecDepth 4000 in
theorem vk_183 : ∀ q ∈ M_183.2.2.2.2.2.2.2.2, decode M_183.2.1 q.1 = .ok (q.2.1, q.2.2) := by decide +kernel
set_option maxRecDepth 4000 in
theorem v_183 : m_mOk M_183 := ⟨(m_gi7 21 rfl rfl), (m_gi1 8 rfl rfl), by decide +kernel, ⟨by decide +kernel, by decide +kernel⟩, by decide +kernel, vf_183, vc_183, vo_183, vk_183⟩
set_option maxRecDepth 4000 in
theorem vf_184 : ∀ q ∈ M_184.2.2.2.2.2.1, m_fOk M_184.1 q := (fun _ h => absurd h List.not_mem_nil)
set_option maxRecDepth 4000 in
theorem vc_184 : ∀ q ∈ M_184.2.2.2.2.2.2.1, m_cOk M_184.1 q := (fun _ h => absurd h List.not_mem_nil)
set_option maxRecDepth 4000 in
theorem vo_184 : ∀ q ∈ M_184.2.2.2.2.2.2.2.1, m_oOk M_184.1 q := (fun _ h => absurd h List.not_mem_nil)
set_option maxRecDepth 4000 in
theorem vk_184 : ∀ q ∈ M_184.2.2.2.2.2.2.2.2, decode M_184.2.1 q.1 = .ok (q.2.1, q.2.2) := by decide +kernel
set_option maxRecDepth 4000 in
theorem v_184 : m_mOk M_184 := ⟨(m_gi7 27 rfl rfl), (m_gi1 7 rfl rfl), by decide +kernel, ⟨by decide +kernel, by decide +kernel⟩, by decide +kernel, vf_184, vc_184, vo_184, vk_184⟩
set_option maxRecDepth 4000 in
theorem vf_185 : ∀ q ∈ M_185.2.2.2.2.2.1, m_fOk M_185.1 q := (List.forall_mem_cons.mpr ⟨⟨(R_3, F_3, 4), rfl, Nat.le_of_ble_eq_true rfl, ⟨"java/lang/AbstractStringBuilder", (m_gi1 150 rfl rfl), Or.inl rfl⟩, fun _ => rfl, m_n0 rfl⟩, (List.forall_mem_cons.mpr ⟨⟨(R_3, F_3, 4), rfl, Nat.le_of_ble_eq_true rfl, ⟨"java/lang/AbstractStringBuilder", (m_gi1 154 rfl rfl), Or.inl rfl⟩, fun _ => rfl, m_n0 rfl⟩, (fun _ h => absurd h List.not_mem_nil)⟩)⟩)
set_option maxRecDepth 4000 in
theorem vc_185 : ∀ q ∈ M_185.2.2.2.2.2.2.1, m_cOk M_185.1 q := (List.forall_mem_cons.mpr ⟨⟨m_n0 rfl, m_n0 rfl, m_n0 rfl, fun _ => ⟨M_186, rfl, m_n0 rfl, m_n0 rfl, fun _ => ⟨(m_gi7 31 rfl rfl), (m_gi7 32 rfl rfl)⟩, m_n0 rfl⟩⟩, (List.forall_mem_cons.mpr ⟨⟨m_n0 rfl, m_n0 rfl, m_n0 rfl, fun _ => ⟨M_187, rfl, m_n0 rfl, m_n0 rfl, fun _ => ⟨(m_gi7 34 rfl rfl), (m_gi7 35 rfl rfl)⟩, m_n0 rfl⟩⟩, (List.forall_mem_cons.mpr ⟨⟨m_n0 rfl, m_n0 rfl, m_n0 rfl, fun _ => ⟨M_188, rfl, m_n0 rfl, m_n0 rfl, fun _ => ⟨(m_gi7 41 rfl rfl), (m_gi7 42 rfl rfl)⟩, m_n0 rfl⟩⟩, (fun _ h => absurd h List.not_mem_nil)⟩)⟩)⟩)
set_option maxRecDepth 4000 in
theorem vo_185 : ∀ q ∈ M_185.2.2.2.2.2.2.2.1, m_oOk M_185.1 q := (fun _ h => absurd h List.not_mem_nil)
set_option maxRecDepth 4000 in
theorem vk_185 : ∀ q ∈ M_185.2.2.2.2.2.2.2.2, decode M_185.2.1 q.1 = .ok (q.2.1, q.2.2) := by decide +kernel
set_option maxRecDepth 4000 in
theorem v_185 : m_mOk M_185 := ⟨(m_gi7 30 rfl rfl), (m_gi1 6 rfl rfl), by decide +kernel, ⟨by decide +kernel, by decide +kernel⟩, by decide +kernel, vf_185, vc_185, vo_185, vk_185⟩
set_option maxRecDepth 4000 in
theorem vf_186 : ∀ q ∈ M_186.2.2.2.2.2.1, m_fOk M_186.1 q := (fun _ h => absurd h List.not_mem_nil)
set_option maxRecDepth 4000 in
theorem vc_186 : ∀ q ∈ M_186.2.2.2.2.2.2.1, m_cOk M_186.1 q := (fun _ h => absurd h List.not_mem_nil)
set_option maxRecDepth 4000 in
theorem vo_186 : ∀ q ∈ M_186.2.2.2.2.2.2.2.1, m_oOk M_186.1 q := (fun _ h => absurd h List.not_mem_nil)
set_option maxRecDepth 4000 in
theorem vk_186 : ∀ q ∈ M_186.2.2.2.2.2.2.2.2, decode M_186.2.1 q.1 = .ok (q.2.1, q.2.2) := by decide +kernel
set_option maxRecDepth 4000 in
theorem v_186 : m_mOk M_186 := ⟨(m_gi7 33 rfl rfl), (m_gi1 28 rfl rfl), by decide +kernel, ⟨by decide +kernel, by decide +kernel⟩, by decide +kernel, vf_186, vc_186, vo_186, vk_186⟩
set_option maxRecDepth 4000 in
theorem vf_187 : ∀ q ∈ M_187.2.2.2.2.2.1, m_fOk M_187.1 q := (fun _ h => absurd h List.not_mem_nil)
set_option maxRecDepth 4000 in
theorem vc_187 : ∀ q ∈ M_187.2.2.2.2.2.2.1, m_cOk M_187.1 q := (fun _ h => absurd h List.not_mem_nil)
set_option maxRecDepth 4000 in
theorem vo_187 : ∀ q ∈ M_187.2.2.2.2.2.2.2.1, m_oOk M_187.1 q := (fun _ h => absurd h List.not_mem_nil)
set_option maxRecDepth 4000 in
theorem vk_187 : ∀ q ∈ M_187.2.2.2.2.2.2.2.2, decode M_187.2.1 q.1 = .ok (q.2.1, q.2.2) := by decide +kernel
set_option maxRecDepth 4000 in
theorem v_187 : m_mOk M_187 := ⟨(m_gi7 36 rfl rfl), (m_gi1 28 rfl rfl), by decide +kernel, ⟨by decide +kernel, by decide +kernel⟩, by decide +kernel, vf_187, vc_187, vo_187, vk_187⟩
set_option maxRecDepth 4000 in
theorem vf_188 : ∀ q ∈ M_188.2.2.2.2.2.1, m_fOk M_188.1 q := (fun _ h => absurd h List.not_mem_nil)
set_option maxRecDepth 4000 in
theorem vc_188 : ∀ q ∈ M_188.2.2.2.2.2.2.1, m_cOk M_188.1 q := (List.forall_mem_cons.mpr ⟨⟨m_n0 rfl, m_n0 rfl, m_n0 rfl, fun _ => ⟨M_171, rfl, m_n0 rfl, m_n0 rfl, fun _ => ⟨(m_gi6 217 rfl rfl), (m_gi6 218 rfl rfl)⟩, m_n0 rfl⟩⟩, (List.forall_mem_cons.mpr ⟨⟨m_n0 rfl, m_n0 rfl, m_n0 rfl, fun _ => ⟨M_189, rfl, m_n0 rfl, m_n0 rfl, fun _ => ⟨(m_gi7 44 rfl rfl), (m_gi7 45 rfl rfl)⟩, m_n0 rfl⟩⟩, (fun _ h => absurd h List.not_mem_nil)⟩)⟩)
set_option maxRecDepth 4000 in
theorem vo_188 : ∀ q ∈ M_188.2.2.2.2.2.2.2.1, m_oOk M_188.1 q := (List.forall_mem_cons.mpr ⟨⟨m_n0 rfl, m_n0 rfl, m_n0 rfl, m_n0 rfl, fun _ => ⟨"java/lang/StringUTF16", "$assertionsDisabled", "Z", by decide, (m_gi3 31 rfl rfl)⟩, m_n0 rfl, m_n0 rfl, Nat.le_of_ble_eq_true rfl⟩, (fun _ h => absurd h List.not_mem_nil)⟩)
set_option maxRecDepth 4000 in
theorem vk_188 : ∀ q ∈ M_188.2.2.2.2.2.2.2.2, decode M_188.2.1 q.1 = .ok (q.2.1, q.2.2) := by decide +kernel
set_option maxRecDepth 4000 in
theorem v_188 : m_mOk M_188 := ⟨(m_gi7 43 rfl rfl), (m_gi1 9 rfl rfl), by decide +kernel, ⟨by decide +kernel, by decide +kernel⟩, by decide +kernel, vf_188, vc_188, vo_188, vk_188⟩
set_option maxRecDepth 4000 in
theorem vf_189 : ∀ q ∈ M_189.2.2.2.2.2.1, m_fOk M_189.1 q := (fun _ h => absurd h List.not_mem_nil)
set_option maxRecDepth 4000 in
theorem vc_189 : ∀ q ∈ M_189.2.2.2.2.2.2.1, m_cOk M_189.1 q := (List.forall_mem_cons.mpr ⟨⟨m_n0 rfl, m_n0 rfl, m_n0 rfl, fun _ => ⟨M_174, rfl, m_n0 rfl, m_n0 rfl, fun _ => ⟨(m_gi6 226 rfl rfl), (m_gi6 227 rfl rfl)⟩, m_n0 rfl⟩⟩, (fun _ h => absurd h List.not_mem_nil)⟩)
set_option maxRecDepth 4000 in
theorem vo_189 : ∀ q ∈ M_189.2.2.2.2.2.2.2.1, m_oOk M_189.1 q := (fun _ h => absurd h List.not_mem_nil)
set_option maxRecDepth 4000 in
theorem vk_189 : ∀ q ∈ M_189.2.2.2.2.2.2.2.2, decode M_189.2.1 q.1 = .ok (q.2.1, q.2.2) := by decide +kernel
set_option maxRecDepth 4000 in
theorem v_189 : m_mOk M_189 := ⟨(m_gi7 46 rfl rfl), (m_gi1 9 rfl rfl), by decide +kernel, ⟨by decide +kernel, by decide +kernel⟩, by decide +kernel, vf_189, vc_189, vo_189, vk_189⟩
set_option maxRecDepth 4000 in
theorem vf_190 : ∀ q ∈ M_190.2.2.2.2.2.1, m_fOk M_190.1 q := (fun _ h => absurd h List.not_mem_nil)
set_option maxRecDepth 4000 in
theorem vc_190 : ∀ q ∈ M_190.2.2.2.2.2.2.1, m_cOk M_190.1 q := (List.forall_mem_cons.mpr ⟨⟨m_n0 rfl, m_n0 rfl, m_n0 rfl, fun _ => ⟨M_191, rfl, fun _ => ⟨rfl, rfl, (m_gi7 55 rfl rfl), (m_gi7 56 rfl rfl)⟩, m_n0 rfl, m_n0 rfl, m_n0 rfl⟩⟩, (fun _ h => absurd h List.not_mem_nil)⟩)
set_option maxRecDepth 4000 in
theorem vo_190 : ∀ q ∈ M_190.2.2.2.2.2.2.2.1, m_oOk M_190.1 q := (List.forall_mem_cons.mpr ⟨⟨fun _ => ⟨(R_12, F_12, 4), rfl, (m_gi7 53 rfl rfl), (m_gi7 54 rfl rfl), (m_gi1 8 rfl rfl)⟩, m_n0 rfl, m_n0 rfl, m_n0 rfl, m_n0 rfl, m_n0 rfl, m_n0 rfl, Nat.le_of_ble_eq_true rfl⟩, (fun _ h => absurd h List.not_mem_nil)⟩)
set_option maxRecDepth 4000 in
theorem vk_190 : ∀ q ∈ M_190.2.2.2.2.2.2.2.2, decode M_190.2.1 q.1 = .ok (q.2.1, q.2.2) := by decide +kernel
set_option maxRecDepth 4000 in
theorem v_190 : m_mOk M_190 := ⟨(m_gi7 52 rfl rfl), (m_gi1 7 rfl rfl), by decide +kernel, ⟨by decide +kernel, by decide +kernel⟩, by decide +kernel, vf_190, vc_190, vo_190, vk_190⟩
set_option maxRecDepth 4000 in
theorem vf_191 : ∀ q ∈ M_191.2.2.2.2.2.1, m_fOk M_191.1 q := (fun _ h => absurd h List.not_mem_nil)
set_option maxRecDepth 4000 in
theorem vc_191 : ∀ q ∈ M_191.2.2.2.2.2.2.1, m_cOk M_191.1 q := (List.forall_mem_cons.mpr ⟨⟨m_n0 rfl, m_n0 rfl, m_n0 rfl, fun _ => ⟨M_192, rfl, fun _ => ⟨rfl, rfl, (m_gi7 58 rfl rfl), (m_gi7 59 rfl rfl)⟩, m_n0 rfl, m_n0 rfl, m_n0 rfl⟩⟩, (fun _ h => absurd h List.not_mem_nil)⟩)
set_option maxRecDepth 4000 in
theorem vo_191 : ∀ q ∈ M_191.2.2.2.2.2.2.2.1, m_oOk M_191.1 q := (fun _ h => absurd h List.not_mem_nil)
set_option maxRecDepth 4000 in
theorem vk_191 : ∀ q ∈ M_191.2.2.2.2.2.2.2.2, decode M_191.2.1 q.1 = .ok (q.2.1, q.2.2) := by decide +kernel
set_option maxRecDepth 4000 in
theorem v_191 : m_mOk M_191 := ⟨(m_gi7 57 rfl rfl), (m_gi1 8 rfl rfl), by decide +kernel, ⟨by decide +kernel, by decide +kernel⟩, by decide +kernel, vf_191, vc_191, vo_191, vk_191⟩
set_option maxRecDepth 4000 in
theorem vf_192 : ∀ q ∈ M_192.2.2.2.2.2.1, m_fOk M_192.1 q := (List.forall_mem_cons.mpr ⟨⟨(R_12, F_12, 4), rfl, Nat.le_of_ble_eq_true rfl, ⟨"java/lang/String", (m_gi7 169 rfl rfl), Or.inl rfl⟩, m_n0 rfl, fun _ => ⟨rfl, rfl, rfl⟩⟩, (List.forall_mem_cons.mpr ⟨⟨(R_12, F_12, 4), rfl, Nat.le_of_ble_eq_true rfl, ⟨"java/lang/String", (m_gi7 170 rfl rfl), Or.inl rfl⟩, m_n0 rfl, fun _ => ⟨rfl, rfl, rfl⟩⟩, (List.forall_mem_cons.mpr ⟨⟨(R_3, F_3, 4), rfl, Nat.le_of_ble_eq_true rfl, ⟨"java/lang/AbstractStringBuilder", (m_gi1 153 rfl rfl), Or.inl rfl⟩, fun _ => rfl, m_n0 rfl⟩, (fun _ h => absurd h List.not_mem_nil)⟩)⟩)⟩)
set_option maxRecDepth 4000 in
theorem vc_192 : ∀ q ∈ M_192.2.2.2.2.2.2.1, m_cOk M_192.1 q := (List.forall_mem_cons.mpr ⟨⟨fun _ => (m_gi7 61 rfl rfl), m_n0 rfl, m_n0 rfl, m_n1 rfl⟩, (List.forall_mem_cons.mpr ⟨⟨m_n0 rfl, m_n0 rfl, m_n0 rfl, fun _ => ⟨M_206, rfl, m_n0 rfl, m_n0 rfl, fun _ => ⟨(m_gi7 166 rfl rfl), (m_gi7 167 rfl rfl)⟩, m_n0 rfl⟩⟩, (List.forall_mem_cons.mpr ⟨⟨m_n0 rfl, m_n0 rfl, m_n0 rfl, fun _ => ⟨M_196, rfl, m_n0 rfl, m_n0 rfl, fun _ => ⟨(m_gi7 76 rfl rfl), (m_gi7 77 rfl rfl)⟩, m_n0 rfl⟩⟩, (List.forall_mem_cons.mpr ⟨⟨m_n0 rfl, m_n0 rfl, m_n0 rfl, fun _ => ⟨M_204, rfl, m_n0 rfl, m_n0 rfl, fun _ => ⟨(m_gi7 159 rfl rfl), (m_gi7 160 rfl rfl)⟩, m_n0 rfl⟩⟩, (fun _ h => absurd h List.not_mem_nil)⟩)⟩)⟩)⟩)
set_option maxRecDepth 4000 in
theorem vo_192 : ∀ q ∈ M_192.2.2.2.2.2.2.2.1, m_oOk M_192.1 q := (List.forall_mem_cons.mpr ⟨⟨m_n0 rfl, m_n0 rfl, m_n0 rfl, m_n0 rfl, fun _ => ⟨"java/lang/String", "COMPACT_STRINGS", "Z", by decide, (m_gi2 238 rfl rfl)⟩, m_n0 rfl, m_n0 rfl, Nat.le_of_ble_eq_true rfl⟩, (fun _ h => absurd h List.not_mem_nil)⟩)
set_option maxRecDepth 4000 in
theorem vk_192 : ∀ q ∈ M_192.2.2.2.2.2.2.2.2, decode M_192.2.1 q.1 = .ok (q.2.1, q.2.2) := by decide +kernel
set_option maxRecDepth 4000 in
theorem v_192 : m_mOk M_192 := ⟨(m_gi7 60 rfl rfl), (m_gi1 8 rfl rfl), by decide +kernel, ⟨by decide +kernel, by decide +kernel⟩, by decide +kernel, vf_192, vc_192, vo_192, vk_192⟩
set_option maxRecDepth 4000 in
theorem vf_193 : ∀ q ∈ M_193.2.2.2.2.2.1, m_fOk M_193.1 q := (List.forall_mem_cons.mpr ⟨⟨(R_3, F_3, 4), rfl, Nat.le_of_ble_eq_true rfl, ⟨"java/lang/AbstractStringBuilder", (m_gi1 150 rfl rfl), Or.inl rfl⟩, fun _ => rfl, m_n0 rfl⟩, (fun _ h => absurd h List.not_mem_nil)⟩)
set_option maxRecDepth 4000 in
theorem vc_193 : ∀ q ∈ M_193.2.2.2.2.2.2.1, m_cOk M_193.1 q := (fun _ h => absurd h List.not_mem_nil)
set_option maxRecDepth 4000 in
theorem vo_193 : ∀ q ∈ M_193.2.2.2.2.2.2.2.1, m_oOk M_193.1 q := (fun _ h => absurd h List.not_mem_nil)
set_option maxRecDepth 4000 in
theorem vk_193 : ∀ q ∈ M_193.2.2.2.2.2.2.2.2, decode M_193.2.1 q.1 = .ok (q.2.1, q.2.2) := by decide +kernel
set_option maxRecDepth 4000 in
theorem v_193 : m_mOk M_193 := ⟨(m_gi7 66 rfl rfl), (m_gi1 6 rfl rfl), by decide +kernel, ⟨by decide +kernel, by decide +kernel⟩, by decide +kernel, vf_193, vc_193, vo_193, vk_193⟩
set_option maxRecDepth 4000 in
theorem vf_194 : ∀ q ∈ M_194.2.2.2.2.2.1, m_fOk M_194.1 q := (fun _ h => absurd h List.not_mem_nil)
set_option maxRecDepth 4000 in
theorem vc_194 : ∀ q ∈ M_194.2.2.2.2.2.2.1, m_cOk M_194.1 q := (fun _ h => absurd h List.not_mem_nil)
set_option maxRecDepth 4000 in
theorem vo_194 : ∀ q ∈ M_194.2.2.2.2.2.2.2.1, m_oOk M_194.1 q := (fun _ h => absurd h List.not_mem_nil)
set_option maxRecDepth 4000 in
theorem vk_194 : ∀ q ∈ M_194.2.2.2.2.2.2.2.2, decode M_194.2.1 q.1 = .ok (q.2.1, q.2.2) := by decide +kernel
set_option maxRecDepth 4000 in
theorem v_194 : m_mOk M_194 := ⟨(m_gi7 72 rfl rfl), (m_gi1 7 rfl rfl), by decide +kernel, ⟨by decide +kernel, by decide +kernel⟩, by decide +kernel, vf_194, vc_194, vo_194, vk_194⟩
set_option maxRecDepth 4000 in
theorem vf_195 : ∀ q ∈ M_195.2.2.2.2.2.1, m_fOk M_195.1 q := (List.forall_mem_cons.mpr ⟨⟨(R_3, F_3, 4), rfl, Nat.le_of_ble_eq_true rfl, ⟨"java/lang/AbstractStringBuilder", (m_gi1 154 rfl rfl), Or.inl rfl⟩, fun _ => rfl, m_n0 rfl⟩, (fun _ h => absurd h List.not_mem_nil)⟩)
set_option maxRecDepth 4000 in
theorem vc_195 : ∀ q ∈ M_195.2.2.2.2.2.2.1, m_cOk M_195.1 q := (fun _ h => absurd h List.not_mem_nil)
set_option maxRecDepth 4000 in
theorem vo_195 : ∀ q ∈ M_195.2.2.2.2.2.2.2.1, m_oOk M_195.1 q := (fun _ h => absurd h List.not_mem_nil)
set_option maxRecDepth 4000 in
theorem vk_195 : ∀ q ∈ M_195.2.2.2.2.2.2.2.2, decode M_195.2.1 q.1 = .ok (q.2.1, q.2.2) := by decide +kernel
set_option maxRecDepth 4000 in
theorem v_195 : m_mOk M_195 := ⟨(m_gi7 74 rfl rfl), (m_gi1 6 rfl rfl), by decide +kernel, ⟨by decide +kernel, by decide +kernel⟩, by decide +kernel, vf_195, vc_195, vo_195, vk_195⟩
set_option maxRecDepth 4000 in
theorem vf_196 : ∀ q ∈ M_196.2.2.2.2.2.1, m_fOk M_196.1 q := (fun _ h => absurd h List.not_mem_nil)
set_option maxRecDepth 4000 in
theorem vc_196 : ∀ q ∈ M_196.2.2.2.2.2.2.1, m_cOk M_196.1 q := (List.forall_mem_cons.mpr ⟨⟨m_n0 rfl, m_n0 rfl, m_n0 rfl, fun _ => ⟨M_197, rfl, m_n0 rfl, m_n0 rfl, fun _ => ⟨(m_gi7 79 rfl rfl), (m_gi7 80 rfl rfl)⟩, m_n0 rfl⟩⟩, (fun _ h => absurd h List.not_mem_nil)⟩)
set_option maxRecDepth 4000 in
theorem vo_196 : ∀ q ∈ M_196.2.2.2.2.2.2.2.1, m_oOk M_196.1 q := (fun _ h => absurd h List.not_mem_nil)
set_option maxRecDepth 4000 in
theorem vk_196 : ∀ q ∈ M_196.2.2.2.2.2.2.2.2, decode M_196.2.1 q.1 = .ok (q.2.1, q.2.2) := by decide +kernel
set_option maxRecDepth 4000 in
theorem v_196 : m_mOk M_196 := ⟨(m_gi7 78 rfl rfl), (m_gi1 25 rfl rfl), by decide +kernel, ⟨by decide +kernel, by decide +kernel⟩, by decide +kernel, vf_196, vc_196, vo_196, vk_196⟩
set_option maxRecDepth 4000 in
theorem vf_197 : ∀ q ∈ M_197.2.2.2.2.2.1, m_fOk M_197.1 q := (fun _ h => absurd h List.not_mem_nil)
set_option maxRecDepth 4000 in
theorem vc_197 : ∀ q ∈ M_197.2.2.2.2.2.2.1, m_cOk M_197.1 q := (List.forall_mem_cons.mpr ⟨⟨m_n0 rfl, m_n0 rfl, fun _ => (m_gi4 40 rfl rfl), m_n1 rfl⟩, (List.forall_mem_cons.mpr ⟨⟨m_n0 rfl, m_n0 rfl, m_n0 rfl, fun _ => ⟨M_198, rfl, m_n0 rfl, m_n0 rfl, fun _ => ⟨(m_gi7 82 rfl rfl), (m_gi7 83 rfl rfl)⟩, m_n0 rfl⟩⟩, (fun _ h => absurd h List.not_mem_nil)⟩)⟩)
set_option maxRecDepth 4000 in
theorem vo_197 : ∀ q ∈ M_197.2.2.2.2.2.2.2.1, m_oOk M_197.1 q := (fun _ h => absurd h List.not_mem_nil)
set_option maxRecDepth 4000 in
theorem vk_197 : ∀ q ∈ M_197.2.2.2.2.2.2.2.2, decode M_197.2.1 q.1 = .ok (q.2.1, q.2.2) := by decide +kernel
set_option maxRecDepth 4000 in
theorem v_197 : m_mOk M_197 := ⟨(m_gi7 81 rfl rfl), (m_gi1 25 rfl rfl), by decide +kernel, ⟨by decide +kernel, by decide +kernel⟩, by decide +kernel, vf_197, vc_197, vo_197, vk_197⟩
set_option maxRecDepth 4000 in
theorem vf_198 : ∀ q ∈ M_198.2.2.2.2.2.1, m_fOk M_198.1 q := (fun _ h => absurd h List.not_mem_nil)
set_option maxRecDepth 4000 in
theorem vc_198 : ∀ q ∈ M_198.2.2.2.2.2.2.1, m_cOk M_198.1 q := (List.forall_mem_cons.mpr ⟨⟨m_n0 rfl, m_n0 rfl, m_n0 rfl, fun _ => ⟨M_5, rfl, fun _ => ⟨rfl, rfl, (m_gi7 129 rfl rfl), (m_gi1 135 rfl rfl)⟩, m_n0 rfl, m_n0 rfl, m_n0 rfl⟩⟩, (List.forall_mem_cons.mpr ⟨⟨m_n0 rfl, m_n0 rfl, m_n0 rfl, fun _ => ⟨M_163, rfl, m_n0 rfl, fun _ => ⟨(m_gi7 132 rfl rfl), (m_gi6 179 rfl rfl), (R_3, F_3, 4), rfl, rfl, (m_gi6 180 rfl rfl)⟩, m_n0 rfl, m_n0 rfl⟩⟩, (List.forall_mem_cons.mpr ⟨⟨m_n0 rfl, m_n0 rfl, m_n0 rfl, fun _ => ⟨M_184, rfl, m_n0 rfl, fun _ => ⟨(m_gi7 130 rfl rfl), (m_gi7 25 rfl rfl), (R_3, F_3, 4), rfl, rfl, (m_gi7 26 rfl rfl)⟩, m_n0 rfl, m_n0 rfl⟩⟩, (List.forall_mem_cons.mpr ⟨⟨m_n0 rfl, m_n0 rfl, m_n0 rfl, fun _ => ⟨M_190, rfl, m_n0 rfl, fun _ => ⟨(m_gi7 133 rfl rfl), (m_gi7 50 rfl rfl), (R_3, F_3, 4), rfl, rfl, (m_gi7 51 rfl rfl)⟩, m_n0 rfl, m_n0 rfl⟩⟩, (List.forall_mem_cons.mpr ⟨⟨m_n0 rfl, m_n0 rfl, m_n0 rfl, fun _ => ⟨M_200, rfl, fun _ => ⟨rfl, rfl, (m_gi7 134 rfl rfl), (m_gi7 135 rfl rfl)⟩, m_n0 rfl, m_n0 rfl, m_n0 rfl⟩⟩, (fun _ h => absurd h List.not_mem_nil)⟩)⟩)⟩)⟩)⟩)
set_option maxRecDepth 4000 in
theorem vo_198 : ∀ q ∈ M_198.2.2.2.2.2.2.2.1, m_oOk M_198.1 q := (List.forall_mem_cons.mpr ⟨⟨fun _ => ⟨(R_3, F_3, 4), rfl, (m_gi7 128 rfl rfl), (m_gi1 133 rfl rfl), (m_gi1 7 rfl rfl)⟩, m_n0 rfl, m_n0 rfl, m_n0 rfl, m_n0 rfl, m_n0 rfl, m_n0 rfl, Nat.le_of_ble_eq_true rfl⟩, (List.forall_mem_cons.mpr ⟨⟨m_n0 rfl, m_n0 rfl, m_n0 rfl, m_n0 rfl, m_n0 rfl, fun _ => ⟨_, List.mem_of_getElem? (i := 109) rfl⟩, m_n0 rfl, Nat.le_of_ble_eq_true rfl⟩, (fun _ h => absurd h List.not_mem_nil)⟩)⟩)
set_option maxRecDepth 4000 in
theorem vk_198 : ∀ q ∈ M_198.2.2.2.2.2.2.2.2, decode M_198.2.1 q.1 = .ok (q.2.1, q.2.2) := by decide +kernel
set_option maxRecDepth 4000 in
theorem v_198 : m_mOk M_198 := ⟨(m_gi7 84 rfl rfl), (m_gi1 25 rfl rfl), by decide +kernel, ⟨by decide +kernel, by decide +kernel⟩, by decide +kernel, vf_198, vc_198, vo_198, vk_198⟩
set_option maxRecDepth 4000 in
theorem vf_199 : ∀ q ∈ M_199.2.2.2.2.2.1, m_fOk M_199.1 q := (fun _ h => absurd h List.not_mem_nil)
set_option maxRecDepth 4000 in
theorem vc_199 : ∀ q ∈ M_199.2.2.2.2.2.2.1, m_cOk M_199.1 q := (List.forall_mem_cons.mpr ⟨⟨fun _ => (m_gi7 110 rfl rfl), m_n0 rfl, m_n0 rfl, m_n1 rfl⟩, (fun _ h => absurd h List.not_mem_nil)⟩)
set_option maxRecDepth 4000 in
theorem vo_199 : ∀ q ∈ M_199.2.2.2.2.2.2.2.1, m_oOk M_199.1 q := (fun _ h => absurd h List.not_mem_nil)
set_option maxRecDepth 4000 in
theorem vk_199 : ∀ q ∈ M_199.2.2.2.2.2.2.2.2, decode M_199.2.1 q.1 = .ok (q.2.1, q.2.2) := by decide +kernel
set_option maxRecDepth 4000 in
theorem v_199 : m_mOk M_199 := ⟨(m_gi7 109 rfl rfl), (m_gi1 16 rfl rfl), by decide +kernel, ⟨by decide +kernel, by decide +kernel⟩, by decide +kernel, vf_199, vc_199, vo_199, vk_199⟩
set_option maxRecDepth 4000 in
theorem vf_200 : ∀ q ∈ M_200.2.2.2.2.2.1, m_fOk M_200.1 q := (fun _ h => absurd h List.not_mem_nil)
set_option maxRecDepth 4000 in
theorem vc_200 : ∀ q ∈ M_200.2.2.2.2.2.2.1, m_cOk M_200.1 q := (List.forall_mem_cons.mpr ⟨⟨m_n0 rfl, m_n0 rfl, m_n0 rfl, fun _ => ⟨M_201, rfl, fun _ => ⟨rfl, rfl, (m_gi7 137 rfl rfl), (m_gi7 138 rfl rfl)⟩, m_n0 rfl, m_n0 rfl, m_n0 rfl⟩⟩, (fun _ h => absurd h List.not_mem_nil)⟩)
set_option maxRecDepth 4000 in
theorem vo_200 : ∀ q ∈ M_200.2.2.2.2.2.2.2.1, m_oOk M_200.1 q := (fun _ h => absurd h List.not_mem_nil)
set_option maxRecDepth 4000 in
theorem vk_200 : ∀ q ∈ M_200.2.2.2.2.2.2.2.2, decode M_200.2.1 q.1 = .ok (q.2.1, q.2.2) := by decide +kernel
set_option maxRecDepth 4000 in
theorem v_200 : m_mOk M_200 := ⟨(m_gi7 136 rfl rfl), (m_gi1 19 rfl rfl), by decide +kernel, ⟨by decide +kernel, by decide +kernel⟩, by decide +kernel, vf_200, vc_200, vo_200, vk_200⟩
set_option maxRecDepth 4000 in
theorem vf_201 : ∀ q ∈ M_201.2.2.2.2.2.1, m_fOk M_201.1 q := (fun _ h => absurd h List.not_mem_nil)
set_option maxRecDepth 4000 in
theorem vc_201 : ∀ q ∈ M_201.2.2.2.2.2.2.1, m_cOk M_201.1 q := (List.forall_mem_cons.mpr ⟨⟨m_n0 rfl, m_n0 rfl, m_n0 rfl, fun _ => ⟨M_202, rfl, fun _ => ⟨rfl, rfl, (m_gi7 140 rfl rfl), (m_gi7 141 rfl rfl)⟩, m_n0 rfl, m_n0 rfl, m_n0 rfl⟩⟩, (fun _ h => absurd h List.not_mem_nil)⟩)
set_option maxRecDepth 4000 in
theorem vo_201 : ∀ q ∈ M_201.2.2.2.2.2.2.2.1, m_oOk M_201.1 q := (fun _ h => absurd h List.not_mem_nil)
set_option maxRecDepth 4000 in
theorem vk_201 : ∀ q ∈ M_201.2.2.2.2.2.2.2.2, decode M_201.2.1 q.1 = .ok (q.2.1, q.2.2) := by decide +kernel
set_option maxRecDepth 4000 in
theorem v_201 : m_mOk M_201 := ⟨(m_gi7 139 rfl rfl), (m_gi1 18 rfl rfl), by decide +kernel, ⟨by decide +kernel, by decide +kernel⟩, by decide +kernel, vf_201, vc_201, vo_201, vk_201⟩
set_option maxRecDepth 4000 in
theorem vf_202 : ∀ q ∈ M_202.2.2.2.2.2.1, m_fOk M_202.1 q := (fun _ h => absurd h List.not_mem_nil)
set_option maxRecDepth 4000 in
theorem vc_202 : ∀ q ∈ M_202.2.2.2.2.2.2.1, m_cOk M_202.1 q := (List.forall_mem_cons.mpr ⟨⟨m_n0 rfl, m_n0 rfl, m_n0 rfl, fun _ => ⟨M_203, rfl, fun _ => ⟨rfl, rfl, (m_gi7 143 rfl rfl), (m_gi7 144 rfl rfl)⟩, m_n0 rfl, m_n0 rfl, m_n0 rfl⟩⟩, (fun _ h => absurd h List.not_mem_nil)⟩)
set_option maxRecDepth 4000 in
theorem vo_202 : ∀ q ∈ M_202.2.2.2.2.2.2.2.1, m_oOk M_202.1 q := (fun _ h => absurd h List.not_mem_nil)
set_option maxRecDepth 4000 in
theorem vk_202 : ∀ q ∈ M_202.2.2.2.2.2.2.2.2, decode M_202.2.1 q.1 = .ok (q.2.1, q.2.2) := by decide +kernel
set_option maxRecDepth 4000 in
theorem v_202 : m_mOk M_202 := ⟨(m_gi7 142 rfl rfl), (m_gi1 17 rfl rfl), by decide +kernel, ⟨by decide +kernel, by decide +kernel⟩, by decide +kernel, vf_202, vc_202, vo_202, vk_202⟩
set_option maxRecDepth 4000 in
theorem vf_203 : ∀ q ∈ M_203.2.2.2.2.2.1, m_fOk M_203.1 q := (fun _ h => absurd h List.not_mem_nil)
set_option maxRecDepth 4000 in
theorem vc_203 : ∀ q ∈ M_203.2.2.2.2.2.2.1, m_cOk M_203.1 q := (List.forall_mem_cons.mpr ⟨⟨fun _ => (m_gi7 110 rfl rfl), m_n0 rfl, m_n0 rfl, m_n1 rfl⟩, (fun _ h => absurd h List.not_mem_nil)⟩)
set_option maxRecDepth 4000 in
theorem vo_203 : ∀ q ∈ M_203.2.2.2.2.2.2.2.1, m_oOk M_203.1 q := (fun _ h => absurd h List.not_mem_nil)
set_option maxRecDepth 4000 in
theorem vk_203 : ∀ q ∈ M_203.2.2.2.2.2.2.2.2, decode M_203.2.1 q.1 = .ok (q.2.1, q.2.2) := by decide +kernel
set_option maxRecDepth 4000 in
theorem v_203 : m_mOk M_203 := ⟨(m_gi7 145 rfl rfl), (m_gi1 16 rfl rfl), by decide +kernel, ⟨by decide +kernel, by decide +kernel⟩, by decide +kernel, vf_203, vc_203, vo_203, vk_203⟩
set_option maxRecDepth 4000 in
theorem vf_204 : ∀ q ∈ M_204.2.2.2.2.2.1, m_fOk M_204.1 q := (fun _ h => absurd h List.not_mem_nil)
set_option maxRecDepth 4000 in
theorem vc_204 : ∀ q ∈ M_204.2.2.2.2.2.2.1, m_cOk M_204.1 q := (List.forall_mem_cons.mpr ⟨⟨m_n0 rfl, m_n0 rfl, m_n0 rfl, fun _ => ⟨M_8, rfl, m_n0 rfl, m_n0 rfl, fun _ => ⟨(m_gi1 146 rfl rfl), (m_gi1 147 rfl rfl)⟩, m_n0 rfl⟩⟩, (List.forall_mem_cons.mpr ⟨⟨m_n0 rfl, m_n0 rfl, m_n0 rfl, fun _ => ⟨M_34, rfl, m_n0 rfl, m_n0 rfl, fun _ => ⟨(m_gi3 28 rfl rfl), (m_gi3 29 rfl rfl)⟩, m_n0 rfl⟩⟩, (List.forall_mem_cons.mpr ⟨⟨m_n0 rfl, m_n0 rfl, m_n0 rfl, fun _ => ⟨M_205, rfl, m_n0 rfl, m_n0 rfl, fun _ => ⟨(m_gi7 162 rfl rfl), (m_gi7 163 rfl rfl)⟩, m_n0 rfl⟩⟩, (List.forall_mem_cons.mpr ⟨⟨m_n0 rfl, m_n0 rfl, m_n0 rfl, fun _ => ⟨M_196, rfl, m_n0 rfl, m_n0 rfl, fun _ => ⟨(m_gi7 165 rfl rfl), (m_gi7 77 rfl rfl)⟩, m_n0 rfl⟩⟩, (fun _ h => absurd h List.not_mem_nil)⟩)⟩)⟩)⟩)
set_option maxRecDepth 4000 in
theorem vo_204 : ∀ q ∈ M_204.2.2.2.2.2.2.2.1, m_oOk M_204.1 q := (fun _ h => absurd h List.not_mem_nil)
set_option maxRecDepth 4000 in
theorem vk_204 : ∀ q ∈ M_204.2.2.2.2.2.2.2.2, decode M_204.2.1 q.1 = .ok (q.2.1, q.2.2) := by decide +kernel
set_option maxRecDepth 4000 in
theorem v_204 : m_mOk M_204 := ⟨(m_gi7 161 rfl rfl), (m_gi1 9 rfl rfl), by decide +kernel, ⟨by decide +kernel, by decide +kernel⟩, by decide +kernel, vf_204, vc_204, vo_204, vk_204⟩
set_option maxRecDepth 4000 in
theorem vf_205 : ∀ q ∈ M_205.2.2.2.2.2.1, m_fOk M_205.1 q := (fun _ h => absurd h List.not_mem_nil)
set_option maxRecDepth 4000 in
theorem vc_205 : ∀ q ∈ M_205.2.2.2.2.2.2.1, m_cOk M_205.1 q := (List.forall_mem_cons.mpr ⟨⟨m_n0 rfl, m_n0 rfl, m_n0 rfl, fun _ => ⟨M_34, rfl, m_n0 rfl, m_n0 rfl, fun _ => ⟨(m_gi3 28 rfl rfl), (m_gi3 29 rfl rfl)⟩, m_n0 rfl⟩⟩, (List.forall_mem_cons.mpr ⟨⟨m_n0 rfl, m_n0 rfl, m_n0 rfl, fun _ => ⟨M_180, rfl, m_n0 rfl, m_n0 rfl, fun _ => ⟨(m_gi7 9 rfl rfl), (m_gi7 10 rfl rfl)⟩, m_n0 rfl⟩⟩, (fun _ h => absurd h List.not_mem_nil)⟩)⟩)
set_option maxRecDepth 4000 in
theorem vo_205 : ∀ q ∈ M_205.2.2.2.2.2.2.2.1, m_oOk M_205.1 q := (fun _ h => absurd h List.not_mem_nil)
set_option maxRecDepth 4000 in
theorem vk_205 : ∀ q ∈ M_205.2.2.2.2.2.2.2.2, decode M_205.2.1 q.1 = .ok (q.2.1, q.2.2) := by decide +kernel
set_option maxRecDepth 4000 in
theorem v_205 : m_mOk M_205 := ⟨(m_gi7 164 rfl rfl), (m_gi1 9 rfl rfl), by decide +kernel, ⟨by decide +kernel, by decide +kernel⟩, by decide +kernel, vf_205, vc_205, vo_205, vk_205⟩
set_option maxRecDepth 4000 in
theorem vf_206 : ∀ q ∈ M_206.2.2.2.2.2.1, m_fOk M_206.1 q := (fun _ h => absurd h List.not_mem_nil)
set_option maxRecDepth 4000 in
theorem vc_206 : ∀ q ∈ M_206.2.2.2.2.2.2.1, m_cOk M_206.1 q := (fun _ h => absurd h List.not_mem_nil)
set_option maxRecDepth 4000 in
theorem vo_206 : ∀ q ∈ M_206.2.2.2.2.2.2.2.1, m_oOk M_206.1 q := (fun _ h => absurd h List.not_mem_nil)
set_option maxRecDepth 4000 in
theorem vk_206 : ∀ q ∈ M_206.2.2.2.2.2.2.2.2, decode M_206.2.1 q.1 = .ok (q.2.1, q.2.2) := by decide +kernel
set_option maxRecDepth 4000 in
theorem v_206 : m_mOk M_206 := ⟨(m_gi7 168 rfl rfl), (m_gi1 9 rfl rfl), by decide +kernel, ⟨by decide +kernel, by decide +kernel⟩, by decide +kernel, vf_206, vc_206, vo_206, vk_206⟩
set_option maxRecDepth 4000 in
theorem vf_207 : ∀ q ∈ M_207.2.2.2.2.2.1, m_fOk M_207.1 q := (fun _ h => absurd h List.not_mem_nil)
set_option maxRecDepth 4000 in
theorem vc_207 : ∀ q ∈ M_207.2.2.2.2.2.2.1, m_cOk M_207.1 q := (List.forall_mem_cons.mpr ⟨⟨m_n0 rfl, m_n0 rfl, m_n0 rfl, fun _ => ⟨M_201, rfl, fun _ => ⟨rfl, rfl, (m_gi7 183 rfl rfl), (m_gi7 138 rfl rfl)⟩, m_n0 rfl, m_n0 rfl, m_n0 rfl⟩⟩, (fun _ h => absurd h List.not_mem_nil)⟩)
set_option maxRecDepth 4000 in
theorem vo_207 : ∀ q ∈ M_207.2.2.2.2.2.2.2.1, m_oOk M_207.1 q := (fun _ h => absurd h List.not_mem_nil)
set_option maxRecDepth 4000 in
theorem vk_207 : ∀ q ∈ M_207.2.2.2.2.2.2.2.2, decode M_207.2.1 q.1 = .ok (q.2.1, q.2.2) := by decide +kernel
set_option maxRecDepth 4000 in
theorem v_207 : m_mOk M_207 := ⟨(m_gi7 182 rfl rfl), (m_gi1 33 rfl rfl), by decide +kernel, ⟨by decide +kernel, by decide +kernel⟩, by decide +kernel, vf_207, vc_207, vo_207, vk_207⟩
set_option maxRecDepth 4000 in
theorem vf_208 : ∀ q ∈ M_208.2.2.2.2.2.1, m_fOk M_208.1 q := (fun _ h => absurd h List.not_mem_nil)
set_option maxRecDepth 4000 in
theorem vc_208 : ∀ q ∈ M_208.2.2.2.2.2.2.1, m_cOk M_208.1 q := (List.forall_mem_cons.mpr ⟨⟨m_n0 rfl, m_n0 rfl, m_n0 rfl, fun _ => ⟨M_209, rfl, m_n0 rfl, m_n0 rfl, fun _ => ⟨(m_gi7 194 rfl rfl), (m_gi7 195 rfl rfl)⟩, m_n0 rfl⟩⟩, (fun _ h => absurd h List.not_mem_nil)⟩)
set_option maxRecDepth 4000 in
theorem vo_208 : ∀ q ∈ M_208.2.2.2.2.2.2.2.1, m_oOk M_208.1 q := (fun _ h => absurd h List.not_mem_nil)
set_option maxRecDepth 4000 in
theorem vk_208 : ∀ q ∈ M_208.2.2.2.2.2.2.2.2, decode M_208.2.1 q.1 = .ok (q.2.1, q.2.2) := by decide +kernel
set_option maxRecDepth 4000 in
theorem v_208 : m_mOk M_208 := ⟨(m_gi7 193 rfl rfl), (m_gi1 14 rfl rfl), by decide +kernel, ⟨by decide +kernel, by decide +kernel⟩, by decide +kernel, vf_208, vc_208, vo_208, vk_208⟩
set_option maxRecDepth 4000 in
theorem vf_209 : ∀ q ∈ M_209.2.2.2.2.2.1, m_fOk M_209.1 q := (fun _ h => absurd h List.not_mem_nil)
set_option maxRecDepth 4000 in
theorem vc_209 : ∀ q ∈ M_209.2.2.2.2.2.2.1, m_cOk M_209.1 q := (List.forall_mem_cons.mpr ⟨⟨m_n0 rfl, m_n0 rfl, m_n0 rfl, fun _ => ⟨M_210, rfl, m_n0 rfl, m_n0 rfl, fun _ => ⟨(m_gi7 197 rfl rfl), (m_gi7 198 rfl rfl)⟩, m_n0 rfl⟩⟩, (fun _ h => absurd h List.not_mem_nil)⟩)
set_option maxRecDepth 4000 in
theorem vo_209 : ∀ q ∈ M_209.2.2.2.2.2.2.2.1, m_oOk M_209.1 q := (fun _ h => absurd h List.not_mem_nil)
set_option maxRecDepth 4000 in
theorem vk_209 : ∀ q ∈ M_209.2.2.2.2.2.2.2.2, decode M_209.2.1 q.1 = .ok (q.2.1, q.2.2) := by decide +kernel
set_option maxRecDepth 4000 in
theorem v_209 : m_mOk M_209 := ⟨(m_gi7 196 rfl rfl), (m_gi1 25 rfl rfl), by decide +kernel, ⟨by decide +kernel, by decide +kernel⟩, by decide +kernel, vf_209, vc_209, vo_209, vk_209⟩
set_option maxRecDepth 4000 in
theorem vf_210 : ∀ q ∈ M_210.2.2.2.2.2.1, m_fOk M_210.1 q := (fun _ h => absurd h List.not_mem_nil)
set_option maxRecDepth 4000 in
theorem vc_210 : ∀ q ∈ M_210.2.2.2.2.2.2.1, m_cOk M_210.1 q := (List.forall_mem_cons.mpr ⟨⟨m_n0 rfl, m_n0 rfl, m_n0 rfl, fun _ => ⟨M_5, rfl, fun _ => ⟨rfl, rfl, (m_gi7 129 rfl rfl), (m_gi1 135 rfl rfl)⟩, m_n0 rfl, m_n0 rfl, m_n0 rfl⟩⟩, (List.forall_mem_cons.mpr ⟨⟨m_n0 rfl, m_n0 rfl, m_n0 rfl, fun _ => ⟨M_163, rfl, m_n0 rfl, fun _ => ⟨(m_gi7 132 rfl rfl), (m_gi6 179 rfl rfl), (R_3, F_3, 4), rfl, rfl, (m_gi6 180 rfl rfl)⟩, m_n0 rfl, m_n0 rfl⟩⟩, (List.forall_mem_cons.mpr ⟨⟨m_n0 rfl, m_n0 rfl, m_n0 rfl, fun _ => ⟨M_184, rfl, m_n0 rfl, fun _ => ⟨(m_gi7 130 rfl rfl), (m_gi7 25 rfl rfl), (R_3, F_3, 4), rfl, rfl, (m_gi7 26 rfl rfl)⟩, m_n0 rfl, m_n0 rfl⟩⟩, (List.forall_mem_cons.mpr ⟨⟨m_n0 rfl, m_n0 rfl, m_n0 rfl, fun _ => ⟨M_190, rfl, m_n0 rfl, fun _ => ⟨(m_gi7 133 rfl rfl), (m_gi7 50 rfl rfl), (R_3, F_3, 4), rfl, rfl, (m_gi7 51 rfl rfl)⟩, m_n0 rfl, m_n0 rfl⟩⟩, (List.forall_mem_cons.mpr ⟨⟨m_n0 rfl, m_n0 rfl, m_n0 rfl, fun _ => ⟨M_200, rfl, fun _ => ⟨rfl, rfl, (m_gi7 134 rfl rfl), (m_gi7 135 rfl rfl)⟩, m_n0 rfl, m_n0 rfl, m_n0 rfl⟩⟩, (List.forall_mem_cons.mpr ⟨⟨m_n0 rfl, m_n0 rfl, m_n0 rfl, fun _ => ⟨M_211, rfl, fun _ => ⟨rfl, rfl, (m_gi7 205 rfl rfl), (m_gi7 206 rfl rfl)⟩, m_n0 rfl, m_n0 rfl, m_n0 rfl⟩⟩, (fun _ h => absurd h List.not_mem_nil)⟩)⟩)⟩)⟩)⟩)⟩)
set_option maxRecDepth 4000 in
theorem vo_210 : ∀ q ∈ M_210.2.2.2.2.2.2.2.1, m_oOk M_210.1 q := (List.forall_mem_cons.mpr ⟨⟨fun _ => ⟨(R_3, F_3, 4), rfl, (m_gi7 128 rfl rfl), (m_gi1 133 rfl rfl), (m_gi1 7 rfl rfl)⟩, m_n0 rfl, m_n0 rfl, m_n0 rfl, m_n0 rfl, m_n0 rfl, m_n0 rfl, Nat.le_of_ble_eq_true rfl⟩, (List.forall_mem_cons.mpr ⟨⟨m_n0 rfl, m_n0 rfl, m_n0 rfl, m_n0 rfl, m_n0 rfl, fun _ => ⟨_, List.mem_of_getElem? (i := 106) rfl⟩, m_n0 rfl, Nat.le_of_ble_eq_true rfl⟩, (List.forall_mem_cons.mpr ⟨⟨m_n0 rfl, m_n0 rfl, m_n0 rfl, m_n0 rfl, m_n0 rfl, fun _ => ⟨_, List.mem_of_getElem? (i := 107) rfl⟩, m_n0 rfl, Nat.le_of_ble_eq_true rfl⟩, (List.forall_mem_cons.mpr ⟨⟨m_n0 rfl, m_n0 rfl, m_n0 rfl, m_n0 rfl, m_n0 rfl, fun _ => ⟨_, List.mem_of_getElem? (i := 108) rfl⟩, m_n0 rfl, Nat.le_of_ble_eq_true rfl⟩, (fun _ h => absurd h List.not_mem_nil)⟩)⟩)⟩)⟩)
set_option maxRecDepth 4000 in
theorem vk_210 : ∀ q ∈ M_210.2.2.2.2.2.2.2.2, decode M_210.2.1 q.1 = .ok (q.2.1, q.2.2) := by decide +kernel
set_option maxRecDepth 4000 in
theorem v_210 : m_mOk M_210 := ⟨(m_gi7 199 rfl rfl), (m_gi1 25 rfl rfl), by decide +kernel, ⟨by decide +kernel, by decide +kernel⟩, by decide +kernel, vf_210, vc_210, vo_210, vk_210⟩
set_option maxRecDepth 4000 in
theorem vf_211 : ∀ q ∈ M_211.2.2.2.2.2.1, m_fOk M_211.1 q := (fun _ h => absurd h List.not_mem_nil)
set_option maxRecDepth 4000 in
theorem vc_211 : ∀ q ∈ M_211.2.2.2.2.2.2.1, m_cOk M_211.1 q := (List.forall_mem_cons.mpr ⟨⟨m_n0 rfl, m_n0 rfl, m_n0 rfl, fun _ => ⟨M_207, rfl, fun _ => ⟨rfl, rfl, (m_gi7 214 rfl rfl), (m_gi7 181 rfl rfl)⟩, m_n0 rfl, m_n0 rfl, m_n0 rfl⟩⟩, (List.forall_mem_cons.mpr ⟨⟨m_n0 rfl, m_n0 rfl, m_n0 rfl, fun _ => ⟨M_5, rfl, fun _ => ⟨rfl, rfl, (m_gi7 209 rfl rfl), (m_gi1 135 rfl rfl)⟩, m_n0 rfl, m_n0 rfl, m_n0 rfl⟩⟩, (List.forall_mem_cons.mpr ⟨⟨m_n0 rfl, m_n0 rfl, m_n0 rfl, fun _ => ⟨M_163, rfl, m_n0 rfl, fun _ => ⟨(m_gi7 211 rfl rfl), (m_gi6 179 rfl rfl), (R_3, F_3, 4), rfl, rfl, (m_gi6 180 rfl rfl)⟩, m_n0 rfl, m_n0 rfl⟩⟩, (List.forall_mem_cons.mpr ⟨⟨m_n0 rfl, m_n0 rfl, m_n0 rfl, fun _ => ⟨M_184, rfl, m_n0 rfl, fun _ => ⟨(m_gi7 212 rfl rfl), (m_gi7 25 rfl rfl), (R_3, F_3, 4), rfl, rfl, (m_gi7 26 rfl rfl)⟩, m_n0 rfl, m_n0 rfl⟩⟩, (List.forall_mem_cons.mpr ⟨⟨m_n0 rfl, m_n0 rfl, m_n0 rfl, fun _ => ⟨M_190, rfl, m_n0 rfl, fun _ => ⟨(m_gi7 213 rfl rfl), (m_gi7 50 rfl rfl), (R_3, F_3, 4), rfl, rfl, (m_gi7 51 rfl rfl)⟩, m_n0 rfl, m_n0 rfl⟩⟩, (fun _ h => absurd h List.not_mem_nil)⟩)⟩)⟩)⟩)⟩)
set_option maxRecDepth 4000 in
theorem vo_211 : ∀ q ∈ M_211.2.2.2.2.2.2.2.1, m_oOk M_211.1 q := (List.forall_mem_cons.mpr ⟨⟨fun _ => ⟨(R_3, F_3, 4), rfl, (m_gi7 208 rfl rfl), (m_gi1 133 rfl rfl), (m_gi1 7 rfl rfl)⟩, m_n0 rfl, m_n0 rfl, m_n0 rfl, m_n0 rfl, m_n0 rfl, m_n0 rfl, Nat.le_of_ble_eq_true rfl⟩, (List.forall_mem_cons.mpr ⟨⟨m_n0 rfl, m_n0 rfl, m_n0 rfl, m_n0 rfl, m_n0 rfl, fun _ => ⟨_, List.mem_of_getElem? (i := 104) rfl⟩, m_n0 rfl, Nat.le_of_ble_eq_true rfl⟩, (fun _ h => absurd h List.not_mem_nil)⟩)⟩)
set_option maxRecDepth 4000 in
theorem vk_211 : ∀ q ∈ M_211.2.2.2.2.2.2.2.2, decode M_211.2.1 q.1 = .ok (q.2.1, q.2.2) := by decide +kernel
set_option maxRecDepth 4000 in
theorem v_211 : m_mOk M_211 := ⟨(m_gi7 207 rfl rfl), (m_gi1 35 rfl rfl), by decide +kernel, ⟨by decide +kernel, by decide +kernel⟩, by decide +kernel, vf_211, vc_211, vo_211, vk_211⟩
set_option maxRecDepth 4000 in
theorem vf_212 : ∀ q ∈ M_212.2.2.2.2.2.1, m_fOk M_212.1 q := (fun _ h => absurd h List.not_mem_nil)
set_option maxRecDepth 4000 in
theorem vc_212 : ∀ q ∈ M_212.2.2.2.2.2.2.1, m_cOk M_212.1 q := (List.forall_mem_cons.mpr ⟨⟨m_n0 rfl, m_n0 rfl, m_n0 rfl, fun _ => ⟨M_209, rfl, m_n0 rfl, m_n0 rfl, fun _ => ⟨(m_gi7 225 rfl rfl), (m_gi7 195 rfl rfl)⟩, m_n0 rfl⟩⟩, (fun _ h => absurd h List.not_mem_nil)⟩)
set_option maxRecDepth 4000 in
theorem vo_212 : ∀ q ∈ M_212.2.2.2.2.2.2.2.1, m_oOk M_212.1 q := (fun _ h => absurd h List.not_mem_nil)
set_option maxRecDepth 4000 in
theorem vk_212 : ∀ q ∈ M_212.2.2.2.2.2.2.2.2, decode M_212.2.1 q.1 = .ok (q.2.1, q.2.2) := by decide +kernel
set_option maxRecDepth 4000 in
theorem v_212 : m_mOk M_212 := ⟨(m_gi7 224 rfl rfl), (m_gi1 9 rfl rfl), by decide +kernel, ⟨by decide +kernel, by decide +kernel⟩, by decide +kernel, vf_212, vc_212, vo_212, vk_212⟩
set_option maxRecDepth 4000 in
theorem vf_213 : ∀ q ∈ M_213.2.2.2.2.2.1, m_fOk M_213.1 q := (List.forall_mem_cons.mpr ⟨⟨(R_8, F_8, 14), rfl, Nat.le_of_ble_eq_true rfl, ⟨"EdgeHouse$Reply", (m_gi3 176 rfl rfl), Or.inl rfl⟩, fun _ => rfl, m_n0 rfl⟩, (List.forall_mem_cons.mpr ⟨⟨(R_8, F_8, 14), rfl, Nat.le_of_ble_eq_true rfl, ⟨"EdgeHouse$Reply", (m_gi3 177 rfl rfl), Or.inl rfl⟩, fun _ => rfl, m_n0 rfl⟩, (List.forall_mem_cons.mpr ⟨⟨(R_8, F_8, 14), rfl, Nat.le_of_ble_eq_true rfl, ⟨"EdgeHouse$Reply", (m_gi3 187 rfl rfl), Or.inl rfl⟩, fun _ => rfl, m_n0 rfl⟩, (List.forall_mem_cons.mpr ⟨⟨(R_8, F_8, 14), rfl, Nat.le_of_ble_eq_true rfl, ⟨"EdgeHouse$Reply", (m_gi3 185 rfl rfl), Or.inl rfl⟩, fun _ => rfl, m_n0 rfl⟩, (List.forall_mem_cons.mpr ⟨⟨(R_8, F_8, 14), rfl, Nat.le_of_ble_eq_true rfl, ⟨"EdgeHouse$Reply", (m_gi3 174 rfl rfl), Or.inl rfl⟩, fun _ => rfl, m_n0 rfl⟩, (List.forall_mem_cons.mpr ⟨⟨(R_8, F_8, 14), rfl, Nat.le_of_ble_eq_true rfl, ⟨"EdgeHouse$Reply", (m_gi3 186 rfl rfl), Or.inl rfl⟩, fun _ => rfl, m_n0 rfl⟩, (fun _ h => absurd h List.not_mem_nil)⟩)⟩)⟩)⟩)⟩)⟩)
set_option maxRecDepth 4000 in
theorem vc_213 : ∀ q ∈ M_213.2.2.2.2.2.2.1, m_cOk M_213.1 q := (List.forall_mem_cons.mpr ⟨⟨m_n0 rfl, m_n0 rfl, m_n0 rfl, fun _ => ⟨M_184, rfl, m_n0 rfl, fun _ => ⟨(m_gi7 230 rfl rfl), (m_gi7 25 rfl rfl), (R_3, F_3, 4), rfl, rfl, (m_gi7 26 rfl rfl)⟩, m_n0 rfl, m_n0 rfl⟩⟩, (List.forall_mem_cons.mpr ⟨⟨m_n0 rfl, m_n0 rfl, m_n0 rfl, fun _ => ⟨M_214, rfl, m_n0 rfl, fun _ => ⟨(m_gi7 231 rfl rfl), (m_gi7 232 rfl rfl), (R_3, F_3, 4), rfl, rfl, (m_gi7 233 rfl rfl)⟩, m_n0 rfl, m_n0 rfl⟩⟩, (List.forall_mem_cons.mpr ⟨⟨m_n0 rfl, m_n0 rfl, m_n0 rfl, fun _ => ⟨M_218, rfl, m_n0 rfl, fun _ => ⟨(m_gi8 4 rfl rfl), (m_gi8 5 rfl rfl), (R_8, F_8, 14), rfl, rfl, (m_gi8 6 rfl rfl)⟩, m_n0 rfl, m_n0 rfl⟩⟩, (List.forall_mem_cons.mpr ⟨⟨m_n0 rfl, m_n0 rfl, m_n0 rfl, fun _ => ⟨M_163, rfl, m_n0 rfl, fun _ => ⟨(m_gi8 17 rfl rfl), (m_gi6 179 rfl rfl), (R_3, F_3, 4), rfl, rfl, (m_gi6 180 rfl rfl)⟩, m_n0 rfl, m_n0 rfl⟩⟩, (List.forall_mem_cons.mpr ⟨⟨m_n0 rfl, m_n0 rfl, m_n0 rfl, fun _ => ⟨M_219, rfl, m_n0 rfl, fun _ => ⟨(m_gi8 18 rfl rfl), (m_gi8 19 rfl rfl), (R_8, F_8, 14), rfl, rfl, (m_gi8 20 rfl rfl)⟩, m_n0 rfl, m_n0 rfl⟩⟩, (fun _ h => absurd h List.not_mem_nil)⟩)⟩)⟩)⟩)⟩)
set_option maxRecDepth 4000 in
theorem vo_213 : ∀ q ∈ M_213.2.2.2.2.2.2.2.1, m_oOk M_213.1 q := (fun _ h => absurd h List.not_mem_nil)
set_option maxRecDepth 4000 in
theorem vk_213 : ∀ q ∈ M_213.2.2.2.2.2.2.2.2, decode M_213.2.1 q.1 = .ok (q.2.1, q.2.2) := by decide +kernel
set_option maxRecDepth 4000 in
theorem v_213 : m_mOk M_213 := ⟨(m_gi7 229 rfl rfl), (m_gi1 23 rfl rfl), by decide +kernel, ⟨by decide +kernel, by decide +kernel⟩, by decide +kernel, vf_213, vc_213, vo_213, vk_213⟩
set_option maxRecDepth 4000 in
theorem vf_214 : ∀ q ∈ M_214.2.2.2.2.2.1, m_fOk M_214.1 q := (fun _ h => absurd h List.not_mem_nil)
set_option maxRecDepth 4000 in
theorem vc_214 : ∀ q ∈ M_214.2.2.2.2.2.2.1, m_cOk M_214.1 q := (fun _ h => absurd h List.not_mem_nil)
set_option maxRecDepth 4000 in
theorem vo_214 : ∀ q ∈ M_214.2.2.2.2.2.2.2.1, m_oOk M_214.1 q := (fun _ h => absurd h List.not_mem_nil)
set_option maxRecDepth 4000 in
theorem vk_214 : ∀ q ∈ M_214.2.2.2.2.2.2.2.2, decode M_214.2.1 q.1 = .ok (q.2.1, q.2.2) := by decide +kernel
set_option maxRecDepth 4000 in
theorem v_214 : m_mOk M_214 := ⟨(m_gi7 234 rfl rfl), (m_gi1 7 rfl rfl), by decide +kernel, ⟨by decide +kernel, by decide +kernel⟩, by decide +kernel, vf_214, vc_214, vo_214, vk_214⟩
set_option maxRecDepth 4000 in
theorem vf_215 : ∀ q ∈ M_215.2.2.2.2.2.1, m_fOk M_215.1 q := (List.forall_mem_cons.mpr ⟨⟨(R_3, F_3, 4), rfl, Nat.le_of_ble_eq_true rfl, ⟨"java/lang/AbstractStringBuilder", (m_gi1 150 rfl rfl), Or.inl rfl⟩, fun _ => rfl, m_n0 rfl⟩, (List.forall_mem_cons.mpr ⟨⟨(R_3, F_3, 4), rfl, Nat.le_of_ble_eq_true rfl, ⟨"java/lang/AbstractStringBuilder", (m_gi1 154 rfl rfl), Or.inl rfl⟩, fun _ => rfl, m_n0 rfl⟩, (fun _ h => absurd h List.not_mem_nil)⟩)⟩)
set_option maxRecDepth 4000 in
theorem vc_215 : ∀ q ∈ M_215.2.2.2.2.2.2.1, m_cOk M_215.1 q := (List.forall_mem_cons.mpr ⟨⟨m_n0 rfl, m_n0 rfl, m_n0 rfl, fun _ => ⟨M_216, rfl, m_n0 rfl, m_n0 rfl, fun _ => ⟨(m_gi7 238 rfl rfl), (m_gi7 239 rfl rfl)⟩, m_n0 rfl⟩⟩, (List.forall_mem_cons.mpr ⟨⟨m_n0 rfl, m_n0 rfl, m_n0 rfl, fun _ => ⟨M_217, rfl, m_n0 rfl, m_n0 rfl, fun _ => ⟨(m_gi8 1 rfl rfl), (m_gi8 2 rfl rfl)⟩, m_n0 rfl⟩⟩, (fun _ h => absurd h List.not_mem_nil)⟩)⟩)
set_option maxRecDepth 4000 in
theorem vo_215 : ∀ q ∈ M_215.2.2.2.2.2.2.2.1, m_oOk M_215.1 q := (fun _ h => absurd h List.not_mem_nil)
set_option maxRecDepth 4000 in
theorem vk_215 : ∀ q ∈ M_215.2.2.2.2.2.2.2.2, decode M_215.2.1 q.1 = .ok (q.2.1, q.2.2) := by decide +kernel
set_option maxRecDepth 4000 in
theorem v_215 : m_mOk M_215 := ⟨(m_gi7 237 rfl rfl), (m_gi1 6 rfl rfl), by decide +kernel, ⟨by decide +kernel, by decide +kernel⟩, by decide +kernel, vf_215, vc_215, vo_215, vk_215⟩
set_option maxRecDepth 4000 in
theorem vf_216 : ∀ q ∈ M_216.2.2.2.2.2.1, m_fOk M_216.1 q := (fun _ h => absurd h List.not_mem_nil)
set_option maxRecDepth 4000 in
theorem vc_216 : ∀ q ∈ M_216.2.2.2.2.2.2.1, m_cOk M_216.1 q := (fun _ h => absurd h List.not_mem_nil)
set_option maxRecDepth 4000 in
theorem vo_216 : ∀ q ∈ M_216.2.2.2.2.2.2.2.1, m_oOk M_216.1 q := (fun _ h => absurd h List.not_mem_nil)
set_option maxRecDepth 4000 in
theorem vk_216 : ∀ q ∈ M_216.2.2.2.2.2.2.2.2, decode M_216.2.1 q.1 = .ok (q.2.1, q.2.2) := by decide +kernel
set_option maxRecDepth 4000 in
theorem v_216 : m_mOk M_216 := ⟨(m_gi8 0 rfl rfl), (m_gi1 14 rfl rfl), by decide +kernel, ⟨by decide +kernel, by decide +kernel⟩, by decide +kernel, vf_216, vc_216, vo_216, vk_216⟩
set_option maxRecDepth 4000 in
theorem vf_217 : ∀ q ∈ M_217.2.2.2.2.2.1, m_fOk M_217.1 q := (fun _ h => absurd h List.not_mem_nil)
set_option maxRecDepth 4000 in
theorem vc_217 : ∀ q ∈ M_217.2.2.2.2.2.2.1, m_cOk M_217.1 q := (List.forall_mem_cons.mpr ⟨⟨m_n0 rfl, m_n0 rfl, m_n0 rfl, fun _ => ⟨M_32, rfl, m_n0 rfl, m_n0 rfl, fun _ => ⟨(m_gi3 21 rfl rfl), (m_gi3 22 rfl rfl)⟩, m_n0 rfl⟩⟩, (List.forall_mem_cons.mpr ⟨⟨m_n0 rfl, m_n0 rfl, m_n0 rfl, fun _ => ⟨M_174, rfl, m_n0 rfl, m_n0 rfl, fun _ => ⟨(m_gi6 226 rfl rfl), (m_gi6 227 rfl rfl)⟩, m_n0 rfl⟩⟩, (fun _ h => absurd h List.not_mem_nil)⟩)⟩)
set_option maxRecDepth 4000 in
theorem vo_217 : ∀ q ∈ M_217.2.2.2.2.2.2.2.1, m_oOk M_217.1 q := (fun _ h => absurd h List.not_mem_nil)
set_option maxRecDepth 4000 in
theorem vk_217 : ∀ q ∈ M_217.2.2.2.2.2.2.2.2, decode M_217.2.1 q.1 = .ok (q.2.1, q.2.2) := by decide +kernel
set_option maxRecDepth 4000 in
theorem v_217 : m_mOk M_217 := ⟨(m_gi8 3 rfl rfl), (m_gi1 9 rfl rfl), by decide +kernel, ⟨by decide +kernel, by decide +kernel⟩, by decide +kernel, vf_217, vc_217, vo_217, vk_217⟩
set_option maxRecDepth 4000 in
theorem vf_218 : ∀ q ∈ M_218.2.2.2.2.2.1, m_fOk M_218.1 q := (List.forall_mem_cons.mpr ⟨⟨(R_8, F_8, 14), rfl, Nat.le_of_ble_eq_true rfl, ⟨"EdgeHouse$Reply", (m_gi3 174 rfl rfl), Or.inl rfl⟩, fun _ => rfl, m_n0 rfl⟩, (fun _ h => absurd h List.not_mem_nil)⟩)
set_option maxRecDepth 4000 in
theorem vc_218 : ∀ q ∈ M_218.2.2.2.2.2.2.1, m_cOk M_218.1 q := (fun _ h => absurd h List.not_mem_nil)
set_option maxRecDepth 4000 in
theorem vo_218 : ∀ q ∈ M_218.2.2.2.2.2.2.2.1, m_oOk M_218.1 q := (List.forall_mem_cons.mpr ⟨⟨m_n0 rfl, m_n0 rfl, m_n0 rfl, m_n0 rfl, m_n0 rfl, fun _ => ⟨_, List.mem_of_getElem? (i := 45) rfl⟩, m_n0 rfl, Nat.le_of_ble_eq_true rfl⟩, (List.forall_mem_cons.mpr ⟨⟨m_n0 rfl, m_n0 rfl, m_n0 rfl, m_n0 rfl, m_n0 rfl, fun _ => ⟨_, List.mem_of_getElem? (i := 46) rfl⟩, m_n0 rfl, Nat.le_of_ble_eq_true rfl⟩, (List.forall_mem_cons.mpr ⟨⟨m_n0 rfl, m_n0 rfl, m_n0 rfl, m_n0 rfl, m_n0 rfl, fun _ => ⟨_, List.mem_of_getElem? (i := 47) rfl⟩, m_n0 rfl, Nat.le_of_ble_eq_true rfl⟩, (List.forall_mem_cons.mpr ⟨⟨m_n0 rfl, m_n0 rfl, m_n0 rfl, m_n0 rfl, m_n0 rfl, fun _ => ⟨_, List.mem_of_getElem? (i := 48) rfl⟩, m_n0 rfl, Nat.le_of_ble_eq_true rfl⟩, (List.forall_mem_cons.mpr ⟨⟨m_n0 rfl, m_n0 rfl, m_n0 rfl, m_n0 rfl, m_n0 rfl, fun _ => ⟨_, List.mem_of_getElem? (i := 49) rfl⟩, m_n0 rfl, Nat.le_of_ble_eq_true rfl⟩, (List.forall_mem_cons.mpr ⟨⟨m_n0 rfl, m_n0 rfl, m_n0 rfl, m_n0 rfl, m_n0 rfl, fun _ => ⟨_, List.mem_of_getElem? (i := 50) rfl⟩, m_n0 rfl, Nat.le_of_ble_eq_true rfl⟩, (List.forall_mem_cons.mpr ⟨⟨m_n0 rfl, m_n0 rfl, m_n0 rfl, m_n0 rfl, m_n0 rfl, fun _ => ⟨_, List.mem_of_getElem? (i := 51) rfl⟩, m_n0 rfl, Nat.le_of_ble_eq_true rfl⟩, (List.forall_mem_cons.mpr ⟨⟨m_n0 rfl, m_n0 rfl, m_n0 rfl, m_n0 rfl, m_n0 rfl, fun _ => ⟨_, List.mem_of_getElem? (i := 52) rfl⟩, m_n0 rfl, Nat.le_of_ble_eq_true rfl⟩, (List.forall_mem_cons.mpr ⟨⟨m_n0 rfl, m_n0 rfl, m_n0 rfl, m_n0 rfl, m_n0 rfl, fun _ => ⟨_, List.mem_of_getElem? (i := 53) rfl⟩, m_n0 rfl, Nat.le_of_ble_eq_true rfl⟩, (fun _ h => absurd h List.not_mem_nil)⟩)⟩)⟩)⟩)⟩)⟩)⟩)⟩)⟩)
set_option maxRecDepth 4000 in
theorem vk_218 : ∀ q ∈ M_218.2.2.2.2.2.2.2.2, decode M_218.2.1 q.1 = .ok (q.2.1, q.2.2) := by decide +kernel
set_option maxRecDepth 4000 in
theorem v_218 : m_mOk M_218 := ⟨(m_gi8 7 rfl rfl), (m_gi1 23 rfl rfl), by decide +kernel, ⟨by decide +kernel, by decide +kernel⟩, by decide +kernel, vf_218, vc_218, vo_218, vk_218⟩
set_option maxRecDepth 4000 in
theorem vf_219 : ∀ q ∈ M_219.2.2.2.2.2.1, m_fOk M_219.1 q := (List.forall_mem_cons.mpr ⟨⟨(R_8, F_8, 14), rfl, Nat.le_of_ble_eq_true rfl, ⟨"EdgeHouse$Reply", (m_gi3 177 rfl rfl), Or.inl rfl⟩, fun _ => rfl, m_n0 rfl⟩, (List.forall_mem_cons.mpr ⟨⟨(R_8, F_8, 14), rfl, Nat.le_of_ble_eq_true rfl, ⟨"EdgeHouse$Reply", (m_gi3 178 rfl rfl), Or.inl rfl⟩, fun _ => rfl, m_n0 rfl⟩, (List.forall_mem_cons.mpr ⟨⟨(R_8, F_8, 14), rfl, Nat.le_of_ble_eq_true rfl, ⟨"EdgeHouse$Reply", (m_gi3 179 rfl rfl), Or.inl rfl⟩, fun _ => rfl, m_n0 rfl⟩, (List.forall_mem_cons.mpr ⟨⟨(R_8, F_8, 14), rfl, Nat.le_of_ble_eq_true rfl, ⟨"EdgeHouse$Reply", (m_gi3 184 rfl rfl), Or.inl rfl⟩, fun _ => rfl, m_n0 rfl⟩, (List.forall_mem_cons.mpr ⟨⟨(R_8, F_8, 14), rfl, Nat.le_of_ble_eq_true rfl, ⟨"EdgeHouse$Reply", (m_gi3 185 rfl rfl), Or.inl rfl⟩, fun _ => rfl, m_n0 rfl⟩, (List.forall_mem_cons.mpr ⟨⟨(R_8, F_8, 14), rfl, Nat.le_of_ble_eq_true rfl, ⟨"EdgeHouse$Reply", (m_gi3 174 rfl rfl), Or.inl rfl⟩, fun _ => rfl, m_n0 rfl⟩, (List.forall_mem_cons.mpr ⟨⟨(R_8, F_8, 14), rfl, Nat.le_of_ble_eq_true rfl, ⟨"EdgeHouse$Reply", (m_gi3 186 rfl rfl), Or.inl rfl⟩, fun _ => rfl, m_n0 rfl⟩, (List.forall_mem_cons.mpr ⟨⟨(R_8, F_8, 14), rfl, Nat.le_of_ble_eq_true rfl, ⟨"EdgeHouse$Reply", (m_gi3 180 rfl rfl), Or.inl rfl⟩, fun _ => rfl, m_n0 rfl⟩, (List.forall_mem_cons.mpr ⟨⟨(R_8, F_8, 14), rfl, Nat.le_of_ble_eq_true rfl, ⟨"EdgeHouse$Reply", (m_gi3 182 rfl rfl), Or.inl rfl⟩, fun _ => rfl, m_n0 rfl⟩, (fun _ h => absurd h List.not_mem_nil)⟩)⟩)⟩)⟩)⟩)⟩)⟩)⟩)⟩)
set_option maxRecDepth 4000 in
theorem vc_219 : ∀ q ∈ M_219.2.2.2.2.2.2.1, m_cOk M_219.1 q := (List.forall_mem_cons.mpr ⟨⟨m_n0 rfl, m_n0 rfl, m_n0 rfl, fun _ => ⟨M_184, rfl, m_n0 rfl, fun _ => ⟨(m_gi7 230 rfl rfl), (m_gi7 25 rfl rfl), (R_3, F_3, 4), rfl, rfl, (m_gi7 26 rfl rfl)⟩, m_n0 rfl, m_n0 rfl⟩⟩, (List.forall_mem_cons.mpr ⟨⟨m_n0 rfl, m_n0 rfl, m_n0 rfl, fun _ => ⟨M_214, rfl, m_n0 rfl, fun _ => ⟨(m_gi7 231 rfl rfl), (m_gi7 232 rfl rfl), (R_3, F_3, 4), rfl, rfl, (m_gi7 233 rfl rfl)⟩, m_n0 rfl, m_n0 rfl⟩⟩, (List.forall_mem_cons.mpr ⟨⟨m_n0 rfl, m_n0 rfl, m_n0 rfl, fun _ => ⟨M_163, rfl, m_n0 rfl, fun _ => ⟨(m_gi8 17 rfl rfl), (m_gi6 179 rfl rfl), (R_3, F_3, 4), rfl, rfl, (m_gi6 180 rfl rfl)⟩, m_n0 rfl, m_n0 rfl⟩⟩, (fun _ h => absurd h List.not_mem_nil)⟩)⟩)⟩)
set_option maxRecDepth 4000 in
theorem vo_219 : ∀ q ∈ M_219.2.2.2.2.2.2.2.1, m_oOk M_219.1 q := (List.forall_mem_cons.mpr ⟨⟨m_n0 rfl, m_n0 rfl, m_n0 rfl, m_n0 rfl, m_n0 rfl, fun _ => ⟨_, List.mem_of_getElem? (i := 30) rfl⟩, m_n0 rfl, Nat.le_of_ble_eq_true rfl⟩, (List.forall_mem_cons.mpr ⟨⟨m_n0 rfl, m_n0 rfl, m_n0 rfl, m_n0 rfl, m_n0 rfl, fun _ => ⟨_, List.mem_of_getElem? (i := 31) rfl⟩, m_n0 rfl, Nat.le_of_ble_eq_true rfl⟩, (List.forall_mem_cons.mpr ⟨⟨m_n0 rfl, m_n0 rfl, m_n0 rfl, m_n0 rfl, m_n0 rfl, fun _ => ⟨_, List.mem_of_getElem? (i := 32) rfl⟩, m_n0 rfl, Nat.le_of_ble_eq_true rfl⟩, (List.forall_mem_cons.mpr ⟨⟨m_n0 rfl, m_n0 rfl, m_n0 rfl, m_n0 rfl, m_n0 rfl, fun _ => ⟨_, List.mem_of_getElem? (i := 33) rfl⟩, m_n0 rfl, Nat.le_of_ble_eq_true rfl⟩, (List.forall_mem_cons.mpr ⟨⟨m_n0 rfl, m_n0 rfl, m_n0 rfl, m_n0 rfl, m_n0 rfl, fun _ => ⟨_, List.mem_of_getElem? (i := 34) rfl⟩, m_n0 rfl, Nat.le_of_ble_eq_true rfl⟩, (List.forall_mem_cons.mpr ⟨⟨m_n0 rfl, m_n0 rfl, m_n0 rfl, m_n0 rfl, m_n0 rfl, fun _ => ⟨_, List.mem_of_getElem? (i := 35) rfl⟩, m_n0 rfl, Nat.le_of_ble_eq_true rfl⟩, (List.forall_mem_cons.mpr ⟨⟨m_n0 rfl, m_n0 rfl, m_n0 rfl, m_n0 rfl, m_n0 rfl, fun _ => ⟨_, List.mem_of_getElem? (i := 36) rfl⟩, m_n0 rfl, Nat.le_of_ble_eq_true rfl⟩, (List.forall_mem_cons.mpr ⟨⟨m_n0 rfl, m_n0 rfl, m_n0 rfl, m_n0 rfl, m_n0 rfl, fun _ => ⟨_, List.mem_of_getElem? (i := 37) rfl⟩, m_n0 rfl, Nat.le_of_ble_eq_true rfl⟩, (List.forall_mem_cons.mpr ⟨⟨m_n0 rfl, m_n0 rfl, m_n0 rfl, m_n0 rfl, m_n0 rfl, fun _ => ⟨_, List.mem_of_getElem? (i := 38) rfl⟩, m_n0 rfl, Nat.le_of_ble_eq_true rfl⟩, (List.forall_mem_cons.mpr ⟨⟨m_n0 rfl, m_n0 rfl, m_n0 rfl, m_n0 rfl, m_n0 rfl, fun _ => ⟨_, List.mem_of_getElem? (i := 39) rfl⟩, m_n0 rfl, Nat.le_of_ble_eq_true rfl⟩, (List.forall_mem_cons.mpr ⟨⟨m_n0 rfl, m_n0 rfl, m_n0 rfl, m_n0 rfl, m_n0 rfl, fun _ => ⟨_, List.mem_of_getElem? (i := 40) rfl⟩, m_n0 rfl, Nat.le_of_ble_eq_true rfl⟩, (List.forall_mem_cons.mpr ⟨⟨m_n0 rfl, m_n0 rfl, m_n0 rfl, m_n0 rfl, m_n0 rfl, fun _ => ⟨_, List.mem_of_getElem? (i := 41) rfl⟩, m_n0 rfl, Nat.le_of_ble_eq_true rfl⟩, (List.forall_mem_cons.mpr ⟨⟨m_n0 rfl, m_n0 rfl, m_n0 rfl, m_n0 rfl, m_n0 rfl, fun _ => ⟨_, List.mem_of_getElem? (i := 42) rfl⟩, m_n0 rfl, Nat.le_of_ble_eq_true rfl⟩, (List.forall_mem_cons.mpr ⟨⟨m_n0 rfl, m_n0 rfl, m_n0 rfl, m_n0 rfl, m_n0 rfl, fun _ => ⟨_, List.mem_of_getElem? (i := 43) rfl⟩, m_n0 rfl, Nat.le_of_ble_eq_true rfl⟩, (List.forall_mem_cons.mpr ⟨⟨m_n0 rfl, m_n0 rfl, m_n0 rfl, m_n0 rfl, m_n0 rfl, fun _ => ⟨_, List.mem_of_getElem? (i := 44) rfl⟩, m_n0 rfl, Nat.le_of_ble_eq_true rfl⟩, (fun _ h => absurd h List.not_mem_nil)⟩)⟩)⟩)⟩)⟩)⟩)⟩)⟩)⟩)⟩)⟩)⟩)⟩)⟩)⟩)
set_option maxRecDepth 4000 in
theorem vk_219 : ∀ q ∈ M_219.2.2.2.2.2.2.2.2, decode M_219.2.1 q.1 = .ok (q.2.1, q.2.2) := by decide +kernel
set_option maxRecDepth 4000 in
theorem v_219 : m_mOk M_219 := ⟨(m_gi8 21 rfl rfl), (m_gi1 23 rfl rfl), by decide +kernel, ⟨by decide +kernel, by decide +kernel⟩, by decide +kernel, vf_219, vc_219, vo_219, vk_219⟩
set_option maxRecDepth 4000 in
theorem vf_220 : ∀ q ∈ M_220.2.2.2.2.2.1, m_fOk M_220.1 q := (List.forall_mem_cons.mpr ⟨⟨(R_0, F_0, 15), rfl, Nat.le_of_ble_eq_true rfl, ⟨"EdgeHouse", (m_gi2 4 rfl rfl), Or.inl rfl⟩, m_n0 rfl, m_n0 rfl⟩, (List.forall_mem_cons.mpr ⟨⟨(R_0, F_0, 15), rfl, Nat.le_of_ble_eq_true rfl, ⟨"EdgeHouse", (m_gi2 15 rfl rfl), Or.inl rfl⟩, fun _ => rfl, m_n0 rfl⟩, (fun _ h => absurd h List.not_mem_nil)⟩)⟩)
set_option maxRecDepth 4000 in
theorem vc_220 : ∀ q ∈ M_220.2.2.2.2.2.2.1, m_cOk M_220.1 q := (List.forall_mem_cons.mpr ⟨⟨m_n0 rfl, m_n0 rfl, m_n0 rfl, fun _ => ⟨M_131, rfl, m_n0 rfl, m_n0 rfl, fun _ => ⟨(m_gi6 38 rfl rfl), (m_gi6 39 rfl rfl)⟩, m_n0 rfl⟩⟩, (List.forall_mem_cons.mpr ⟨⟨m_n0 rfl, m_n0 rfl, m_n0 rfl, fun _ => ⟨M_221, rfl, m_n0 rfl, fun _ => ⟨(m_gi8 43 rfl rfl), (m_gi8 44 rfl rfl), (R_4, F_4, 11), rfl, rfl, (m_gi8 45 rfl rfl)⟩, m_n0 rfl, m_n0 rfl⟩⟩, (fun _ h => absurd h List.not_mem_nil)⟩)⟩)
set_option maxRecDepth 4000 in
theorem vo_220 : ∀ q ∈ M_220.2.2.2.2.2.2.2.1, m_oOk M_220.1 q := (fun _ h => absurd h List.not_mem_nil)
set_option maxRecDepth 4000 in
theorem vk_220 : ∀ q ∈ M_220.2.2.2.2.2.2.2.2, decode M_220.2.1 q.1 = .ok (q.2.1, q.2.2) := by decide +kernel
set_option maxRecDepth 4000 in
theorem v_220 : m_mOk M_220 := ⟨(m_gi8 42 rfl rfl), (m_gi1 1 rfl rfl), by decide +kernel, ⟨by decide +kernel, by decide +kernel⟩, by decide +kernel, vf_220, vc_220, vo_220, vk_220⟩
set_option maxRecDepth 4000 in
theorem vf_221 : ∀ q ∈ M_221.2.2.2.2.2.1, m_fOk M_221.1 q := (List.forall_mem_cons.mpr ⟨⟨(R_4, F_4, 11), rfl, Nat.le_of_ble_eq_true rfl, ⟨"EdgeHouse$Node", (m_gi1 195 rfl rfl), Or.inl rfl⟩, m_n0 rfl, m_n0 rfl⟩, (List.forall_mem_cons.mpr ⟨⟨(R_4, F_4, 11), rfl, Nat.le_of_ble_eq_true rfl, ⟨"EdgeHouse$Node", (m_gi1 197 rfl rfl), Or.inl rfl⟩, m_n0 rfl, m_n0 rfl⟩, (List.forall_mem_cons.mpr ⟨⟨(R_4, F_4, 11), rfl, Nat.le_of_ble_eq_true rfl, ⟨"EdgeHouse$Node", (m_gi1 200 rfl rfl), Or.inl rfl⟩, m_n0 rfl, m_n0 rfl⟩, (List.forall_mem_cons.mpr ⟨⟨(R_4, F_4, 11), rfl, Nat.le_of_ble_eq_true rfl, ⟨"EdgeHouse$Node", (m_gi1 201 rfl rfl), Or.inl rfl⟩, m_n0 rfl, m_n0 rfl⟩, (List.forall_mem_cons.mpr ⟨⟨(R_4, F_4, 11), rfl, Nat.le_of_ble_eq_true rfl, ⟨"EdgeHouse$Node", (m_gi1 202 rfl rfl), Or.inl rfl⟩, fun _ => rfl, m_n0 rfl⟩, (List.forall_mem_cons.mpr ⟨⟨(R_4, F_4, 11), rfl, Nat.le_of_ble_eq_true rfl, ⟨"EdgeHouse$Node", (m_gi1 204 rfl rfl), Or.inl rfl⟩, fun _ => rfl, m_n0 rfl⟩, (List.forall_mem_cons.mpr ⟨⟨(R_5, F_5, 3), rfl, Nat.le_of_ble_eq_true rfl, ⟨"EdgeHouse$Store", (m_gi1 179 rfl rfl), Or.inl rfl⟩, m_n0 rfl, m_n0 rfl⟩, (List.forall_mem_cons.mpr ⟨⟨(R_5, F_5, 3), rfl, Nat.le_of_ble_eq_true rfl, ⟨"EdgeHouse$Store", (m_gi1 181 rfl rfl), Or.inl rfl⟩, m_n0 rfl, m_n0 rfl⟩, (List.forall_mem_cons.mpr ⟨⟨(R_4, F_4, 11), rfl, Nat.le_of_ble_eq_true rfl, ⟨"EdgeHouse$Node", (m_gi1 206 rfl rfl), Or.inl rfl⟩, fun _ => rfl, m_n0 rfl⟩, (List.forall_mem_cons.mpr ⟨⟨(R_4, F_4, 11), rfl, Nat.le_of_ble_eq_true rfl, ⟨"EdgeHouse$Node", (m_gi1 208 rfl rfl), Or.inl rfl⟩, fun _ => rfl, m_n0 rfl⟩, (fun _ h => absurd h List.not_mem_nil)⟩)⟩)⟩)⟩)⟩)⟩)⟩)⟩)⟩)⟩)
set_option maxRecDepth 4000 in
theorem vc_221 : ∀ q ∈ M_221.2.2.2.2.2.2.1, m_cOk M_221.1 q := (List.forall_mem_cons.mpr ⟨⟨m_n0 rfl, m_n0 rfl, m_n0 rfl, fun _ => ⟨M_17, rfl, m_n0 rfl, fun _ => ⟨(m_gi5 66 rfl rfl), (m_gi2 68 rfl rfl), (R_2, F_2, 3), rfl, rfl, (m_gi2 69 rfl rfl)⟩, m_n0 rfl, m_n0 rfl⟩⟩, (List.forall_mem_cons.mpr ⟨⟨m_n0 rfl, m_n0 rfl, m_n0 rfl, fun _ => ⟨M_75, rfl, m_n0 rfl, fun _ => ⟨(m_gi8 47 rfl rfl), (m_gi4 69 rfl rfl), (R_5, F_5, 3), rfl, rfl, (m_gi4 70 rfl rfl)⟩, m_n0 rfl, m_n0 rfl⟩⟩, (List.forall_mem_cons.mpr ⟨⟨m_n0 rfl, m_n0 rfl, m_n0 rfl, fun _ => ⟨M_98, rfl, m_n0 rfl, fun _ => ⟨(m_gi8 48 rfl rfl), (m_gi4 169 rfl rfl), (R_5, F_5, 3), rfl, rfl, (m_gi4 170 rfl rfl)⟩, m_n0 rfl, m_n0 rfl⟩⟩, (List.forall_mem_cons.mpr ⟨⟨m_n0 rfl, m_n0 rfl, m_n0 rfl, fun _ => ⟨M_222, rfl, m_n0 rfl, fun _ => ⟨(m_gi8 49 rfl rfl), (m_gi8 50 rfl rfl), (R_4, F_4, 11), rfl, rfl, (m_gi8 51 rfl rfl)⟩, m_n0 rfl, m_n0 rfl⟩⟩, (List.forall_mem_cons.mpr ⟨⟨m_n0 rfl, m_n0 rfl, m_n0 rfl, fun _ => ⟨M_72, rfl, m_n0 rfl, fun _ => ⟨(m_gi8 53 rfl rfl), (m_gi4 55 rfl rfl), (R_4, F_4, 11), rfl, rfl, (m_gi4 56 rfl rfl)⟩, m_n0 rfl, m_n0 rfl⟩⟩, (fun _ h => absurd h List.not_mem_nil)⟩)⟩)⟩)⟩)⟩)
set_option maxRecDepth 4000 in
theorem vo_221 : ∀ q ∈ M_221.2.2.2.2.2.2.2.1, m_oOk M_221.1 q := (fun _ h => absurd h List.not_mem_nil)
set_option maxRecDepth 4000 in
theorem vk_221 : ∀ q ∈ M_221.2.2.2.2.2.2.2.2, decode M_221.2.1 q.1 = .ok (q.2.1, q.2.2) := by decide +kernel
set_option maxRecDepth 4000 in
theorem v_221 : m_mOk M_221 := ⟨(m_gi8 46 rfl rfl), (m_gi1 10 rfl rfl), by decide +kernel, ⟨by decide +kernel, by decide +kernel⟩, by decide +kernel, vf_221, vc_221, vo_221, vk_221⟩
set_option maxRecDepth 4000 in
theorem vf_222 : ∀ q ∈ M_222.2.2.2.2.2.1, m_fOk M_222.1 q := (List.forall_mem_cons.mpr ⟨⟨(R_4, F_4, 11), rfl, Nat.le_of_ble_eq_true rfl, ⟨"EdgeHouse$Node", (m_gi1 197 rfl rfl), Or.inl rfl⟩, m_n0 rfl, m_n0 rfl⟩, (List.forall_mem_cons.mpr ⟨⟨(R_10, F_10, 14), rfl, Nat.le_of_ble_eq_true rfl, ⟨"EdgeHouse$Fetch", (m_gi5 105 rfl rfl), Or.inl rfl⟩, fun _ => rfl, m_n0 rfl⟩, (fun _ h => absurd h List.not_mem_nil)⟩)⟩)
set_option maxRecDepth 4000 in
theorem vc_222 : ∀ q ∈ M_222.2.2.2.2.2.2.1, m_cOk M_222.1 q := (List.forall_mem_cons.mpr ⟨⟨m_n0 rfl, m_n0 rfl, m_n0 rfl, fun _ => ⟨M_17, rfl, m_n0 rfl, fun _ => ⟨(m_gi5 66 rfl rfl), (m_gi2 68 rfl rfl), (R_2, F_2, 3), rfl, rfl, (m_gi2 69 rfl rfl)⟩, m_n0 rfl, m_n0 rfl⟩⟩, (List.forall_mem_cons.mpr ⟨⟨m_n0 rfl, m_n0 rfl, m_n0 rfl, fun _ => ⟨M_77, rfl, m_n0 rfl, fun _ => ⟨(m_gi5 67 rfl rfl), (m_gi4 78 rfl rfl), (R_2, F_2, 3), rfl, rfl, (m_gi4 79 rfl rfl)⟩, m_n0 rfl, m_n0 rfl⟩⟩, (fun _ h => absurd h List.not_mem_nil)⟩)⟩)
set_option maxRecDepth 4000 in
theorem vo_222 : ∀ q ∈ M_222.2.2.2.2.2.2.2.1, m_oOk M_222.1 q := (List.forall_mem_cons.mpr ⟨⟨m_n0 rfl, m_n0 rfl, m_n0 rfl, m_n0 rfl, m_n0 rfl, m_n0 rfl, fun _ => ⟨(R_10, F_10, 14), rfl, (m_gi5 68 rfl rfl), (List.mem_filter.mpr ⟨m_in12 (List.mem_of_getElem? (i := 51) rfl), rfl⟩)⟩, Nat.le_of_ble_eq_true rfl⟩, (fun _ h => absurd h List.not_mem_nil)⟩)
set_option maxRecDepth 4000 in
theorem vk_222 : ∀ q ∈ M_222.2.2.2.2.2.2.2.2, decode M_222.2.1 q.1 = .ok (q.2.1, q.2.2) := by decide +kernel
set_option maxRecDepth 4000 in
theorem v_222 : m_mOk M_222 := ⟨(m_gi8 52 rfl rfl), (m_gi1 10 rfl rfl), by decide +kernel, ⟨by decide +kernel, by decide +kernel⟩, by decide +kernel, vf_222, vc_222, vo_222, vk_222⟩
set_option maxRecDepth 4000 in
theorem vf_223 : ∀ q ∈ M_223.2.2.2.2.2.1, m_fOk M_223.1 q := (List.forall_mem_cons.mpr ⟨⟨(R_0, F_0, 15), rfl, Nat.le_of_ble_eq_true rfl, ⟨"EdgeHouse", (m_gi2 4 rfl rfl), Or.inl rfl⟩, m_n0 rfl, m_n0 rfl⟩, (List.forall_mem_cons.mpr ⟨⟨(R_0, F_0, 15), rfl, Nat.le_of_ble_eq_true rfl, ⟨"EdgeHouse", (m_gi2 15 rfl rfl), Or.inl rfl⟩, fun _ => rfl, m_n0 rfl⟩, (List.forall_mem_cons.mpr ⟨⟨(R_4, F_4, 11), rfl, Nat.le_of_ble_eq_true rfl, ⟨"EdgeHouse$Node", (m_gi1 196 rfl rfl), Or.inl rfl⟩, m_n0 rfl, m_n0 rfl⟩, (fun _ h => absurd h List.not_mem_nil)⟩)⟩)⟩)
set_option maxRecDepth 4000 in
theorem vc_223 : ∀ q ∈ M_223.2.2.2.2.2.2.1, m_cOk M_223.1 q := (List.forall_mem_cons.mpr ⟨⟨m_n0 rfl, m_n0 rfl, m_n0 rfl, fun _ => ⟨M_131, rfl, m_n0 rfl, m_n0 rfl, fun _ => ⟨(m_gi6 38 rfl rfl), (m_gi6 39 rfl rfl)⟩, m_n0 rfl⟩⟩, (List.forall_mem_cons.mpr ⟨⟨m_n0 rfl, m_n0 rfl, m_n0 rfl, fun _ => ⟨M_144, rfl, m_n0 rfl, fun _ => ⟨(m_gi6 93 rfl rfl), (m_gi6 94 rfl rfl), (R_5, F_5, 3), rfl, rfl, (m_gi6 95 rfl rfl)⟩, m_n0 rfl, m_n0 rfl⟩⟩, (List.forall_mem_cons.mpr ⟨⟨m_n0 rfl, m_n0 rfl, m_n0 rfl, fun _ => ⟨M_94, rfl, m_n0 rfl, fun _ => ⟨(m_gi8 58 rfl rfl), (m_gi4 151 rfl rfl), (R_5, F_5, 3), rfl, rfl, (m_gi4 152 rfl rfl)⟩, m_n0 rfl, m_n0 rfl⟩⟩, (List.forall_mem_cons.mpr ⟨⟨m_n0 rfl, m_n0 rfl, m_n0 rfl, fun _ => ⟨M_224, rfl, m_n0 rfl, fun _ => ⟨(m_gi8 59 rfl rfl), (m_gi8 60 rfl rfl), (R_11, F_11, 9), rfl, rfl, (m_gi8 61 rfl rfl)⟩, m_n0 rfl, m_n0 rfl⟩⟩, (fun _ h => absurd h List.not_mem_nil)⟩)⟩)⟩)⟩)
set_option maxRecDepth 4000 in
theorem vo_223 : ∀ q ∈ M_223.2.2.2.2.2.2.2.1, m_oOk M_223.1 q := (fun _ h => absurd h List.not_mem_nil)
set_option maxRecDepth 4000 in
theorem vk_223 : ∀ q ∈ M_223.2.2.2.2.2.2.2.2, decode M_223.2.1 q.1 = .ok (q.2.1, q.2.2) := by decide +kernel
set_option maxRecDepth 4000 in
theorem v_223 : m_mOk M_223 := ⟨(m_gi8 57 rfl rfl), (m_gi1 1 rfl rfl), by decide +kernel, ⟨by decide +kernel, by decide +kernel⟩, by decide +kernel, vf_223, vc_223, vo_223, vk_223⟩
set_option maxRecDepth 4000 in
theorem vf_224 : ∀ q ∈ M_224.2.2.2.2.2.1, m_fOk M_224.1 q := (List.forall_mem_cons.mpr ⟨⟨(R_11, F_11, 9), rfl, Nat.le_of_ble_eq_true rfl, ⟨"EdgeHouse$Entry", (m_gi5 234 rfl rfl), Or.inl rfl⟩, m_n0 rfl, m_n0 rfl⟩, (List.forall_mem_cons.mpr ⟨⟨(R_11, F_11, 9), rfl, Nat.le_of_ble_eq_true rfl, ⟨"EdgeHouse$Entry", (m_gi6 6 rfl rfl), Or.inl rfl⟩, fun _ => rfl, m_n0 rfl⟩, (List.forall_mem_cons.mpr ⟨⟨(R_13, F_13, 10), rfl, Nat.le_of_ble_eq_true rfl, ⟨"EdgeHouse$Told", (m_gi8 104 rfl rfl), Or.inl rfl⟩, fun _ => rfl, m_n0 rfl⟩, (List.forall_mem_cons.mpr ⟨⟨(R_11, F_11, 9), rfl, Nat.le_of_ble_eq_true rfl, ⟨"EdgeHouse$Entry", (m_gi6 14 rfl rfl), Or.inl rfl⟩, fun _ => rfl, m_n0 rfl⟩, (List.forall_mem_cons.mpr ⟨⟨(R_11, F_11, 9), rfl, Nat.le_of_ble_eq_true rfl, ⟨"EdgeHouse$Entry", (m_gi6 17 rfl rfl), Or.inl rfl⟩, fun _ => rfl, m_n0 rfl⟩, (List.forall_mem_cons.mpr ⟨⟨(R_13, F_13, 10), rfl, Nat.le_of_ble_eq_true rfl, ⟨"EdgeHouse$Told", (m_gi8 124 rfl rfl), Or.inl rfl⟩, fun _ => rfl, m_n0 rfl⟩, (fun _ h => absurd h List.not_mem_nil)⟩)⟩)⟩)⟩)⟩)⟩)
set_option maxRecDepth 4000 in
theorem vc_224 : ∀ q ∈ M_224.2.2.2.2.2.2.1, m_cOk M_224.1 q := (List.forall_mem_cons.mpr ⟨⟨m_n0 rfl, m_n0 rfl, m_n0 rfl, fun _ => ⟨M_100, rfl, m_n0 rfl, m_n0 rfl, fun _ => ⟨(m_gi4 176 rfl rfl), (m_gi4 177 rfl rfl)⟩, m_n0 rfl⟩⟩, (List.forall_mem_cons.mpr ⟨⟨m_n0 rfl, m_n0 rfl, m_n0 rfl, fun _ => ⟨M_83, rfl, m_n0 rfl, fun _ => ⟨(m_gi8 63 rfl rfl), (m_gi4 103 rfl rfl), (R_11, F_11, 9), rfl, rfl, (m_gi4 104 rfl rfl)⟩, m_n0 rfl, m_n0 rfl⟩⟩, (fun _ h => absurd h List.not_mem_nil)⟩)⟩)
set_option maxRecDepth 4000 in
theorem vo_224 : ∀ q ∈ M_224.2.2.2.2.2.2.2.1, m_oOk M_224.1 q := (fun _ h => absurd h List.not_mem_nil)
set_option maxRecDepth 4000 in
theorem vk_224 : ∀ q ∈ M_224.2.2.2.2.2.2.2.2, decode M_224.2.1 q.1 = .ok (q.2.1, q.2.2) := by decide +kernel
set_option maxRecDepth 4000 in
theorem v_224 : m_mOk M_224 := ⟨(m_gi8 62 rfl rfl), (m_gi1 31 rfl rfl), by decide +kernel, ⟨by decide +kernel, by decide +kernel⟩, by decide +kernel, vf_224, vc_224, vo_224, vk_224⟩
set_option maxRecDepth 4000 in
theorem vf_225 : ∀ q ∈ M_225.2.2.2.2.2.1, m_fOk M_225.1 q := (List.forall_mem_cons.mpr ⟨⟨(R_0, F_0, 15), rfl, Nat.le_of_ble_eq_true rfl, ⟨"EdgeHouse", (m_gi2 8 rfl rfl), Or.inl rfl⟩, m_n0 rfl, m_n0 rfl⟩, (fun _ h => absurd h List.not_mem_nil)⟩)
set_option maxRecDepth 4000 in
theorem vc_225 : ∀ q ∈ M_225.2.2.2.2.2.2.1, m_cOk M_225.1 q := (List.forall_mem_cons.mpr ⟨⟨m_n0 rfl, m_n0 rfl, m_n0 rfl, fun _ => ⟨M_17, rfl, m_n0 rfl, fun _ => ⟨(m_gi2 67 rfl rfl), (m_gi2 68 rfl rfl), (R_2, F_2, 3), rfl, rfl, (m_gi2 69 rfl rfl)⟩, m_n0 rfl, m_n0 rfl⟩⟩, (List.forall_mem_cons.mpr ⟨⟨m_n0 rfl, m_n0 rfl, m_n0 rfl, fun _ => ⟨M_77, rfl, m_n0 rfl, fun _ => ⟨(m_gi6 127 rfl rfl), (m_gi4 78 rfl rfl), (R_2, F_2, 3), rfl, rfl, (m_gi4 79 rfl rfl)⟩, m_n0 rfl, m_n0 rfl⟩⟩, (List.forall_mem_cons.mpr ⟨⟨m_n0 rfl, m_n0 rfl, m_n0 rfl, fun _ => ⟨M_226, rfl, m_n0 rfl, fun _ => ⟨(m_gi8 68 rfl rfl), (m_gi8 69 rfl rfl), (R_9, F_9, 19), rfl, rfl, (m_gi8 70 rfl rfl)⟩, m_n0 rfl, m_n0 rfl⟩⟩, (fun _ h => absurd h List.not_mem_nil)⟩)⟩)⟩)
set_option maxRecDepth 4000 in
theorem vo_225 : ∀ q ∈ M_225.2.2.2.2.2.2.2.1, m_oOk M_225.1 q := (List.forall_mem_cons.mpr ⟨⟨m_n0 rfl, m_n0 rfl, m_n0 rfl, m_n0 rfl, m_n0 rfl, m_n0 rfl, fun _ => ⟨(R_9, F_9, 19), rfl, (m_gi4 194 rfl rfl), (List.mem_filter.mpr ⟨m_in12 (List.mem_of_getElem? (i := 52) rfl), rfl⟩)⟩, Nat.le_of_ble_eq_true rfl⟩, (fun _ h => absurd h List.not_mem_nil)⟩)
set_option maxRecDepth 4000 in
theorem vk_225 : ∀ q ∈ M_225.2.2.2.2.2.2.2.2, decode M_225.2.1 q.1 = .ok (q.2.1, q.2.2) := by decide +kernel
set_option maxRecDepth 4000 in
theorem v_225 : m_mOk M_225 := ⟨(m_gi8 67 rfl rfl), (m_gi1 1 rfl rfl), by decide +kernel, ⟨by decide +kernel, by decide +kernel⟩, by decide +kernel, vf_225, vc_225, vo_225, vk_225⟩
set_option maxRecDepth 4000 in
theorem vf_226 : ∀ q ∈ M_226.2.2.2.2.2.1, m_fOk M_226.1 q := (List.forall_mem_cons.mpr ⟨⟨(R_9, F_9, 19), rfl, Nat.le_of_ble_eq_true rfl, ⟨"EdgeHouse$Message", (m_gi4 200 rfl rfl), Or.inl rfl⟩, m_n0 rfl, m_n0 rfl⟩, (List.forall_mem_cons.mpr ⟨⟨(R_9, F_9, 19), rfl, Nat.le_of_ble_eq_true rfl, ⟨"EdgeHouse$Message", (m_gi4 202 rfl rfl), Or.inl rfl⟩, m_n0 rfl, m_n0 rfl⟩, (List.forall_mem_cons.mpr ⟨⟨(R_9, F_9, 19), rfl, Nat.le_of_ble_eq_true rfl, ⟨"EdgeHouse$Message", (m_gi4 205 rfl rfl), Or.inl rfl⟩, m_n0 rfl, m_n0 rfl⟩, (List.forall_mem_cons.mpr ⟨⟨(R_9, F_9, 19), rfl, Nat.le_of_ble_eq_true rfl, ⟨"EdgeHouse$Message", (m_gi4 207 rfl rfl), Or.inl rfl⟩, m_n0 rfl, m_n0 rfl⟩, (List.forall_mem_cons.mpr ⟨⟨(R_9, F_9, 19), rfl, Nat.le_of_ble_eq_true rfl, ⟨"EdgeHouse$Message", (m_gi4 210 rfl rfl), Or.inl rfl⟩, fun _ => rfl, m_n0 rfl⟩, (List.forall_mem_cons.mpr ⟨⟨(R_9, F_9, 19), rfl, Nat.le_of_ble_eq_true rfl, ⟨"EdgeHouse$Message", (m_gi4 213 rfl rfl), Or.inl rfl⟩, fun _ => rfl, m_n0 rfl⟩, (List.forall_mem_cons.mpr ⟨⟨(R_9, F_9, 19), rfl, Nat.le_of_ble_eq_true rfl, ⟨"EdgeHouse$Message", (m_gi4 216 rfl rfl), Or.inl rfl⟩, fun _ => rfl, m_n0 rfl⟩, (List.forall_mem_cons.mpr ⟨⟨(R_9, F_9, 19), rfl, Nat.le_of_ble_eq_true rfl, ⟨"EdgeHouse$Message", (m_gi4 218 rfl rfl), Or.inl rfl⟩, fun _ => rfl, m_n0 rfl⟩, (List.forall_mem_cons.mpr ⟨⟨(R_9, F_9, 19), rfl, Nat.le_of_ble_eq_true rfl, ⟨"EdgeHouse$Message", (m_gi4 220 rfl rfl), Or.inl rfl⟩, fun _ => rfl, m_n0 rfl⟩, (List.forall_mem_cons.mpr ⟨⟨(R_9, F_9, 19), rfl, Nat.le_of_ble_eq_true rfl, ⟨"EdgeHouse$Message", (m_gi4 222 rfl rfl), Or.inl rfl⟩, fun _ => rfl, m_n0 rfl⟩, (List.forall_mem_cons.mpr ⟨⟨(R_9, F_9, 19), rfl, Nat.le_of_ble_eq_true rfl, ⟨"EdgeHouse$Message", (m_gi4 224 rfl rfl), Or.inl rfl⟩, fun _ => rfl, m_n0 rfl⟩, (List.forall_mem_cons.mpr ⟨⟨(R_9, F_9, 19), rfl, Nat.le_of_ble_eq_true rfl, ⟨"EdgeHouse$Message", (m_gi4 231 rfl rfl), Or.inl rfl⟩, fun _ => rfl, m_n0 rfl⟩, (List.forall_mem_cons.mpr ⟨⟨(R_9, F_9, 19), rfl, Nat.le_of_ble_eq_true rfl, ⟨"EdgeHouse$Message", (m_gi4 229 rfl rfl), Or.inl rfl⟩, fun _ => rfl, m_n0 rfl⟩, (List.forall_mem_cons.mpr ⟨⟨(R_9, F_9, 19), rfl, Nat.le_of_ble_eq_true rfl, ⟨"EdgeHouse$Message", (m_gi4 227 rfl rfl), Or.inl rfl⟩, fun _ => rfl, m_n0 rfl⟩, (List.forall_mem_cons.mpr ⟨⟨(R_9, F_9, 19), rfl, Nat.le_of_ble_eq_true rfl, ⟨"EdgeHouse$Message", (m_gi4 234 rfl rfl), Or.inl rfl⟩, fun _ => rfl, m_n0 rfl⟩, (fun _ h => absurd h List.not_mem_nil)⟩)⟩)⟩)⟩)⟩)⟩)⟩)⟩)⟩)⟩)⟩)⟩)⟩)⟩)⟩)
set_option maxRecDepth 4000 in
theorem vc_226 : ∀ q ∈ M_226.2.2.2.2.2.2.1, m_cOk M_226.1 q := (List.forall_mem_cons.mpr ⟨⟨m_n0 rfl, m_n0 rfl, m_n0 rfl, fun _ => ⟨M_227, rfl, m_n0 rfl, fun _ => ⟨(m_gi8 72 rfl rfl), (m_gi8 73 rfl rfl), (R_9, F_9, 19), rfl, rfl, (m_gi8 74 rfl rfl)⟩, m_n0 rfl, m_n0 rfl⟩⟩, (fun _ h => absurd h List.not_mem_nil)⟩)
set_option maxRecDepth 4000 in
theorem vo_226 : ∀ q ∈ M_226.2.2.2.2.2.2.2.1, m_oOk M_226.1 q := (fun _ h => absurd h List.not_mem_nil)
set_option maxRecDepth 4000 in
theorem vk_226 : ∀ q ∈ M_226.2.2.2.2.2.2.2.2, decode M_226.2.1 q.1 = .ok (q.2.1, q.2.2) := by decide +kernel
set_option maxRecDepth 4000 in
theorem v_226 : m_mOk M_226 := ⟨(m_gi8 71 rfl rfl), (m_gi1 29 rfl rfl), by decide +kernel, ⟨by decide +kernel, by decide +kernel⟩, by decide +kernel, vf_226, vc_226, vo_226, vk_226⟩
set_option maxRecDepth 4000 in
theorem vf_227 : ∀ q ∈ M_227.2.2.2.2.2.1, m_fOk M_227.1 q := (List.forall_mem_cons.mpr ⟨⟨(R_9, F_9, 19), rfl, Nat.le_of_ble_eq_true rfl, ⟨"EdgeHouse$Message", (m_gi4 236 rfl rfl), Or.inl rfl⟩, fun _ => rfl, m_n0 rfl⟩, (List.forall_mem_cons.mpr ⟨⟨(R_13, F_13, 10), rfl, Nat.le_of_ble_eq_true rfl, ⟨"EdgeHouse$Told", (m_gi8 102 rfl rfl), Or.inl rfl⟩, fun _ => rfl, m_n0 rfl⟩, (fun _ h => absurd h List.not_mem_nil)⟩)⟩)
set_option maxRecDepth 4000 in
theorem vc_227 : ∀ q ∈ M_227.2.2.2.2.2.2.1, m_cOk M_227.1 q := (fun _ h => absurd h List.not_mem_nil)
set_option maxRecDepth 4000 in
theorem vo_227 : ∀ q ∈ M_227.2.2.2.2.2.2.2.1, m_oOk M_227.1 q := (fun _ h => absurd h List.not_mem_nil)
set_option maxRecDepth 4000 in
theorem vk_227 : ∀ q ∈ M_227.2.2.2.2.2.2.2.2, decode M_227.2.1 q.1 = .ok (q.2.1, q.2.2) := by decide +kernel
set_option maxRecDepth 4000 in
theorem v_227 : m_mOk M_227 := ⟨(m_gi8 75 rfl rfl), (m_gi1 29 rfl rfl), by decide +kernel, ⟨by decide +kernel, by decide +kernel⟩, by decide +kernel, vf_227, vc_227, vo_227, vk_227⟩
set_option maxRecDepth 4000 in
theorem vf_228 : ∀ q ∈ M_228.2.2.2.2.2.1, m_fOk M_228.1 q := (List.forall_mem_cons.mpr ⟨⟨(R_0, F_0, 15), rfl, Nat.le_of_ble_eq_true rfl, ⟨"EdgeHouse", (m_gi2 8 rfl rfl), Or.inl rfl⟩, m_n0 rfl, m_n0 rfl⟩, (List.forall_mem_cons.mpr ⟨⟨(R_0, F_0, 15), rfl, Nat.le_of_ble_eq_true rfl, ⟨"EdgeHouse", (m_gi2 9 rfl rfl), Or.inl rfl⟩, m_n0 rfl, m_n0 rfl⟩, (List.forall_mem_cons.mpr ⟨⟨(R_0, F_0, 15), rfl, Nat.le_of_ble_eq_true rfl, ⟨"EdgeHouse", (m_gi2 12 rfl rfl), Or.inl rfl⟩, fun _ => rfl, m_n0 rfl⟩, (List.forall_mem_cons.mpr ⟨⟨(R_0, F_0, 15), rfl, Nat.le_of_ble_eq_true rfl, ⟨"EdgeHouse", (m_gi2 14 rfl rfl), Or.inl rfl⟩, fun _ => rfl, m_n0 rfl⟩, (List.forall_mem_cons.mpr ⟨⟨(R_0, F_0, 15), rfl, Nat.le_of_ble_eq_true rfl, ⟨"EdgeHouse", (m_gi2 13 rfl rfl), Or.inl rfl⟩, fun _ => rfl, m_n0 rfl⟩, (List.forall_mem_cons.mpr ⟨⟨(R_0, F_0, 15), rfl, Nat.le_of_ble_eq_true rfl, ⟨"EdgeHouse", (m_gi2 15 rfl rfl), Or.inl rfl⟩, fun _ => rfl, m_n0 rfl⟩, (List.forall_mem_cons.mpr ⟨⟨(R_0, F_0, 15), rfl, Nat.le_of_ble_eq_true rfl, ⟨"EdgeHouse", (m_gi2 11 rfl rfl), Or.inl rfl⟩, fun _ => rfl, m_n0 rfl⟩, (fun _ h => absurd h List.not_mem_nil)⟩)⟩)⟩)⟩)⟩)⟩)⟩)
set_option maxRecDepth 4000 in
theorem vc_228 : ∀ q ∈ M_228.2.2.2.2.2.2.1, m_cOk M_228.1 q := (List.forall_mem_cons.mpr ⟨⟨m_n0 rfl, m_n0 rfl, m_n0 rfl, fun _ => ⟨M_17, rfl, m_n0 rfl, fun _ => ⟨(m_gi2 67 rfl rfl), (m_gi2 68 rfl rfl), (R_2, F_2, 3), rfl, rfl, (m_gi2 69 rfl rfl)⟩, m_n0 rfl, m_n0 rfl⟩⟩, (fun _ h => absurd h List.not_mem_nil)⟩)
set_option maxRecDepth 4000 in
theorem vo_228 : ∀ q ∈ M_228.2.2.2.2.2.2.2.1, m_oOk M_228.1 q := (fun _ h => absurd h List.not_mem_nil)
set_option maxRecDepth 4000 in
theorem vk_228 : ∀ q ∈ M_228.2.2.2.2.2.2.2.2, decode M_228.2.1 q.1 = .ok (q.2.1, q.2.2) := by decide +kernel
set_option maxRecDepth 4000 in
theorem v_228 : m_mOk M_228 := ⟨(m_gi8 79 rfl rfl), (m_gi1 1 rfl rfl), by decide +kernel, ⟨by decide +kernel, by decide +kernel⟩, by decide +kernel, vf_228, vc_228, vo_228, vk_228⟩
set_option maxRecDepth 4000 in
theorem vf_229 : ∀ q ∈ M_229.2.2.2.2.2.1, m_fOk M_229.1 q := (List.forall_mem_cons.mpr ⟨⟨(R_0, F_0, 15), rfl, Nat.le_of_ble_eq_true rfl, ⟨"EdgeHouse", (m_gi2 1 rfl rfl), Or.inl rfl⟩, m_n0 rfl, m_n0 rfl⟩, (List.forall_mem_cons.mpr ⟨⟨(R_0, F_0, 15), rfl, Nat.le_of_ble_eq_true rfl, ⟨"EdgeHouse", (m_gi2 2 rfl rfl), Or.inl rfl⟩, m_n0 rfl, m_n0 rfl⟩, (List.forall_mem_cons.mpr ⟨⟨(R_0, F_0, 15), rfl, Nat.le_of_ble_eq_true rfl, ⟨"EdgeHouse", (m_gi2 3 rfl rfl), Or.inl rfl⟩, m_n0 rfl, m_n0 rfl⟩, (List.forall_mem_cons.mpr ⟨⟨(R_13, F_13, 10), rfl, Nat.le_of_ble_eq_true rfl, ⟨"EdgeHouse$Told", (m_gi8 98 rfl rfl), Or.inl rfl⟩, fun _ => rfl, m_n0 rfl⟩, (List.forall_mem_cons.mpr ⟨⟨(R_13, F_13, 10), rfl, Nat.le_of_ble_eq_true rfl, ⟨"EdgeHouse$Told", (m_gi8 103 rfl rfl), Or.inl rfl⟩, fun _ => rfl, m_n0 rfl⟩, (fun _ h => absurd h List.not_mem_nil)⟩)⟩)⟩)⟩)⟩)
set_option maxRecDepth 4000 in
theorem vc_229 : ∀ q ∈ M_229.2.2.2.2.2.2.1, m_cOk M_229.1 q := (List.forall_mem_cons.mpr ⟨⟨m_n0 rfl, m_n0 rfl, m_n0 rfl, fun _ => ⟨M_230, rfl, m_n0 rfl, fun _ => ⟨(m_gi8 88 rfl rfl), (m_gi8 89 rfl rfl), (R_1, F_1, 16), rfl, rfl, (m_gi8 90 rfl rfl)⟩, m_n0 rfl, m_n0 rfl⟩⟩, (List.forall_mem_cons.mpr ⟨⟨m_n0 rfl, m_n0 rfl, m_n0 rfl, fun _ => ⟨M_60, rfl, m_n0 rfl, fun _ => ⟨(m_gi3 161 rfl rfl), (m_gi3 162 rfl rfl), (R_1, F_1, 16), rfl, rfl, (m_gi3 163 rfl rfl)⟩, m_n0 rfl, m_n0 rfl⟩⟩, (List.forall_mem_cons.mpr ⟨⟨m_n0 rfl, m_n0 rfl, m_n0 rfl, fun _ => ⟨M_15, rfl, m_n0 rfl, m_n0 rfl, fun _ => ⟨(m_gi2 60 rfl rfl), (m_gi2 61 rfl rfl)⟩, m_n0 rfl⟩⟩, (List.forall_mem_cons.mpr ⟨⟨m_n0 rfl, m_n0 rfl, m_n0 rfl, fun _ => ⟨M_200, rfl, fun _ => ⟨rfl, rfl, (m_gi8 162 rfl rfl), (m_gi7 135 rfl rfl)⟩, m_n0 rfl, m_n0 rfl, m_n0 rfl⟩⟩, (fun _ h => absurd h List.not_mem_nil)⟩)⟩)⟩)⟩)
set_option maxRecDepth 4000 in
theorem vo_229 : ∀ q ∈ M_229.2.2.2.2.2.2.2.1, m_oOk M_229.1 q := (List.forall_mem_cons.mpr ⟨⟨m_n0 rfl, m_n0 rfl, m_n0 rfl, m_n0 rfl, m_n0 rfl, fun _ => ⟨_, List.mem_of_getElem? (i := 0) rfl⟩, m_n0 rfl, Nat.le_of_ble_eq_true rfl⟩, (fun _ h => absurd h List.not_mem_nil)⟩)
set_option maxRecDepth 4000 in
theorem vk_229 : ∀ q ∈ M_229.2.2.2.2.2.2.2.2, decode M_229.2.1 q.1 = .ok (q.2.1, q.2.2) := by decide +kernel
set_option maxRecDepth 4000 in
theorem v_229 : m_mOk M_229 := ⟨(m_gi8 87 rfl rfl), (m_gi1 1 rfl rfl), by decide +kernel, ⟨by decide +kernel, by decide +kernel⟩, by decide +kernel, vf_229, vc_229, vo_229, vk_229⟩
set_option maxRecDepth 4000 in
theorem vf_230 : ∀ q ∈ M_230.2.2.2.2.2.1, m_fOk M_230.1 q := (List.forall_mem_cons.mpr ⟨⟨(R_1, F_1, 16), rfl, Nat.le_of_ble_eq_true rfl, ⟨"EdgeHouse$Reader", (m_gi1 66 rfl rfl), Or.inl rfl⟩, fun _ => rfl, m_n0 rfl⟩, (List.forall_mem_cons.mpr ⟨⟨(R_1, F_1, 16), rfl, Nat.le_of_ble_eq_true rfl, ⟨"EdgeHouse$Reader", (m_gi1 61 rfl rfl), Or.inl rfl⟩, fun _ => rfl, m_n0 rfl⟩, (List.forall_mem_cons.mpr ⟨⟨(R_13, F_13, 10), rfl, Nat.le_of_ble_eq_true rfl, ⟨"EdgeHouse$Told", (m_gi8 99 rfl rfl), Or.inl rfl⟩, fun _ => rfl, m_n0 rfl⟩, (fun _ h => absurd h List.not_mem_nil)⟩)⟩)⟩)
set_option maxRecDepth 4000 in
theorem vc_230 : ∀ q ∈ M_230.2.2.2.2.2.2.1, m_cOk M_230.1 q := (List.forall_mem_cons.mpr ⟨⟨m_n0 rfl, m_n0 rfl, m_n0 rfl, fun _ => ⟨M_19, rfl, m_n0 rfl, fun _ => ⟨(m_gi2 75 rfl rfl), (m_gi2 76 rfl rfl), (R_1, F_1, 16), rfl, rfl, (m_gi2 77 rfl rfl)⟩, m_n0 rfl, m_n0 rfl⟩⟩, (List.forall_mem_cons.mpr ⟨⟨m_n0 rfl, m_n0 rfl, m_n0 rfl, fun _ => ⟨M_231, rfl, m_n0 rfl, m_n0 rfl, m_n0 rfl, fun _ => ⟨rfl, rfl, (m_gi8 95 rfl rfl), "EdgeHouse", (List.mem_filter.mpr ⟨m_in8 (List.mem_of_getElem? (i := 94) rfl), rfl⟩)⟩⟩⟩, (List.forall_mem_cons.mpr ⟨⟨m_n0 rfl, m_n0 rfl, m_n0 rfl, fun _ => ⟨M_23, rfl, m_n0 rfl, fun _ => ⟨(m_gi2 226 rfl rfl), (m_gi2 227 rfl rfl), (R_1, F_1, 16), rfl, rfl, (m_gi2 228 rfl rfl)⟩, m_n0 rfl, m_n0 rfl⟩⟩, (List.forall_mem_cons.mpr ⟨⟨m_n0 rfl, m_n0 rfl, m_n0 rfl, fun _ => ⟨M_37, rfl, m_n0 rfl, fun _ => ⟨(m_gi3 45 rfl rfl), (m_gi3 46 rfl rfl), (R_1, F_1, 16), rfl, rfl, (m_gi3 47 rfl rfl)⟩, m_n0 rfl, m_n0 rfl⟩⟩, (List.forall_mem_cons.mpr ⟨⟨m_n0 rfl, m_n0 rfl, m_n0 rfl, fun _ => ⟨M_22, rfl, m_n0 rfl, fun _ => ⟨(m_gi2 220 rfl rfl), (m_gi2 221 rfl rfl), (R_1, F_1, 16), rfl, rfl, (m_gi2 222 rfl rfl)⟩, m_n0 rfl, m_n0 rfl⟩⟩, (List.forall_mem_cons.mpr ⟨⟨m_n0 rfl, m_n0 rfl, m_n0 rfl, fun _ => ⟨M_40, rfl, m_n0 rfl, fun _ => ⟨(m_gi3 56 rfl rfl), (m_gi3 57 rfl rfl), (R_1, F_1, 16), rfl, rfl, (m_gi3 58 rfl rfl)⟩, m_n0 rfl, m_n0 rfl⟩⟩, (List.forall_mem_cons.mpr ⟨⟨m_n0 rfl, m_n0 rfl, m_n0 rfl, fun _ => ⟨M_232, rfl, m_n0 rfl, fun _ => ⟨(m_gi8 149 rfl rfl), (m_gi8 150 rfl rfl), (R_1, F_1, 16), rfl, rfl, (m_gi8 151 rfl rfl)⟩, m_n0 rfl, m_n0 rfl⟩⟩, (List.forall_mem_cons.mpr ⟨⟨m_n0 rfl, m_n0 rfl, m_n0 rfl, fun _ => ⟨M_35, rfl, m_n0 rfl, fun _ => ⟨(m_gi3 37 rfl rfl), (m_gi3 38 rfl rfl), (R_1, F_1, 16), rfl, rfl, (m_gi3 39 rfl rfl)⟩, m_n0 rfl, m_n0 rfl⟩⟩, (List.forall_mem_cons.mpr ⟨⟨m_n0 rfl, m_n0 rfl, m_n0 rfl, fun _ => ⟨M_57, rfl, m_n0 rfl, fun _ => ⟨(m_gi3 146 rfl rfl), (m_gi3 147 rfl rfl), (R_1, F_1, 16), rfl, rfl, (m_gi3 148 rfl rfl)⟩, m_n0 rfl, m_n0 rfl⟩⟩, (fun _ h => absurd h List.not_mem_nil)⟩)⟩)⟩)⟩)⟩)⟩)⟩)⟩)⟩)
set_option maxRecDepth 4000 in
theorem vo_230 : ∀ q ∈ M_230.2.2.2.2.2.2.2.1, m_oOk M_230.1 q := (List.forall_mem_cons.mpr ⟨⟨fun _ => ⟨(R_13, F_13, 10), rfl, (m_gi8 92 rfl rfl), (m_gi8 93 rfl rfl), (m_gi1 13 rfl rfl)⟩, m_n0 rfl, m_n0 rfl, m_n0 rfl, m_n0 rfl, m_n0 rfl, m_n0 rfl, Nat.le_of_ble_eq_true rfl⟩, (List.forall_mem_cons.mpr ⟨⟨m_n0 rfl, m_n0 rfl, m_n0 rfl, m_n0 rfl, m_n0 rfl, fun _ => ⟨_, List.mem_of_getElem? (i := 4) rfl⟩, m_n0 rfl, Nat.le_of_ble_eq_true rfl⟩, (fun _ h => absurd h List.not_mem_nil)⟩)⟩)
set_option maxRecDepth 4000 in
theorem vk_230 : ∀ q ∈ M_230.2.2.2.2.2.2.2.2, decode M_230.2.1 q.1 = .ok (q.2.1, q.2.2) := by decide +kernel
set_option maxRecDepth 4000 in
theorem v_230 : m_mOk M_230 := ⟨(m_gi8 91 rfl rfl), (m_gi1 2 rfl rfl), by decide +kernel, ⟨by decide +kernel, by decide +kernel⟩, by decide +kernel, vf_230, vc_230, vo_230, vk_230⟩
set_option maxRecDepth 4000 in
theorem vf_231 : ∀ q ∈ M_231.2.2.2.2.2.1, m_fOk M_231.1 q := (fun _ h => absurd h List.not_mem_nil)
set_option maxRecDepth 4000 in
theorem vc_231 : ∀ q ∈ M_231.2.2.2.2.2.2.1, m_cOk M_231.1 q := (List.forall_mem_cons.mpr ⟨⟨fun _ => (m_gi8 97 rfl rfl), m_n0 rfl, m_n0 rfl, m_n1 rfl⟩, (fun _ h => absurd h List.not_mem_nil)⟩)
set_option maxRecDepth 4000 in
theorem vo_231 : ∀ q ∈ M_231.2.2.2.2.2.2.2.1, m_oOk M_231.1 q := (fun _ h => absurd h List.not_mem_nil)
set_option maxRecDepth 4000 in
theorem vk_231 : ∀ q ∈ M_231.2.2.2.2.2.2.2.2, decode M_231.2.1 q.1 = .ok (q.2.1, q.2.2) := by decide +kernel
set_option maxRecDepth 4000 in
theorem v_231 : m_mOk M_231 := ⟨(m_gi8 96 rfl rfl), (m_gi1 13 rfl rfl), by decide +kernel, ⟨by decide +kernel, by decide +kernel⟩, by decide +kernel, vf_231, vc_231, vo_231, vk_231⟩
set_option maxRecDepth 4000 in
theorem vf_232 : ∀ q ∈ M_232.2.2.2.2.2.1, m_fOk M_232.1 q := (List.forall_mem_cons.mpr ⟨⟨(R_1, F_1, 16), rfl, Nat.le_of_ble_eq_true rfl, ⟨"EdgeHouse$Reader", (m_gi1 66 rfl rfl), Or.inl rfl⟩, fun _ => rfl, m_n0 rfl⟩, (List.forall_mem_cons.mpr ⟨⟨(R_1, F_1, 16), rfl, Nat.le_of_ble_eq_true rfl, ⟨"EdgeHouse$Reader", (m_gi1 60 rfl rfl), Or.inl rfl⟩, fun _ => rfl, m_n0 rfl⟩, (List.forall_mem_cons.mpr ⟨⟨(R_13, F_13, 10), rfl, Nat.le_of_ble_eq_true rfl, ⟨"EdgeHouse$Told", (m_gi8 109 rfl rfl), Or.inl rfl⟩, fun _ => rfl, m_n0 rfl⟩, (fun _ h => absurd h List.not_mem_nil)⟩)⟩)⟩)
set_option maxRecDepth 4000 in
theorem vc_232 : ∀ q ∈ M_232.2.2.2.2.2.2.1, m_cOk M_232.1 q := (List.forall_mem_cons.mpr ⟨⟨m_n0 rfl, m_n0 rfl, m_n0 rfl, fun _ => ⟨M_38, rfl, m_n0 rfl, fun _ => ⟨(m_gi3 49 rfl rfl), (m_gi3 50 rfl rfl), (R_1, F_1, 16), rfl, rfl, (m_gi3 51 rfl rfl)⟩, m_n0 rfl, m_n0 rfl⟩⟩, (List.forall_mem_cons.mpr ⟨⟨m_n0 rfl, m_n0 rfl, m_n0 rfl, fun _ => ⟨M_45, rfl, m_n0 rfl, fun _ => ⟨(m_gi3 77 rfl rfl), (m_gi3 78 rfl rfl), (R_1, F_1, 16), rfl, rfl, (m_gi3 79 rfl rfl)⟩, m_n0 rfl, m_n0 rfl⟩⟩, (List.forall_mem_cons.mpr ⟨⟨m_n0 rfl, m_n0 rfl, m_n0 rfl, fun _ => ⟨M_49, rfl, m_n0 rfl, fun _ => ⟨(m_gi3 98 rfl rfl), (m_gi3 99 rfl rfl), (R_1, F_1, 16), rfl, rfl, (m_gi3 100 rfl rfl)⟩, m_n0 rfl, m_n0 rfl⟩⟩, (List.forall_mem_cons.mpr ⟨⟨m_n0 rfl, m_n0 rfl, m_n0 rfl, fun _ => ⟨M_233, rfl, m_n0 rfl, fun _ => ⟨(m_gi8 156 rfl rfl), (m_gi8 157 rfl rfl), (R_1, F_1, 16), rfl, rfl, (m_gi8 158 rfl rfl)⟩, m_n0 rfl, m_n0 rfl⟩⟩, (List.forall_mem_cons.mpr ⟨⟨m_n0 rfl, m_n0 rfl, m_n0 rfl, fun _ => ⟨M_56, rfl, m_n0 rfl, fun _ => ⟨(m_gi3 142 rfl rfl), (m_gi3 143 rfl rfl), (R_1, F_1, 16), rfl, rfl, (m_gi3 144 rfl rfl)⟩, m_n0 rfl, m_n0 rfl⟩⟩, (fun _ h => absurd h List.not_mem_nil)⟩)⟩)⟩)⟩)⟩)
set_option maxRecDepth 4000 in
theorem vo_232 : ∀ q ∈ M_232.2.2.2.2.2.2.2.1, m_oOk M_232.1 q := (List.forall_mem_cons.mpr ⟨⟨m_n0 rfl, m_n0 rfl, m_n0 rfl, m_n0 rfl, m_n0 rfl, fun _ => ⟨_, List.mem_of_getElem? (i := 7) rfl⟩, m_n0 rfl, Nat.le_of_ble_eq_true rfl⟩, (List.forall_mem_cons.mpr ⟨⟨m_n0 rfl, m_n0 rfl, m_n0 rfl, m_n0 rfl, m_n0 rfl, fun _ => ⟨_, List.mem_of_getElem? (i := 8) rfl⟩, m_n0 rfl, Nat.le_of_ble_eq_true rfl⟩, (List.forall_mem_cons.mpr ⟨⟨m_n0 rfl, m_n0 rfl, m_n0 rfl, m_n0 rfl, m_n0 rfl, fun _ => ⟨_, List.mem_of_getElem? (i := 9) rfl⟩, m_n0 rfl, Nat.le_of_ble_eq_true rfl⟩, (List.forall_mem_cons.mpr ⟨⟨m_n0 rfl, m_n0 rfl, m_n0 rfl, m_n0 rfl, m_n0 rfl, fun _ => ⟨_, List.mem_of_getElem? (i := 10) rfl⟩, m_n0 rfl, Nat.le_of_ble_eq_true rfl⟩, (fun _ h => absurd h List.not_mem_nil)⟩)⟩)⟩)⟩)
set_option maxRecDepth 4000 in
theorem vk_232 : ∀ q ∈ M_232.2.2.2.2.2.2.2.2, decode M_232.2.1 q.1 = .ok (q.2.1, q.2.2) := by decide +kernel
set_option maxRecDepth 4000 in
theorem v_232 : m_mOk M_232 := ⟨(m_gi8 152 rfl rfl), (m_gi1 2 rfl rfl), by decide +kernel, ⟨by decide +kernel, by decide +kernel⟩, by decide +kernel, vf_232, vc_232, vo_232, vk_232⟩
set_option maxRecDepth 4000 in
theorem vf_233 : ∀ q ∈ M_233.2.2.2.2.2.1, m_fOk M_233.1 q := (List.forall_mem_cons.mpr ⟨⟨(R_1, F_1, 16), rfl, Nat.le_of_ble_eq_true rfl, ⟨"EdgeHouse$Reader", (m_gi1 66 rfl rfl), Or.inl rfl⟩, fun _ => rfl, m_n0 rfl⟩, (List.forall_mem_cons.mpr ⟨⟨(R_1, F_1, 16), rfl, Nat.le_of_ble_eq_true rfl, ⟨"EdgeHouse$Reader", (m_gi1 52 rfl rfl), Or.inl rfl⟩, fun _ => rfl, m_n0 rfl⟩, (List.forall_mem_cons.mpr ⟨⟨(R_13, F_13, 10), rfl, Nat.le_of_ble_eq_true rfl, ⟨"EdgeHouse$Told", (m_gi8 121 rfl rfl), Or.inl rfl⟩, fun _ => rfl, m_n0 rfl⟩, (fun _ h => absurd h List.not_mem_nil)⟩)⟩)⟩)
set_option maxRecDepth 4000 in
theorem vc_233 : ∀ q ∈ M_233.2.2.2.2.2.2.1, m_cOk M_233.1 q := (List.forall_mem_cons.mpr ⟨⟨m_n0 rfl, m_n0 rfl, m_n0 rfl, fun _ => ⟨M_22, rfl, m_n0 rfl, fun _ => ⟨(m_gi2 220 rfl rfl), (m_gi2 221 rfl rfl), (R_1, F_1, 16), rfl, rfl, (m_gi2 222 rfl rfl)⟩, m_n0 rfl, m_n0 rfl⟩⟩, (List.forall_mem_cons.mpr ⟨⟨m_n0 rfl, m_n0 rfl, m_n0 rfl, fun _ => ⟨M_36, rfl, m_n0 rfl, fun _ => ⟨(m_gi3 41 rfl rfl), (m_gi3 42 rfl rfl), (R_1, F_1, 16), rfl, rfl, (m_gi3 43 rfl rfl)⟩, m_n0 rfl, m_n0 rfl⟩⟩, (fun _ h => absurd h List.not_mem_nil)⟩)⟩)
set_option maxRecDepth 4000 in
theorem vo_233 : ∀ q ∈ M_233.2.2.2.2.2.2.2.1, m_oOk M_233.1 q := (fun _ h => absurd h List.not_mem_nil)
set_option maxRecDepth 4000 in
theorem vk_233 : ∀ q ∈ M_233.2.2.2.2.2.2.2.2, decode M_233.2.1 q.1 = .ok (q.2.1, q.2.2) := by decide +kernel
set_option maxRecDepth 4000 in
theorem v_233 : m_mOk M_233 := ⟨(m_gi8 159 rfl rfl), (m_gi1 2 rfl rfl), by decide +kernel, ⟨by decide +kernel, by decide +kernel⟩, by decide +kernel, vf_233, vc_233, vo_233, vk_233⟩
set_option maxRecDepth 4000 in
theorem vf_234 : ∀ q ∈ M_234.2.2.2.2.2.1, m_fOk M_234.1 q := (List.forall_mem_cons.mpr ⟨⟨(R_0, F_0, 15), rfl, Nat.le_of_ble_eq_true rfl, ⟨"EdgeHouse", (m_gi2 4 rfl rfl), Or.inl rfl⟩, m_n0 rfl, m_n0 rfl⟩, (List.forall_mem_cons.mpr ⟨⟨(R_0, F_0, 15), rfl, Nat.le_of_ble_eq_true rfl, ⟨"EdgeHouse", (m_gi2 15 rfl rfl), Or.inl rfl⟩, fun _ => rfl, m_n0 rfl⟩, (fun _ h => absurd h List.not_mem_nil)⟩)⟩)
set_option maxRecDepth 4000 in
theorem vc_234 : ∀ q ∈ M_234.2.2.2.2.2.2.1, m_cOk M_234.1 q := (List.forall_mem_cons.mpr ⟨⟨m_n0 rfl, m_n0 rfl, m_n0 rfl, fun _ => ⟨M_200, rfl, fun _ => ⟨rfl, rfl, (m_gi8 162 rfl rfl), (m_gi7 135 rfl rfl)⟩, m_n0 rfl, m_n0 rfl, m_n0 rfl⟩⟩, (List.forall_mem_cons.mpr ⟨⟨m_n0 rfl, m_n0 rfl, m_n0 rfl, fun _ => ⟨M_235, rfl, m_n0 rfl, fun _ => ⟨(m_gi8 171 rfl rfl), (m_gi8 173 rfl rfl), (R_0, F_0, 15), rfl, rfl, (m_gp 24 rfl rfl)⟩, m_n0 rfl, m_n0 rfl⟩⟩, (fun _ h => absurd h List.not_mem_nil)⟩)⟩)
set_option maxRecDepth 4000 in
theorem vo_234 : ∀ q ∈ M_234.2.2.2.2.2.2.2.1, m_oOk M_234.1 q := (List.forall_mem_cons.mpr ⟨⟨m_n0 rfl, m_n0 rfl, m_n0 rfl, m_n0 rfl, m_n0 rfl, fun _ => ⟨_, List.mem_of_getElem? (i := 1) rfl⟩, m_n0 rfl, Nat.le_of_ble_eq_true rfl⟩, (fun _ h => absurd h List.not_mem_nil)⟩)
set_option maxRecDepth 4000 in
theorem vk_234 : ∀ q ∈ M_234.2.2.2.2.2.2.2.2, decode M_234.2.1 q.1 = .ok (q.2.1, q.2.2) := by decide +kernel
set_option maxRecDepth 4000 in
theorem v_234 : m_mOk M_234 := ⟨(m_gi8 169 rfl rfl), (m_gi1 1 rfl rfl), by decide +kernel, ⟨by decide +kernel, by decide +kernel⟩, by decide +kernel, vf_234, vc_234, vo_234, vk_234⟩
set_option maxRecDepth 4000 in
theorem vf_235 : ∀ q ∈ M_235.2.2.2.2.2.1, m_fOk M_235.1 q := (List.forall_mem_cons.mpr ⟨⟨(R_0, F_0, 15), rfl, Nat.le_of_ble_eq_true rfl, ⟨"EdgeHouse", (m_gi2 15 rfl rfl), Or.inl rfl⟩, fun _ => rfl, m_n0 rfl⟩, (List.forall_mem_cons.mpr ⟨⟨(R_4, F_4, 11), rfl, Nat.le_of_ble_eq_true rfl, ⟨"EdgeHouse$Node", (m_gi1 198 rfl rfl), Or.inl rfl⟩, m_n0 rfl, m_n0 rfl⟩, (List.forall_mem_cons.mpr ⟨⟨(R_10, F_10, 14), rfl, Nat.le_of_ble_eq_true rfl, ⟨"EdgeHouse$Fetch", (m_gi5 107 rfl rfl), Or.inl rfl⟩, fun _ => rfl, m_n0 rfl⟩, (List.forall_mem_cons.mpr ⟨⟨(R_4, F_4, 11), rfl, Nat.le_of_ble_eq_true rfl, ⟨"EdgeHouse$Node", (m_gi1 194 rfl rfl), Or.inl rfl⟩, m_n0 rfl, m_n0 rfl⟩, (List.forall_mem_cons.mpr ⟨⟨(R_10, F_10, 14), rfl, Nat.le_of_ble_eq_true rfl, ⟨"EdgeHouse$Fetch", (m_gi5 99 rfl rfl), Or.inl rfl⟩, fun _ => rfl, m_n0 rfl⟩, (List.forall_mem_cons.mpr ⟨⟨(R_10, F_10, 14), rfl, Nat.le_of_ble_eq_true rfl, ⟨"EdgeHouse$Fetch", (m_gi5 103 rfl rfl), Or.inl rfl⟩, fun _ => rfl, m_n0 rfl⟩, (fun _ h => absurd h List.not_mem_nil)⟩)⟩)⟩)⟩)⟩)⟩)
set_option maxRecDepth 4000 in
theorem vc_235 : ∀ q ∈ M_235.2.2.2.2.2.2.1, m_cOk M_235.1 q := (List.forall_mem_cons.mpr ⟨⟨m_n0 rfl, m_n0 rfl, m_n0 rfl, fun _ => ⟨M_95, rfl, m_n0 rfl, fun _ => ⟨(m_gi5 206 rfl rfl), (m_gi4 155 rfl rfl), (R_2, F_2, 3), rfl, rfl, (m_gi4 156 rfl rfl)⟩, m_n0 rfl, m_n0 rfl⟩⟩, (List.forall_mem_cons.mpr ⟨⟨m_n0 rfl, m_n0 rfl, m_n0 rfl, fun _ => ⟨M_101, rfl, m_n0 rfl, fun _ => ⟨(m_gi6 118 rfl rfl), (m_gi4 183 rfl rfl), (R_2, F_2, 3), rfl, rfl, (m_gi4 184 rfl rfl)⟩, m_n0 rfl, m_n0 rfl⟩⟩, (List.forall_mem_cons.mpr ⟨⟨m_n0 rfl, m_n0 rfl, m_n0 rfl, fun _ => ⟨M_77, rfl, m_n0 rfl, fun _ => ⟨(m_gi6 127 rfl rfl), (m_gi4 78 rfl rfl), (R_2, F_2, 3), rfl, rfl, (m_gi4 79 rfl rfl)⟩, m_n0 rfl, m_n0 rfl⟩⟩, (List.forall_mem_cons.mpr ⟨⟨m_n0 rfl, m_n0 rfl, m_n0 rfl, fun _ => ⟨M_122, rfl, m_n0 rfl, fun _ => ⟨(m_gi5 183 rfl rfl), (m_gi5 185 rfl rfl), (R_0, F_0, 15), rfl, rfl, (m_gp 14 rfl rfl)⟩, m_n0 rfl, m_n0 rfl⟩⟩, (List.forall_mem_cons.mpr ⟨⟨m_n0 rfl, m_n0 rfl, m_n0 rfl, fun _ => ⟨M_112, rfl, m_n0 rfl, m_n0 rfl, fun _ => ⟨(m_gi5 142 rfl rfl), (m_gi5 143 rfl rfl)⟩, m_n0 rfl⟩⟩, (List.forall_mem_cons.mpr ⟨⟨m_n0 rfl, m_n0 rfl, m_n0 rfl, fun _ => ⟨M_236, rfl, m_n0 rfl, fun _ => ⟨(m_gi8 175 rfl rfl), (m_gi8 176 rfl rfl), (R_4, F_4, 11), rfl, rfl, (m_gi8 177 rfl rfl)⟩, m_n0 rfl, m_n0 rfl⟩⟩, (fun _ h => absurd h List.not_mem_nil)⟩)⟩)⟩)⟩)⟩)⟩)
set_option maxRecDepth 4000 in
theorem vo_235 : ∀ q ∈ M_235.2.2.2.2.2.2.2.1, m_oOk M_235.1 q := (List.forall_mem_cons.mpr ⟨⟨m_n0 rfl, m_n0 rfl, m_n0 rfl, m_n0 rfl, m_n0 rfl, m_n0 rfl, fun _ => ⟨(R_10, F_10, 14), rfl, (m_gi5 69 rfl rfl), (List.mem_filter.mpr ⟨m_in12 (List.mem_of_getElem? (i := 51) rfl), rfl⟩)⟩, Nat.le_of_ble_eq_true rfl⟩, (fun _ h => absurd h List.not_mem_nil)⟩)
set_option maxRecDepth 4000 in
theorem vk_235 : ∀ q ∈ M_235.2.2.2.2.2.2.2.2, decode M_235.2.1 q.1 = .ok (q.2.1, q.2.2) := by decide +kernel
set_option maxRecDepth 4000 in
theorem v_235 : m_mOk M_235 := ⟨(m_gi8 174 rfl rfl), (m_gi1 1 rfl rfl), by decide +kernel, ⟨by decide +kernel, by decide +kernel⟩, by decide +kernel, vf_235, vc_235, vo_235, vk_235⟩
set_option maxRecDepth 4000 in
theorem vf_236 : ∀ q ∈ M_236.2.2.2.2.2.1, m_fOk M_236.1 q := (List.forall_mem_cons.mpr ⟨⟨(R_4, F_4, 11), rfl, Nat.le_of_ble_eq_true rfl, ⟨"EdgeHouse$Node", (m_gi1 200 rfl rfl), Or.inl rfl⟩, m_n0 rfl, m_n0 rfl⟩, (List.forall_mem_cons.mpr ⟨⟨(R_4, F_4, 11), rfl, Nat.le_of_ble_eq_true rfl, ⟨"EdgeHouse$Node", (m_gi1 201 rfl rfl), Or.inl rfl⟩, m_n0 rfl, m_n0 rfl⟩, (fun _ h => absurd h List.not_mem_nil)⟩)⟩)
set_option maxRecDepth 4000 in
theorem vc_236 : ∀ q ∈ M_236.2.2.2.2.2.2.1, m_cOk M_236.1 q := (fun _ h => absurd h List.not_mem_nil)
set_option maxRecDepth 4000 in
theorem vo_236 : ∀ q ∈ M_236.2.2.2.2.2.2.2.1, m_oOk M_236.1 q := (fun _ h => absurd h List.not_mem_nil)
set_option maxRecDepth 4000 in
theorem vk_236 : ∀ q ∈ M_236.2.2.2.2.2.2.2.2, decode M_236.2.1 q.1 = .ok (q.2.1, q.2.2) := by decide +kernel
set_option maxRecDepth 4000 in
theorem v_236 : m_mOk M_236 := ⟨(m_gi8 178 rfl rfl), (m_gi1 10 rfl rfl), by decide +kernel, ⟨by decide +kernel, by decide +kernel⟩, by decide +kernel, vf_236, vc_236, vo_236, vk_236⟩
set_option maxRecDepth 4000 in
theorem vf_237 : ∀ q ∈ M_237.2.2.2.2.2.1, m_fOk M_237.1 q := (List.forall_mem_cons.mpr ⟨⟨(R_0, F_0, 15), rfl, Nat.le_of_ble_eq_true rfl, ⟨"EdgeHouse", (m_gi2 9 rfl rfl), Or.inl rfl⟩, m_n0 rfl, m_n0 rfl⟩, (fun _ h => absurd h List.not_mem_nil)⟩)
set_option maxRecDepth 4000 in
theorem vc_237 : ∀ q ∈ M_237.2.2.2.2.2.2.1, m_cOk M_237.1 q := (List.forall_mem_cons.mpr ⟨⟨m_n0 rfl, m_n0 rfl, m_n0 rfl, fun _ => ⟨M_17, rfl, m_n0 rfl, fun _ => ⟨(m_gi2 67 rfl rfl), (m_gi2 68 rfl rfl), (R_2, F_2, 3), rfl, rfl, (m_gi2 69 rfl rfl)⟩, m_n0 rfl, m_n0 rfl⟩⟩, (List.forall_mem_cons.mpr ⟨⟨m_n0 rfl, m_n0 rfl, m_n0 rfl, fun _ => ⟨M_77, rfl, m_n0 rfl, fun _ => ⟨(m_gi6 127 rfl rfl), (m_gi4 78 rfl rfl), (R_2, F_2, 3), rfl, rfl, (m_gi4 79 rfl rfl)⟩, m_n0 rfl, m_n0 rfl⟩⟩, (List.forall_mem_cons.mpr ⟨⟨m_n0 rfl, m_n0 rfl, m_n0 rfl, fun _ => ⟨M_238, rfl, fun _ => ⟨rfl, rfl, (m_gi8 198 rfl rfl), (m_gi8 199 rfl rfl)⟩, m_n0 rfl, m_n0 rfl, m_n0 rfl⟩⟩, (List.forall_mem_cons.mpr ⟨⟨m_n0 rfl, m_n0 rfl, m_n0 rfl, fun _ => ⟨M_207, rfl, fun _ => ⟨rfl, rfl, (m_gi8 214 rfl rfl), (m_gi7 181 rfl rfl)⟩, m_n0 rfl, m_n0 rfl, m_n0 rfl⟩⟩, (List.forall_mem_cons.mpr ⟨⟨m_n0 rfl, m_n0 rfl, m_n0 rfl, fun _ => ⟨M_158, rfl, m_n0 rfl, fun _ => ⟨(m_gi6 155 rfl rfl), (m_gi6 157 rfl rfl), (R_0, F_0, 15), rfl, rfl, (m_gp 22 rfl rfl)⟩, m_n0 rfl, m_n0 rfl⟩⟩, (List.forall_mem_cons.mpr ⟨⟨m_n0 rfl, m_n0 rfl, m_n0 rfl, fun _ => ⟨M_24, rfl, m_n0 rfl, fun _ => ⟨(m_gi8 37 rfl rfl), (m_gi2 231 rfl rfl), (R_12, F_12, 4), rfl, rfl, (m_gi2 232 rfl rfl)⟩, m_n0 rfl, m_n0 rfl⟩⟩, (List.forall_mem_cons.mpr ⟨⟨m_n0 rfl, m_n0 rfl, m_n0 rfl, fun _ => ⟨M_239, rfl, m_n0 rfl, fun _ => ⟨(m_gi8 217 rfl rfl), (m_gi8 218 rfl rfl), (R_8, F_8, 14), rfl, rfl, (m_gi8 219 rfl rfl)⟩, m_n0 rfl, m_n0 rfl⟩⟩, (fun _ h => absurd h List.not_mem_nil)⟩)⟩)⟩)⟩)⟩)⟩)⟩)
set_option maxRecDepth 4000 in
theorem vo_237 : ∀ q ∈ M_237.2.2.2.2.2.2.2.1, m_oOk M_237.1 q := (List.forall_mem_cons.mpr ⟨⟨m_n0 rfl, m_n0 rfl, m_n0 rfl, m_n0 rfl, m_n0 rfl, m_n0 rfl, fun _ => ⟨(R_8, F_8, 14), rfl, (m_gi3 165 rfl rfl), (List.mem_filter.mpr ⟨m_in12 (List.mem_of_getElem? (i := 53) rfl), rfl⟩)⟩, Nat.le_of_ble_eq_true rfl⟩, (List.forall_mem_cons.mpr ⟨⟨m_n0 rfl, m_n0 rfl, m_n0 rfl, m_n0 rfl, m_n0 rfl, fun _ => ⟨_, List.mem_of_getElem? (i := 2) rfl⟩, m_n0 rfl, Nat.le_of_ble_eq_true rfl⟩, (List.forall_mem_cons.mpr ⟨⟨m_n0 rfl, m_n0 rfl, m_n0 rfl, m_n0 rfl, m_n0 rfl, fun _ => ⟨_, List.mem_of_getElem? (i := 3) rfl⟩, m_n0 rfl, Nat.le_of_ble_eq_true rfl⟩, (fun _ h => absurd h List.not_mem_nil)⟩)⟩)⟩)
set_option maxRecDepth 4000 in
theorem vk_237 : ∀ q ∈ M_237.2.2.2.2.2.2.2.2, decode M_237.2.1 q.1 = .ok (q.2.1, q.2.2) := by decide +kernel
set_option maxRecDepth 4000 in
theorem v_237 : m_mOk M_237 := ⟨(m_gi8 187 rfl rfl), (m_gi1 1 rfl rfl), by decide +kernel, ⟨by decide +kernel, by decide +kernel⟩, by decide +kernel, vf_237, vc_237, vo_237, vk_237⟩
set_option maxRecDepth 4000 in
theorem vf_238 : ∀ q ∈ M_238.2.2.2.2.2.1, m_fOk M_238.1 q := (fun _ h => absurd h List.not_mem_nil)
set_option maxRecDepth 4000 in
theorem vc_238 : ∀ q ∈ M_238.2.2.2.2.2.2.1, m_cOk M_238.1 q := (List.forall_mem_cons.mpr ⟨⟨m_n0 rfl, m_n0 rfl, m_n0 rfl, fun _ => ⟨M_201, rfl, fun _ => ⟨rfl, rfl, (m_gi8 201 rfl rfl), (m_gi7 138 rfl rfl)⟩, m_n0 rfl, m_n0 rfl, m_n0 rfl⟩⟩, (fun _ h => absurd h List.not_mem_nil)⟩)
set_option maxRecDepth 4000 in
theorem vo_238 : ∀ q ∈ M_238.2.2.2.2.2.2.2.1, m_oOk M_238.1 q := (fun _ h => absurd h List.not_mem_nil)
set_option maxRecDepth 4000 in
theorem vk_238 : ∀ q ∈ M_238.2.2.2.2.2.2.2.2, decode M_238.2.1 q.1 = .ok (q.2.1, q.2.2) := by decide +kernel
set_option maxRecDepth 4000 in
theorem v_238 : m_mOk M_238 := ⟨(m_gi8 200 rfl rfl), (m_gi1 32 rfl rfl), by decide +kernel, ⟨by decide +kernel, by decide +kernel⟩, by decide +kernel, vf_238, vc_238, vo_238, vk_238⟩
set_option maxRecDepth 4000 in
theorem vf_239 : ∀ q ∈ M_239.2.2.2.2.2.1, m_fOk M_239.1 q := (List.forall_mem_cons.mpr ⟨⟨(R_8, F_8, 14), rfl, Nat.le_of_ble_eq_true rfl, ⟨"EdgeHouse$Reply", (m_gi3 177 rfl rfl), Or.inl rfl⟩, fun _ => rfl, m_n0 rfl⟩, (List.forall_mem_cons.mpr ⟨⟨(R_8, F_8, 14), rfl, Nat.le_of_ble_eq_true rfl, ⟨"EdgeHouse$Reply", (m_gi3 178 rfl rfl), Or.inl rfl⟩, fun _ => rfl, m_n0 rfl⟩, (List.forall_mem_cons.mpr ⟨⟨(R_8, F_8, 14), rfl, Nat.le_of_ble_eq_true rfl, ⟨"EdgeHouse$Reply", (m_gi3 174 rfl rfl), Or.inl rfl⟩, fun _ => rfl, m_n0 rfl⟩, (List.forall_mem_cons.mpr ⟨⟨(R_8, F_8, 14), rfl, Nat.le_of_ble_eq_true rfl, ⟨"EdgeHouse$Reply", (m_gi3 186 rfl rfl), Or.inl rfl⟩, fun _ => rfl, m_n0 rfl⟩, (List.forall_mem_cons.mpr ⟨⟨(R_8, F_8, 14), rfl, Nat.le_of_ble_eq_true rfl, ⟨"EdgeHouse$Reply", (m_gi3 180 rfl rfl), Or.inl rfl⟩, fun _ => rfl, m_n0 rfl⟩, (List.forall_mem_cons.mpr ⟨⟨(R_8, F_8, 14), rfl, Nat.le_of_ble_eq_true rfl, ⟨"EdgeHouse$Reply", (m_gi3 182 rfl rfl), Or.inl rfl⟩, fun _ => rfl, m_n0 rfl⟩, (List.forall_mem_cons.mpr ⟨⟨(R_8, F_8, 14), rfl, Nat.le_of_ble_eq_true rfl, ⟨"EdgeHouse$Reply", (m_gi3 188 rfl rfl), Or.inl rfl⟩, fun _ => rfl, m_n0 rfl⟩, (List.forall_mem_cons.mpr ⟨⟨(R_8, F_8, 14), rfl, Nat.le_of_ble_eq_true rfl, ⟨"EdgeHouse$Reply", (m_gi3 172 rfl rfl), Or.inl rfl⟩, fun _ => rfl, m_n0 rfl⟩, (fun _ h => absurd h List.not_mem_nil)⟩)⟩)⟩)⟩)⟩)⟩)⟩)⟩)
set_option maxRecDepth 4000 in
theorem vc_239 : ∀ q ∈ M_239.2.2.2.2.2.2.1, m_cOk M_239.1 q := (fun _ h => absurd h List.not_mem_nil)
set_option maxRecDepth 4000 in
theorem vo_239 : ∀ q ∈ M_239.2.2.2.2.2.2.2.1, m_oOk M_239.1 q := (fun _ h => absurd h List.not_mem_nil)
set_option maxRecDepth 4000 in
theorem vk_239 : ∀ q ∈ M_239.2.2.2.2.2.2.2.2, decode M_239.2.1 q.1 = .ok (q.2.1, q.2.2) := by decide +kernel
set_option maxRecDepth 4000 in
theorem v_239 : m_mOk M_239 := ⟨(m_gi8 220 rfl rfl), (m_gi1 23 rfl rfl), by decide +kernel, ⟨by decide +kernel, by decide +kernel⟩, by decide +kernel, vf_239, vc_239, vo_239, vk_239⟩
