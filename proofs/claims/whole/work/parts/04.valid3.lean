set_option maxRecDepth 4000 in
theorem vf_120 : ∀ q ∈ M_120.2.2.2.2.2.1, m_fOk M_120.1 q := (fun _ h => absurd h List.not_mem_nil)
set_option maxRecDepth 4000 in
theorem vc_120 : ∀ q ∈ M_120.2.2.2.2.2.2.1, m_cOk M_120.1 q := (fun _ h => absurd h List.not_mem_nil)
set_option maxRecDepth 4000 in
theorem vo_120 : ∀ q ∈ M_120.2.2.2.2.2.2.2.1, m_oOk M_120.1 q := (List.forall_mem_cons.mpr ⟨⟨m_n0 rfl, m_n0 rfl, fun _ => ⟨_, rfl, (m_gi5 179 rfl rfl)⟩, m_n0 rfl, m_n0 rfl, m_n0 rfl, m_n0 rfl, Nat.le_of_ble_eq_true rfl⟩, (fun _ h => absurd h List.not_mem_nil)⟩)
set_option maxRecDepth 4000 in
theorem vk_120 : ∀ q ∈ M_120.2.2.2.2.2.2.2.2, decode M_120.2.1 q.1 = .ok (q.2.1, q.2.2) := by decide +kernel
set_option maxRecDepth 4000 in
theorem v_120 : m_mOk M_120 := ⟨(m_gi5 178 rfl rfl), (m_gi1 28 rfl rfl), by decide +kernel, ⟨by decide +kernel, by decide +kernel⟩, by decide +kernel, vf_120, vc_120, vo_120, vk_120⟩
set_option maxRecDepth 4000 in
theorem vf_121 : ∀ q ∈ M_121.2.2.2.2.2.1, m_fOk M_121.1 q := (fun _ h => absurd h List.not_mem_nil)
set_option maxRecDepth 4000 in
theorem vc_121 : ∀ q ∈ M_121.2.2.2.2.2.2.1, m_cOk M_121.1 q := (fun _ h => absurd h List.not_mem_nil)
set_option maxRecDepth 4000 in
theorem vo_121 : ∀ q ∈ M_121.2.2.2.2.2.2.2.1, m_oOk M_121.1 q := (List.forall_mem_cons.mpr ⟨⟨m_n0 rfl, m_n0 rfl, fun _ => ⟨_, rfl, (m_gi5 179 rfl rfl)⟩, m_n0 rfl, m_n0 rfl, m_n0 rfl, m_n0 rfl, Nat.le_of_ble_eq_true rfl⟩, (fun _ h => absurd h List.not_mem_nil)⟩)
set_option maxRecDepth 4000 in
theorem vk_121 : ∀ q ∈ M_121.2.2.2.2.2.2.2.2, decode M_121.2.1 q.1 = .ok (q.2.1, q.2.2) := by decide +kernel
set_option maxRecDepth 4000 in
theorem v_121 : m_mOk M_121 := ⟨(m_gi5 182 rfl rfl), (m_gi1 28 rfl rfl), by decide +kernel, ⟨by decide +kernel, by decide +kernel⟩, by decide +kernel, vf_121, vc_121, vo_121, vk_121⟩
set_option maxRecDepth 4000 in
theorem vf_122 : ∀ q ∈ M_122.2.2.2.2.2.1, m_fOk M_122.1 q := (List.forall_mem_cons.mpr ⟨⟨(R_6, F_6, 19), rfl, Nat.le_of_ble_eq_true rfl, ⟨"EdgeHouse$Request", (m_gi2 130 rfl rfl), Or.inl rfl⟩, fun _ => rfl, m_n0 rfl⟩, (List.forall_mem_cons.mpr ⟨⟨(R_0, F_0, 15), rfl, Nat.le_of_ble_eq_true rfl, ⟨"EdgeHouse", (m_gi2 15 rfl rfl), Or.inl rfl⟩, fun _ => rfl, m_n0 rfl⟩, (List.forall_mem_cons.mpr ⟨⟨(R_6, F_6, 19), rfl, Nat.le_of_ble_eq_true rfl, ⟨"EdgeHouse$Request", (m_gi2 138 rfl rfl), Or.inl rfl⟩, fun _ => rfl, m_n0 rfl⟩, (List.forall_mem_cons.mpr ⟨⟨(R_4, F_4, 11), rfl, Nat.le_of_ble_eq_true rfl, ⟨"EdgeHouse$Node", (m_gi1 196 rfl rfl), Or.inl rfl⟩, m_n0 rfl, m_n0 rfl⟩, (List.forall_mem_cons.mpr ⟨⟨(R_4, F_4, 11), rfl, Nat.le_of_ble_eq_true rfl, ⟨"EdgeHouse$Node", (m_gi1 194 rfl rfl), Or.inl rfl⟩, m_n0 rfl, m_n0 rfl⟩, (List.forall_mem_cons.mpr ⟨⟨(R_11, F_11, 9), rfl, Nat.le_of_ble_eq_true rfl, ⟨"EdgeHouse$Entry", (m_gi5 239 rfl rfl), Or.inl rfl⟩, m_n0 rfl, m_n0 rfl⟩, (fun _ h => absurd h List.not_mem_nil)⟩)⟩)⟩)⟩)⟩)⟩)
set_option maxRecDepth 4000 in
theorem vc_122 : ∀ q ∈ M_122.2.2.2.2.2.2.1, m_cOk M_122.1 q := (List.forall_mem_cons.mpr ⟨⟨m_n0 rfl, m_n0 rfl, m_n0 rfl, fun _ => ⟨M_70, rfl, m_n0 rfl, fun _ => ⟨(m_gi4 46 rfl rfl), (m_gi4 48 rfl rfl), (R_0, F_0, 15), rfl, rfl, (m_gp 3 rfl rfl)⟩, m_n0 rfl, m_n0 rfl⟩⟩, (List.forall_mem_cons.mpr ⟨⟨m_n0 rfl, m_n0 rfl, m_n0 rfl, fun _ => ⟨M_117, rfl, m_n0 rfl, fun _ => ⟨(m_gi5 164 rfl rfl), (m_gi5 166 rfl rfl), (R_0, F_0, 15), rfl, rfl, (m_gp 12 rfl rfl)⟩, m_n0 rfl, m_n0 rfl⟩⟩, (List.forall_mem_cons.mpr ⟨⟨m_n0 rfl, m_n0 rfl, m_n0 rfl, fun _ => ⟨M_123, rfl, m_n0 rfl, fun _ => ⟨(m_gi5 187 rfl rfl), (m_gi5 188 rfl rfl), (R_11, F_11, 9), rfl, rfl, (m_gi5 189 rfl rfl)⟩, m_n0 rfl, m_n0 rfl⟩⟩, (List.forall_mem_cons.mpr ⟨⟨m_n0 rfl, m_n0 rfl, m_n0 rfl, fun _ => ⟨M_102, rfl, m_n0 rfl, fun _ => ⟨(m_gi4 186 rfl rfl), (m_gi4 188 rfl rfl), (R_0, F_0, 15), rfl, rfl, (m_gp 7 rfl rfl)⟩, m_n0 rfl, m_n0 rfl⟩⟩, (List.forall_mem_cons.mpr ⟨⟨m_n0 rfl, m_n0 rfl, m_n0 rfl, fun _ => ⟨M_74, rfl, m_n0 rfl, fun _ => ⟨(m_gi4 64 rfl rfl), (m_gi4 65 rfl rfl), (R_5, F_5, 3), rfl, rfl, (m_gi4 66 rfl rfl)⟩, m_n0 rfl, m_n0 rfl⟩⟩, (List.forall_mem_cons.mpr ⟨⟨m_n0 rfl, m_n0 rfl, m_n0 rfl, fun _ => ⟨M_83, rfl, m_n0 rfl, fun _ => ⟨(m_gi4 102 rfl rfl), (m_gi4 103 rfl rfl), (R_11, F_11, 9), rfl, rfl, (m_gi4 104 rfl rfl)⟩, m_n0 rfl, m_n0 rfl⟩⟩, (List.forall_mem_cons.mpr ⟨⟨m_n0 rfl, m_n0 rfl, m_n0 rfl, fun _ => ⟨M_124, rfl, m_n0 rfl, fun _ => ⟨(m_gi5 193 rfl rfl), (m_gi5 194 rfl rfl), (R_13, F_13, 10), rfl, rfl, (m_gi5 195 rfl rfl)⟩, m_n0 rfl, m_n0 rfl⟩⟩, (fun _ h => absurd h List.not_mem_nil)⟩)⟩)⟩)⟩)⟩)⟩)⟩)
set_option maxRecDepth 4000 in
theorem vo_122 : ∀ q ∈ M_122.2.2.2.2.2.2.2.1, m_oOk M_122.1 q := (fun _ h => absurd h List.not_mem_nil)
set_option maxRecDepth 4000 in
theorem vk_122 : ∀ q ∈ M_122.2.2.2.2.2.2.2.2, decode M_122.2.1 q.1 = .ok (q.2.1, q.2.2) := by decide +kernel
set_option maxRecDepth 4000 in
theorem v_122 : m_mOk M_122 := ⟨(m_gi5 186 rfl rfl), (m_gi1 1 rfl rfl), by decide +kernel, ⟨by decide +kernel, by decide +kernel⟩, by decide +kernel, vf_122, vc_122, vo_122, vk_122⟩
set_option maxRecDepth 4000 in
theorem vf_123 : ∀ q ∈ M_123.2.2.2.2.2.1, m_fOk M_123.1 q := (List.forall_mem_cons.mpr ⟨⟨(R_11, F_11, 9), rfl, Nat.le_of_ble_eq_true rfl, ⟨"EdgeHouse$Entry", (m_gi6 6 rfl rfl), Or.inl rfl⟩, fun _ => rfl, m_n0 rfl⟩, (List.forall_mem_cons.mpr ⟨⟨(R_6, F_6, 19), rfl, Nat.le_of_ble_eq_true rfl, ⟨"EdgeHouse$Request", (m_gi2 124 rfl rfl), Or.inl rfl⟩, fun _ => rfl, m_n0 rfl⟩, (fun _ h => absurd h List.not_mem_nil)⟩)⟩)
set_option maxRecDepth 4000 in
theorem vc_123 : ∀ q ∈ M_123.2.2.2.2.2.2.1, m_cOk M_123.1 q := (List.forall_mem_cons.mpr ⟨⟨m_n0 rfl, m_n0 rfl, m_n0 rfl, fun _ => ⟨M_80, rfl, m_n0 rfl, fun _ => ⟨(m_gi5 191 rfl rfl), (m_gi4 91 rfl rfl), (R_11, F_11, 9), rfl, rfl, (m_gi4 92 rfl rfl)⟩, m_n0 rfl, m_n0 rfl⟩⟩, (List.forall_mem_cons.mpr ⟨⟨m_n0 rfl, m_n0 rfl, m_n0 rfl, fun _ => ⟨M_84, rfl, m_n0 rfl, fun _ => ⟨(m_gi5 192 rfl rfl), (m_gi4 107 rfl rfl), (R_6, F_6, 19), rfl, rfl, (m_gi4 108 rfl rfl)⟩, m_n0 rfl, m_n0 rfl⟩⟩, (fun _ h => absurd h List.not_mem_nil)⟩)⟩)
set_option maxRecDepth 4000 in
theorem vo_123 : ∀ q ∈ M_123.2.2.2.2.2.2.2.1, m_oOk M_123.1 q := (fun _ h => absurd h List.not_mem_nil)
set_option maxRecDepth 4000 in
theorem vk_123 : ∀ q ∈ M_123.2.2.2.2.2.2.2.2, decode M_123.2.1 q.1 = .ok (q.2.1, q.2.2) := by decide +kernel
set_option maxRecDepth 4000 in
theorem v_123 : m_mOk M_123 := ⟨(m_gi5 190 rfl rfl), (m_gi1 31 rfl rfl), by decide +kernel, ⟨by decide +kernel, by decide +kernel⟩, by decide +kernel, vf_123, vc_123, vo_123, vk_123⟩
set_option maxRecDepth 4000 in
theorem vf_124 : ∀ q ∈ M_124.2.2.2.2.2.1, m_fOk M_124.1 q := (List.forall_mem_cons.mpr ⟨⟨(R_13, F_13, 10), rfl, Nat.le_of_ble_eq_true rfl, ⟨"EdgeHouse$Told", (m_gi8 112 rfl rfl), Or.inl rfl⟩, fun _ => rfl, m_n0 rfl⟩, (fun _ h => absurd h List.not_mem_nil)⟩)
set_option maxRecDepth 4000 in
theorem vc_124 : ∀ q ∈ M_124.2.2.2.2.2.2.1, m_cOk M_124.1 q := (List.forall_mem_cons.mpr ⟨⟨m_n0 rfl, m_n0 rfl, m_n0 rfl, fun _ => ⟨M_91, rfl, m_n0 rfl, fun _ => ⟨(m_gi5 197 rfl rfl), (m_gi4 139 rfl rfl), (R_13, F_13, 10), rfl, rfl, (m_gi4 140 rfl rfl)⟩, m_n0 rfl, m_n0 rfl⟩⟩, (fun _ h => absurd h List.not_mem_nil)⟩)
set_option maxRecDepth 4000 in
theorem vo_124 : ∀ q ∈ M_124.2.2.2.2.2.2.2.1, m_oOk M_124.1 q := (fun _ h => absurd h List.not_mem_nil)
set_option maxRecDepth 4000 in
theorem vk_124 : ∀ q ∈ M_124.2.2.2.2.2.2.2.2, decode M_124.2.1 q.1 = .ok (q.2.1, q.2.2) := by decide +kernel
set_option maxRecDepth 4000 in
theorem v_124 : m_mOk M_124 := ⟨(m_gi5 196 rfl rfl), (m_gi1 13 rfl rfl), by decide +kernel, ⟨by decide +kernel, by decide +kernel⟩, by decide +kernel, vf_124, vc_124, vo_124, vk_124⟩
set_option maxRecDepth 4000 in
theorem vf_125 : ∀ q ∈ M_125.2.2.2.2.2.1, m_fOk M_125.1 q := (List.forall_mem_cons.mpr ⟨⟨(R_0, F_0, 15), rfl, Nat.le_of_ble_eq_true rfl, ⟨"EdgeHouse", (m_gi2 1 rfl rfl), Or.inl rfl⟩, m_n0 rfl, m_n0 rfl⟩, (List.forall_mem_cons.mpr ⟨⟨(R_1, F_1, 16), rfl, Nat.le_of_ble_eq_true rfl, ⟨"EdgeHouse$Reader", (m_gi1 54 rfl rfl), Or.inl rfl⟩, fun _ => rfl, m_n0 rfl⟩, (fun _ h => absurd h List.not_mem_nil)⟩)⟩)
set_option maxRecDepth 4000 in
theorem vc_125 : ∀ q ∈ M_125.2.2.2.2.2.2.1, m_cOk M_125.1 q := (fun _ h => absurd h List.not_mem_nil)
set_option maxRecDepth 4000 in
theorem vo_125 : ∀ q ∈ M_125.2.2.2.2.2.2.2.1, m_oOk M_125.1 q := (fun _ h => absurd h List.not_mem_nil)
set_option maxRecDepth 4000 in
theorem vk_125 : ∀ q ∈ M_125.2.2.2.2.2.2.2.2, decode M_125.2.1 q.1 = .ok (q.2.1, q.2.2) := by decide +kernel
set_option maxRecDepth 4000 in
theorem v_125 : m_mOk M_125 := ⟨(m_gi5 201 rfl rfl), (m_gi1 1 rfl rfl), by decide +kernel, ⟨by decide +kernel, by decide +kernel⟩, by decide +kernel, vf_125, vc_125, vo_125, vk_125⟩
set_option maxRecDepth 4000 in
theorem vf_126 : ∀ q ∈ M_126.2.2.2.2.2.1, m_fOk M_126.1 q := (List.forall_mem_cons.mpr ⟨⟨(R_0, F_0, 15), rfl, Nat.le_of_ble_eq_true rfl, ⟨"EdgeHouse", (m_gi2 8 rfl rfl), Or.inl rfl⟩, m_n0 rfl, m_n0 rfl⟩, (fun _ h => absurd h List.not_mem_nil)⟩)
set_option maxRecDepth 4000 in
theorem vc_126 : ∀ q ∈ M_126.2.2.2.2.2.2.1, m_cOk M_126.1 q := (List.forall_mem_cons.mpr ⟨⟨m_n0 rfl, m_n0 rfl, m_n0 rfl, fun _ => ⟨M_17, rfl, m_n0 rfl, fun _ => ⟨(m_gi2 67 rfl rfl), (m_gi2 68 rfl rfl), (R_2, F_2, 3), rfl, rfl, (m_gi2 69 rfl rfl)⟩, m_n0 rfl, m_n0 rfl⟩⟩, (List.forall_mem_cons.mpr ⟨⟨m_n0 rfl, m_n0 rfl, m_n0 rfl, fun _ => ⟨M_95, rfl, m_n0 rfl, fun _ => ⟨(m_gi5 206 rfl rfl), (m_gi4 155 rfl rfl), (R_2, F_2, 3), rfl, rfl, (m_gi4 156 rfl rfl)⟩, m_n0 rfl, m_n0 rfl⟩⟩, (List.forall_mem_cons.mpr ⟨⟨m_n0 rfl, m_n0 rfl, m_n0 rfl, fun _ => ⟨M_127, rfl, m_n0 rfl, fun _ => ⟨(m_gi5 207 rfl rfl), (m_gi5 209 rfl rfl), (R_0, F_0, 15), rfl, rfl, (m_gp 15 rfl rfl)⟩, m_n0 rfl, m_n0 rfl⟩⟩, (fun _ h => absurd h List.not_mem_nil)⟩)⟩)⟩)
set_option maxRecDepth 4000 in
theorem vo_126 : ∀ q ∈ M_126.2.2.2.2.2.2.2.1, m_oOk M_126.1 q := (List.forall_mem_cons.mpr ⟨⟨m_n0 rfl, m_n0 rfl, m_n0 rfl, m_n0 rfl, m_n0 rfl, m_n0 rfl, fun _ => ⟨(R_9, F_9, 19), rfl, (m_gi4 194 rfl rfl), (List.mem_filter.mpr ⟨m_in12 (List.mem_of_getElem? (i := 52) rfl), rfl⟩)⟩, Nat.le_of_ble_eq_true rfl⟩, (fun _ h => absurd h List.not_mem_nil)⟩)
set_option maxRecDepth 4000 in
theorem vk_126 : ∀ q ∈ M_126.2.2.2.2.2.2.2.2, decode M_126.2.1 q.1 = .ok (q.2.1, q.2.2) := by decide +kernel
set_option maxRecDepth 4000 in
theorem v_126 : m_mOk M_126 := ⟨(m_gi5 205 rfl rfl), (m_gi1 1 rfl rfl), by decide +kernel, ⟨by decide +kernel, by decide +kernel⟩, by decide +kernel, vf_126, vc_126, vo_126, vk_126⟩
set_option maxRecDepth 4000 in
theorem vf_127 : ∀ q ∈ M_127.2.2.2.2.2.1, m_fOk M_127.1 q := (List.forall_mem_cons.mpr ⟨⟨(R_0, F_0, 15), rfl, Nat.le_of_ble_eq_true rfl, ⟨"EdgeHouse", (m_gi2 4 rfl rfl), Or.inl rfl⟩, m_n0 rfl, m_n0 rfl⟩, (List.forall_mem_cons.mpr ⟨⟨(R_4, F_4, 11), rfl, Nat.le_of_ble_eq_true rfl, ⟨"EdgeHouse$Node", (m_gi1 203 rfl rfl), Or.inl rfl⟩, fun _ => rfl, m_n0 rfl⟩, (List.forall_mem_cons.mpr ⟨⟨(R_6, F_6, 19), rfl, Nat.le_of_ble_eq_true rfl, ⟨"EdgeHouse$Request", (m_gi2 138 rfl rfl), Or.inl rfl⟩, fun _ => rfl, m_n0 rfl⟩, (List.forall_mem_cons.mpr ⟨⟨(R_9, F_9, 19), rfl, Nat.le_of_ble_eq_true rfl, ⟨"EdgeHouse$Message", (m_gi4 206 rfl rfl), Or.inl rfl⟩, m_n0 rfl, m_n0 rfl⟩, (List.forall_mem_cons.mpr ⟨⟨(R_9, F_9, 19), rfl, Nat.le_of_ble_eq_true rfl, ⟨"EdgeHouse$Message", (m_gi4 201 rfl rfl), Or.inl rfl⟩, m_n0 rfl, m_n0 rfl⟩, (List.forall_mem_cons.mpr ⟨⟨(R_6, F_6, 19), rfl, Nat.le_of_ble_eq_true rfl, ⟨"EdgeHouse$Request", (m_gi2 126 rfl rfl), Or.inl rfl⟩, fun _ => rfl, m_n0 rfl⟩, (fun _ h => absurd h List.not_mem_nil)⟩)⟩)⟩)⟩)⟩)⟩)
set_option maxRecDepth 4000 in
theorem vc_127 : ∀ q ∈ M_127.2.2.2.2.2.2.1, m_cOk M_127.1 q := (List.forall_mem_cons.mpr ⟨⟨m_n0 rfl, m_n0 rfl, m_n0 rfl, fun _ => ⟨M_73, rfl, m_n0 rfl, fun _ => ⟨(m_gi4 60 rfl rfl), (m_gi4 62 rfl rfl), (R_0, F_0, 15), rfl, rfl, (m_gp 5 rfl rfl)⟩, m_n0 rfl, m_n0 rfl⟩⟩, (List.forall_mem_cons.mpr ⟨⟨m_n0 rfl, m_n0 rfl, m_n0 rfl, fun _ => ⟨M_131, rfl, m_n0 rfl, m_n0 rfl, fun _ => ⟨(m_gi6 38 rfl rfl), (m_gi6 39 rfl rfl)⟩, m_n0 rfl⟩⟩, (List.forall_mem_cons.mpr ⟨⟨m_n0 rfl, m_n0 rfl, m_n0 rfl, fun _ => ⟨M_128, rfl, m_n0 rfl, fun _ => ⟨(m_gi5 211 rfl rfl), (m_gi5 213 rfl rfl), (R_0, F_0, 15), rfl, rfl, (m_gp 16 rfl rfl)⟩, m_n0 rfl, m_n0 rfl⟩⟩, (List.forall_mem_cons.mpr ⟨⟨m_n0 rfl, m_n0 rfl, m_n0 rfl, fun _ => ⟨M_132, rfl, m_n0 rfl, fun _ => ⟨(m_gi6 41 rfl rfl), (m_gi6 43 rfl rfl), (R_0, F_0, 15), rfl, rfl, (m_gp 17 rfl rfl)⟩, m_n0 rfl, m_n0 rfl⟩⟩, (List.forall_mem_cons.mpr ⟨⟨m_n0 rfl, m_n0 rfl, m_n0 rfl, fun _ => ⟨M_137, rfl, m_n0 rfl, fun _ => ⟨(m_gi6 62 rfl rfl), (m_gi6 64 rfl rfl), (R_0, F_0, 15), rfl, rfl, (m_gp 18 rfl rfl)⟩, m_n0 rfl, m_n0 rfl⟩⟩, (List.forall_mem_cons.mpr ⟨⟨m_n0 rfl, m_n0 rfl, m_n0 rfl, fun _ => ⟨M_129, rfl, fun _ => ⟨rfl, rfl, (m_gi5 216 rfl rfl), (m_gi5 217 rfl rfl)⟩, m_n0 rfl, m_n0 rfl, m_n0 rfl⟩⟩, (fun _ h => absurd h List.not_mem_nil)⟩)⟩)⟩)⟩)⟩)⟩)
set_option maxRecDepth 4000 in
theorem vo_127 : ∀ q ∈ M_127.2.2.2.2.2.2.2.1, m_oOk M_127.1 q := (List.forall_mem_cons.mpr ⟨⟨fun _ => ⟨(R_6, F_6, 19), rfl, (m_gi5 215 rfl rfl), (m_gi2 80 rfl rfl), (m_gi1 20 rfl rfl)⟩, m_n0 rfl, m_n0 rfl, m_n0 rfl, m_n0 rfl, m_n0 rfl, m_n0 rfl, Nat.le_of_ble_eq_true rfl⟩, (fun _ h => absurd h List.not_mem_nil)⟩)
set_option maxRecDepth 4000 in
theorem vk_127 : ∀ q ∈ M_127.2.2.2.2.2.2.2.2, decode M_127.2.1 q.1 = .ok (q.2.1, q.2.2) := by decide +kernel
set_option maxRecDepth 4000 in
theorem v_127 : m_mOk M_127 := ⟨(m_gi5 210 rfl rfl), (m_gi1 1 rfl rfl), by decide +kernel, ⟨by decide +kernel, by decide +kernel⟩, by decide +kernel, vf_127, vc_127, vo_127, vk_127⟩
set_option maxRecDepth 4000 in
theorem vf_128 : ∀ q ∈ M_128.2.2.2.2.2.1, m_fOk M_128.1 q := (List.forall_mem_cons.mpr ⟨⟨(R_0, F_0, 15), rfl, Nat.le_of_ble_eq_true rfl, ⟨"EdgeHouse", (m_gi2 2 rfl rfl), Or.inl rfl⟩, m_n0 rfl, m_n0 rfl⟩, (List.forall_mem_cons.mpr ⟨⟨(R_6, F_6, 19), rfl, Nat.le_of_ble_eq_true rfl, ⟨"EdgeHouse$Request", (m_gi2 88 rfl rfl), Or.inl rfl⟩, fun _ => rfl, m_n0 rfl⟩, (List.forall_mem_cons.mpr ⟨⟨(R_6, F_6, 19), rfl, Nat.le_of_ble_eq_true rfl, ⟨"EdgeHouse$Request", (m_gi2 93 rfl rfl), Or.inl rfl⟩, fun _ => rfl, m_n0 rfl⟩, (List.forall_mem_cons.mpr ⟨⟨(R_0, F_0, 15), rfl, Nat.le_of_ble_eq_true rfl, ⟨"EdgeHouse", (m_gi2 14 rfl rfl), Or.inl rfl⟩, fun _ => rfl, m_n0 rfl⟩, (List.forall_mem_cons.mpr ⟨⟨(R_0, F_0, 15), rfl, Nat.le_of_ble_eq_true rfl, ⟨"EdgeHouse", (m_gi2 13 rfl rfl), Or.inl rfl⟩, fun _ => rfl, m_n0 rfl⟩, (List.forall_mem_cons.mpr ⟨⟨(R_9, F_9, 19), rfl, Nat.le_of_ble_eq_true rfl, ⟨"EdgeHouse$Message", (m_gi4 212 rfl rfl), Or.inl rfl⟩, fun _ => rfl, m_n0 rfl⟩, (List.forall_mem_cons.mpr ⟨⟨(R_0, F_0, 15), rfl, Nat.le_of_ble_eq_true rfl, ⟨"EdgeHouse", (m_gi2 15 rfl rfl), Or.inl rfl⟩, fun _ => rfl, m_n0 rfl⟩, (List.forall_mem_cons.mpr ⟨⟨(R_9, F_9, 19), rfl, Nat.le_of_ble_eq_true rfl, ⟨"EdgeHouse$Message", (m_gi4 201 rfl rfl), Or.inl rfl⟩, m_n0 rfl, m_n0 rfl⟩, (List.forall_mem_cons.mpr ⟨⟨(R_9, F_9, 19), rfl, Nat.le_of_ble_eq_true rfl, ⟨"EdgeHouse$Message", (m_gi4 209 rfl rfl), Or.inl rfl⟩, m_n0 rfl, m_n0 rfl⟩, (List.forall_mem_cons.mpr ⟨⟨(R_6, F_6, 19), rfl, Nat.le_of_ble_eq_true rfl, ⟨"EdgeHouse$Request", (m_gi2 99 rfl rfl), Or.inl rfl⟩, fun _ => rfl, m_n0 rfl⟩, (List.forall_mem_cons.mpr ⟨⟨(R_6, F_6, 19), rfl, Nat.le_of_ble_eq_true rfl, ⟨"EdgeHouse$Request", (m_gi2 103 rfl rfl), Or.inl rfl⟩, fun _ => rfl, m_n0 rfl⟩, (List.forall_mem_cons.mpr ⟨⟨(R_11, F_11, 9), rfl, Nat.le_of_ble_eq_true rfl, ⟨"EdgeHouse$Entry", (m_gi6 7 rfl rfl), Or.inl rfl⟩, fun _ => rfl, m_n0 rfl⟩, (List.forall_mem_cons.mpr ⟨⟨(R_11, F_11, 9), rfl, Nat.le_of_ble_eq_true rfl, ⟨"EdgeHouse$Entry", (m_gi6 11 rfl rfl), Or.inl rfl⟩, fun _ => rfl, m_n0 rfl⟩, (List.forall_mem_cons.mpr ⟨⟨(R_11, F_11, 9), rfl, Nat.le_of_ble_eq_true rfl, ⟨"EdgeHouse$Entry", (m_gi6 15 rfl rfl), Or.inl rfl⟩, fun _ => rfl, m_n0 rfl⟩, (fun _ h => absurd h List.not_mem_nil)⟩)⟩)⟩)⟩)⟩)⟩)⟩)⟩)⟩)⟩)⟩)⟩)⟩)⟩)
set_option maxRecDepth 4000 in
theorem vc_128 : ∀ q ∈ M_128.2.2.2.2.2.2.1, m_cOk M_128.1 q := (List.forall_mem_cons.mpr ⟨⟨m_n0 rfl, m_n0 rfl, m_n0 rfl, fun _ => ⟨M_15, rfl, m_n0 rfl, m_n0 rfl, fun _ => ⟨(m_gi2 60 rfl rfl), (m_gi2 61 rfl rfl)⟩, m_n0 rfl⟩⟩, (List.forall_mem_cons.mpr ⟨⟨m_n0 rfl, m_n0 rfl, m_n0 rfl, fun _ => ⟨M_129, rfl, fun _ => ⟨rfl, rfl, (m_gi5 216 rfl rfl), (m_gi5 217 rfl rfl)⟩, m_n0 rfl, m_n0 rfl, m_n0 rfl⟩⟩, (List.forall_mem_cons.mpr ⟨⟨m_n0 rfl, m_n0 rfl, m_n0 rfl, fun _ => ⟨M_117, rfl, m_n0 rfl, fun _ => ⟨(m_gi5 164 rfl rfl), (m_gi5 166 rfl rfl), (R_0, F_0, 15), rfl, rfl, (m_gp 12 rfl rfl)⟩, m_n0 rfl, m_n0 rfl⟩⟩, (List.forall_mem_cons.mpr ⟨⟨m_n0 rfl, m_n0 rfl, m_n0 rfl, fun _ => ⟨M_82, rfl, m_n0 rfl, fun _ => ⟨(m_gi5 221 rfl rfl), (m_gi4 99 rfl rfl), (R_13, F_13, 10), rfl, rfl, (m_gi4 100 rfl rfl)⟩, m_n0 rfl, m_n0 rfl⟩⟩, (List.forall_mem_cons.mpr ⟨⟨m_n0 rfl, m_n0 rfl, m_n0 rfl, fun _ => ⟨M_130, rfl, fun _ => ⟨rfl, rfl, (m_gi5 222 rfl rfl), (m_gi5 223 rfl rfl)⟩, m_n0 rfl, m_n0 rfl, m_n0 rfl⟩⟩, (List.forall_mem_cons.mpr ⟨⟨m_n0 rfl, m_n0 rfl, m_n0 rfl, fun _ => ⟨M_85, rfl, m_n0 rfl, fun _ => ⟨(m_gi5 40 rfl rfl), (m_gi4 111 rfl rfl), (R_13, F_13, 10), rfl, rfl, (m_gi4 112 rfl rfl)⟩, m_n0 rfl, m_n0 rfl⟩⟩, (List.forall_mem_cons.mpr ⟨⟨m_n0 rfl, m_n0 rfl, m_n0 rfl, fun _ => ⟨M_103, rfl, m_n0 rfl, fun _ => ⟨(m_gi4 190 rfl rfl), (m_gi4 192 rfl rfl), (R_0, F_0, 15), rfl, rfl, (m_gp 8 rfl rfl)⟩, m_n0 rfl, m_n0 rfl⟩⟩, (fun _ h => absurd h List.not_mem_nil)⟩)⟩)⟩)⟩)⟩)⟩)⟩)
set_option maxRecDepth 4000 in
theorem vo_128 : ∀ q ∈ M_128.2.2.2.2.2.2.2.1, m_oOk M_128.1 q := (List.forall_mem_cons.mpr ⟨⟨fun _ => ⟨(R_6, F_6, 19), rfl, (m_gi5 215 rfl rfl), (m_gi2 80 rfl rfl), (m_gi1 20 rfl rfl)⟩, m_n0 rfl, m_n0 rfl, m_n0 rfl, m_n0 rfl, m_n0 rfl, m_n0 rfl, Nat.le_of_ble_eq_true rfl⟩, (List.forall_mem_cons.mpr ⟨⟨fun _ => ⟨(R_11, F_11, 9), rfl, (m_gi5 219 rfl rfl), (m_gi5 220 rfl rfl), (m_gi1 31 rfl rfl)⟩, m_n0 rfl, m_n0 rfl, m_n0 rfl, m_n0 rfl, m_n0 rfl, m_n0 rfl, Nat.le_of_ble_eq_true rfl⟩, (fun _ h => absurd h List.not_mem_nil)⟩)⟩)
set_option maxRecDepth 4000 in
theorem vk_128 : ∀ q ∈ M_128.2.2.2.2.2.2.2.2, decode M_128.2.1 q.1 = .ok (q.2.1, q.2.2) := by decide +kernel
set_option maxRecDepth 4000 in
theorem v_128 : m_mOk M_128 := ⟨(m_gi5 214 rfl rfl), (m_gi1 1 rfl rfl), by decide +kernel, ⟨by decide +kernel, by decide +kernel⟩, by decide +kernel, vf_128, vc_128, vo_128, vk_128⟩
set_option maxRecDepth 4000 in
theorem vf_129 : ∀ q ∈ M_129.2.2.2.2.2.1, m_fOk M_129.1 q := (List.forall_mem_cons.mpr ⟨⟨(R_6, F_6, 19), rfl, Nat.le_of_ble_eq_true rfl, ⟨"EdgeHouse$Request", (m_gi2 108 rfl rfl), Or.inl rfl⟩, fun _ => rfl, m_n0 rfl⟩, (List.forall_mem_cons.mpr ⟨⟨(R_6, F_6, 19), rfl, Nat.le_of_ble_eq_true rfl, ⟨"EdgeHouse$Request", (m_gi2 117 rfl rfl), Or.inl rfl⟩, fun _ => rfl, m_n0 rfl⟩, (List.forall_mem_cons.mpr ⟨⟨(R_6, F_6, 19), rfl, Nat.le_of_ble_eq_true rfl, ⟨"EdgeHouse$Request", (m_gi2 119 rfl rfl), Or.inl rfl⟩, fun _ => rfl, m_n0 rfl⟩, (List.forall_mem_cons.mpr ⟨⟨(R_6, F_6, 19), rfl, Nat.le_of_ble_eq_true rfl, ⟨"EdgeHouse$Request", (m_gi2 121 rfl rfl), Or.inl rfl⟩, fun _ => rfl, m_n0 rfl⟩, (List.forall_mem_cons.mpr ⟨⟨(R_9, F_9, 19), rfl, Nat.le_of_ble_eq_true rfl, ⟨"EdgeHouse$Message", (m_gi4 211 rfl rfl), Or.inl rfl⟩, fun _ => rfl, m_n0 rfl⟩, (List.forall_mem_cons.mpr ⟨⟨(R_6, F_6, 19), rfl, Nat.le_of_ble_eq_true rfl, ⟨"EdgeHouse$Request", (m_gi2 86 rfl rfl), Or.inl rfl⟩, fun _ => rfl, m_n0 rfl⟩, (List.forall_mem_cons.mpr ⟨⟨(R_9, F_9, 19), rfl, Nat.le_of_ble_eq_true rfl, ⟨"EdgeHouse$Message", (m_gi4 214 rfl rfl), Or.inl rfl⟩, fun _ => rfl, m_n0 rfl⟩, (List.forall_mem_cons.mpr ⟨⟨(R_6, F_6, 19), rfl, Nat.le_of_ble_eq_true rfl, ⟨"EdgeHouse$Request", (m_gi2 91 rfl rfl), Or.inl rfl⟩, fun _ => rfl, m_n0 rfl⟩, (List.forall_mem_cons.mpr ⟨⟨(R_9, F_9, 19), rfl, Nat.le_of_ble_eq_true rfl, ⟨"EdgeHouse$Message", (m_gi4 217 rfl rfl), Or.inl rfl⟩, fun _ => rfl, m_n0 rfl⟩, (List.forall_mem_cons.mpr ⟨⟨(R_6, F_6, 19), rfl, Nat.le_of_ble_eq_true rfl, ⟨"EdgeHouse$Request", (m_gi2 96 rfl rfl), Or.inl rfl⟩, fun _ => rfl, m_n0 rfl⟩, (List.forall_mem_cons.mpr ⟨⟨(R_9, F_9, 19), rfl, Nat.le_of_ble_eq_true rfl, ⟨"EdgeHouse$Message", (m_gi4 219 rfl rfl), Or.inl rfl⟩, fun _ => rfl, m_n0 rfl⟩, (List.forall_mem_cons.mpr ⟨⟨(R_6, F_6, 19), rfl, Nat.le_of_ble_eq_true rfl, ⟨"EdgeHouse$Request", (m_gi2 101 rfl rfl), Or.inl rfl⟩, fun _ => rfl, m_n0 rfl⟩, (List.forall_mem_cons.mpr ⟨⟨(R_9, F_9, 19), rfl, Nat.le_of_ble_eq_true rfl, ⟨"EdgeHouse$Message", (m_gi4 221 rfl rfl), Or.inl rfl⟩, fun _ => rfl, m_n0 rfl⟩, (List.forall_mem_cons.mpr ⟨⟨(R_6, F_6, 19), rfl, Nat.le_of_ble_eq_true rfl, ⟨"EdgeHouse$Request", (m_gi2 106 rfl rfl), Or.inl rfl⟩, fun _ => rfl, m_n0 rfl⟩, (List.forall_mem_cons.mpr ⟨⟨(R_9, F_9, 19), rfl, Nat.le_of_ble_eq_true rfl, ⟨"EdgeHouse$Message", (m_gi4 223 rfl rfl), Or.inl rfl⟩, fun _ => rfl, m_n0 rfl⟩, (List.forall_mem_cons.mpr ⟨⟨(R_9, F_9, 19), rfl, Nat.le_of_ble_eq_true rfl, ⟨"EdgeHouse$Message", (m_gi4 225 rfl rfl), Or.inl rfl⟩, fun _ => rfl, m_n0 rfl⟩, (List.forall_mem_cons.mpr ⟨⟨(R_6, F_6, 19), rfl, Nat.le_of_ble_eq_true rfl, ⟨"EdgeHouse$Request", (m_gi2 112 rfl rfl), Or.inl rfl⟩, fun _ => rfl, m_n0 rfl⟩, (List.forall_mem_cons.mpr ⟨⟨(R_9, F_9, 19), rfl, Nat.le_of_ble_eq_true rfl, ⟨"EdgeHouse$Message", (m_gi4 232 rfl rfl), Or.inl rfl⟩, fun _ => rfl, m_n0 rfl⟩, (List.forall_mem_cons.mpr ⟨⟨(R_6, F_6, 19), rfl, Nat.le_of_ble_eq_true rfl, ⟨"EdgeHouse$Request", (m_gi2 123 rfl rfl), Or.inl rfl⟩, fun _ => rfl, m_n0 rfl⟩, (List.forall_mem_cons.mpr ⟨⟨(R_9, F_9, 19), rfl, Nat.le_of_ble_eq_true rfl, ⟨"EdgeHouse$Message", (m_gi4 203 rfl rfl), Or.inl rfl⟩, m_n0 rfl, m_n0 rfl⟩, (List.forall_mem_cons.mpr ⟨⟨(R_6, F_6, 19), rfl, Nat.le_of_ble_eq_true rfl, ⟨"EdgeHouse$Request", (m_gi2 131 rfl rfl), Or.inl rfl⟩, fun _ => rfl, m_n0 rfl⟩, (List.forall_mem_cons.mpr ⟨⟨(R_9, F_9, 19), rfl, Nat.le_of_ble_eq_true rfl, ⟨"EdgeHouse$Message", (m_gi4 208 rfl rfl), Or.inl rfl⟩, m_n0 rfl, m_n0 rfl⟩, (List.forall_mem_cons.mpr ⟨⟨(R_6, F_6, 19), rfl, Nat.le_of_ble_eq_true rfl, ⟨"EdgeHouse$Request", (m_gi2 133 rfl rfl), Or.inl rfl⟩, fun _ => rfl, m_n0 rfl⟩, (List.forall_mem_cons.mpr ⟨⟨(R_9, F_9, 19), rfl, Nat.le_of_ble_eq_true rfl, ⟨"EdgeHouse$Message", (m_gi4 226 rfl rfl), Or.inl rfl⟩, fun _ => rfl, m_n0 rfl⟩, (List.forall_mem_cons.mpr ⟨⟨(R_6, F_6, 19), rfl, Nat.le_of_ble_eq_true rfl, ⟨"EdgeHouse$Request", (m_gi2 135 rfl rfl), Or.inl rfl⟩, fun _ => rfl, m_n0 rfl⟩, (fun _ h => absurd h List.not_mem_nil)⟩)⟩)⟩)⟩)⟩)⟩)⟩)⟩)⟩)⟩)⟩)⟩)⟩)⟩)⟩)⟩)⟩)⟩)⟩)⟩)⟩)⟩)⟩)⟩)⟩)
set_option maxRecDepth 4000 in
theorem vc_129 : ∀ q ∈ M_129.2.2.2.2.2.2.1, m_cOk M_129.1 q := (List.forall_mem_cons.mpr ⟨⟨fun _ => (m_gi2 84 rfl rfl), m_n0 rfl, m_n0 rfl, m_n1 rfl⟩, (fun _ h => absurd h List.not_mem_nil)⟩)
set_option maxRecDepth 4000 in
theorem vo_129 : ∀ q ∈ M_129.2.2.2.2.2.2.2.1, m_oOk M_129.1 q := (fun _ h => absurd h List.not_mem_nil)
set_option maxRecDepth 4000 in
theorem vk_129 : ∀ q ∈ M_129.2.2.2.2.2.2.2.2, decode M_129.2.1 q.1 = .ok (q.2.1, q.2.2) := by decide +kernel
set_option maxRecDepth 4000 in
theorem v_129 : m_mOk M_129 := ⟨(m_gi5 218 rfl rfl), (m_gi1 20 rfl rfl), by decide +kernel, ⟨by decide +kernel, by decide +kernel⟩, by decide +kernel, vf_129, vc_129, vo_129, vk_129⟩
set_option maxRecDepth 4000 in
theorem vf_130 : ∀ q ∈ M_130.2.2.2.2.2.1, m_fOk M_130.1 q := (List.forall_mem_cons.mpr ⟨⟨(R_11, F_11, 9), rfl, Nat.le_of_ble_eq_true rfl, ⟨"EdgeHouse$Entry", (m_gi5 226 rfl rfl), Or.inl rfl⟩, m_n0 rfl, fun _ => ⟨rfl, rfl, rfl⟩⟩, (List.forall_mem_cons.mpr ⟨⟨(R_11, F_11, 9), rfl, Nat.le_of_ble_eq_true rfl, ⟨"EdgeHouse$Entry", (m_gi5 230 rfl rfl), Or.inl rfl⟩, m_n0 rfl, fun _ => ⟨rfl, rfl, rfl⟩⟩, (List.forall_mem_cons.mpr ⟨⟨(R_11, F_11, 9), rfl, Nat.le_of_ble_eq_true rfl, ⟨"EdgeHouse$Entry", (m_gi5 234 rfl rfl), Or.inl rfl⟩, m_n0 rfl, fun _ => ⟨rfl, rfl, rfl⟩⟩, (List.forall_mem_cons.mpr ⟨⟨(R_11, F_11, 9), rfl, Nat.le_of_ble_eq_true rfl, ⟨"EdgeHouse$Entry", (m_gi6 0 rfl rfl), Or.inl rfl⟩, m_n0 rfl, fun _ => ⟨rfl, rfl, rfl⟩⟩, (fun _ h => absurd h List.not_mem_nil)⟩)⟩)⟩)⟩)
set_option maxRecDepth 4000 in
theorem vc_130 : ∀ q ∈ M_130.2.2.2.2.2.2.1, m_cOk M_130.1 q := (List.forall_mem_cons.mpr ⟨⟨fun _ => (m_gi5 225 rfl rfl), m_n0 rfl, m_n0 rfl, m_n1 rfl⟩, (fun _ h => absurd h List.not_mem_nil)⟩)
set_option maxRecDepth 4000 in
theorem vo_130 : ∀ q ∈ M_130.2.2.2.2.2.2.2.1, m_oOk M_130.1 q := (fun _ h => absurd h List.not_mem_nil)
set_option maxRecDepth 4000 in
theorem vk_130 : ∀ q ∈ M_130.2.2.2.2.2.2.2.2, decode M_130.2.1 q.1 = .ok (q.2.1, q.2.2) := by decide +kernel
set_option maxRecDepth 4000 in
theorem v_130 : m_mOk M_130 := ⟨(m_gi5 224 rfl rfl), (m_gi1 31 rfl rfl), by decide +kernel, ⟨by decide +kernel, by decide +kernel⟩, by decide +kernel, vf_130, vc_130, vo_130, vk_130⟩
set_option maxRecDepth 4000 in
theorem vf_131 : ∀ q ∈ M_131.2.2.2.2.2.1, m_fOk M_131.1 q := (fun _ h => absurd h List.not_mem_nil)
set_option maxRecDepth 4000 in
theorem vc_131 : ∀ q ∈ M_131.2.2.2.2.2.2.1, m_cOk M_131.1 q := (fun _ h => absurd h List.not_mem_nil)
set_option maxRecDepth 4000 in
theorem vo_131 : ∀ q ∈ M_131.2.2.2.2.2.2.2.1, m_oOk M_131.1 q := (fun _ h => absurd h List.not_mem_nil)
set_option maxRecDepth 4000 in
theorem vk_131 : ∀ q ∈ M_131.2.2.2.2.2.2.2.2, decode M_131.2.1 q.1 = .ok (q.2.1, q.2.2) := by decide +kernel
set_option maxRecDepth 4000 in
theorem v_131 : m_mOk M_131 := ⟨(m_gi6 40 rfl rfl), (m_gi1 1 rfl rfl), by decide +kernel, ⟨by decide +kernel, by decide +kernel⟩, by decide +kernel, vf_131, vc_131, vo_131, vk_131⟩
set_option maxRecDepth 4000 in
theorem vf_132 : ∀ q ∈ M_132.2.2.2.2.2.1, m_fOk M_132.1 q := (List.forall_mem_cons.mpr ⟨⟨(R_9, F_9, 19), rfl, Nat.le_of_ble_eq_true rfl, ⟨"EdgeHouse$Message", (m_gi4 212 rfl rfl), Or.inl rfl⟩, fun _ => rfl, m_n0 rfl⟩, (List.forall_mem_cons.mpr ⟨⟨(R_9, F_9, 19), rfl, Nat.le_of_ble_eq_true rfl, ⟨"EdgeHouse$Message", (m_gi4 215 rfl rfl), Or.inl rfl⟩, fun _ => rfl, m_n0 rfl⟩, (List.forall_mem_cons.mpr ⟨⟨(R_4, F_4, 11), rfl, Nat.le_of_ble_eq_true rfl, ⟨"EdgeHouse$Node", (m_gi1 196 rfl rfl), Or.inl rfl⟩, m_n0 rfl, m_n0 rfl⟩, (List.forall_mem_cons.mpr ⟨⟨(R_9, F_9, 19), rfl, Nat.le_of_ble_eq_true rfl, ⟨"EdgeHouse$Message", (m_gi4 209 rfl rfl), Or.inl rfl⟩, m_n0 rfl, m_n0 rfl⟩, (List.forall_mem_cons.mpr ⟨⟨(R_4, F_4, 11), rfl, Nat.le_of_ble_eq_true rfl, ⟨"EdgeHouse$Node", (m_gi1 194 rfl rfl), Or.inl rfl⟩, m_n0 rfl, m_n0 rfl⟩, (fun _ h => absurd h List.not_mem_nil)⟩)⟩)⟩)⟩)⟩)
set_option maxRecDepth 4000 in
theorem vc_132 : ∀ q ∈ M_132.2.2.2.2.2.2.1, m_cOk M_132.1 q := (List.forall_mem_cons.mpr ⟨⟨m_n0 rfl, m_n0 rfl, m_n0 rfl, fun _ => ⟨M_104, rfl, fun _ => ⟨rfl, rfl, (m_gi4 196 rfl rfl), (m_gi4 197 rfl rfl)⟩, m_n0 rfl, m_n0 rfl, m_n0 rfl⟩⟩, (List.forall_mem_cons.mpr ⟨⟨m_n0 rfl, m_n0 rfl, m_n0 rfl, fun _ => ⟨M_105, rfl, m_n0 rfl, fun _ => ⟨(m_gi5 41 rfl rfl), (m_gi5 43 rfl rfl), (R_0, F_0, 15), rfl, rfl, (m_gp 9 rfl rfl)⟩, m_n0 rfl, m_n0 rfl⟩⟩, (List.forall_mem_cons.mpr ⟨⟨m_n0 rfl, m_n0 rfl, m_n0 rfl, fun _ => ⟨M_133, rfl, m_n0 rfl, fun _ => ⟨(m_gi6 45 rfl rfl), (m_gi6 46 rfl rfl), (R_4, F_4, 11), rfl, rfl, (m_gi6 47 rfl rfl)⟩, m_n0 rfl, m_n0 rfl⟩⟩, (List.forall_mem_cons.mpr ⟨⟨m_n0 rfl, m_n0 rfl, m_n0 rfl, fun _ => ⟨M_134, rfl, m_n0 rfl, fun _ => ⟨(m_gi6 50 rfl rfl), (m_gi6 51 rfl rfl), (R_5, F_5, 3), rfl, rfl, (m_gi6 52 rfl rfl)⟩, m_n0 rfl, m_n0 rfl⟩⟩, (fun _ h => absurd h List.not_mem_nil)⟩)⟩)⟩)⟩)
set_option maxRecDepth 4000 in
theorem vo_132 : ∀ q ∈ M_132.2.2.2.2.2.2.2.1, m_oOk M_132.1 q := (List.forall_mem_cons.mpr ⟨⟨fun _ => ⟨(R_9, F_9, 19), rfl, (m_gi4 194 rfl rfl), (m_gi4 195 rfl rfl), (m_gi1 29 rfl rfl)⟩, m_n0 rfl, m_n0 rfl, m_n0 rfl, m_n0 rfl, m_n0 rfl, m_n0 rfl, Nat.le_of_ble_eq_true rfl⟩, (fun _ h => absurd h List.not_mem_nil)⟩)
set_option maxRecDepth 4000 in
theorem vk_132 : ∀ q ∈ M_132.2.2.2.2.2.2.2.2, decode M_132.2.1 q.1 = .ok (q.2.1, q.2.2) := by decide +kernel
set_option maxRecDepth 4000 in
theorem v_132 : m_mOk M_132 := ⟨(m_gi6 44 rfl rfl), (m_gi1 1 rfl rfl), by decide +kernel, ⟨by decide +kernel, by decide +kernel⟩, by decide +kernel, vf_132, vc_132, vo_132, vk_132⟩
set_option maxRecDepth 4000 in
theorem vf_133 : ∀ q ∈ M_133.2.2.2.2.2.1, m_fOk M_133.1 q := (List.forall_mem_cons.mpr ⟨⟨(R_4, F_4, 11), rfl, Nat.le_of_ble_eq_true rfl, ⟨"EdgeHouse$Node", (m_gi1 199 rfl rfl), Or.inl rfl⟩, m_n0 rfl, m_n0 rfl⟩, (List.forall_mem_cons.mpr ⟨⟨(R_4, F_4, 11), rfl, Nat.le_of_ble_eq_true rfl, ⟨"EdgeHouse$Node", (m_gi1 204 rfl rfl), Or.inl rfl⟩, fun _ => rfl, m_n0 rfl⟩, (fun _ h => absurd h List.not_mem_nil)⟩)⟩)
set_option maxRecDepth 4000 in
theorem vc_133 : ∀ q ∈ M_133.2.2.2.2.2.2.1, m_cOk M_133.1 q := (List.forall_mem_cons.mpr ⟨⟨m_n0 rfl, fun _ => (m_gi6 49 rfl rfl), m_n0 rfl, m_n1 rfl⟩, (fun _ h => absurd h List.not_mem_nil)⟩)
set_option maxRecDepth 4000 in
theorem vo_133 : ∀ q ∈ M_133.2.2.2.2.2.2.2.1, m_oOk M_133.1 q := (fun _ h => absurd h List.not_mem_nil)
set_option maxRecDepth 4000 in
theorem vk_133 : ∀ q ∈ M_133.2.2.2.2.2.2.2.2, decode M_133.2.1 q.1 = .ok (q.2.1, q.2.2) := by decide +kernel
set_option maxRecDepth 4000 in
theorem v_133 : m_mOk M_133 := ⟨(m_gi6 48 rfl rfl), (m_gi1 10 rfl rfl), by decide +kernel, ⟨by decide +kernel, by decide +kernel⟩, by decide +kernel, vf_133, vc_133, vo_133, vk_133⟩
set_option maxRecDepth 4000 in
theorem vf_134 : ∀ q ∈ M_134.2.2.2.2.2.1, m_fOk M_134.1 q := (List.forall_mem_cons.mpr ⟨⟨(R_11, F_11, 9), rfl, Nat.le_of_ble_eq_true rfl, ⟨"EdgeHouse$Entry", (m_gi5 238 rfl rfl), Or.inl rfl⟩, m_n0 rfl, m_n0 rfl⟩, (fun _ h => absurd h List.not_mem_nil)⟩)
set_option maxRecDepth 4000 in
theorem vc_134 : ∀ q ∈ M_134.2.2.2.2.2.2.1, m_cOk M_134.1 q := (List.forall_mem_cons.mpr ⟨⟨m_n0 rfl, m_n0 rfl, m_n0 rfl, fun _ => ⟨M_75, rfl, m_n0 rfl, fun _ => ⟨(m_gi4 68 rfl rfl), (m_gi4 69 rfl rfl), (R_5, F_5, 3), rfl, rfl, (m_gi4 70 rfl rfl)⟩, m_n0 rfl, m_n0 rfl⟩⟩, (List.forall_mem_cons.mpr ⟨⟨m_n0 rfl, m_n0 rfl, m_n0 rfl, fun _ => ⟨M_76, rfl, m_n0 rfl, fun _ => ⟨(m_gi4 73 rfl rfl), (m_gi4 74 rfl rfl), (R_5, F_5, 3), rfl, rfl, (m_gi4 75 rfl rfl)⟩, m_n0 rfl, m_n0 rfl⟩⟩, (List.forall_mem_cons.mpr ⟨⟨m_n0 rfl, m_n0 rfl, m_n0 rfl, fun _ => ⟨M_136, rfl, m_n0 rfl, fun _ => ⟨(m_gi6 58 rfl rfl), (m_gi6 59 rfl rfl), (R_5, F_5, 3), rfl, rfl, (m_gi6 60 rfl rfl)⟩, m_n0 rfl, m_n0 rfl⟩⟩, (List.forall_mem_cons.mpr ⟨⟨m_n0 rfl, m_n0 rfl, m_n0 rfl, fun _ => ⟨M_135, rfl, m_n0 rfl, fun _ => ⟨(m_gi6 54 rfl rfl), (m_gi6 55 rfl rfl), (R_13, F_13, 10), rfl, rfl, (m_gi6 56 rfl rfl)⟩, m_n0 rfl, m_n0 rfl⟩⟩, (fun _ h => absurd h List.not_mem_nil)⟩)⟩)⟩)⟩)
set_option maxRecDepth 4000 in
theorem vo_134 : ∀ q ∈ M_134.2.2.2.2.2.2.2.1, m_oOk M_134.1 q := (fun _ h => absurd h List.not_mem_nil)
set_option maxRecDepth 4000 in
theorem vk_134 : ∀ q ∈ M_134.2.2.2.2.2.2.2.2, decode M_134.2.1 q.1 = .ok (q.2.1, q.2.2) := by decide +kernel
set_option maxRecDepth 4000 in
theorem v_134 : m_mOk M_134 := ⟨(m_gi6 53 rfl rfl), (m_gi1 11 rfl rfl), by decide +kernel, ⟨by decide +kernel, by decide +kernel⟩, by decide +kernel, vf_134, vc_134, vo_134, vk_134⟩
set_option maxRecDepth 4000 in
theorem vf_135 : ∀ q ∈ M_135.2.2.2.2.2.1, m_fOk M_135.1 q := (List.forall_mem_cons.mpr ⟨⟨(R_13, F_13, 10), rfl, Nat.le_of_ble_eq_true rfl, ⟨"EdgeHouse$Told", (m_gi8 100 rfl rfl), Or.inl rfl⟩, fun _ => rfl, m_n0 rfl⟩, (List.forall_mem_cons.mpr ⟨⟨(R_13, F_13, 10), rfl, Nat.le_of_ble_eq_true rfl, ⟨"EdgeHouse$Told", (m_gi8 120 rfl rfl), Or.inl rfl⟩, fun _ => rfl, m_n0 rfl⟩, (fun _ h => absurd h List.not_mem_nil)⟩)⟩)
set_option maxRecDepth 4000 in
theorem vc_135 : ∀ q ∈ M_135.2.2.2.2.2.2.1, m_cOk M_135.1 q := (fun _ h => absurd h List.not_mem_nil)
set_option maxRecDepth 4000 in
theorem vo_135 : ∀ q ∈ M_135.2.2.2.2.2.2.2.1, m_oOk M_135.1 q := (fun _ h => absurd h List.not_mem_nil)
set_option maxRecDepth 4000 in
theorem vk_135 : ∀ q ∈ M_135.2.2.2.2.2.2.2.2, decode M_135.2.1 q.1 = .ok (q.2.1, q.2.2) := by decide +kernel
set_option maxRecDepth 4000 in
theorem v_135 : m_mOk M_135 := ⟨(m_gi6 57 rfl rfl), (m_gi1 13 rfl rfl), by decide +kernel, ⟨by decide +kernel, by decide +kernel⟩, by decide +kernel, vf_135, vc_135, vo_135, vk_135⟩
set_option maxRecDepth 4000 in
theorem vf_136 : ∀ q ∈ M_136.2.2.2.2.2.1, m_fOk M_136.1 q := (List.forall_mem_cons.mpr ⟨⟨(R_5, F_5, 3), rfl, Nat.le_of_ble_eq_true rfl, ⟨"EdgeHouse$Store", (m_gi1 178 rfl rfl), Or.inl rfl⟩, m_n0 rfl, m_n0 rfl⟩, (List.forall_mem_cons.mpr ⟨⟨(R_5, F_5, 3), rfl, Nat.le_of_ble_eq_true rfl, ⟨"EdgeHouse$Store", (m_gi1 180 rfl rfl), Or.inl rfl⟩, m_n0 rfl, m_n0 rfl⟩, (fun _ h => absurd h List.not_mem_nil)⟩)⟩)
set_option maxRecDepth 4000 in
theorem vc_136 : ∀ q ∈ M_136.2.2.2.2.2.2.1, m_cOk M_136.1 q := (List.forall_mem_cons.mpr ⟨⟨m_n0 rfl, m_n0 rfl, m_n0 rfl, fun _ => ⟨M_17, rfl, m_n0 rfl, fun _ => ⟨(m_gi4 72 rfl rfl), (m_gi2 68 rfl rfl), (R_2, F_2, 3), rfl, rfl, (m_gi2 69 rfl rfl)⟩, m_n0 rfl, m_n0 rfl⟩⟩, (List.forall_mem_cons.mpr ⟨⟨m_n0 rfl, m_n0 rfl, m_n0 rfl, fun _ => ⟨M_75, rfl, m_n0 rfl, fun _ => ⟨(m_gi4 68 rfl rfl), (m_gi4 69 rfl rfl), (R_5, F_5, 3), rfl, rfl, (m_gi4 70 rfl rfl)⟩, m_n0 rfl, m_n0 rfl⟩⟩, (List.forall_mem_cons.mpr ⟨⟨m_n0 rfl, m_n0 rfl, m_n0 rfl, fun _ => ⟨M_95, rfl, m_n0 rfl, fun _ => ⟨(m_gi4 154 rfl rfl), (m_gi4 155 rfl rfl), (R_2, F_2, 3), rfl, rfl, (m_gi4 156 rfl rfl)⟩, m_n0 rfl, m_n0 rfl⟩⟩, (fun _ h => absurd h List.not_mem_nil)⟩)⟩)⟩)
set_option maxRecDepth 4000 in
theorem vo_136 : ∀ q ∈ M_136.2.2.2.2.2.2.2.1, m_oOk M_136.1 q := (fun _ h => absurd h List.not_mem_nil)
set_option maxRecDepth 4000 in
theorem vk_136 : ∀ q ∈ M_136.2.2.2.2.2.2.2.2, decode M_136.2.1 q.1 = .ok (q.2.1, q.2.2) := by decide +kernel
set_option maxRecDepth 4000 in
theorem v_136 : m_mOk M_136 := ⟨(m_gi6 61 rfl rfl), (m_gi1 11 rfl rfl), by decide +kernel, ⟨by decide +kernel, by decide +kernel⟩, by decide +kernel, vf_136, vc_136, vo_136, vk_136⟩
set_option maxRecDepth 4000 in
theorem vf_137 : ∀ q ∈ M_137.2.2.2.2.2.1, m_fOk M_137.1 q := (List.forall_mem_cons.mpr ⟨⟨(R_10, F_10, 14), rfl, Nat.le_of_ble_eq_true rfl, ⟨"EdgeHouse$Fetch", (m_gi5 107 rfl rfl), Or.inl rfl⟩, fun _ => rfl, m_n0 rfl⟩, (List.forall_mem_cons.mpr ⟨⟨(R_6, F_6, 19), rfl, Nat.le_of_ble_eq_true rfl, ⟨"EdgeHouse$Request", (m_gi2 138 rfl rfl), Or.inl rfl⟩, fun _ => rfl, m_n0 rfl⟩, (List.forall_mem_cons.mpr ⟨⟨(R_4, F_4, 11), rfl, Nat.le_of_ble_eq_true rfl, ⟨"EdgeHouse$Node", (m_gi1 196 rfl rfl), Or.inl rfl⟩, m_n0 rfl, m_n0 rfl⟩, (List.forall_mem_cons.mpr ⟨⟨(R_9, F_9, 19), rfl, Nat.le_of_ble_eq_true rfl, ⟨"EdgeHouse$Message", (m_gi4 209 rfl rfl), Or.inl rfl⟩, m_n0 rfl, m_n0 rfl⟩, (List.forall_mem_cons.mpr ⟨⟨(R_9, F_9, 19), rfl, Nat.le_of_ble_eq_true rfl, ⟨"EdgeHouse$Message", (m_gi4 230 rfl rfl), Or.inl rfl⟩, fun _ => rfl, m_n0 rfl⟩, (List.forall_mem_cons.mpr ⟨⟨(R_9, F_9, 19), rfl, Nat.le_of_ble_eq_true rfl, ⟨"EdgeHouse$Message", (m_gi4 204 rfl rfl), Or.inl rfl⟩, m_n0 rfl, m_n0 rfl⟩, (List.forall_mem_cons.mpr ⟨⟨(R_9, F_9, 19), rfl, Nat.le_of_ble_eq_true rfl, ⟨"EdgeHouse$Message", (m_gi4 237 rfl rfl), Or.inl rfl⟩, fun _ => rfl, m_n0 rfl⟩, (List.forall_mem_cons.mpr ⟨⟨(R_10, F_10, 14), rfl, Nat.le_of_ble_eq_true rfl, ⟨"EdgeHouse$Fetch", (m_gi5 78 rfl rfl), Or.inl rfl⟩, m_n0 rfl, m_n0 rfl⟩, (List.forall_mem_cons.mpr ⟨⟨(R_10, F_10, 14), rfl, Nat.le_of_ble_eq_true rfl, ⟨"EdgeHouse$Fetch", (m_gi5 82 rfl rfl), Or.inl rfl⟩, m_n0 rfl, m_n0 rfl⟩, (List.forall_mem_cons.mpr ⟨⟨(R_13, F_13, 10), rfl, Nat.le_of_ble_eq_true rfl, ⟨"EdgeHouse$Told", (m_gi8 116 rfl rfl), Or.inl rfl⟩, fun _ => rfl, m_n0 rfl⟩, (fun _ h => absurd h List.not_mem_nil)⟩)⟩)⟩)⟩)⟩)⟩)⟩)⟩)⟩)⟩)
set_option maxRecDepth 4000 in
theorem vc_137 : ∀ q ∈ M_137.2.2.2.2.2.2.1, m_cOk M_137.1 q := (List.forall_mem_cons.mpr ⟨⟨m_n0 rfl, m_n0 rfl, m_n0 rfl, fun _ => ⟨M_139, rfl, m_n0 rfl, fun _ => ⟨(m_gi6 71 rfl rfl), (m_gi6 72 rfl rfl), (R_4, F_4, 11), rfl, rfl, (m_gi6 73 rfl rfl)⟩, m_n0 rfl, m_n0 rfl⟩⟩, (List.forall_mem_cons.mpr ⟨⟨m_n0 rfl, m_n0 rfl, m_n0 rfl, fun _ => ⟨M_138, rfl, m_n0 rfl, fun _ => ⟨(m_gi6 66 rfl rfl), (m_gi6 67 rfl rfl), (R_4, F_4, 11), rfl, rfl, (m_gi6 68 rfl rfl)⟩, m_n0 rfl, m_n0 rfl⟩⟩, (List.forall_mem_cons.mpr ⟨⟨m_n0 rfl, m_n0 rfl, m_n0 rfl, fun _ => ⟨M_122, rfl, m_n0 rfl, fun _ => ⟨(m_gi5 183 rfl rfl), (m_gi5 185 rfl rfl), (R_0, F_0, 15), rfl, rfl, (m_gp 14 rfl rfl)⟩, m_n0 rfl, m_n0 rfl⟩⟩, (List.forall_mem_cons.mpr ⟨⟨m_n0 rfl, m_n0 rfl, m_n0 rfl, fun _ => ⟨M_140, rfl, m_n0 rfl, fun _ => ⟨(m_gi6 75 rfl rfl), (m_gi6 76 rfl rfl), (R_5, F_5, 3), rfl, rfl, (m_gi6 77 rfl rfl)⟩, m_n0 rfl, m_n0 rfl⟩⟩, (List.forall_mem_cons.mpr ⟨⟨m_n0 rfl, m_n0 rfl, m_n0 rfl, fun _ => ⟨M_116, rfl, m_n0 rfl, fun _ => ⟨(m_gi5 160 rfl rfl), (m_gi5 162 rfl rfl), (R_0, F_0, 15), rfl, rfl, (m_gp 11 rfl rfl)⟩, m_n0 rfl, m_n0 rfl⟩⟩, (List.forall_mem_cons.mpr ⟨⟨m_n0 rfl, m_n0 rfl, m_n0 rfl, fun _ => ⟨M_141, rfl, m_n0 rfl, fun _ => ⟨(m_gi6 80 rfl rfl), (m_gi6 82 rfl rfl), (R_0, F_0, 15), rfl, rfl, (m_gp 19 rfl rfl)⟩, m_n0 rfl, m_n0 rfl⟩⟩, (List.forall_mem_cons.mpr ⟨⟨m_n0 rfl, m_n0 rfl, m_n0 rfl, fun _ => ⟨M_111, rfl, m_n0 rfl, fun _ => ⟨(m_gi5 138 rfl rfl), (m_gi5 140 rfl rfl), (R_0, F_0, 15), rfl, rfl, (m_gp 10 rfl rfl)⟩, m_n0 rfl, m_n0 rfl⟩⟩, (List.forall_mem_cons.mpr ⟨⟨m_n0 rfl, m_n0 rfl, m_n0 rfl, fun _ => ⟨M_145, rfl, m_n0 rfl, fun _ => ⟨(m_gi6 97 rfl rfl), (m_gi6 99 rfl rfl), (R_0, F_0, 15), rfl, rfl, (m_gp 21 rfl rfl)⟩, m_n0 rfl, m_n0 rfl⟩⟩, (List.forall_mem_cons.mpr ⟨⟨m_n0 rfl, m_n0 rfl, m_n0 rfl, fun _ => ⟨M_147, rfl, m_n0 rfl, fun _ => ⟨(m_gi6 106 rfl rfl), (m_gi6 107 rfl rfl), (R_5, F_5, 3), rfl, rfl, (m_gi6 108 rfl rfl)⟩, m_n0 rfl, m_n0 rfl⟩⟩, (List.forall_mem_cons.mpr ⟨⟨m_n0 rfl, m_n0 rfl, m_n0 rfl, fun _ => ⟨M_123, rfl, m_n0 rfl, fun _ => ⟨(m_gi5 187 rfl rfl), (m_gi5 188 rfl rfl), (R_11, F_11, 9), rfl, rfl, (m_gi5 189 rfl rfl)⟩, m_n0 rfl, m_n0 rfl⟩⟩, (List.forall_mem_cons.mpr ⟨⟨m_n0 rfl, m_n0 rfl, m_n0 rfl, fun _ => ⟨M_102, rfl, m_n0 rfl, fun _ => ⟨(m_gi4 186 rfl rfl), (m_gi4 188 rfl rfl), (R_0, F_0, 15), rfl, rfl, (m_gp 7 rfl rfl)⟩, m_n0 rfl, m_n0 rfl⟩⟩, (fun _ h => absurd h List.not_mem_nil)⟩)⟩)⟩)⟩)⟩)⟩)⟩)⟩)⟩)⟩)⟩)
set_option maxRecDepth 4000 in
theorem vo_137 : ∀ q ∈ M_137.2.2.2.2.2.2.2.1, m_oOk M_137.1 q := (fun _ h => absurd h List.not_mem_nil)
set_option maxRecDepth 4000 in
theorem vk_137 : ∀ q ∈ M_137.2.2.2.2.2.2.2.2, decode M_137.2.1 q.1 = .ok (q.2.1, q.2.2) := by decide +kernel
set_option maxRecDepth 4000 in
theorem v_137 : m_mOk M_137 := ⟨(m_gi6 65 rfl rfl), (m_gi1 1 rfl rfl), by decide +kernel, ⟨by decide +kernel, by decide +kernel⟩, by decide +kernel, vf_137, vc_137, vo_137, vk_137⟩
set_option maxRecDepth 4000 in
theorem vf_138 : ∀ q ∈ M_138.2.2.2.2.2.1, m_fOk M_138.1 q := (List.forall_mem_cons.mpr ⟨⟨(R_4, F_4, 11), rfl, Nat.le_of_ble_eq_true rfl, ⟨"EdgeHouse$Node", (m_gi1 197 rfl rfl), Or.inl rfl⟩, m_n0 rfl, m_n0 rfl⟩, (List.forall_mem_cons.mpr ⟨⟨(R_10, F_10, 14), rfl, Nat.le_of_ble_eq_true rfl, ⟨"EdgeHouse$Fetch", (m_gi5 97 rfl rfl), Or.inl rfl⟩, fun _ => rfl, m_n0 rfl⟩, (fun _ h => absurd h List.not_mem_nil)⟩)⟩)
set_option maxRecDepth 4000 in
theorem vc_138 : ∀ q ∈ M_138.2.2.2.2.2.2.1, m_cOk M_138.1 q := (List.forall_mem_cons.mpr ⟨⟨m_n0 rfl, m_n0 rfl, m_n0 rfl, fun _ => ⟨M_17, rfl, m_n0 rfl, fun _ => ⟨(m_gi5 66 rfl rfl), (m_gi2 68 rfl rfl), (R_2, F_2, 3), rfl, rfl, (m_gi2 69 rfl rfl)⟩, m_n0 rfl, m_n0 rfl⟩⟩, (List.forall_mem_cons.mpr ⟨⟨m_n0 rfl, m_n0 rfl, m_n0 rfl, fun _ => ⟨M_77, rfl, m_n0 rfl, fun _ => ⟨(m_gi5 67 rfl rfl), (m_gi4 78 rfl rfl), (R_2, F_2, 3), rfl, rfl, (m_gi4 79 rfl rfl)⟩, m_n0 rfl, m_n0 rfl⟩⟩, (List.forall_mem_cons.mpr ⟨⟨m_n0 rfl, m_n0 rfl, m_n0 rfl, fun _ => ⟨M_95, rfl, m_n0 rfl, fun _ => ⟨(m_gi6 70 rfl rfl), (m_gi4 155 rfl rfl), (R_2, F_2, 3), rfl, rfl, (m_gi4 156 rfl rfl)⟩, m_n0 rfl, m_n0 rfl⟩⟩, (fun _ h => absurd h List.not_mem_nil)⟩)⟩)⟩)
set_option maxRecDepth 4000 in
theorem vo_138 : ∀ q ∈ M_138.2.2.2.2.2.2.2.1, m_oOk M_138.1 q := (List.forall_mem_cons.mpr ⟨⟨m_n0 rfl, m_n0 rfl, m_n0 rfl, m_n0 rfl, m_n0 rfl, m_n0 rfl, fun _ => ⟨(R_10, F_10, 14), rfl, (m_gi5 68 rfl rfl), (List.mem_filter.mpr ⟨m_in12 (List.mem_of_getElem? (i := 51) rfl), rfl⟩)⟩, Nat.le_of_ble_eq_true rfl⟩, (fun _ h => absurd h List.not_mem_nil)⟩)
set_option maxRecDepth 4000 in
theorem vk_138 : ∀ q ∈ M_138.2.2.2.2.2.2.2.2, decode M_138.2.1 q.1 = .ok (q.2.1, q.2.2) := by decide +kernel
set_option maxRecDepth 4000 in
theorem v_138 : m_mOk M_138 := ⟨(m_gi6 69 rfl rfl), (m_gi1 10 rfl rfl), by decide +kernel, ⟨by decide +kernel, by decide +kernel⟩, by decide +kernel, vf_138, vc_138, vo_138, vk_138⟩
set_option maxRecDepth 4000 in
theorem vf_139 : ∀ q ∈ M_139.2.2.2.2.2.1, m_fOk M_139.1 q := (List.forall_mem_cons.mpr ⟨⟨(R_4, F_4, 11), rfl, Nat.le_of_ble_eq_true rfl, ⟨"EdgeHouse$Node", (m_gi1 200 rfl rfl), Or.inl rfl⟩, m_n0 rfl, m_n0 rfl⟩, (List.forall_mem_cons.mpr ⟨⟨(R_4, F_4, 11), rfl, Nat.le_of_ble_eq_true rfl, ⟨"EdgeHouse$Node", (m_gi1 201 rfl rfl), Or.inl rfl⟩, m_n0 rfl, m_n0 rfl⟩, (fun _ h => absurd h List.not_mem_nil)⟩)⟩)
set_option maxRecDepth 4000 in
theorem vc_139 : ∀ q ∈ M_139.2.2.2.2.2.2.1, m_cOk M_139.1 q := (fun _ h => absurd h List.not_mem_nil)
set_option maxRecDepth 4000 in
theorem vo_139 : ∀ q ∈ M_139.2.2.2.2.2.2.2.1, m_oOk M_139.1 q := (fun _ h => absurd h List.not_mem_nil)
set_option maxRecDepth 4000 in
theorem vk_139 : ∀ q ∈ M_139.2.2.2.2.2.2.2.2, decode M_139.2.1 q.1 = .ok (q.2.1, q.2.2) := by decide +kernel
set_option maxRecDepth 4000 in
theorem v_139 : m_mOk M_139 := ⟨(m_gi6 74 rfl rfl), (m_gi1 10 rfl rfl), by decide +kernel, ⟨by decide +kernel, by decide +kernel⟩, by decide +kernel, vf_139, vc_139, vo_139, vk_139⟩
set_option maxRecDepth 4000 in
theorem vf_140 : ∀ q ∈ M_140.2.2.2.2.2.1, m_fOk M_140.1 q := (fun _ h => absurd h List.not_mem_nil)
set_option maxRecDepth 4000 in
theorem vc_140 : ∀ q ∈ M_140.2.2.2.2.2.2.1, m_cOk M_140.1 q := (List.forall_mem_cons.mpr ⟨⟨m_n0 rfl, m_n0 rfl, m_n0 rfl, fun _ => ⟨M_75, rfl, m_n0 rfl, fun _ => ⟨(m_gi4 68 rfl rfl), (m_gi4 69 rfl rfl), (R_5, F_5, 3), rfl, rfl, (m_gi4 70 rfl rfl)⟩, m_n0 rfl, m_n0 rfl⟩⟩, (List.forall_mem_cons.mpr ⟨⟨m_n0 rfl, m_n0 rfl, m_n0 rfl, fun _ => ⟨M_76, rfl, m_n0 rfl, fun _ => ⟨(m_gi4 73 rfl rfl), (m_gi4 74 rfl rfl), (R_5, F_5, 3), rfl, rfl, (m_gi4 75 rfl rfl)⟩, m_n0 rfl, m_n0 rfl⟩⟩, (List.forall_mem_cons.mpr ⟨⟨m_n0 rfl, m_n0 rfl, m_n0 rfl, fun _ => ⟨M_81, rfl, m_n0 rfl, fun _ => ⟨(m_gi6 79 rfl rfl), (m_gi4 95 rfl rfl), (R_11, F_11, 9), rfl, rfl, (m_gi4 96 rfl rfl)⟩, m_n0 rfl, m_n0 rfl⟩⟩, (List.forall_mem_cons.mpr ⟨⟨m_n0 rfl, m_n0 rfl, m_n0 rfl, fun _ => ⟨M_136, rfl, m_n0 rfl, fun _ => ⟨(m_gi6 58 rfl rfl), (m_gi6 59 rfl rfl), (R_5, F_5, 3), rfl, rfl, (m_gi6 60 rfl rfl)⟩, m_n0 rfl, m_n0 rfl⟩⟩, (fun _ h => absurd h List.not_mem_nil)⟩)⟩)⟩)⟩)
set_option maxRecDepth 4000 in
theorem vo_140 : ∀ q ∈ M_140.2.2.2.2.2.2.2.1, m_oOk M_140.1 q := (fun _ h => absurd h List.not_mem_nil)
set_option maxRecDepth 4000 in
theorem vk_140 : ∀ q ∈ M_140.2.2.2.2.2.2.2.2, decode M_140.2.1 q.1 = .ok (q.2.1, q.2.2) := by decide +kernel
set_option maxRecDepth 4000 in
theorem v_140 : m_mOk M_140 := ⟨(m_gi6 78 rfl rfl), (m_gi1 11 rfl rfl), by decide +kernel, ⟨by decide +kernel, by decide +kernel⟩, by decide +kernel, vf_140, vc_140, vo_140, vk_140⟩
set_option maxRecDepth 4000 in
theorem vf_141 : ∀ q ∈ M_141.2.2.2.2.2.1, m_fOk M_141.1 q := (List.forall_mem_cons.mpr ⟨⟨(R_13, F_13, 10), rfl, Nat.le_of_ble_eq_true rfl, ⟨"EdgeHouse$Told", (m_gi8 103 rfl rfl), Or.inl rfl⟩, fun _ => rfl, m_n0 rfl⟩, (List.forall_mem_cons.mpr ⟨⟨(R_0, F_0, 15), rfl, Nat.le_of_ble_eq_true rfl, ⟨"EdgeHouse", (m_gi2 14 rfl rfl), Or.inl rfl⟩, fun _ => rfl, m_n0 rfl⟩, (List.forall_mem_cons.mpr ⟨⟨(R_4, F_4, 11), rfl, Nat.le_of_ble_eq_true rfl, ⟨"EdgeHouse$Node", (m_gi1 196 rfl rfl), Or.inl rfl⟩, m_n0 rfl, m_n0 rfl⟩, (List.forall_mem_cons.mpr ⟨⟨(R_9, F_9, 19), rfl, Nat.le_of_ble_eq_true rfl, ⟨"EdgeHouse$Message", (m_gi4 230 rfl rfl), Or.inl rfl⟩, fun _ => rfl, m_n0 rfl⟩, (List.forall_mem_cons.mpr ⟨⟨(R_9, F_9, 19), rfl, Nat.le_of_ble_eq_true rfl, ⟨"EdgeHouse$Message", (m_gi4 237 rfl rfl), Or.inl rfl⟩, fun _ => rfl, m_n0 rfl⟩, (List.forall_mem_cons.mpr ⟨⟨(R_10, F_10, 14), rfl, Nat.le_of_ble_eq_true rfl, ⟨"EdgeHouse$Fetch", (m_gi5 78 rfl rfl), Or.inl rfl⟩, m_n0 rfl, m_n0 rfl⟩, (List.forall_mem_cons.mpr ⟨⟨(R_10, F_10, 14), rfl, Nat.le_of_ble_eq_true rfl, ⟨"EdgeHouse$Fetch", (m_gi5 82 rfl rfl), Or.inl rfl⟩, m_n0 rfl, m_n0 rfl⟩, (List.forall_mem_cons.mpr ⟨⟨(R_9, F_9, 19), rfl, Nat.le_of_ble_eq_true rfl, ⟨"EdgeHouse$Message", (m_gi4 233 rfl rfl), Or.inl rfl⟩, fun _ => rfl, m_n0 rfl⟩, (List.forall_mem_cons.mpr ⟨⟨(R_10, F_10, 14), rfl, Nat.le_of_ble_eq_true rfl, ⟨"EdgeHouse$Fetch", (m_gi5 102 rfl rfl), Or.inl rfl⟩, fun _ => rfl, m_n0 rfl⟩, (List.forall_mem_cons.mpr ⟨⟨(R_10, F_10, 14), rfl, Nat.le_of_ble_eq_true rfl, ⟨"EdgeHouse$Fetch", (m_gi5 85 rfl rfl), Or.inl rfl⟩, m_n0 rfl, m_n0 rfl⟩, (List.forall_mem_cons.mpr ⟨⟨(R_10, F_10, 14), rfl, Nat.le_of_ble_eq_true rfl, ⟨"EdgeHouse$Fetch", (m_gi5 88 rfl rfl), Or.inl rfl⟩, m_n0 rfl, m_n0 rfl⟩, (List.forall_mem_cons.mpr ⟨⟨(R_11, F_11, 9), rfl, Nat.le_of_ble_eq_true rfl, ⟨"EdgeHouse$Entry", (m_gi5 239 rfl rfl), Or.inl rfl⟩, m_n0 rfl, m_n0 rfl⟩, (fun _ h => absurd h List.not_mem_nil)⟩)⟩)⟩)⟩)⟩)⟩)⟩)⟩)⟩)⟩)⟩)⟩)
set_option maxRecDepth 4000 in
theorem vc_141 : ∀ q ∈ M_141.2.2.2.2.2.2.1, m_cOk M_141.1 q := (List.forall_mem_cons.mpr ⟨⟨m_n0 rfl, m_n0 rfl, m_n0 rfl, fun _ => ⟨M_144, rfl, m_n0 rfl, fun _ => ⟨(m_gi6 93 rfl rfl), (m_gi6 94 rfl rfl), (R_5, F_5, 3), rfl, rfl, (m_gi6 95 rfl rfl)⟩, m_n0 rfl, m_n0 rfl⟩⟩, (List.forall_mem_cons.mpr ⟨⟨m_n0 rfl, m_n0 rfl, m_n0 rfl, fun _ => ⟨M_82, rfl, m_n0 rfl, fun _ => ⟨(m_gi5 221 rfl rfl), (m_gi4 99 rfl rfl), (R_13, F_13, 10), rfl, rfl, (m_gi4 100 rfl rfl)⟩, m_n0 rfl, m_n0 rfl⟩⟩, (List.forall_mem_cons.mpr ⟨⟨m_n0 rfl, m_n0 rfl, m_n0 rfl, fun _ => ⟨M_142, rfl, m_n0 rfl, fun _ => ⟨(m_gi6 84 rfl rfl), (m_gi6 85 rfl rfl), (R_4, F_4, 11), rfl, rfl, (m_gi6 86 rfl rfl)⟩, m_n0 rfl, m_n0 rfl⟩⟩, (List.forall_mem_cons.mpr ⟨⟨m_n0 rfl, m_n0 rfl, m_n0 rfl, fun _ => ⟨M_143, rfl, m_n0 rfl, fun _ => ⟨(m_gi6 88 rfl rfl), (m_gi6 90 rfl rfl), (R_0, F_0, 15), rfl, rfl, (m_gp 20 rfl rfl)⟩, m_n0 rfl, m_n0 rfl⟩⟩, (fun _ h => absurd h List.not_mem_nil)⟩)⟩)⟩)⟩)
set_option maxRecDepth 4000 in
theorem vo_141 : ∀ q ∈ M_141.2.2.2.2.2.2.2.1, m_oOk M_141.1 q := (fun _ h => absurd h List.not_mem_nil)
set_option maxRecDepth 4000 in
theorem vk_141 : ∀ q ∈ M_141.2.2.2.2.2.2.2.2, decode M_141.2.1 q.1 = .ok (q.2.1, q.2.2) := by decide +kernel
set_option maxRecDepth 4000 in
theorem v_141 : m_mOk M_141 := ⟨(m_gi6 83 rfl rfl), (m_gi1 1 rfl rfl), by decide +kernel, ⟨by decide +kernel, by decide +kernel⟩, by decide +kernel, vf_141, vc_141, vo_141, vk_141⟩
set_option maxRecDepth 4000 in
theorem vf_142 : ∀ q ∈ M_142.2.2.2.2.2.1, m_fOk M_142.1 q := (List.forall_mem_cons.mpr ⟨⟨(R_4, F_4, 11), rfl, Nat.le_of_ble_eq_true rfl, ⟨"EdgeHouse$Node", (m_gi1 199 rfl rfl), Or.inl rfl⟩, m_n0 rfl, m_n0 rfl⟩, (fun _ h => absurd h List.not_mem_nil)⟩)
set_option maxRecDepth 4000 in
theorem vc_142 : ∀ q ∈ M_142.2.2.2.2.2.2.1, m_cOk M_142.1 q := (fun _ h => absurd h List.not_mem_nil)
set_option maxRecDepth 4000 in
theorem vo_142 : ∀ q ∈ M_142.2.2.2.2.2.2.2.1, m_oOk M_142.1 q := (fun _ h => absurd h List.not_mem_nil)
set_option maxRecDepth 4000 in
theorem vk_142 : ∀ q ∈ M_142.2.2.2.2.2.2.2.2, decode M_142.2.1 q.1 = .ok (q.2.1, q.2.2) := by decide +kernel
set_option maxRecDepth 4000 in
theorem v_142 : m_mOk M_142 := ⟨(m_gi6 87 rfl rfl), (m_gi1 10 rfl rfl), by decide +kernel, ⟨by decide +kernel, by decide +kernel⟩, by decide +kernel, vf_142, vc_142, vo_142, vk_142⟩
set_option maxRecDepth 4000 in
theorem vf_143 : ∀ q ∈ M_143.2.2.2.2.2.1, m_fOk M_143.1 q := (List.forall_mem_cons.mpr ⟨⟨(R_0, F_0, 15), rfl, Nat.le_of_ble_eq_true rfl, ⟨"EdgeHouse", (m_gi2 6 rfl rfl), Or.inl rfl⟩, m_n0 rfl, m_n0 rfl⟩, (List.forall_mem_cons.mpr ⟨⟨(R_0, F_0, 15), rfl, Nat.le_of_ble_eq_true rfl, ⟨"EdgeHouse", (m_gi2 7 rfl rfl), Or.inl rfl⟩, m_n0 rfl, m_n0 rfl⟩, (fun _ h => absurd h List.not_mem_nil)⟩)⟩)
set_option maxRecDepth 4000 in
theorem vc_143 : ∀ q ∈ M_143.2.2.2.2.2.2.1, m_cOk M_143.1 q := (List.forall_mem_cons.mpr ⟨⟨m_n0 rfl, m_n0 rfl, m_n0 rfl, fun _ => ⟨M_135, rfl, m_n0 rfl, fun _ => ⟨(m_gi6 92 rfl rfl), (m_gi6 55 rfl rfl), (R_13, F_13, 10), rfl, rfl, (m_gi6 56 rfl rfl)⟩, m_n0 rfl, m_n0 rfl⟩⟩, (fun _ h => absurd h List.not_mem_nil)⟩)
set_option maxRecDepth 4000 in
theorem vo_143 : ∀ q ∈ M_143.2.2.2.2.2.2.2.1, m_oOk M_143.1 q := (fun _ h => absurd h List.not_mem_nil)
set_option maxRecDepth 4000 in
theorem vk_143 : ∀ q ∈ M_143.2.2.2.2.2.2.2.2, decode M_143.2.1 q.1 = .ok (q.2.1, q.2.2) := by decide +kernel
set_option maxRecDepth 4000 in
theorem v_143 : m_mOk M_143 := ⟨(m_gi6 91 rfl rfl), (m_gi1 1 rfl rfl), by decide +kernel, ⟨by decide +kernel, by decide +kernel⟩, by decide +kernel, vf_143, vc_143, vo_143, vk_143⟩
set_option maxRecDepth 4000 in
theorem vf_144 : ∀ q ∈ M_144.2.2.2.2.2.1, m_fOk M_144.1 q := (List.forall_mem_cons.mpr ⟨⟨(R_11, F_11, 9), rfl, Nat.le_of_ble_eq_true rfl, ⟨"EdgeHouse$Entry", (m_gi6 3 rfl rfl), Or.inl rfl⟩, m_n0 rfl, m_n0 rfl⟩, (fun _ h => absurd h List.not_mem_nil)⟩)
set_option maxRecDepth 4000 in
theorem vc_144 : ∀ q ∈ M_144.2.2.2.2.2.2.1, m_cOk M_144.1 q := (List.forall_mem_cons.mpr ⟨⟨m_n0 rfl, m_n0 rfl, m_n0 rfl, fun _ => ⟨M_75, rfl, m_n0 rfl, fun _ => ⟨(m_gi4 68 rfl rfl), (m_gi4 69 rfl rfl), (R_5, F_5, 3), rfl, rfl, (m_gi4 70 rfl rfl)⟩, m_n0 rfl, m_n0 rfl⟩⟩, (List.forall_mem_cons.mpr ⟨⟨m_n0 rfl, m_n0 rfl, m_n0 rfl, fun _ => ⟨M_76, rfl, m_n0 rfl, fun _ => ⟨(m_gi4 73 rfl rfl), (m_gi4 74 rfl rfl), (R_5, F_5, 3), rfl, rfl, (m_gi4 75 rfl rfl)⟩, m_n0 rfl, m_n0 rfl⟩⟩, (List.forall_mem_cons.mpr ⟨⟨m_n0 rfl, m_n0 rfl, m_n0 rfl, fun _ => ⟨M_81, rfl, m_n0 rfl, fun _ => ⟨(m_gi6 79 rfl rfl), (m_gi4 95 rfl rfl), (R_11, F_11, 9), rfl, rfl, (m_gi4 96 rfl rfl)⟩, m_n0 rfl, m_n0 rfl⟩⟩, (fun _ h => absurd h List.not_mem_nil)⟩)⟩)⟩)
set_option maxRecDepth 4000 in
theorem vo_144 : ∀ q ∈ M_144.2.2.2.2.2.2.2.1, m_oOk M_144.1 q := (fun _ h => absurd h List.not_mem_nil)
set_option maxRecDepth 4000 in
theorem vk_144 : ∀ q ∈ M_144.2.2.2.2.2.2.2.2, decode M_144.2.1 q.1 = .ok (q.2.1, q.2.2) := by decide +kernel
set_option maxRecDepth 4000 in
theorem v_144 : m_mOk M_144 := ⟨(m_gi6 96 rfl rfl), (m_gi1 11 rfl rfl), by decide +kernel, ⟨by decide +kernel, by decide +kernel⟩, by decide +kernel, vf_144, vc_144, vo_144, vk_144⟩
set_option maxRecDepth 4000 in
theorem vf_145 : ∀ q ∈ M_145.2.2.2.2.2.1, m_fOk M_145.1 q := (List.forall_mem_cons.mpr ⟨⟨(R_13, F_13, 10), rfl, Nat.le_of_ble_eq_true rfl, ⟨"EdgeHouse$Told", (m_gi8 103 rfl rfl), Or.inl rfl⟩, fun _ => rfl, m_n0 rfl⟩, (List.forall_mem_cons.mpr ⟨⟨(R_0, F_0, 15), rfl, Nat.le_of_ble_eq_true rfl, ⟨"EdgeHouse", (m_gi2 15 rfl rfl), Or.inl rfl⟩, fun _ => rfl, m_n0 rfl⟩, (List.forall_mem_cons.mpr ⟨⟨(R_4, F_4, 11), rfl, Nat.le_of_ble_eq_true rfl, ⟨"EdgeHouse$Node", (m_gi1 196 rfl rfl), Or.inl rfl⟩, m_n0 rfl, m_n0 rfl⟩, (List.forall_mem_cons.mpr ⟨⟨(R_9, F_9, 19), rfl, Nat.le_of_ble_eq_true rfl, ⟨"EdgeHouse$Message", (m_gi5 0 rfl rfl), Or.inl rfl⟩, fun _ => rfl, m_n0 rfl⟩, (List.forall_mem_cons.mpr ⟨⟨(R_11, F_11, 9), rfl, Nat.le_of_ble_eq_true rfl, ⟨"EdgeHouse$Entry", (m_gi6 7 rfl rfl), Or.inl rfl⟩, fun _ => rfl, m_n0 rfl⟩, (List.forall_mem_cons.mpr ⟨⟨(R_11, F_11, 9), rfl, Nat.le_of_ble_eq_true rfl, ⟨"EdgeHouse$Entry", (m_gi6 11 rfl rfl), Or.inl rfl⟩, fun _ => rfl, m_n0 rfl⟩, (List.forall_mem_cons.mpr ⟨⟨(R_11, F_11, 9), rfl, Nat.le_of_ble_eq_true rfl, ⟨"EdgeHouse$Entry", (m_gi6 15 rfl rfl), Or.inl rfl⟩, fun _ => rfl, m_n0 rfl⟩, (List.forall_mem_cons.mpr ⟨⟨(R_9, F_9, 19), rfl, Nat.le_of_ble_eq_true rfl, ⟨"EdgeHouse$Message", (m_gi4 237 rfl rfl), Or.inl rfl⟩, fun _ => rfl, m_n0 rfl⟩, (List.forall_mem_cons.mpr ⟨⟨(R_10, F_10, 14), rfl, Nat.le_of_ble_eq_true rfl, ⟨"EdgeHouse$Fetch", (m_gi5 78 rfl rfl), Or.inl rfl⟩, m_n0 rfl, m_n0 rfl⟩, (List.forall_mem_cons.mpr ⟨⟨(R_10, F_10, 14), rfl, Nat.le_of_ble_eq_true rfl, ⟨"EdgeHouse$Fetch", (m_gi5 82 rfl rfl), Or.inl rfl⟩, m_n0 rfl, m_n0 rfl⟩, (List.forall_mem_cons.mpr ⟨⟨(R_9, F_9, 19), rfl, Nat.le_of_ble_eq_true rfl, ⟨"EdgeHouse$Message", (m_gi4 233 rfl rfl), Or.inl rfl⟩, fun _ => rfl, m_n0 rfl⟩, (List.forall_mem_cons.mpr ⟨⟨(R_10, F_10, 14), rfl, Nat.le_of_ble_eq_true rfl, ⟨"EdgeHouse$Fetch", (m_gi5 85 rfl rfl), Or.inl rfl⟩, m_n0 rfl, m_n0 rfl⟩, (List.forall_mem_cons.mpr ⟨⟨(R_10, F_10, 14), rfl, Nat.le_of_ble_eq_true rfl, ⟨"EdgeHouse$Fetch", (m_gi5 88 rfl rfl), Or.inl rfl⟩, m_n0 rfl, m_n0 rfl⟩, (List.forall_mem_cons.mpr ⟨⟨(R_11, F_11, 9), rfl, Nat.le_of_ble_eq_true rfl, ⟨"EdgeHouse$Entry", (m_gi5 239 rfl rfl), Or.inl rfl⟩, m_n0 rfl, m_n0 rfl⟩, (List.forall_mem_cons.mpr ⟨⟨(R_9, F_9, 19), rfl, Nat.le_of_ble_eq_true rfl, ⟨"EdgeHouse$Message", (m_gi4 238 rfl rfl), Or.inl rfl⟩, fun _ => rfl, m_n0 rfl⟩, (List.forall_mem_cons.mpr ⟨⟨(R_11, F_11, 9), rfl, Nat.le_of_ble_eq_true rfl, ⟨"EdgeHouse$Entry", (m_gi6 9 rfl rfl), Or.inl rfl⟩, fun _ => rfl, m_n0 rfl⟩, (List.forall_mem_cons.mpr ⟨⟨(R_9, F_9, 19), rfl, Nat.le_of_ble_eq_true rfl, ⟨"EdgeHouse$Message", (m_gi4 239 rfl rfl), Or.inl rfl⟩, fun _ => rfl, m_n0 rfl⟩, (List.forall_mem_cons.mpr ⟨⟨(R_11, F_11, 9), rfl, Nat.le_of_ble_eq_true rfl, ⟨"EdgeHouse$Entry", (m_gi5 229 rfl rfl), Or.inl rfl⟩, m_n0 rfl, m_n0 rfl⟩, (List.forall_mem_cons.mpr ⟨⟨(R_11, F_11, 9), rfl, Nat.le_of_ble_eq_true rfl, ⟨"EdgeHouse$Entry", (m_gi5 233 rfl rfl), Or.inl rfl⟩, m_n0 rfl, m_n0 rfl⟩, (List.forall_mem_cons.mpr ⟨⟨(R_11, F_11, 9), rfl, Nat.le_of_ble_eq_true rfl, ⟨"EdgeHouse$Entry", (m_gi6 4 rfl rfl), Or.inl rfl⟩, m_n0 rfl, m_n0 rfl⟩, (List.forall_mem_cons.mpr ⟨⟨(R_11, F_11, 9), rfl, Nat.le_of_ble_eq_true rfl, ⟨"EdgeHouse$Entry", (m_gi6 18 rfl rfl), Or.inl rfl⟩, fun _ => rfl, m_n0 rfl⟩, (fun _ h => absurd h List.not_mem_nil)⟩)⟩)⟩)⟩)⟩)⟩)⟩)⟩)⟩)⟩)⟩)⟩)⟩)⟩)⟩)⟩)⟩)⟩)⟩)⟩)⟩)
set_option maxRecDepth 4000 in
theorem vc_145 : ∀ q ∈ M_145.2.2.2.2.2.2.1, m_cOk M_145.1 q := (List.forall_mem_cons.mpr ⟨⟨m_n0 rfl, m_n0 rfl, m_n0 rfl, fun _ => ⟨M_144, rfl, m_n0 rfl, fun _ => ⟨(m_gi6 93 rfl rfl), (m_gi6 94 rfl rfl), (R_5, F_5, 3), rfl, rfl, (m_gi6 95 rfl rfl)⟩, m_n0 rfl, m_n0 rfl⟩⟩, (List.forall_mem_cons.mpr ⟨⟨m_n0 rfl, m_n0 rfl, m_n0 rfl, fun _ => ⟨M_82, rfl, m_n0 rfl, fun _ => ⟨(m_gi5 221 rfl rfl), (m_gi4 99 rfl rfl), (R_13, F_13, 10), rfl, rfl, (m_gi4 100 rfl rfl)⟩, m_n0 rfl, m_n0 rfl⟩⟩, (List.forall_mem_cons.mpr ⟨⟨m_n0 rfl, m_n0 rfl, m_n0 rfl, fun _ => ⟨M_130, rfl, fun _ => ⟨rfl, rfl, (m_gi5 222 rfl rfl), (m_gi5 223 rfl rfl)⟩, m_n0 rfl, m_n0 rfl, m_n0 rfl⟩⟩, (List.forall_mem_cons.mpr ⟨⟨m_n0 rfl, m_n0 rfl, m_n0 rfl, fun _ => ⟨M_146, rfl, m_n0 rfl, fun _ => ⟨(m_gi6 101 rfl rfl), (m_gi6 102 rfl rfl), (R_5, F_5, 3), rfl, rfl, (m_gi6 103 rfl rfl)⟩, m_n0 rfl, m_n0 rfl⟩⟩, (List.forall_mem_cons.mpr ⟨⟨m_n0 rfl, m_n0 rfl, m_n0 rfl, fun _ => ⟨M_93, rfl, m_n0 rfl, fun _ => ⟨(m_gi6 105 rfl rfl), (m_gi4 147 rfl rfl), (R_5, F_5, 3), rfl, rfl, (m_gi4 148 rfl rfl)⟩, m_n0 rfl, m_n0 rfl⟩⟩, (fun _ h => absurd h List.not_mem_nil)⟩)⟩)⟩)⟩)⟩)
set_option maxRecDepth 4000 in
theorem vo_145 : ∀ q ∈ M_145.2.2.2.2.2.2.2.1, m_oOk M_145.1 q := (List.forall_mem_cons.mpr ⟨⟨fun _ => ⟨(R_11, F_11, 9), rfl, (m_gi5 219 rfl rfl), (m_gi5 220 rfl rfl), (m_gi1 31 rfl rfl)⟩, m_n0 rfl, m_n0 rfl, m_n0 rfl, m_n0 rfl, m_n0 rfl, m_n0 rfl, Nat.le_of_ble_eq_true rfl⟩, (fun _ h => absurd h List.not_mem_nil)⟩)
set_option maxRecDepth 4000 in
theorem vk_145 : ∀ q ∈ M_145.2.2.2.2.2.2.2.2, decode M_145.2.1 q.1 = .ok (q.2.1, q.2.2) := by decide +kernel
set_option maxRecDepth 4000 in
theorem v_145 : m_mOk M_145 := ⟨(m_gi6 100 rfl rfl), (m_gi1 1 rfl rfl), by decide +kernel, ⟨by decide +kernel, by decide +kernel⟩, by decide +kernel, vf_145, vc_145, vo_145, vk_145⟩
set_option maxRecDepth 4000 in
theorem vf_146 : ∀ q ∈ M_146.2.2.2.2.2.1, m_fOk M_146.1 q := (List.forall_mem_cons.mpr ⟨⟨(R_11, F_11, 9), rfl, Nat.le_of_ble_eq_true rfl, ⟨"EdgeHouse$Entry", (m_gi5 238 rfl rfl), Or.inl rfl⟩, m_n0 rfl, m_n0 rfl⟩, (List.forall_mem_cons.mpr ⟨⟨(R_11, F_11, 9), rfl, Nat.le_of_ble_eq_true rfl, ⟨"EdgeHouse$Entry", (m_gi5 228 rfl rfl), Or.inl rfl⟩, m_n0 rfl, m_n0 rfl⟩, (List.forall_mem_cons.mpr ⟨⟨(R_11, F_11, 9), rfl, Nat.le_of_ble_eq_true rfl, ⟨"EdgeHouse$Entry", (m_gi5 232 rfl rfl), Or.inl rfl⟩, m_n0 rfl, m_n0 rfl⟩, (List.forall_mem_cons.mpr ⟨⟨(R_13, F_13, 10), rfl, Nat.le_of_ble_eq_true rfl, ⟨"EdgeHouse$Told", (m_gi8 125 rfl rfl), Or.inl rfl⟩, fun _ => rfl, m_n0 rfl⟩, (fun _ h => absurd h List.not_mem_nil)⟩)⟩)⟩)⟩)
set_option maxRecDepth 4000 in
theorem vc_146 : ∀ q ∈ M_146.2.2.2.2.2.2.1, m_cOk M_146.1 q := (List.forall_mem_cons.mpr ⟨⟨m_n0 rfl, m_n0 rfl, m_n0 rfl, fun _ => ⟨M_75, rfl, m_n0 rfl, fun _ => ⟨(m_gi4 68 rfl rfl), (m_gi4 69 rfl rfl), (R_5, F_5, 3), rfl, rfl, (m_gi4 70 rfl rfl)⟩, m_n0 rfl, m_n0 rfl⟩⟩, (List.forall_mem_cons.mpr ⟨⟨m_n0 rfl, m_n0 rfl, m_n0 rfl, fun _ => ⟨M_76, rfl, m_n0 rfl, fun _ => ⟨(m_gi4 73 rfl rfl), (m_gi4 74 rfl rfl), (R_5, F_5, 3), rfl, rfl, (m_gi4 75 rfl rfl)⟩, m_n0 rfl, m_n0 rfl⟩⟩, (List.forall_mem_cons.mpr ⟨⟨m_n0 rfl, m_n0 rfl, m_n0 rfl, fun _ => ⟨M_81, rfl, m_n0 rfl, fun _ => ⟨(m_gi6 79 rfl rfl), (m_gi4 95 rfl rfl), (R_11, F_11, 9), rfl, rfl, (m_gi4 96 rfl rfl)⟩, m_n0 rfl, m_n0 rfl⟩⟩, (List.forall_mem_cons.mpr ⟨⟨m_n0 rfl, m_n0 rfl, m_n0 rfl, fun _ => ⟨M_136, rfl, m_n0 rfl, fun _ => ⟨(m_gi6 58 rfl rfl), (m_gi6 59 rfl rfl), (R_5, F_5, 3), rfl, rfl, (m_gi6 60 rfl rfl)⟩, m_n0 rfl, m_n0 rfl⟩⟩, (fun _ h => absurd h List.not_mem_nil)⟩)⟩)⟩)⟩)
set_option maxRecDepth 4000 in
theorem vo_146 : ∀ q ∈ M_146.2.2.2.2.2.2.2.1, m_oOk M_146.1 q := (fun _ h => absurd h List.not_mem_nil)
set_option maxRecDepth 4000 in
theorem vk_146 : ∀ q ∈ M_146.2.2.2.2.2.2.2.2, decode M_146.2.1 q.1 = .ok (q.2.1, q.2.2) := by decide +kernel
set_option maxRecDepth 4000 in
theorem v_146 : m_mOk M_146 := ⟨(m_gi6 104 rfl rfl), (m_gi1 11 rfl rfl), by decide +kernel, ⟨by decide +kernel, by decide +kernel⟩, by decide +kernel, vf_146, vc_146, vo_146, vk_146⟩
set_option maxRecDepth 4000 in
theorem vf_147 : ∀ q ∈ M_147.2.2.2.2.2.1, m_fOk M_147.1 q := (List.forall_mem_cons.mpr ⟨⟨(R_5, F_5, 3), rfl, Nat.le_of_ble_eq_true rfl, ⟨"EdgeHouse$Store", (m_gi1 178 rfl rfl), Or.inl rfl⟩, m_n0 rfl, m_n0 rfl⟩, (List.forall_mem_cons.mpr ⟨⟨(R_5, F_5, 3), rfl, Nat.le_of_ble_eq_true rfl, ⟨"EdgeHouse$Store", (m_gi1 180 rfl rfl), Or.inl rfl⟩, m_n0 rfl, m_n0 rfl⟩, (List.forall_mem_cons.mpr ⟨⟨(R_11, F_11, 9), rfl, Nat.le_of_ble_eq_true rfl, ⟨"EdgeHouse$Entry", (m_gi6 16 rfl rfl), Or.inl rfl⟩, fun _ => rfl, m_n0 rfl⟩, (fun _ h => absurd h List.not_mem_nil)⟩)⟩)⟩)
set_option maxRecDepth 4000 in
theorem vc_147 : ∀ q ∈ M_147.2.2.2.2.2.2.1, m_cOk M_147.1 q := (List.forall_mem_cons.mpr ⟨⟨m_n0 rfl, m_n0 rfl, m_n0 rfl, fun _ => ⟨M_62, rfl, m_n0 rfl, fun _ => ⟨(m_gi4 163 rfl rfl), (m_gi3 222 rfl rfl), (R_2, F_2, 3), rfl, rfl, (m_gi3 223 rfl rfl)⟩, m_n0 rfl, m_n0 rfl⟩⟩, (List.forall_mem_cons.mpr ⟨⟨m_n0 rfl, m_n0 rfl, m_n0 rfl, fun _ => ⟨M_97, rfl, m_n0 rfl, fun _ => ⟨(m_gi4 164 rfl rfl), (m_gi4 165 rfl rfl), (R_5, F_5, 3), rfl, rfl, (m_gi4 166 rfl rfl)⟩, m_n0 rfl, m_n0 rfl⟩⟩, (fun _ h => absurd h List.not_mem_nil)⟩)⟩)
set_option maxRecDepth 4000 in
theorem vo_147 : ∀ q ∈ M_147.2.2.2.2.2.2.2.1, m_oOk M_147.1 q := (fun _ h => absurd h List.not_mem_nil)
set_option maxRecDepth 4000 in
theorem vk_147 : ∀ q ∈ M_147.2.2.2.2.2.2.2.2, decode M_147.2.1 q.1 = .ok (q.2.1, q.2.2) := by decide +kernel
set_option maxRecDepth 4000 in
theorem v_147 : m_mOk M_147 := ⟨(m_gi6 109 rfl rfl), (m_gi1 11 rfl rfl), by decide +kernel, ⟨by decide +kernel, by decide +kernel⟩, by decide +kernel, vf_147, vc_147, vo_147, vk_147⟩
set_option maxRecDepth 4000 in
theorem vf_148 : ∀ q ∈ M_148.2.2.2.2.2.1, m_fOk M_148.1 q := (List.forall_mem_cons.mpr ⟨⟨(R_0, F_0, 15), rfl, Nat.le_of_ble_eq_true rfl, ⟨"EdgeHouse", (m_gi2 8 rfl rfl), Or.inl rfl⟩, m_n0 rfl, m_n0 rfl⟩, (List.forall_mem_cons.mpr ⟨⟨(R_0, F_0, 15), rfl, Nat.le_of_ble_eq_true rfl, ⟨"EdgeHouse", (m_gi2 12 rfl rfl), Or.inl rfl⟩, fun _ => rfl, m_n0 rfl⟩, (fun _ h => absurd h List.not_mem_nil)⟩)⟩)
set_option maxRecDepth 4000 in
theorem vc_148 : ∀ q ∈ M_148.2.2.2.2.2.2.1, m_cOk M_148.1 q := (List.forall_mem_cons.mpr ⟨⟨m_n0 rfl, m_n0 rfl, m_n0 rfl, fun _ => ⟨M_17, rfl, m_n0 rfl, fun _ => ⟨(m_gi2 67 rfl rfl), (m_gi2 68 rfl rfl), (R_2, F_2, 3), rfl, rfl, (m_gi2 69 rfl rfl)⟩, m_n0 rfl, m_n0 rfl⟩⟩, (List.forall_mem_cons.mpr ⟨⟨m_n0 rfl, m_n0 rfl, m_n0 rfl, fun _ => ⟨M_95, rfl, m_n0 rfl, fun _ => ⟨(m_gi5 206 rfl rfl), (m_gi4 155 rfl rfl), (R_2, F_2, 3), rfl, rfl, (m_gi4 156 rfl rfl)⟩, m_n0 rfl, m_n0 rfl⟩⟩, (fun _ h => absurd h List.not_mem_nil)⟩)⟩)
set_option maxRecDepth 4000 in
theorem vo_148 : ∀ q ∈ M_148.2.2.2.2.2.2.2.1, m_oOk M_148.1 q := (fun _ h => absurd h List.not_mem_nil)
set_option maxRecDepth 4000 in
theorem vk_148 : ∀ q ∈ M_148.2.2.2.2.2.2.2.2, decode M_148.2.1 q.1 = .ok (q.2.1, q.2.2) := by decide +kernel
set_option maxRecDepth 4000 in
theorem v_148 : m_mOk M_148 := ⟨(m_gi6 113 rfl rfl), (m_gi1 1 rfl rfl), by decide +kernel, ⟨by decide +kernel, by decide +kernel⟩, by decide +kernel, vf_148, vc_148, vo_148, vk_148⟩
set_option maxRecDepth 4000 in
theorem vf_149 : ∀ q ∈ M_149.2.2.2.2.2.1, m_fOk M_149.1 q := (List.forall_mem_cons.mpr ⟨⟨(R_0, F_0, 15), rfl, Nat.le_of_ble_eq_true rfl, ⟨"EdgeHouse", (m_gi2 8 rfl rfl), Or.inl rfl⟩, m_n0 rfl, m_n0 rfl⟩, (fun _ h => absurd h List.not_mem_nil)⟩)
set_option maxRecDepth 4000 in
theorem vc_149 : ∀ q ∈ M_149.2.2.2.2.2.2.1, m_cOk M_149.1 q := (List.forall_mem_cons.mpr ⟨⟨m_n0 rfl, m_n0 rfl, m_n0 rfl, fun _ => ⟨M_95, rfl, m_n0 rfl, fun _ => ⟨(m_gi5 206 rfl rfl), (m_gi4 155 rfl rfl), (R_2, F_2, 3), rfl, rfl, (m_gi4 156 rfl rfl)⟩, m_n0 rfl, m_n0 rfl⟩⟩, (List.forall_mem_cons.mpr ⟨⟨m_n0 rfl, m_n0 rfl, m_n0 rfl, fun _ => ⟨M_127, rfl, m_n0 rfl, fun _ => ⟨(m_gi5 207 rfl rfl), (m_gi5 209 rfl rfl), (R_0, F_0, 15), rfl, rfl, (m_gp 15 rfl rfl)⟩, m_n0 rfl, m_n0 rfl⟩⟩, (List.forall_mem_cons.mpr ⟨⟨m_n0 rfl, m_n0 rfl, m_n0 rfl, fun _ => ⟨M_101, rfl, m_n0 rfl, fun _ => ⟨(m_gi6 118 rfl rfl), (m_gi4 183 rfl rfl), (R_2, F_2, 3), rfl, rfl, (m_gi4 184 rfl rfl)⟩, m_n0 rfl, m_n0 rfl⟩⟩, (fun _ h => absurd h List.not_mem_nil)⟩)⟩)⟩)
set_option maxRecDepth 4000 in
theorem vo_149 : ∀ q ∈ M_149.2.2.2.2.2.2.2.1, m_oOk M_149.1 q := (List.forall_mem_cons.mpr ⟨⟨m_n0 rfl, m_n0 rfl, m_n0 rfl, m_n0 rfl, m_n0 rfl, m_n0 rfl, fun _ => ⟨(R_9, F_9, 19), rfl, (m_gi4 194 rfl rfl), (List.mem_filter.mpr ⟨m_in12 (List.mem_of_getElem? (i := 52) rfl), rfl⟩)⟩, Nat.le_of_ble_eq_true rfl⟩, (fun _ h => absurd h List.not_mem_nil)⟩)
set_option maxRecDepth 4000 in
theorem vk_149 : ∀ q ∈ M_149.2.2.2.2.2.2.2.2, decode M_149.2.1 q.1 = .ok (q.2.1, q.2.2) := by decide +kernel
set_option maxRecDepth 4000 in
theorem v_149 : m_mOk M_149 := ⟨(m_gi6 117 rfl rfl), (m_gi1 1 rfl rfl), by decide +kernel, ⟨by decide +kernel, by decide +kernel⟩, by decide +kernel, vf_149, vc_149, vo_149, vk_149⟩
set_option maxRecDepth 4000 in
theorem vf_150 : ∀ q ∈ M_150.2.2.2.2.2.1, m_fOk M_150.1 q := (List.forall_mem_cons.mpr ⟨⟨(R_0, F_0, 15), rfl, Nat.le_of_ble_eq_true rfl, ⟨"EdgeHouse", (m_gi2 4 rfl rfl), Or.inl rfl⟩, m_n0 rfl, m_n0 rfl⟩, (List.forall_mem_cons.mpr ⟨⟨(R_0, F_0, 15), rfl, Nat.le_of_ble_eq_true rfl, ⟨"EdgeHouse", (m_gi2 6 rfl rfl), Or.inl rfl⟩, m_n0 rfl, m_n0 rfl⟩, (List.forall_mem_cons.mpr ⟨⟨(R_0, F_0, 15), rfl, Nat.le_of_ble_eq_true rfl, ⟨"EdgeHouse", (m_gi2 7 rfl rfl), Or.inl rfl⟩, m_n0 rfl, m_n0 rfl⟩, (List.forall_mem_cons.mpr ⟨⟨(R_0, F_0, 15), rfl, Nat.le_of_ble_eq_true rfl, ⟨"EdgeHouse", (m_gi2 14 rfl rfl), Or.inl rfl⟩, fun _ => rfl, m_n0 rfl⟩, (List.forall_mem_cons.mpr ⟨⟨(R_0, F_0, 15), rfl, Nat.le_of_ble_eq_true rfl, ⟨"EdgeHouse", (m_gi2 13 rfl rfl), Or.inl rfl⟩, fun _ => rfl, m_n0 rfl⟩, (List.forall_mem_cons.mpr ⟨⟨(R_4, F_4, 11), rfl, Nat.le_of_ble_eq_true rfl, ⟨"EdgeHouse$Node", (m_gi1 203 rfl rfl), Or.inl rfl⟩, fun _ => rfl, m_n0 rfl⟩, (List.forall_mem_cons.mpr ⟨⟨(R_9, F_9, 19), rfl, Nat.le_of_ble_eq_true rfl, ⟨"EdgeHouse$Message", (m_gi4 212 rfl rfl), Or.inl rfl⟩, fun _ => rfl, m_n0 rfl⟩, (List.forall_mem_cons.mpr ⟨⟨(R_9, F_9, 19), rfl, Nat.le_of_ble_eq_true rfl, ⟨"EdgeHouse$Message", (m_gi4 215 rfl rfl), Or.inl rfl⟩, fun _ => rfl, m_n0 rfl⟩, (fun _ h => absurd h List.not_mem_nil)⟩)⟩)⟩)⟩)⟩)⟩)⟩)⟩)
set_option maxRecDepth 4000 in
theorem vc_150 : ∀ q ∈ M_150.2.2.2.2.2.2.1, m_cOk M_150.1 q := (List.forall_mem_cons.mpr ⟨⟨m_n0 rfl, m_n0 rfl, m_n0 rfl, fun _ => ⟨M_15, rfl, m_n0 rfl, m_n0 rfl, fun _ => ⟨(m_gi2 60 rfl rfl), (m_gi2 61 rfl rfl)⟩, m_n0 rfl⟩⟩, (List.forall_mem_cons.mpr ⟨⟨m_n0 rfl, m_n0 rfl, m_n0 rfl, fun _ => ⟨M_104, rfl, fun _ => ⟨rfl, rfl, (m_gi4 196 rfl rfl), (m_gi4 197 rfl rfl)⟩, m_n0 rfl, m_n0 rfl, m_n0 rfl⟩⟩, (List.forall_mem_cons.mpr ⟨⟨m_n0 rfl, m_n0 rfl, m_n0 rfl, fun _ => ⟨M_105, rfl, m_n0 rfl, fun _ => ⟨(m_gi5 41 rfl rfl), (m_gi5 43 rfl rfl), (R_0, F_0, 15), rfl, rfl, (m_gp 9 rfl rfl)⟩, m_n0 rfl, m_n0 rfl⟩⟩, (fun _ h => absurd h List.not_mem_nil)⟩)⟩)⟩)
set_option maxRecDepth 4000 in
theorem vo_150 : ∀ q ∈ M_150.2.2.2.2.2.2.2.1, m_oOk M_150.1 q := (List.forall_mem_cons.mpr ⟨⟨fun _ => ⟨(R_9, F_9, 19), rfl, (m_gi4 194 rfl rfl), (m_gi4 195 rfl rfl), (m_gi1 29 rfl rfl)⟩, m_n0 rfl, m_n0 rfl, m_n0 rfl, m_n0 rfl, m_n0 rfl, m_n0 rfl, Nat.le_of_ble_eq_true rfl⟩, (fun _ h => absurd h List.not_mem_nil)⟩)
set_option maxRecDepth 4000 in
theorem vk_150 : ∀ q ∈ M_150.2.2.2.2.2.2.2.2, decode M_150.2.1 q.1 = .ok (q.2.1, q.2.2) := by decide +kernel
set_option maxRecDepth 4000 in
theorem v_150 : m_mOk M_150 := ⟨(m_gi6 122 rfl rfl), (m_gi1 1 rfl rfl), by decide +kernel, ⟨by decide +kernel, by decide +kernel⟩, by decide +kernel, vf_150, vc_150, vo_150, vk_150⟩
set_option maxRecDepth 4000 in
theorem vf_151 : ∀ q ∈ M_151.2.2.2.2.2.1, m_fOk M_151.1 q := (List.forall_mem_cons.mpr ⟨⟨(R_0, F_0, 15), rfl, Nat.le_of_ble_eq_true rfl, ⟨"EdgeHouse", (m_gi2 4 rfl rfl), Or.inl rfl⟩, m_n0 rfl, m_n0 rfl⟩, (List.forall_mem_cons.mpr ⟨⟨(R_6, F_6, 19), rfl, Nat.le_of_ble_eq_true rfl, ⟨"EdgeHouse$Request", (m_gi2 130 rfl rfl), Or.inl rfl⟩, fun _ => rfl, m_n0 rfl⟩, (List.forall_mem_cons.mpr ⟨⟨(R_4, F_4, 11), rfl, Nat.le_of_ble_eq_true rfl, ⟨"EdgeHouse$Node", (m_gi1 203 rfl rfl), Or.inl rfl⟩, fun _ => rfl, m_n0 rfl⟩, (List.forall_mem_cons.mpr ⟨⟨(R_4, F_4, 11), rfl, Nat.le_of_ble_eq_true rfl, ⟨"EdgeHouse$Node", (m_gi1 198 rfl rfl), Or.inl rfl⟩, m_n0 rfl, m_n0 rfl⟩, (List.forall_mem_cons.mpr ⟨⟨(R_10, F_10, 14), rfl, Nat.le_of_ble_eq_true rfl, ⟨"EdgeHouse$Fetch", (m_gi5 107 rfl rfl), Or.inl rfl⟩, fun _ => rfl, m_n0 rfl⟩, (List.forall_mem_cons.mpr ⟨⟨(R_6, F_6, 19), rfl, Nat.le_of_ble_eq_true rfl, ⟨"EdgeHouse$Request", (m_gi2 138 rfl rfl), Or.inl rfl⟩, fun _ => rfl, m_n0 rfl⟩, (fun _ h => absurd h List.not_mem_nil)⟩)⟩)⟩)⟩)⟩)⟩)
set_option maxRecDepth 4000 in
theorem vc_151 : ∀ q ∈ M_151.2.2.2.2.2.2.1, m_cOk M_151.1 q := (List.forall_mem_cons.mpr ⟨⟨m_n0 rfl, m_n0 rfl, m_n0 rfl, fun _ => ⟨M_17, rfl, m_n0 rfl, fun _ => ⟨(m_gi2 67 rfl rfl), (m_gi2 68 rfl rfl), (R_2, F_2, 3), rfl, rfl, (m_gi2 69 rfl rfl)⟩, m_n0 rfl, m_n0 rfl⟩⟩, (List.forall_mem_cons.mpr ⟨⟨m_n0 rfl, m_n0 rfl, m_n0 rfl, fun _ => ⟨M_70, rfl, m_n0 rfl, fun _ => ⟨(m_gi4 46 rfl rfl), (m_gi4 48 rfl rfl), (R_0, F_0, 15), rfl, rfl, (m_gp 3 rfl rfl)⟩, m_n0 rfl, m_n0 rfl⟩⟩, (List.forall_mem_cons.mpr ⟨⟨m_n0 rfl, m_n0 rfl, m_n0 rfl, fun _ => ⟨M_131, rfl, m_n0 rfl, m_n0 rfl, fun _ => ⟨(m_gi6 38 rfl rfl), (m_gi6 39 rfl rfl)⟩, m_n0 rfl⟩⟩, (List.forall_mem_cons.mpr ⟨⟨m_n0 rfl, m_n0 rfl, m_n0 rfl, fun _ => ⟨M_77, rfl, m_n0 rfl, fun _ => ⟨(m_gi6 127 rfl rfl), (m_gi4 78 rfl rfl), (R_2, F_2, 3), rfl, rfl, (m_gi4 79 rfl rfl)⟩, m_n0 rfl, m_n0 rfl⟩⟩, (List.forall_mem_cons.mpr ⟨⟨m_n0 rfl, m_n0 rfl, m_n0 rfl, fun _ => ⟨M_152, rfl, m_n0 rfl, fun _ => ⟨(m_gi6 128 rfl rfl), (m_gi6 129 rfl rfl), (R_4, F_4, 11), rfl, rfl, (m_gi6 130 rfl rfl)⟩, m_n0 rfl, m_n0 rfl⟩⟩, (fun _ h => absurd h List.not_mem_nil)⟩)⟩)⟩)⟩)⟩)
set_option maxRecDepth 4000 in
theorem vo_151 : ∀ q ∈ M_151.2.2.2.2.2.2.2.1, m_oOk M_151.1 q := (List.forall_mem_cons.mpr ⟨⟨m_n0 rfl, m_n0 rfl, m_n0 rfl, m_n0 rfl, m_n0 rfl, m_n0 rfl, fun _ => ⟨(R_10, F_10, 14), rfl, (m_gi5 69 rfl rfl), (List.mem_filter.mpr ⟨m_in12 (List.mem_of_getElem? (i := 51) rfl), rfl⟩)⟩, Nat.le_of_ble_eq_true rfl⟩, (fun _ h => absurd h List.not_mem_nil)⟩)
set_option maxRecDepth 4000 in
theorem vk_151 : ∀ q ∈ M_151.2.2.2.2.2.2.2.2, decode M_151.2.1 q.1 = .ok (q.2.1, q.2.2) := by decide +kernel
set_option maxRecDepth 4000 in
theorem v_151 : m_mOk M_151 := ⟨(m_gi6 126 rfl rfl), (m_gi1 1 rfl rfl), by decide +kernel, ⟨by decide +kernel, by decide +kernel⟩, by decide +kernel, vf_151, vc_151, vo_151, vk_151⟩
set_option maxRecDepth 4000 in
theorem vf_152 : ∀ q ∈ M_152.2.2.2.2.2.1, m_fOk M_152.1 q := (List.forall_mem_cons.mpr ⟨⟨(R_4, F_4, 11), rfl, Nat.le_of_ble_eq_true rfl, ⟨"EdgeHouse$Node", (m_gi1 195 rfl rfl), Or.inl rfl⟩, m_n0 rfl, m_n0 rfl⟩, (List.forall_mem_cons.mpr ⟨⟨(R_4, F_4, 11), rfl, Nat.le_of_ble_eq_true rfl, ⟨"EdgeHouse$Node", (m_gi1 197 rfl rfl), Or.inl rfl⟩, m_n0 rfl, m_n0 rfl⟩, (List.forall_mem_cons.mpr ⟨⟨(R_4, F_4, 11), rfl, Nat.le_of_ble_eq_true rfl, ⟨"EdgeHouse$Node", (m_gi1 199 rfl rfl), Or.inl rfl⟩, m_n0 rfl, m_n0 rfl⟩, (List.forall_mem_cons.mpr ⟨⟨(R_4, F_4, 11), rfl, Nat.le_of_ble_eq_true rfl, ⟨"EdgeHouse$Node", (m_gi1 202 rfl rfl), Or.inl rfl⟩, fun _ => rfl, m_n0 rfl⟩, (List.forall_mem_cons.mpr ⟨⟨(R_4, F_4, 11), rfl, Nat.le_of_ble_eq_true rfl, ⟨"EdgeHouse$Node", (m_gi1 204 rfl rfl), Or.inl rfl⟩, fun _ => rfl, m_n0 rfl⟩, (fun _ h => absurd h List.not_mem_nil)⟩)⟩)⟩)⟩)⟩)
set_option maxRecDepth 4000 in
theorem vc_152 : ∀ q ∈ M_152.2.2.2.2.2.2.1, m_cOk M_152.1 q := (List.forall_mem_cons.mpr ⟨⟨m_n0 rfl, m_n0 rfl, m_n0 rfl, fun _ => ⟨M_153, rfl, m_n0 rfl, fun _ => ⟨(m_gi6 132 rfl rfl), (m_gi6 133 rfl rfl), (R_5, F_5, 3), rfl, rfl, (m_gi6 134 rfl rfl)⟩, m_n0 rfl, m_n0 rfl⟩⟩, (List.forall_mem_cons.mpr ⟨⟨m_n0 rfl, m_n0 rfl, m_n0 rfl, fun _ => ⟨M_154, rfl, m_n0 rfl, fun _ => ⟨(m_gi6 140 rfl rfl), (m_gi6 137 rfl rfl), (R_2, F_2, 3), rfl, rfl, (m_gi6 138 rfl rfl)⟩, m_n0 rfl, m_n0 rfl⟩⟩, (List.forall_mem_cons.mpr ⟨⟨m_n0 rfl, m_n0 rfl, m_n0 rfl, fun _ => ⟨M_139, rfl, m_n0 rfl, fun _ => ⟨(m_gi6 141 rfl rfl), (m_gi6 72 rfl rfl), (R_4, F_4, 11), rfl, rfl, (m_gi6 73 rfl rfl)⟩, m_n0 rfl, m_n0 rfl⟩⟩, (fun _ h => absurd h List.not_mem_nil)⟩)⟩)⟩)
set_option maxRecDepth 4000 in
theorem vo_152 : ∀ q ∈ M_152.2.2.2.2.2.2.2.1, m_oOk M_152.1 q := (fun _ h => absurd h List.not_mem_nil)
set_option maxRecDepth 4000 in
theorem vk_152 : ∀ q ∈ M_152.2.2.2.2.2.2.2.2, decode M_152.2.1 q.1 = .ok (q.2.1, q.2.2) := by decide +kernel
set_option maxRecDepth 4000 in
theorem v_152 : m_mOk M_152 := ⟨(m_gi6 131 rfl rfl), (m_gi1 10 rfl rfl), by decide +kernel, ⟨by decide +kernel, by decide +kernel⟩, by decide +kernel, vf_152, vc_152, vo_152, vk_152⟩
set_option maxRecDepth 4000 in
theorem vf_153 : ∀ q ∈ M_153.2.2.2.2.2.1, m_fOk M_153.1 q := (List.forall_mem_cons.mpr ⟨⟨(R_5, F_5, 3), rfl, Nat.le_of_ble_eq_true rfl, ⟨"EdgeHouse$Store", (m_gi1 178 rfl rfl), Or.inl rfl⟩, m_n0 rfl, m_n0 rfl⟩, (List.forall_mem_cons.mpr ⟨⟨(R_5, F_5, 3), rfl, Nat.le_of_ble_eq_true rfl, ⟨"EdgeHouse$Store", (m_gi1 180 rfl rfl), Or.inl rfl⟩, m_n0 rfl, m_n0 rfl⟩, (fun _ h => absurd h List.not_mem_nil)⟩)⟩)
set_option maxRecDepth 4000 in
theorem vc_153 : ∀ q ∈ M_153.2.2.2.2.2.2.1, m_cOk M_153.1 q := (List.forall_mem_cons.mpr ⟨⟨m_n0 rfl, m_n0 rfl, m_n0 rfl, fun _ => ⟨M_154, rfl, m_n0 rfl, fun _ => ⟨(m_gi6 136 rfl rfl), (m_gi6 137 rfl rfl), (R_2, F_2, 3), rfl, rfl, (m_gi6 138 rfl rfl)⟩, m_n0 rfl, m_n0 rfl⟩⟩, (fun _ h => absurd h List.not_mem_nil)⟩)
set_option maxRecDepth 4000 in
theorem vo_153 : ∀ q ∈ M_153.2.2.2.2.2.2.2.1, m_oOk M_153.1 q := (fun _ h => absurd h List.not_mem_nil)
set_option maxRecDepth 4000 in
theorem vk_153 : ∀ q ∈ M_153.2.2.2.2.2.2.2.2, decode M_153.2.1 q.1 = .ok (q.2.1, q.2.2) := by decide +kernel
set_option maxRecDepth 4000 in
theorem v_153 : m_mOk M_153 := ⟨(m_gi6 135 rfl rfl), (m_gi1 11 rfl rfl), by decide +kernel, ⟨by decide +kernel, by decide +kernel⟩, by decide +kernel, vf_153, vc_153, vo_153, vk_153⟩
set_option maxRecDepth 4000 in
theorem vf_154 : ∀ q ∈ M_154.2.2.2.2.2.1, m_fOk M_154.1 q := (List.forall_mem_cons.mpr ⟨⟨(R_2, F_2, 3), rfl, Nat.le_of_ble_eq_true rfl, ⟨"java/util/ArrayList", (m_gi1 120 rfl rfl), Or.inl rfl⟩, fun _ => rfl, m_n0 rfl⟩, (List.forall_mem_cons.mpr ⟨⟨(R_2, F_2, 3), rfl, Nat.le_of_ble_eq_true rfl, ⟨"java/util/ArrayList", (m_gi1 121 rfl rfl), Or.inl rfl⟩, fun _ => rfl, m_n0 rfl⟩, (List.forall_mem_cons.mpr ⟨⟨(R_2, F_2, 3), rfl, Nat.le_of_ble_eq_true rfl, ⟨"java/util/ArrayList", (m_gi1 123 rfl rfl), Or.inr (m_gi1 124 rfl rfl)⟩, fun _ => rfl, m_n0 rfl⟩, (fun _ h => absurd h List.not_mem_nil)⟩)⟩)⟩)
set_option maxRecDepth 4000 in
theorem vc_154 : ∀ q ∈ M_154.2.2.2.2.2.2.1, m_cOk M_154.1 q := (fun _ h => absurd h List.not_mem_nil)
set_option maxRecDepth 4000 in
theorem vo_154 : ∀ q ∈ M_154.2.2.2.2.2.2.2.1, m_oOk M_154.1 q := (fun _ h => absurd h List.not_mem_nil)
set_option maxRecDepth 4000 in
theorem vk_154 : ∀ q ∈ M_154.2.2.2.2.2.2.2.2, decode M_154.2.1 q.1 = .ok (q.2.1, q.2.2) := by decide +kernel
set_option maxRecDepth 4000 in
theorem v_154 : m_mOk M_154 := ⟨(m_gi6 139 rfl rfl), (m_gi1 5 rfl rfl), by decide +kernel, ⟨by decide +kernel, by decide +kernel⟩, by decide +kernel, vf_154, vc_154, vo_154, vk_154⟩
set_option maxRecDepth 4000 in
theorem vf_155 : ∀ q ∈ M_155.2.2.2.2.2.1, m_fOk M_155.1 q := (List.forall_mem_cons.mpr ⟨⟨(R_0, F_0, 15), rfl, Nat.le_of_ble_eq_true rfl, ⟨"EdgeHouse", (m_gi2 4 rfl rfl), Or.inl rfl⟩, m_n0 rfl, m_n0 rfl⟩, (List.forall_mem_cons.mpr ⟨⟨(R_0, F_0, 15), rfl, Nat.le_of_ble_eq_true rfl, ⟨"EdgeHouse", (m_gi2 14 rfl rfl), Or.inl rfl⟩, fun _ => rfl, m_n0 rfl⟩, (List.forall_mem_cons.mpr ⟨⟨(R_4, F_4, 11), rfl, Nat.le_of_ble_eq_true rfl, ⟨"EdgeHouse$Node", (m_gi1 203 rfl rfl), Or.inl rfl⟩, fun _ => rfl, m_n0 rfl⟩, (List.forall_mem_cons.mpr ⟨⟨(R_4, F_4, 11), rfl, Nat.le_of_ble_eq_true rfl, ⟨"EdgeHouse$Node", (m_gi1 205 rfl rfl), Or.inl rfl⟩, fun _ => rfl, m_n0 rfl⟩, (fun _ h => absurd h List.not_mem_nil)⟩)⟩)⟩)⟩)
set_option maxRecDepth 4000 in
theorem vc_155 : ∀ q ∈ M_155.2.2.2.2.2.2.1, m_cOk M_155.1 q := (List.forall_mem_cons.mpr ⟨⟨m_n0 rfl, m_n0 rfl, m_n0 rfl, fun _ => ⟨M_131, rfl, m_n0 rfl, m_n0 rfl, fun _ => ⟨(m_gi6 38 rfl rfl), (m_gi6 39 rfl rfl)⟩, m_n0 rfl⟩⟩, (List.forall_mem_cons.mpr ⟨⟨m_n0 rfl, m_n0 rfl, m_n0 rfl, fun _ => ⟨M_139, rfl, m_n0 rfl, fun _ => ⟨(m_gi6 71 rfl rfl), (m_gi6 72 rfl rfl), (R_4, F_4, 11), rfl, rfl, (m_gi6 73 rfl rfl)⟩, m_n0 rfl, m_n0 rfl⟩⟩, (fun _ h => absurd h List.not_mem_nil)⟩)⟩)
set_option maxRecDepth 4000 in
theorem vo_155 : ∀ q ∈ M_155.2.2.2.2.2.2.2.1, m_oOk M_155.1 q := (fun _ h => absurd h List.not_mem_nil)
set_option maxRecDepth 4000 in
theorem vk_155 : ∀ q ∈ M_155.2.2.2.2.2.2.2.2, decode M_155.2.1 q.1 = .ok (q.2.1, q.2.2) := by decide +kernel
set_option maxRecDepth 4000 in
theorem v_155 : m_mOk M_155 := ⟨(m_gi6 145 rfl rfl), (m_gi1 1 rfl rfl), by decide +kernel, ⟨by decide +kernel, by decide +kernel⟩, by decide +kernel, vf_155, vc_155, vo_155, vk_155⟩
set_option maxRecDepth 4000 in
theorem vf_156 : ∀ q ∈ M_156.2.2.2.2.2.1, m_fOk M_156.1 q := (List.forall_mem_cons.mpr ⟨⟨(R_0, F_0, 15), rfl, Nat.le_of_ble_eq_true rfl, ⟨"EdgeHouse", (m_gi2 4 rfl rfl), Or.inl rfl⟩, m_n0 rfl, m_n0 rfl⟩, (List.forall_mem_cons.mpr ⟨⟨(R_4, F_4, 11), rfl, Nat.le_of_ble_eq_true rfl, ⟨"EdgeHouse$Node", (m_gi1 196 rfl rfl), Or.inl rfl⟩, m_n0 rfl, m_n0 rfl⟩, (List.forall_mem_cons.mpr ⟨⟨(R_5, F_5, 3), rfl, Nat.le_of_ble_eq_true rfl, ⟨"EdgeHouse$Store", (m_gi1 183 rfl rfl), Or.inl rfl⟩, fun _ => rfl, m_n0 rfl⟩, (fun _ h => absurd h List.not_mem_nil)⟩)⟩)⟩)
set_option maxRecDepth 4000 in
theorem vc_156 : ∀ q ∈ M_156.2.2.2.2.2.2.1, m_cOk M_156.1 q := (List.forall_mem_cons.mpr ⟨⟨m_n0 rfl, m_n0 rfl, m_n0 rfl, fun _ => ⟨M_131, rfl, m_n0 rfl, m_n0 rfl, fun _ => ⟨(m_gi6 38 rfl rfl), (m_gi6 39 rfl rfl)⟩, m_n0 rfl⟩⟩, (List.forall_mem_cons.mpr ⟨⟨m_n0 rfl, m_n0 rfl, m_n0 rfl, fun _ => ⟨M_97, rfl, m_n0 rfl, fun _ => ⟨(m_gi6 150 rfl rfl), (m_gi4 165 rfl rfl), (R_5, F_5, 3), rfl, rfl, (m_gi4 166 rfl rfl)⟩, m_n0 rfl, m_n0 rfl⟩⟩, (fun _ h => absurd h List.not_mem_nil)⟩)⟩)
set_option maxRecDepth 4000 in
theorem vo_156 : ∀ q ∈ M_156.2.2.2.2.2.2.2.1, m_oOk M_156.1 q := (fun _ h => absurd h List.not_mem_nil)
set_option maxRecDepth 4000 in
theorem vk_156 : ∀ q ∈ M_156.2.2.2.2.2.2.2.2, decode M_156.2.1 q.1 = .ok (q.2.1, q.2.2) := by decide +kernel
set_option maxRecDepth 4000 in
theorem v_156 : m_mOk M_156 := ⟨(m_gi6 149 rfl rfl), (m_gi1 1 rfl rfl), by decide +kernel, ⟨by decide +kernel, by decide +kernel⟩, by decide +kernel, vf_156, vc_156, vo_156, vk_156⟩
set_option maxRecDepth 4000 in
theorem vf_157 : ∀ q ∈ M_157.2.2.2.2.2.1, m_fOk M_157.1 q := (List.forall_mem_cons.mpr ⟨⟨(R_0, F_0, 15), rfl, Nat.le_of_ble_eq_true rfl, ⟨"EdgeHouse", (m_gi2 9 rfl rfl), Or.inl rfl⟩, m_n0 rfl, m_n0 rfl⟩, (fun _ h => absurd h List.not_mem_nil)⟩)
set_option maxRecDepth 4000 in
theorem vc_157 : ∀ q ∈ M_157.2.2.2.2.2.2.1, m_cOk M_157.1 q := (List.forall_mem_cons.mpr ⟨⟨m_n0 rfl, m_n0 rfl, m_n0 rfl, fun _ => ⟨M_17, rfl, m_n0 rfl, fun _ => ⟨(m_gi2 67 rfl rfl), (m_gi2 68 rfl rfl), (R_2, F_2, 3), rfl, rfl, (m_gi2 69 rfl rfl)⟩, m_n0 rfl, m_n0 rfl⟩⟩, (List.forall_mem_cons.mpr ⟨⟨m_n0 rfl, m_n0 rfl, m_n0 rfl, fun _ => ⟨M_77, rfl, m_n0 rfl, fun _ => ⟨(m_gi6 127 rfl rfl), (m_gi4 78 rfl rfl), (R_2, F_2, 3), rfl, rfl, (m_gi4 79 rfl rfl)⟩, m_n0 rfl, m_n0 rfl⟩⟩, (List.forall_mem_cons.mpr ⟨⟨m_n0 rfl, m_n0 rfl, m_n0 rfl, fun _ => ⟨M_158, rfl, m_n0 rfl, fun _ => ⟨(m_gi6 155 rfl rfl), (m_gi6 157 rfl rfl), (R_0, F_0, 15), rfl, rfl, (m_gp 22 rfl rfl)⟩, m_n0 rfl, m_n0 rfl⟩⟩, (List.forall_mem_cons.mpr ⟨⟨m_n0 rfl, m_n0 rfl, m_n0 rfl, fun _ => ⟨M_24, rfl, m_n0 rfl, fun _ => ⟨(m_gi8 37 rfl rfl), (m_gi2 231 rfl rfl), (R_12, F_12, 4), rfl, rfl, (m_gi2 232 rfl rfl)⟩, m_n0 rfl, m_n0 rfl⟩⟩, (List.forall_mem_cons.mpr ⟨⟨m_n0 rfl, m_n0 rfl, m_n0 rfl, fun _ => ⟨M_26, rfl, m_n0 rfl, fun _ => ⟨(m_gi8 38 rfl rfl), (m_gi3 0 rfl rfl), (R_12, F_12, 4), rfl, rfl, (m_gi3 1 rfl rfl)⟩, m_n0 rfl, m_n0 rfl⟩⟩, (fun _ h => absurd h List.not_mem_nil)⟩)⟩)⟩)⟩)⟩)
set_option maxRecDepth 4000 in
theorem vo_157 : ∀ q ∈ M_157.2.2.2.2.2.2.2.1, m_oOk M_157.1 q := (List.forall_mem_cons.mpr ⟨⟨m_n0 rfl, m_n0 rfl, m_n0 rfl, m_n0 rfl, m_n0 rfl, m_n0 rfl, fun _ => ⟨(R_8, F_8, 14), rfl, (m_gi3 165 rfl rfl), (List.mem_filter.mpr ⟨m_in12 (List.mem_of_getElem? (i := 53) rfl), rfl⟩)⟩, Nat.le_of_ble_eq_true rfl⟩, (fun _ h => absurd h List.not_mem_nil)⟩)
set_option maxRecDepth 4000 in
theorem vk_157 : ∀ q ∈ M_157.2.2.2.2.2.2.2.2, decode M_157.2.1 q.1 = .ok (q.2.1, q.2.2) := by decide +kernel
set_option maxRecDepth 4000 in
theorem v_157 : m_mOk M_157 := ⟨(m_gi6 154 rfl rfl), (m_gi1 1 rfl rfl), by decide +kernel, ⟨by decide +kernel, by decide +kernel⟩, by decide +kernel, vf_157, vc_157, vo_157, vk_157⟩
set_option maxRecDepth 4000 in
theorem vf_158 : ∀ q ∈ M_158.2.2.2.2.2.1, m_fOk M_158.1 q := (List.forall_mem_cons.mpr ⟨⟨(R_0, F_0, 15), rfl, Nat.le_of_ble_eq_true rfl, ⟨"EdgeHouse", (m_gi2 10 rfl rfl), Or.inl rfl⟩, m_n0 rfl, m_n0 rfl⟩, (List.forall_mem_cons.mpr ⟨⟨(R_8, F_8, 14), rfl, Nat.le_of_ble_eq_true rfl, ⟨"EdgeHouse$Reply", (m_gi3 175 rfl rfl), Or.inl rfl⟩, fun _ => rfl, m_n0 rfl⟩, (List.forall_mem_cons.mpr ⟨⟨(R_8, F_8, 14), rfl, Nat.le_of_ble_eq_true rfl, ⟨"EdgeHouse$Reply", (m_gi3 191 rfl rfl), Or.inl rfl⟩, fun _ => rfl, m_n0 rfl⟩, (fun _ h => absurd h List.not_mem_nil)⟩)⟩)⟩)
set_option maxRecDepth 4000 in
theorem vc_158 : ∀ q ∈ M_158.2.2.2.2.2.2.1, m_cOk M_158.1 q := (List.forall_mem_cons.mpr ⟨⟨m_n0 rfl, m_n0 rfl, m_n0 rfl, fun _ => ⟨M_159, rfl, m_n0 rfl, fun _ => ⟨(m_gi6 159 rfl rfl), (m_gi6 160 rfl rfl), (R_12, F_12, 4), rfl, rfl, (m_gi6 161 rfl rfl)⟩, m_n0 rfl, m_n0 rfl⟩⟩, (List.forall_mem_cons.mpr ⟨⟨m_n0 rfl, m_n0 rfl, m_n0 rfl, fun _ => ⟨M_160, rfl, m_n0 rfl, fun _ => ⟨(m_gi6 163 rfl rfl), (m_gi6 164 rfl rfl), (R_3, F_3, 4), rfl, rfl, (m_gi6 165 rfl rfl)⟩, m_n0 rfl, m_n0 rfl⟩⟩, (List.forall_mem_cons.mpr ⟨⟨m_n0 rfl, m_n0 rfl, m_n0 rfl, fun _ => ⟨M_213, rfl, m_n0 rfl, fun _ => ⟨(m_gi7 226 rfl rfl), (m_gi7 227 rfl rfl), (R_8, F_8, 14), rfl, rfl, (m_gi7 228 rfl rfl)⟩, m_n0 rfl, m_n0 rfl⟩⟩, (List.forall_mem_cons.mpr ⟨⟨m_n0 rfl, m_n0 rfl, m_n0 rfl, fun _ => ⟨M_190, rfl, m_n0 rfl, fun _ => ⟨(m_gi8 36 rfl rfl), (m_gi7 50 rfl rfl), (R_3, F_3, 4), rfl, rfl, (m_gi7 51 rfl rfl)⟩, m_n0 rfl, m_n0 rfl⟩⟩, (fun _ h => absurd h List.not_mem_nil)⟩)⟩)⟩)⟩)
set_option maxRecDepth 4000 in
theorem vo_158 : ∀ q ∈ M_158.2.2.2.2.2.2.2.1, m_oOk M_158.1 q := (fun _ h => absurd h List.not_mem_nil)
set_option maxRecDepth 4000 in
theorem vk_158 : ∀ q ∈ M_158.2.2.2.2.2.2.2.2, decode M_158.2.1 q.1 = .ok (q.2.1, q.2.2) := by decide +kernel
set_option maxRecDepth 4000 in
theorem v_158 : m_mOk M_158 := ⟨(m_gi6 158 rfl rfl), (m_gi1 1 rfl rfl), by decide +kernel, ⟨by decide +kernel, by decide +kernel⟩, by decide +kernel, vf_158, vc_158, vo_158, vk_158⟩
set_option maxRecDepth 4000 in
theorem vf_159 : ∀ q ∈ M_159.2.2.2.2.2.1, m_fOk M_159.1 q := (List.forall_mem_cons.mpr ⟨⟨(R_12, F_12, 4), rfl, Nat.le_of_ble_eq_true rfl, ⟨"java/lang/String", (m_gi7 169 rfl rfl), Or.inl rfl⟩, m_n0 rfl, m_n0 rfl⟩, (fun _ h => absurd h List.not_mem_nil)⟩)
set_option maxRecDepth 4000 in
theorem vc_159 : ∀ q ∈ M_159.2.2.2.2.2.2.1, m_cOk M_159.1 q := (fun _ h => absurd h List.not_mem_nil)
set_option maxRecDepth 4000 in
theorem vo_159 : ∀ q ∈ M_159.2.2.2.2.2.2.2.1, m_oOk M_159.1 q := (fun _ h => absurd h List.not_mem_nil)
set_option maxRecDepth 4000 in
theorem vk_159 : ∀ q ∈ M_159.2.2.2.2.2.2.2.2, decode M_159.2.1 q.1 = .ok (q.2.1, q.2.2) := by decide +kernel
set_option maxRecDepth 4000 in
theorem v_159 : m_mOk M_159 := ⟨(m_gi6 162 rfl rfl), (m_gi1 8 rfl rfl), by decide +kernel, ⟨by decide +kernel, by decide +kernel⟩, by decide +kernel, vf_159, vc_159, vo_159, vk_159⟩
set_option maxRecDepth 4000 in
theorem vf_160 : ∀ q ∈ M_160.2.2.2.2.2.1, m_fOk M_160.1 q := (fun _ h => absurd h List.not_mem_nil)
set_option maxRecDepth 4000 in
theorem vc_160 : ∀ q ∈ M_160.2.2.2.2.2.2.1, m_cOk M_160.1 q := (fun _ h => absurd h List.not_mem_nil)
set_option maxRecDepth 4000 in
theorem vo_160 : ∀ q ∈ M_160.2.2.2.2.2.2.2.1, m_oOk M_160.1 q := (fun _ h => absurd h List.not_mem_nil)
set_option maxRecDepth 4000 in
theorem vk_160 : ∀ q ∈ M_160.2.2.2.2.2.2.2.2, decode M_160.2.1 q.1 = .ok (q.2.1, q.2.2) := by decide +kernel
set_option maxRecDepth 4000 in
theorem v_160 : m_mOk M_160 := ⟨(m_gi6 166 rfl rfl), (m_gi1 7 rfl rfl), by decide +kernel, ⟨by decide +kernel, by decide +kernel⟩, by decide +kernel, vf_160, vc_160, vo_160, vk_160⟩
set_option maxRecDepth 4000 in
theorem vf_161 : ∀ q ∈ M_161.2.2.2.2.2.1, m_fOk M_161.1 q := (List.forall_mem_cons.mpr ⟨⟨(R_3, F_3, 4), rfl, Nat.le_of_ble_eq_true rfl, ⟨"java/lang/AbstractStringBuilder", (m_gi1 150 rfl rfl), Or.inl rfl⟩, fun _ => rfl, m_n0 rfl⟩, (List.forall_mem_cons.mpr ⟨⟨(R_3, F_3, 4), rfl, Nat.le_of_ble_eq_true rfl, ⟨"java/lang/AbstractStringBuilder", (m_gi1 152 rfl rfl), Or.inl rfl⟩, fun _ => rfl, m_n0 rfl⟩, (List.forall_mem_cons.mpr ⟨⟨(R_3, F_3, 4), rfl, Nat.le_of_ble_eq_true rfl, ⟨"java/lang/AbstractStringBuilder", (m_gi1 154 rfl rfl), Or.inl rfl⟩, fun _ => rfl, m_n0 rfl⟩, (fun _ h => absurd h List.not_mem_nil)⟩)⟩)⟩)
set_option maxRecDepth 4000 in
theorem vc_161 : ∀ q ∈ M_161.2.2.2.2.2.2.1, m_cOk M_161.1 q := (List.forall_mem_cons.mpr ⟨⟨m_n0 rfl, m_n0 rfl, m_n0 rfl, fun _ => ⟨M_162, rfl, fun _ => ⟨rfl, rfl, (m_gi6 172 rfl rfl), (m_gi6 173 rfl rfl)⟩, m_n0 rfl, m_n0 rfl, m_n0 rfl⟩⟩, (List.forall_mem_cons.mpr ⟨⟨m_n0 rfl, m_n0 rfl, m_n0 rfl, fun _ => ⟨M_208, rfl, m_n0 rfl, m_n0 rfl, fun _ => ⟨(m_gi7 191 rfl rfl), (m_gi7 192 rfl rfl)⟩, m_n0 rfl⟩⟩, (List.forall_mem_cons.mpr ⟨⟨m_n0 rfl, m_n0 rfl, m_n0 rfl, fun _ => ⟨M_212, rfl, m_n0 rfl, m_n0 rfl, fun _ => ⟨(m_gi7 222 rfl rfl), (m_gi7 223 rfl rfl)⟩, m_n0 rfl⟩⟩, (fun _ h => absurd h List.not_mem_nil)⟩)⟩)⟩)
set_option maxRecDepth 4000 in
theorem vo_161 : ∀ q ∈ M_161.2.2.2.2.2.2.2.1, m_oOk M_161.1 q := (fun _ h => absurd h List.not_mem_nil)
set_option maxRecDepth 4000 in
theorem vk_161 : ∀ q ∈ M_161.2.2.2.2.2.2.2.2, decode M_161.2.1 q.1 = .ok (q.2.1, q.2.2) := by decide +kernel
set_option maxRecDepth 4000 in
theorem v_161 : m_mOk M_161 := ⟨(m_gi6 169 rfl rfl), (m_gi1 6 rfl rfl), by decide +kernel, ⟨by decide +kernel, by decide +kernel⟩, by decide +kernel, vf_161, vc_161, vo_161, vk_161⟩
set_option maxRecDepth 4000 in
theorem vf_162 : ∀ q ∈ M_162.2.2.2.2.2.1, m_fOk M_162.1 q := (fun _ h => absurd h List.not_mem_nil)
set_option maxRecDepth 4000 in
theorem vc_162 : ∀ q ∈ M_162.2.2.2.2.2.2.1, m_cOk M_162.1 q := (List.forall_mem_cons.mpr ⟨⟨m_n0 rfl, m_n0 rfl, m_n0 rfl, fun _ => ⟨M_207, rfl, fun _ => ⟨rfl, rfl, (m_gi7 180 rfl rfl), (m_gi7 181 rfl rfl)⟩, m_n0 rfl, m_n0 rfl, m_n0 rfl⟩⟩, (List.forall_mem_cons.mpr ⟨⟨m_n0 rfl, m_n0 rfl, m_n0 rfl, fun _ => ⟨M_5, rfl, fun _ => ⟨rfl, rfl, (m_gi6 176 rfl rfl), (m_gi1 135 rfl rfl)⟩, m_n0 rfl, m_n0 rfl, m_n0 rfl⟩⟩, (List.forall_mem_cons.mpr ⟨⟨m_n0 rfl, m_n0 rfl, m_n0 rfl, fun _ => ⟨M_163, rfl, m_n0 rfl, fun _ => ⟨(m_gi6 178 rfl rfl), (m_gi6 179 rfl rfl), (R_3, F_3, 4), rfl, rfl, (m_gi6 180 rfl rfl)⟩, m_n0 rfl, m_n0 rfl⟩⟩, (List.forall_mem_cons.mpr ⟨⟨m_n0 rfl, m_n0 rfl, m_n0 rfl, fun _ => ⟨M_184, rfl, m_n0 rfl, fun _ => ⟨(m_gi7 24 rfl rfl), (m_gi7 25 rfl rfl), (R_3, F_3, 4), rfl, rfl, (m_gi7 26 rfl rfl)⟩, m_n0 rfl, m_n0 rfl⟩⟩, (List.forall_mem_cons.mpr ⟨⟨m_n0 rfl, m_n0 rfl, m_n0 rfl, fun _ => ⟨M_190, rfl, m_n0 rfl, fun _ => ⟨(m_gi7 49 rfl rfl), (m_gi7 50 rfl rfl), (R_3, F_3, 4), rfl, rfl, (m_gi7 51 rfl rfl)⟩, m_n0 rfl, m_n0 rfl⟩⟩, (fun _ h => absurd h List.not_mem_nil)⟩)⟩)⟩)⟩)⟩)
set_option maxRecDepth 4000 in
theorem vo_162 : ∀ q ∈ M_162.2.2.2.2.2.2.2.1, m_oOk M_162.1 q := (List.forall_mem_cons.mpr ⟨⟨fun _ => ⟨(R_3, F_3, 4), rfl, (m_gi6 175 rfl rfl), (m_gi1 133 rfl rfl), (m_gi1 7 rfl rfl)⟩, m_n0 rfl, m_n0 rfl, m_n0 rfl, m_n0 rfl, m_n0 rfl, m_n0 rfl, Nat.le_of_ble_eq_true rfl⟩, (List.forall_mem_cons.mpr ⟨⟨m_n0 rfl, m_n0 rfl, m_n0 rfl, m_n0 rfl, m_n0 rfl, fun _ => ⟨_, List.mem_of_getElem? (i := 105) rfl⟩, m_n0 rfl, Nat.le_of_ble_eq_true rfl⟩, (fun _ h => absurd h List.not_mem_nil)⟩)⟩)
set_option maxRecDepth 4000 in
theorem vk_162 : ∀ q ∈ M_162.2.2.2.2.2.2.2.2, decode M_162.2.1 q.1 = .ok (q.2.1, q.2.2) := by decide +kernel
set_option maxRecDepth 4000 in
theorem v_162 : m_mOk M_162 := ⟨(m_gi6 174 rfl rfl), (m_gi1 34 rfl rfl), by decide +kernel, ⟨by decide +kernel, by decide +kernel⟩, by decide +kernel, vf_162, vc_162, vo_162, vk_162⟩
set_option maxRecDepth 4000 in
theorem vf_163 : ∀ q ∈ M_163.2.2.2.2.2.1, m_fOk M_163.1 q := (fun _ h => absurd h List.not_mem_nil)
set_option maxRecDepth 4000 in
theorem vc_163 : ∀ q ∈ M_163.2.2.2.2.2.2.1, m_cOk M_163.1 q := (fun _ h => absurd h List.not_mem_nil)
set_option maxRecDepth 4000 in
theorem vo_163 : ∀ q ∈ M_163.2.2.2.2.2.2.2.1, m_oOk M_163.1 q := (fun _ h => absurd h List.not_mem_nil)
set_option maxRecDepth 4000 in
theorem vk_163 : ∀ q ∈ M_163.2.2.2.2.2.2.2.2, decode M_163.2.1 q.1 = .ok (q.2.1, q.2.2) := by decide +kernel
set_option maxRecDepth 4000 in
theorem v_163 : m_mOk M_163 := ⟨(m_gi6 181 rfl rfl), (m_gi1 7 rfl rfl), by decide +kernel, ⟨by decide +kernel, by decide +kernel⟩, by decide +kernel, vf_163, vc_163, vo_163, vk_163⟩
set_option maxRecDepth 4000 in
theorem vf_164 : ∀ q ∈ M_164.2.2.2.2.2.1, m_fOk M_164.1 q := (List.forall_mem_cons.mpr ⟨⟨(R_3, F_3, 4), rfl, Nat.le_of_ble_eq_true rfl, ⟨"java/lang/AbstractStringBuilder", (m_gi1 154 rfl rfl), Or.inl rfl⟩, fun _ => rfl, m_n0 rfl⟩, (fun _ h => absurd h List.not_mem_nil)⟩)
set_option maxRecDepth 4000 in
theorem vc_164 : ∀ q ∈ M_164.2.2.2.2.2.2.1, m_cOk M_164.1 q := (List.forall_mem_cons.mpr ⟨⟨m_n0 rfl, m_n0 rfl, m_n0 rfl, fun _ => ⟨M_24, rfl, m_n0 rfl, fun _ => ⟨(m_gi6 229 rfl rfl), (m_gi2 231 rfl rfl), (R_12, F_12, 4), rfl, rfl, (m_gi2 232 rfl rfl)⟩, m_n0 rfl, m_n0 rfl⟩⟩, (fun _ h => absurd h List.not_mem_nil)⟩)
set_option maxRecDepth 4000 in
theorem vo_164 : ∀ q ∈ M_164.2.2.2.2.2.2.2.1, m_oOk M_164.1 q := (fun _ h => absurd h List.not_mem_nil)
set_option maxRecDepth 4000 in
theorem vk_164 : ∀ q ∈ M_164.2.2.2.2.2.2.2.2, decode M_164.2.1 q.1 = .ok (q.2.1, q.2.2) := by decide +kernel
set_option maxRecDepth 4000 in
theorem v_164 : m_mOk M_164 := ⟨(m_gi6 184 rfl rfl), (m_gi1 6 rfl rfl), by decide +kernel, ⟨by decide +kernel, by decide +kernel⟩, by decide +kernel, vf_164, vc_164, vo_164, vk_164⟩
set_option maxRecDepth 4000 in
theorem vf_165 : ∀ q ∈ M_165.2.2.2.2.2.1, m_fOk M_165.1 q := (List.forall_mem_cons.mpr ⟨⟨(R_3, F_3, 4), rfl, Nat.le_of_ble_eq_true rfl, ⟨"java/lang/AbstractStringBuilder", (m_gi1 150 rfl rfl), Or.inl rfl⟩, fun _ => rfl, m_n0 rfl⟩, (List.forall_mem_cons.mpr ⟨⟨(R_3, F_3, 4), rfl, Nat.le_of_ble_eq_true rfl, ⟨"java/lang/AbstractStringBuilder", (m_gi1 154 rfl rfl), Or.inl rfl⟩, fun _ => rfl, m_n0 rfl⟩, (fun _ h => absurd h List.not_mem_nil)⟩)⟩)
set_option maxRecDepth 4000 in
theorem vc_165 : ∀ q ∈ M_165.2.2.2.2.2.2.1, m_cOk M_165.1 q := (List.forall_mem_cons.mpr ⟨⟨m_n0 rfl, m_n0 rfl, m_n0 rfl, fun _ => ⟨M_170, rfl, m_n0 rfl, m_n0 rfl, fun _ => ⟨(m_gi6 214 rfl rfl), (m_gi6 215 rfl rfl)⟩, m_n0 rfl⟩⟩, (fun _ h => absurd h List.not_mem_nil)⟩)
set_option maxRecDepth 4000 in
theorem vo_165 : ∀ q ∈ M_165.2.2.2.2.2.2.2.1, m_oOk M_165.1 q := (fun _ h => absurd h List.not_mem_nil)
set_option maxRecDepth 4000 in
theorem vk_165 : ∀ q ∈ M_165.2.2.2.2.2.2.2.2, decode M_165.2.1 q.1 = .ok (q.2.1, q.2.2) := by decide +kernel
set_option maxRecDepth 4000 in
theorem v_165 : m_mOk M_165 := ⟨(m_gi6 188 rfl rfl), (m_gi1 6 rfl rfl), by decide +kernel, ⟨by decide +kernel, by decide +kernel⟩, by decide +kernel, vf_165, vc_165, vo_165, vk_165⟩
set_option maxRecDepth 4000 in
theorem vf_166 : ∀ q ∈ M_166.2.2.2.2.2.1, m_fOk M_166.1 q := (List.forall_mem_cons.mpr ⟨⟨(R_3, F_3, 4), rfl, Nat.le_of_ble_eq_true rfl, ⟨"java/lang/AbstractStringBuilder", (m_gi1 150 rfl rfl), Or.inl rfl⟩, fun _ => rfl, m_n0 rfl⟩, (List.forall_mem_cons.mpr ⟨⟨(R_3, F_3, 4), rfl, Nat.le_of_ble_eq_true rfl, ⟨"java/lang/AbstractStringBuilder", (m_gi1 151 rfl rfl), Or.inl rfl⟩, fun _ => rfl, m_n0 rfl⟩, (fun _ h => absurd h List.not_mem_nil)⟩)⟩)
set_option maxRecDepth 4000 in
theorem vc_166 : ∀ q ∈ M_166.2.2.2.2.2.2.1, m_cOk M_166.1 q := (List.forall_mem_cons.mpr ⟨⟨m_n0 rfl, m_n0 rfl, m_n0 rfl, fun _ => ⟨M_168, rfl, m_n0 rfl, m_n0 rfl, fun _ => ⟨(m_gi6 199 rfl rfl), (m_gi6 200 rfl rfl)⟩, m_n0 rfl⟩⟩, (fun _ h => absurd h List.not_mem_nil)⟩)
set_option maxRecDepth 4000 in
theorem vo_166 : ∀ q ∈ M_166.2.2.2.2.2.2.2.1, m_oOk M_166.1 q := (fun _ h => absurd h List.not_mem_nil)
set_option maxRecDepth 4000 in
theorem vk_166 : ∀ q ∈ M_166.2.2.2.2.2.2.2.2, decode M_166.2.1 q.1 = .ok (q.2.1, q.2.2) := by decide +kernel
set_option maxRecDepth 4000 in
theorem v_166 : m_mOk M_166 := ⟨(m_gi6 192 rfl rfl), (m_gi1 6 rfl rfl), by decide +kernel, ⟨by decide +kernel, by decide +kernel⟩, by decide +kernel, vf_166, vc_166, vo_166, vk_166⟩
set_option maxRecDepth 4000 in
theorem vf_167 : ∀ q ∈ M_167.2.2.2.2.2.1, m_fOk M_167.1 q := (List.forall_mem_cons.mpr ⟨⟨(R_3, F_3, 4), rfl, Nat.le_of_ble_eq_true rfl, ⟨"java/lang/AbstractStringBuilder", (m_gi1 150 rfl rfl), Or.inl rfl⟩, fun _ => rfl, m_n0 rfl⟩, (List.forall_mem_cons.mpr ⟨⟨(R_3, F_3, 4), rfl, Nat.le_of_ble_eq_true rfl, ⟨"java/lang/AbstractStringBuilder", (m_gi1 151 rfl rfl), Or.inl rfl⟩, fun _ => rfl, m_n0 rfl⟩, (fun _ h => absurd h List.not_mem_nil)⟩)⟩)
set_option maxRecDepth 4000 in
theorem vc_167 : ∀ q ∈ M_167.2.2.2.2.2.2.1, m_cOk M_167.1 q := (List.forall_mem_cons.mpr ⟨⟨m_n0 rfl, m_n0 rfl, m_n0 rfl, fun _ => ⟨M_66, rfl, m_n0 rfl, m_n0 rfl, fun _ => ⟨(m_gi6 197 rfl rfl), (m_gi3 238 rfl rfl)⟩, m_n0 rfl⟩⟩, (fun _ h => absurd h List.not_mem_nil)⟩)
set_option maxRecDepth 4000 in
theorem vo_167 : ∀ q ∈ M_167.2.2.2.2.2.2.2.1, m_oOk M_167.1 q := (List.forall_mem_cons.mpr ⟨⟨m_n0 rfl, m_n0 rfl, fun _ => ⟨_, rfl, (m_gi6 198 rfl rfl)⟩, m_n0 rfl, m_n0 rfl, m_n0 rfl, m_n0 rfl, Nat.le_of_ble_eq_true rfl⟩, (fun _ h => absurd h List.not_mem_nil)⟩)
set_option maxRecDepth 4000 in
theorem vk_167 : ∀ q ∈ M_167.2.2.2.2.2.2.2.2, decode M_167.2.1 q.1 = .ok (q.2.1, q.2.2) := by decide +kernel
set_option maxRecDepth 4000 in
theorem v_167 : m_mOk M_167 := ⟨(m_gi6 196 rfl rfl), (m_gi1 6 rfl rfl), by decide +kernel, ⟨by decide +kernel, by decide +kernel⟩, by decide +kernel, vf_167, vc_167, vo_167, vk_167⟩
set_option maxRecDepth 4000 in
theorem vf_168 : ∀ q ∈ M_168.2.2.2.2.2.1, m_fOk M_168.1 q := (fun _ h => absurd h List.not_mem_nil)
set_option maxRecDepth 4000 in
theorem vc_168 : ∀ q ∈ M_168.2.2.2.2.2.2.1, m_cOk M_168.1 q := (List.forall_mem_cons.mpr ⟨⟨m_n0 rfl, m_n0 rfl, fun _ => (m_gi4 40 rfl rfl), m_n1 rfl⟩, (fun _ h => absurd h List.not_mem_nil)⟩)
set_option maxRecDepth 4000 in
theorem vo_168 : ∀ q ∈ M_168.2.2.2.2.2.2.2.1, m_oOk M_168.1 q := (fun _ h => absurd h List.not_mem_nil)
set_option maxRecDepth 4000 in
theorem vk_168 : ∀ q ∈ M_168.2.2.2.2.2.2.2.2, decode M_168.2.1 q.1 = .ok (q.2.1, q.2.2) := by decide +kernel
set_option maxRecDepth 4000 in
theorem v_168 : m_mOk M_168 := ⟨(m_gi6 201 rfl rfl), (m_gi1 25 rfl rfl), by decide +kernel, ⟨by decide +kernel, by decide +kernel⟩, by decide +kernel, vf_168, vc_168, vo_168, vk_168⟩
set_option maxRecDepth 4000 in
theorem vf_169 : ∀ q ∈ M_169.2.2.2.2.2.1, m_fOk M_169.1 q := (List.forall_mem_cons.mpr ⟨⟨(R_3, F_3, 4), rfl, Nat.le_of_ble_eq_true rfl, ⟨"java/lang/AbstractStringBuilder", (m_gi1 151 rfl rfl), Or.inl rfl⟩, fun _ => rfl, m_n0 rfl⟩, (fun _ h => absurd h List.not_mem_nil)⟩)
set_option maxRecDepth 4000 in
theorem vc_169 : ∀ q ∈ M_169.2.2.2.2.2.2.1, m_cOk M_169.1 q := (fun _ h => absurd h List.not_mem_nil)
set_option maxRecDepth 4000 in
theorem vo_169 : ∀ q ∈ M_169.2.2.2.2.2.2.2.1, m_oOk M_169.1 q := (List.forall_mem_cons.mpr ⟨⟨m_n0 rfl, m_n0 rfl, m_n0 rfl, m_n0 rfl, fun _ => ⟨"java/lang/String", "COMPACT_STRINGS", "Z", by decide, (m_gi1 141 rfl rfl)⟩, m_n0 rfl, m_n0 rfl, Nat.le_of_ble_eq_true rfl⟩, (fun _ h => absurd h List.not_mem_nil)⟩)
set_option maxRecDepth 4000 in
theorem vk_169 : ∀ q ∈ M_169.2.2.2.2.2.2.2.2, decode M_169.2.1 q.1 = .ok (q.2.1, q.2.2) := by decide +kernel
set_option maxRecDepth 4000 in
theorem v_169 : m_mOk M_169 := ⟨(m_gi6 213 rfl rfl), (m_gi1 6 rfl rfl), by decide +kernel, ⟨by decide +kernel, by decide +kernel⟩, by decide +kernel, vf_169, vc_169, vo_169, vk_169⟩
set_option maxRecDepth 4000 in
theorem vf_170 : ∀ q ∈ M_170.2.2.2.2.2.1, m_fOk M_170.1 q := (fun _ h => absurd h List.not_mem_nil)
set_option maxRecDepth 4000 in
theorem vc_170 : ∀ q ∈ M_170.2.2.2.2.2.2.1, m_cOk M_170.1 q := (List.forall_mem_cons.mpr ⟨⟨m_n0 rfl, m_n0 rfl, m_n0 rfl, fun _ => ⟨M_171, rfl, m_n0 rfl, m_n0 rfl, fun _ => ⟨(m_gi6 217 rfl rfl), (m_gi6 218 rfl rfl)⟩, m_n0 rfl⟩⟩, (List.forall_mem_cons.mpr ⟨⟨m_n0 rfl, m_n0 rfl, m_n0 rfl, fun _ => ⟨M_174, rfl, m_n0 rfl, m_n0 rfl, fun _ => ⟨(m_gi6 226 rfl rfl), (m_gi6 227 rfl rfl)⟩, m_n0 rfl⟩⟩, (fun _ h => absurd h List.not_mem_nil)⟩)⟩)
set_option maxRecDepth 4000 in
theorem vo_170 : ∀ q ∈ M_170.2.2.2.2.2.2.2.1, m_oOk M_170.1 q := (List.forall_mem_cons.mpr ⟨⟨m_n0 rfl, m_n0 rfl, m_n0 rfl, m_n0 rfl, fun _ => ⟨"java/lang/StringUTF16", "$assertionsDisabled", "Z", by decide, (m_gi3 31 rfl rfl)⟩, m_n0 rfl, m_n0 rfl, Nat.le_of_ble_eq_true rfl⟩, (fun _ h => absurd h List.not_mem_nil)⟩)
set_option maxRecDepth 4000 in
theorem vk_170 : ∀ q ∈ M_170.2.2.2.2.2.2.2.2, decode M_170.2.1 q.1 = .ok (q.2.1, q.2.2) := by decide +kernel
set_option maxRecDepth 4000 in
theorem v_170 : m_mOk M_170 := ⟨(m_gi6 216 rfl rfl), (m_gi1 9 rfl rfl), by decide +kernel, ⟨by decide +kernel, by decide +kernel⟩, by decide +kernel, vf_170, vc_170, vo_170, vk_170⟩
set_option maxRecDepth 4000 in
theorem vf_171 : ∀ q ∈ M_171.2.2.2.2.2.1, m_fOk M_171.1 q := (fun _ h => absurd h List.not_mem_nil)
set_option maxRecDepth 4000 in
theorem vc_171 : ∀ q ∈ M_171.2.2.2.2.2.2.1, m_cOk M_171.1 q := (List.forall_mem_cons.mpr ⟨⟨m_n0 rfl, m_n0 rfl, m_n0 rfl, fun _ => ⟨M_33, rfl, m_n0 rfl, m_n0 rfl, fun _ => ⟨(m_gi3 24 rfl rfl), (m_gi3 25 rfl rfl)⟩, m_n0 rfl⟩⟩, (List.forall_mem_cons.mpr ⟨⟨m_n0 rfl, m_n0 rfl, m_n0 rfl, fun _ => ⟨M_172, rfl, m_n0 rfl, m_n0 rfl, fun _ => ⟨(m_gi6 220 rfl rfl), (m_gi6 221 rfl rfl)⟩, m_n0 rfl⟩⟩, (fun _ h => absurd h List.not_mem_nil)⟩)⟩)
set_option maxRecDepth 4000 in
theorem vo_171 : ∀ q ∈ M_171.2.2.2.2.2.2.2.1, m_oOk M_171.1 q := (fun _ h => absurd h List.not_mem_nil)
set_option maxRecDepth 4000 in
theorem vk_171 : ∀ q ∈ M_171.2.2.2.2.2.2.2.2, decode M_171.2.1 q.1 = .ok (q.2.1, q.2.2) := by decide +kernel
set_option maxRecDepth 4000 in
theorem v_171 : m_mOk M_171 := ⟨(m_gi6 219 rfl rfl), (m_gi1 9 rfl rfl), by decide +kernel, ⟨by decide +kernel, by decide +kernel⟩, by decide +kernel, vf_171, vc_171, vo_171, vk_171⟩
set_option maxRecDepth 4000 in
theorem vf_172 : ∀ q ∈ M_172.2.2.2.2.2.1, m_fOk M_172.1 q := (fun _ h => absurd h List.not_mem_nil)
set_option maxRecDepth 4000 in
theorem vc_172 : ∀ q ∈ M_172.2.2.2.2.2.2.1, m_cOk M_172.1 q := (List.forall_mem_cons.mpr ⟨⟨m_n0 rfl, m_n0 rfl, m_n0 rfl, fun _ => ⟨M_173, rfl, m_n0 rfl, m_n0 rfl, fun _ => ⟨(m_gi6 223 rfl rfl), (m_gi6 224 rfl rfl)⟩, m_n0 rfl⟩⟩, (fun _ h => absurd h List.not_mem_nil)⟩)
set_option maxRecDepth 4000 in
theorem vo_172 : ∀ q ∈ M_172.2.2.2.2.2.2.2.1, m_oOk M_172.1 q := (List.forall_mem_cons.mpr ⟨⟨m_n0 rfl, m_n0 rfl, m_n0 rfl, m_n0 rfl, fun _ => ⟨"jdk/internal/util/Preconditions", "SIOOBE_FORMATTER", "Ljava/util/function/BiFunction;", by decide, (m_gi3 13 rfl rfl)⟩, m_n0 rfl, m_n0 rfl, Nat.le_of_ble_eq_true rfl⟩, (fun _ h => absurd h List.not_mem_nil)⟩)
set_option maxRecDepth 4000 in
theorem vk_172 : ∀ q ∈ M_172.2.2.2.2.2.2.2.2, decode M_172.2.1 q.1 = .ok (q.2.1, q.2.2) := by decide +kernel
set_option maxRecDepth 4000 in
theorem v_172 : m_mOk M_172 := ⟨(m_gi6 222 rfl rfl), (m_gi1 8 rfl rfl), by decide +kernel, ⟨by decide +kernel, by decide +kernel⟩, by decide +kernel, vf_172, vc_172, vo_172, vk_172⟩
set_option maxRecDepth 4000 in
theorem vf_173 : ∀ q ∈ M_173.2.2.2.2.2.1, m_fOk M_173.1 q := (fun _ h => absurd h List.not_mem_nil)
set_option maxRecDepth 4000 in
theorem vc_173 : ∀ q ∈ M_173.2.2.2.2.2.2.1, m_cOk M_173.1 q := (fun _ h => absurd h List.not_mem_nil)
set_option maxRecDepth 4000 in
theorem vo_173 : ∀ q ∈ M_173.2.2.2.2.2.2.2.1, m_oOk M_173.1 q := (fun _ h => absurd h List.not_mem_nil)
set_option maxRecDepth 4000 in
theorem vk_173 : ∀ q ∈ M_173.2.2.2.2.2.2.2.2, decode M_173.2.1 q.1 = .ok (q.2.1, q.2.2) := by decide +kernel
set_option maxRecDepth 4000 in
theorem v_173 : m_mOk M_173 := ⟨(m_gi6 225 rfl rfl), (m_gi1 15 rfl rfl), by decide +kernel, ⟨by decide +kernel, by decide +kernel⟩, by decide +kernel, vf_173, vc_173, vo_173, vk_173⟩
set_option maxRecDepth 4000 in
theorem vf_174 : ∀ q ∈ M_174.2.2.2.2.2.1, m_fOk M_174.1 q := (fun _ h => absurd h List.not_mem_nil)
set_option maxRecDepth 4000 in
theorem vc_174 : ∀ q ∈ M_174.2.2.2.2.2.2.1, m_cOk M_174.1 q := (List.forall_mem_cons.mpr ⟨⟨m_n0 rfl, m_n0 rfl, m_n0 rfl, fun _ => ⟨M_33, rfl, m_n0 rfl, m_n0 rfl, fun _ => ⟨(m_gi3 24 rfl rfl), (m_gi3 25 rfl rfl)⟩, m_n0 rfl⟩⟩, (fun _ h => absurd h List.not_mem_nil)⟩)
set_option maxRecDepth 4000 in
theorem vo_174 : ∀ q ∈ M_174.2.2.2.2.2.2.2.1, m_oOk M_174.1 q := (List.forall_mem_cons.mpr ⟨⟨m_n0 rfl, m_n0 rfl, m_n0 rfl, m_n0 rfl, fun _ => ⟨"java/lang/StringUTF16", "$assertionsDisabled", "Z", by decide, (m_gi3 31 rfl rfl)⟩, m_n0 rfl, m_n0 rfl, Nat.le_of_ble_eq_true rfl⟩, (List.forall_mem_cons.mpr ⟨⟨m_n0 rfl, m_n0 rfl, m_n0 rfl, m_n0 rfl, fun _ => ⟨"java/lang/StringUTF16", "HI_BYTE_SHIFT", "I", by decide, (m_gi3 33 rfl rfl)⟩, m_n0 rfl, m_n0 rfl, Nat.le_of_ble_eq_true rfl⟩, (List.forall_mem_cons.mpr ⟨⟨m_n0 rfl, m_n0 rfl, m_n0 rfl, m_n0 rfl, fun _ => ⟨"java/lang/StringUTF16", "LO_BYTE_SHIFT", "I", by decide, (m_gi3 35 rfl rfl)⟩, m_n0 rfl, m_n0 rfl, Nat.le_of_ble_eq_true rfl⟩, (fun _ h => absurd h List.not_mem_nil)⟩)⟩)⟩)
set_option maxRecDepth 4000 in
theorem vk_174 : ∀ q ∈ M_174.2.2.2.2.2.2.2.2, decode M_174.2.1 q.1 = .ok (q.2.1, q.2.2) := by decide +kernel
set_option maxRecDepth 4000 in
theorem v_174 : m_mOk M_174 := ⟨(m_gi6 228 rfl rfl), (m_gi1 9 rfl rfl), by decide +kernel, ⟨by decide +kernel, by decide +kernel⟩, by decide +kernel, vf_174, vc_174, vo_174, vk_174⟩
set_option maxRecDepth 4000 in
theorem vf_175 : ∀ q ∈ M_175.2.2.2.2.2.1, m_fOk M_175.1 q := (List.forall_mem_cons.mpr ⟨⟨(R_3, F_3, 4), rfl, Nat.le_of_ble_eq_true rfl, ⟨"java/lang/AbstractStringBuilder", (m_gi1 150 rfl rfl), Or.inl rfl⟩, fun _ => rfl, m_n0 rfl⟩, (List.forall_mem_cons.mpr ⟨⟨(R_3, F_3, 4), rfl, Nat.le_of_ble_eq_true rfl, ⟨"java/lang/AbstractStringBuilder", (m_gi1 151 rfl rfl), Or.inl rfl⟩, fun _ => rfl, m_n0 rfl⟩, (fun _ h => absurd h List.not_mem_nil)⟩)⟩)
set_option maxRecDepth 4000 in
theorem vc_175 : ∀ q ∈ M_175.2.2.2.2.2.2.1, m_cOk M_175.1 q := (List.forall_mem_cons.mpr ⟨⟨m_n0 rfl, m_n0 rfl, m_n0 rfl, fun _ => ⟨M_183, rfl, m_n0 rfl, fun _ => ⟨(m_gi7 18 rfl rfl), (m_gi7 19 rfl rfl), (R_12, F_12, 4), rfl, rfl, (m_gi7 20 rfl rfl)⟩, m_n0 rfl, m_n0 rfl⟩⟩, (fun _ h => absurd h List.not_mem_nil)⟩)
set_option maxRecDepth 4000 in
theorem vo_175 : ∀ q ∈ M_175.2.2.2.2.2.2.2.1, m_oOk M_175.1 q := (fun _ h => absurd h List.not_mem_nil)
set_option maxRecDepth 4000 in
theorem vk_175 : ∀ q ∈ M_175.2.2.2.2.2.2.2.2, decode M_175.2.1 q.1 = .ok (q.2.1, q.2.2) := by decide +kernel
set_option maxRecDepth 4000 in
theorem v_175 : m_mOk M_175 := ⟨(m_gi6 233 rfl rfl), (m_gi1 6 rfl rfl), by decide +kernel, ⟨by decide +kernel, by decide +kernel⟩, by decide +kernel, vf_175, vc_175, vo_175, vk_175⟩
set_option maxRecDepth 4000 in
theorem vf_176 : ∀ q ∈ M_176.2.2.2.2.2.1, m_fOk M_176.1 q := (List.forall_mem_cons.mpr ⟨⟨(R_3, F_3, 4), rfl, Nat.le_of_ble_eq_true rfl, ⟨"java/lang/AbstractStringBuilder", (m_gi1 151 rfl rfl), Or.inl rfl⟩, fun _ => rfl, m_n0 rfl⟩, (fun _ h => absurd h List.not_mem_nil)⟩)
set_option maxRecDepth 4000 in
theorem vc_176 : ∀ q ∈ M_176.2.2.2.2.2.2.1, m_cOk M_176.1 q := (List.forall_mem_cons.mpr ⟨⟨m_n0 rfl, m_n0 rfl, m_n0 rfl, fun _ => ⟨M_25, rfl, m_n0 rfl, fun _ => ⟨(m_gi6 238 rfl rfl), (m_gi2 235 rfl rfl), (R_12, F_12, 4), rfl, rfl, (m_gi2 236 rfl rfl)⟩, m_n0 rfl, m_n0 rfl⟩⟩, (fun _ h => absurd h List.not_mem_nil)⟩)
set_option maxRecDepth 4000 in
theorem vo_176 : ∀ q ∈ M_176.2.2.2.2.2.2.2.1, m_oOk M_176.1 q := (List.forall_mem_cons.mpr ⟨⟨m_n0 rfl, m_n0 rfl, m_n0 rfl, m_n0 rfl, fun _ => ⟨"java/lang/String", "COMPACT_STRINGS", "Z", by decide, (m_gi1 141 rfl rfl)⟩, m_n0 rfl, m_n0 rfl, Nat.le_of_ble_eq_true rfl⟩, (fun _ h => absurd h List.not_mem_nil)⟩)
set_option maxRecDepth 4000 in
theorem vk_176 : ∀ q ∈ M_176.2.2.2.2.2.2.2.2, decode M_176.2.1 q.1 = .ok (q.2.1, q.2.2) := by decide +kernel
set_option maxRecDepth 4000 in
theorem v_176 : m_mOk M_176 := ⟨(m_gi6 237 rfl rfl), (m_gi1 6 rfl rfl), by decide +kernel, ⟨by decide +kernel, by decide +kernel⟩, by decide +kernel, vf_176, vc_176, vo_176, vk_176⟩
set_option maxRecDepth 4000 in
theorem vf_177 : ∀ q ∈ M_177.2.2.2.2.2.1, m_fOk M_177.1 q := (List.forall_mem_cons.mpr ⟨⟨(R_3, F_3, 4), rfl, Nat.le_of_ble_eq_true rfl, ⟨"java/lang/AbstractStringBuilder", (m_gi1 150 rfl rfl), Or.inl rfl⟩, fun _ => rfl, m_n0 rfl⟩, (List.forall_mem_cons.mpr ⟨⟨(R_3, F_3, 4), rfl, Nat.le_of_ble_eq_true rfl, ⟨"java/lang/AbstractStringBuilder", (m_gi1 151 rfl rfl), Or.inl rfl⟩, fun _ => rfl, m_n0 rfl⟩, (List.forall_mem_cons.mpr ⟨⟨(R_3, F_3, 4), rfl, Nat.le_of_ble_eq_true rfl, ⟨"java/lang/AbstractStringBuilder", (m_gi1 154 rfl rfl), Or.inl rfl⟩, fun _ => rfl, m_n0 rfl⟩, (fun _ h => absurd h List.not_mem_nil)⟩)⟩)⟩)
set_option maxRecDepth 4000 in
theorem vc_177 : ∀ q ∈ M_177.2.2.2.2.2.2.1, m_cOk M_177.1 q := (List.forall_mem_cons.mpr ⟨⟨m_n0 rfl, m_n0 rfl, m_n0 rfl, fun _ => ⟨M_7, rfl, m_n0 rfl, m_n0 rfl, fun _ => ⟨(m_gi1 143 rfl rfl), (m_gi1 144 rfl rfl)⟩, m_n0 rfl⟩⟩, (List.forall_mem_cons.mpr ⟨⟨m_n0 rfl, m_n0 rfl, m_n0 rfl, fun _ => ⟨M_178, rfl, m_n0 rfl, m_n0 rfl, fun _ => ⟨(m_gi7 3 rfl rfl), (m_gi7 4 rfl rfl)⟩, m_n0 rfl⟩⟩, (fun _ h => absurd h List.not_mem_nil)⟩)⟩)
set_option maxRecDepth 4000 in
theorem vo_177 : ∀ q ∈ M_177.2.2.2.2.2.2.2.1, m_oOk M_177.1 q := (fun _ h => absurd h List.not_mem_nil)
set_option maxRecDepth 4000 in
theorem vk_177 : ∀ q ∈ M_177.2.2.2.2.2.2.2.2, decode M_177.2.1 q.1 = .ok (q.2.1, q.2.2) := by decide +kernel
set_option maxRecDepth 4000 in
theorem v_177 : m_mOk M_177 := ⟨(m_gi7 2 rfl rfl), (m_gi1 6 rfl rfl), by decide +kernel, ⟨by decide +kernel, by decide +kernel⟩, by decide +kernel, vf_177, vc_177, vo_177, vk_177⟩
set_option maxRecDepth 4000 in
theorem vf_178 : ∀ q ∈ M_178.2.2.2.2.2.1, m_fOk M_178.1 q := (fun _ h => absurd h List.not_mem_nil)
set_option maxRecDepth 4000 in
theorem vc_178 : ∀ q ∈ M_178.2.2.2.2.2.2.1, m_cOk M_178.1 q := (List.forall_mem_cons.mpr ⟨⟨m_n0 rfl, m_n0 rfl, m_n0 rfl, fun _ => ⟨M_179, rfl, m_n0 rfl, m_n0 rfl, fun _ => ⟨(m_gi7 6 rfl rfl), (m_gi7 7 rfl rfl)⟩, m_n0 rfl⟩⟩, (fun _ h => absurd h List.not_mem_nil)⟩)
set_option maxRecDepth 4000 in
theorem vo_178 : ∀ q ∈ M_178.2.2.2.2.2.2.2.1, m_oOk M_178.1 q := (fun _ h => absurd h List.not_mem_nil)
set_option maxRecDepth 4000 in
theorem vk_178 : ∀ q ∈ M_178.2.2.2.2.2.2.2.2, decode M_178.2.1 q.1 = .ok (q.2.1, q.2.2) := by decide +kernel
set_option maxRecDepth 4000 in
theorem v_178 : m_mOk M_178 := ⟨(m_gi7 5 rfl rfl), (m_gi1 14 rfl rfl), by decide +kernel, ⟨by decide +kernel, by decide +kernel⟩, by decide +kernel, vf_178, vc_178, vo_178, vk_178⟩
set_option maxRecDepth 4000 in
theorem vf_179 : ∀ q ∈ M_179.2.2.2.2.2.1, m_fOk M_179.1 q := (fun _ h => absurd h List.not_mem_nil)
set_option maxRecDepth 4000 in
theorem vc_179 : ∀ q ∈ M_179.2.2.2.2.2.2.1, m_cOk M_179.1 q := (List.forall_mem_cons.mpr ⟨⟨m_n0 rfl, m_n0 rfl, m_n0 rfl, fun _ => ⟨M_174, rfl, m_n0 rfl, m_n0 rfl, fun _ => ⟨(m_gi6 226 rfl rfl), (m_gi6 227 rfl rfl)⟩, m_n0 rfl⟩⟩, (List.forall_mem_cons.mpr ⟨⟨m_n0 rfl, m_n0 rfl, m_n0 rfl, fun _ => ⟨M_180, rfl, m_n0 rfl, m_n0 rfl, fun _ => ⟨(m_gi7 9 rfl rfl), (m_gi7 10 rfl rfl)⟩, m_n0 rfl⟩⟩, (fun _ h => absurd h List.not_mem_nil)⟩)⟩)
set_option maxRecDepth 4000 in
theorem vo_179 : ∀ q ∈ M_179.2.2.2.2.2.2.2.1, m_oOk M_179.1 q := (fun _ h => absurd h List.not_mem_nil)
set_option maxRecDepth 4000 in
theorem vk_179 : ∀ q ∈ M_179.2.2.2.2.2.2.2.2, decode M_179.2.1 q.1 = .ok (q.2.1, q.2.2) := by decide +kernel
set_option maxRecDepth 4000 in
theorem v_179 : m_mOk M_179 := ⟨(m_gi7 8 rfl rfl), (m_gi1 9 rfl rfl), by decide +kernel, ⟨by decide +kernel, by decide +kernel⟩, by decide +kernel, vf_179, vc_179, vo_179, vk_179⟩
