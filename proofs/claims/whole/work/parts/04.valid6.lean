set_option maxRecDepth 4000 in
theorem vf_300 : ∀ q ∈ M_300.2.2.2.2.2.1, m_fOk M_300.1 q := (List.forall_mem_cons.mpr ⟨⟨(R_14, F_14, 92), rfl, Nat.le_of_ble_eq_true rfl, ⟨"EdgeHouseModel", (m_gi9 42 rfl rfl), Or.inl rfl⟩, m_n0 rfl, m_n0 rfl⟩, (List.forall_mem_cons.mpr ⟨⟨(R_14, F_14, 92), rfl, Nat.le_of_ble_eq_true rfl, ⟨"EdgeHouseModel", (m_gi9 45 rfl rfl), Or.inl rfl⟩, m_n0 rfl, m_n0 rfl⟩, (List.forall_mem_cons.mpr ⟨⟨(R_14, F_14, 92), rfl, Nat.le_of_ble_eq_true rfl, ⟨"EdgeHouseModel", (m_gi9 72 rfl rfl), Or.inl rfl⟩, m_n0 rfl, m_n0 rfl⟩, (List.forall_mem_cons.mpr ⟨⟨(R_14, F_14, 92), rfl, Nat.le_of_ble_eq_true rfl, ⟨"EdgeHouseModel", (m_gi9 76 rfl rfl), Or.inl rfl⟩, fun _ => rfl, m_n0 rfl⟩, (List.forall_mem_cons.mpr ⟨⟨(R_14, F_14, 92), rfl, Nat.le_of_ble_eq_true rfl, ⟨"EdgeHouseModel", (m_gi9 73 rfl rfl), Or.inl rfl⟩, fun _ => rfl, m_n0 rfl⟩, (List.forall_mem_cons.mpr ⟨⟨(R_14, F_14, 92), rfl, Nat.le_of_ble_eq_true rfl, ⟨"EdgeHouseModel", (m_gi9 74 rfl rfl), Or.inl rfl⟩, fun _ => rfl, m_n0 rfl⟩, (List.forall_mem_cons.mpr ⟨⟨(R_14, F_14, 92), rfl, Nat.le_of_ble_eq_true rfl, ⟨"EdgeHouseModel", (m_gi9 75 rfl rfl), Or.inl rfl⟩, fun _ => rfl, m_n0 rfl⟩, (fun _ h => absurd h List.not_mem_nil)⟩)⟩)⟩)⟩)⟩)⟩)⟩)
set_option maxRecDepth 4000 in
theorem vc_300 : ∀ q ∈ M_300.2.2.2.2.2.2.1, m_cOk M_300.1 q := (List.forall_mem_cons.mpr ⟨⟨m_n0 rfl, m_n0 rfl, m_n0 rfl, fun _ => ⟨M_278, rfl, m_n0 rfl, fun _ => ⟨(m_gi10 207 rfl rfl), (m_gi10 209 rfl rfl), (R_14, F_14, 92), rfl, rfl, (m_gp 54 rfl rfl)⟩, m_n0 rfl, m_n0 rfl⟩⟩, (List.forall_mem_cons.mpr ⟨⟨m_n0 rfl, m_n0 rfl, m_n0 rfl, fun _ => ⟨M_292, rfl, m_n0 rfl, fun _ => ⟨(m_gi11 21 rfl rfl), (m_gi11 23 rfl rfl), (R_14, F_14, 92), rfl, rfl, (m_gp 66 rfl rfl)⟩, m_n0 rfl, m_n0 rfl⟩⟩, (List.forall_mem_cons.mpr ⟨⟨m_n0 rfl, m_n0 rfl, m_n0 rfl, fun _ => ⟨M_301, rfl, m_n0 rfl, fun _ => ⟨(m_gi11 58 rfl rfl), (m_gi11 60 rfl rfl), (R_14, F_14, 92), rfl, rfl, (m_gp 75 rfl rfl)⟩, m_n0 rfl, m_n0 rfl⟩⟩, (fun _ h => absurd h List.not_mem_nil)⟩)⟩)⟩)
set_option maxRecDepth 4000 in
theorem vo_300 : ∀ q ∈ M_300.2.2.2.2.2.2.2.1, m_oOk M_300.1 q := (fun _ h => absurd h List.not_mem_nil)
set_option maxRecDepth 4000 in
theorem vk_300 : ∀ q ∈ M_300.2.2.2.2.2.2.2.2, decode M_300.2.1 q.1 = .ok (q.2.1, q.2.2) := by decide +kernel
set_option maxRecDepth 4000 in
theorem v_300 : m_mOk M_300 := ⟨(m_gi11 57 rfl rfl), (m_gi1 12 rfl rfl), by decide +kernel, ⟨by decide +kernel, by decide +kernel⟩, by decide +kernel, vf_300, vc_300, vo_300, vk_300⟩
set_option maxRecDepth 4000 in
theorem vf_301 : ∀ q ∈ M_301.2.2.2.2.2.1, m_fOk M_301.1 q := (List.forall_mem_cons.mpr ⟨⟨(R_14, F_14, 92), rfl, Nat.le_of_ble_eq_true rfl, ⟨"EdgeHouseModel", (m_gi9 64 rfl rfl), Or.inl rfl⟩, m_n0 rfl, m_n0 rfl⟩, (List.forall_mem_cons.mpr ⟨⟨(R_14, F_14, 92), rfl, Nat.le_of_ble_eq_true rfl, ⟨"EdgeHouseModel", (m_gi9 68 rfl rfl), Or.inl rfl⟩, m_n0 rfl, m_n0 rfl⟩, (List.forall_mem_cons.mpr ⟨⟨(R_14, F_14, 92), rfl, Nat.le_of_ble_eq_true rfl, ⟨"EdgeHouseModel", (m_gi9 72 rfl rfl), Or.inl rfl⟩, m_n0 rfl, m_n0 rfl⟩, (List.forall_mem_cons.mpr ⟨⟨(R_14, F_14, 92), rfl, Nat.le_of_ble_eq_true rfl, ⟨"EdgeHouseModel", (m_gi9 25 rfl rfl), Or.inl rfl⟩, fun _ => rfl, m_n0 rfl⟩, (List.forall_mem_cons.mpr ⟨⟨(R_14, F_14, 92), rfl, Nat.le_of_ble_eq_true rfl, ⟨"EdgeHouseModel", (m_gi9 76 rfl rfl), Or.inl rfl⟩, fun _ => rfl, m_n0 rfl⟩, (List.forall_mem_cons.mpr ⟨⟨(R_14, F_14, 92), rfl, Nat.le_of_ble_eq_true rfl, ⟨"EdgeHouseModel", (m_gi9 73 rfl rfl), Or.inl rfl⟩, fun _ => rfl, m_n0 rfl⟩, (List.forall_mem_cons.mpr ⟨⟨(R_14, F_14, 92), rfl, Nat.le_of_ble_eq_true rfl, ⟨"EdgeHouseModel", (m_gi9 74 rfl rfl), Or.inl rfl⟩, fun _ => rfl, m_n0 rfl⟩, (List.forall_mem_cons.mpr ⟨⟨(R_14, F_14, 92), rfl, Nat.le_of_ble_eq_true rfl, ⟨"EdgeHouseModel", (m_gi9 75 rfl rfl), Or.inl rfl⟩, fun _ => rfl, m_n0 rfl⟩, (fun _ h => absurd h List.not_mem_nil)⟩)⟩)⟩)⟩)⟩)⟩)⟩)⟩)
set_option maxRecDepth 4000 in
theorem vc_301 : ∀ q ∈ M_301.2.2.2.2.2.2.1, m_cOk M_301.1 q := (List.forall_mem_cons.mpr ⟨⟨m_n0 rfl, m_n0 rfl, m_n0 rfl, fun _ => ⟨M_286, rfl, m_n0 rfl, m_n0 rfl, fun _ => ⟨(m_gi10 238 rfl rfl), (m_gi10 239 rfl rfl)⟩, m_n0 rfl⟩⟩, (List.forall_mem_cons.mpr ⟨⟨m_n0 rfl, m_n0 rfl, m_n0 rfl, fun _ => ⟨M_270, rfl, m_n0 rfl, fun _ => ⟨(m_gi10 171 rfl rfl), (m_gi10 173 rfl rfl), (R_14, F_14, 92), rfl, rfl, (m_gp 47 rfl rfl)⟩, m_n0 rfl, m_n0 rfl⟩⟩, (List.forall_mem_cons.mpr ⟨⟨m_n0 rfl, m_n0 rfl, m_n0 rfl, fun _ => ⟨M_304, rfl, m_n0 rfl, fun _ => ⟨(m_gi11 70 rfl rfl), (m_gi11 72 rfl rfl), (R_14, F_14, 92), rfl, rfl, (m_gp 78 rfl rfl)⟩, m_n0 rfl, m_n0 rfl⟩⟩, (List.forall_mem_cons.mpr ⟨⟨m_n0 rfl, m_n0 rfl, m_n0 rfl, fun _ => ⟨M_305, rfl, m_n0 rfl, fun _ => ⟨(m_gi11 74 rfl rfl), (m_gi11 76 rfl rfl), (R_14, F_14, 92), rfl, rfl, (m_gp 79 rfl rfl)⟩, m_n0 rfl, m_n0 rfl⟩⟩, (List.forall_mem_cons.mpr ⟨⟨m_n0 rfl, m_n0 rfl, m_n0 rfl, fun _ => ⟨M_302, rfl, m_n0 rfl, fun _ => ⟨(m_gi11 62 rfl rfl), (m_gi11 64 rfl rfl), (R_14, F_14, 92), rfl, rfl, (m_gp 76 rfl rfl)⟩, m_n0 rfl, m_n0 rfl⟩⟩, (fun _ h => absurd h List.not_mem_nil)⟩)⟩)⟩)⟩)⟩)
set_option maxRecDepth 4000 in
theorem vo_301 : ∀ q ∈ M_301.2.2.2.2.2.2.2.1, m_oOk M_301.1 q := (fun _ h => absurd h List.not_mem_nil)
set_option maxRecDepth 4000 in
theorem vk_301 : ∀ q ∈ M_301.2.2.2.2.2.2.2.2, decode M_301.2.1 q.1 = .ok (q.2.1, q.2.2) := by decide +kernel
set_option maxRecDepth 4000 in
theorem v_301 : m_mOk M_301 := ⟨(m_gi11 61 rfl rfl), (m_gi1 12 rfl rfl), by decide +kernel, ⟨by decide +kernel, by decide +kernel⟩, by decide +kernel, vf_301, vc_301, vo_301, vk_301⟩
set_option maxRecDepth 4000 in
theorem vf_302 : ∀ q ∈ M_302.2.2.2.2.2.1, m_fOk M_302.1 q := (List.forall_mem_cons.mpr ⟨⟨(R_14, F_14, 92), rfl, Nat.le_of_ble_eq_true rfl, ⟨"EdgeHouseModel", (m_gi9 72 rfl rfl), Or.inl rfl⟩, m_n0 rfl, m_n0 rfl⟩, (fun _ h => absurd h List.not_mem_nil)⟩)
set_option maxRecDepth 4000 in
theorem vc_302 : ∀ q ∈ M_302.2.2.2.2.2.2.1, m_cOk M_302.1 q := (List.forall_mem_cons.mpr ⟨⟨m_n0 rfl, m_n0 rfl, m_n0 rfl, fun _ => ⟨M_282, rfl, m_n0 rfl, fun _ => ⟨(m_gi10 222 rfl rfl), (m_gi10 224 rfl rfl), (R_14, F_14, 92), rfl, rfl, (m_gp 57 rfl rfl)⟩, m_n0 rfl, m_n0 rfl⟩⟩, (List.forall_mem_cons.mpr ⟨⟨m_n0 rfl, m_n0 rfl, m_n0 rfl, fun _ => ⟨M_289, rfl, m_n0 rfl, fun _ => ⟨(m_gi11 9 rfl rfl), (m_gi11 11 rfl rfl), (R_14, F_14, 92), rfl, rfl, (m_gp 63 rfl rfl)⟩, m_n0 rfl, m_n0 rfl⟩⟩, (List.forall_mem_cons.mpr ⟨⟨m_n0 rfl, m_n0 rfl, m_n0 rfl, fun _ => ⟨M_287, rfl, m_n0 rfl, fun _ => ⟨(m_gi11 1 rfl rfl), (m_gi11 3 rfl rfl), (R_14, F_14, 92), rfl, rfl, (m_gp 61 rfl rfl)⟩, m_n0 rfl, m_n0 rfl⟩⟩, (List.forall_mem_cons.mpr ⟨⟨m_n0 rfl, m_n0 rfl, m_n0 rfl, fun _ => ⟨M_303, rfl, m_n0 rfl, fun _ => ⟨(m_gi11 66 rfl rfl), (m_gi11 68 rfl rfl), (R_14, F_14, 92), rfl, rfl, (m_gp 77 rfl rfl)⟩, m_n0 rfl, m_n0 rfl⟩⟩, (fun _ h => absurd h List.not_mem_nil)⟩)⟩)⟩)⟩)
set_option maxRecDepth 4000 in
theorem vo_302 : ∀ q ∈ M_302.2.2.2.2.2.2.2.1, m_oOk M_302.1 q := (fun _ h => absurd h List.not_mem_nil)
set_option maxRecDepth 4000 in
theorem vk_302 : ∀ q ∈ M_302.2.2.2.2.2.2.2.2, decode M_302.2.1 q.1 = .ok (q.2.1, q.2.2) := by decide +kernel
set_option maxRecDepth 4000 in
theorem v_302 : m_mOk M_302 := ⟨(m_gi11 65 rfl rfl), (m_gi1 12 rfl rfl), by decide +kernel, ⟨by decide +kernel, by decide +kernel⟩, by decide +kernel, vf_302, vc_302, vo_302, vk_302⟩
set_option maxRecDepth 4000 in
theorem vf_303 : ∀ q ∈ M_303.2.2.2.2.2.1, m_fOk M_303.1 q := (List.forall_mem_cons.mpr ⟨⟨(R_14, F_14, 92), rfl, Nat.le_of_ble_eq_true rfl, ⟨"EdgeHouseModel", (m_gi9 72 rfl rfl), Or.inl rfl⟩, m_n0 rfl, m_n0 rfl⟩, (List.forall_mem_cons.mpr ⟨⟨(R_14, F_14, 92), rfl, Nat.le_of_ble_eq_true rfl, ⟨"EdgeHouseModel", (m_gi9 76 rfl rfl), Or.inl rfl⟩, fun _ => rfl, m_n0 rfl⟩, (fun _ h => absurd h List.not_mem_nil)⟩)⟩)
set_option maxRecDepth 4000 in
theorem vc_303 : ∀ q ∈ M_303.2.2.2.2.2.2.1, m_cOk M_303.1 q := (fun _ h => absurd h List.not_mem_nil)
set_option maxRecDepth 4000 in
theorem vo_303 : ∀ q ∈ M_303.2.2.2.2.2.2.2.1, m_oOk M_303.1 q := (fun _ h => absurd h List.not_mem_nil)
set_option maxRecDepth 4000 in
theorem vk_303 : ∀ q ∈ M_303.2.2.2.2.2.2.2.2, decode M_303.2.1 q.1 = .ok (q.2.1, q.2.2) := by decide +kernel
set_option maxRecDepth 4000 in
theorem v_303 : m_mOk M_303 := ⟨(m_gi11 69 rfl rfl), (m_gi1 12 rfl rfl), by decide +kernel, ⟨by decide +kernel, by decide +kernel⟩, by decide +kernel, vf_303, vc_303, vo_303, vk_303⟩
set_option maxRecDepth 4000 in
theorem vf_304 : ∀ q ∈ M_304.2.2.2.2.2.1, m_fOk M_304.1 q := (List.forall_mem_cons.mpr ⟨⟨(R_14, F_14, 92), rfl, Nat.le_of_ble_eq_true rfl, ⟨"EdgeHouseModel", (m_gi9 68 rfl rfl), Or.inl rfl⟩, m_n0 rfl, m_n0 rfl⟩, (fun _ h => absurd h List.not_mem_nil)⟩)
set_option maxRecDepth 4000 in
theorem vc_304 : ∀ q ∈ M_304.2.2.2.2.2.2.1, m_cOk M_304.1 q := (fun _ h => absurd h List.not_mem_nil)
set_option maxRecDepth 4000 in
theorem vo_304 : ∀ q ∈ M_304.2.2.2.2.2.2.2.1, m_oOk M_304.1 q := (fun _ h => absurd h List.not_mem_nil)
set_option maxRecDepth 4000 in
theorem vk_304 : ∀ q ∈ M_304.2.2.2.2.2.2.2.2, decode M_304.2.1 q.1 = .ok (q.2.1, q.2.2) := by decide +kernel
set_option maxRecDepth 4000 in
theorem v_304 : m_mOk M_304 := ⟨(m_gi11 73 rfl rfl), (m_gi1 12 rfl rfl), by decide +kernel, ⟨by decide +kernel, by decide +kernel⟩, by decide +kernel, vf_304, vc_304, vo_304, vk_304⟩
set_option maxRecDepth 4000 in
theorem vf_305 : ∀ q ∈ M_305.2.2.2.2.2.1, m_fOk M_305.1 q := (List.forall_mem_cons.mpr ⟨⟨(R_14, F_14, 92), rfl, Nat.le_of_ble_eq_true rfl, ⟨"EdgeHouseModel", (m_gi9 67 rfl rfl), Or.inl rfl⟩, m_n0 rfl, m_n0 rfl⟩, (List.forall_mem_cons.mpr ⟨⟨(R_14, F_14, 92), rfl, Nat.le_of_ble_eq_true rfl, ⟨"EdgeHouseModel", (m_gi9 68 rfl rfl), Or.inl rfl⟩, m_n0 rfl, m_n0 rfl⟩, (List.forall_mem_cons.mpr ⟨⟨(R_14, F_14, 92), rfl, Nat.le_of_ble_eq_true rfl, ⟨"EdgeHouseModel", (m_gi9 66 rfl rfl), Or.inl rfl⟩, fun _ => rfl, m_n0 rfl⟩, (List.forall_mem_cons.mpr ⟨⟨(R_14, F_14, 92), rfl, Nat.le_of_ble_eq_true rfl, ⟨"EdgeHouseModel", (m_gi9 28 rfl rfl), Or.inl rfl⟩, fun _ => rfl, m_n0 rfl⟩, (fun _ h => absurd h List.not_mem_nil)⟩)⟩)⟩)⟩)
set_option maxRecDepth 4000 in
theorem vc_305 : ∀ q ∈ M_305.2.2.2.2.2.2.1, m_cOk M_305.1 q := (fun _ h => absurd h List.not_mem_nil)
set_option maxRecDepth 4000 in
theorem vo_305 : ∀ q ∈ M_305.2.2.2.2.2.2.2.1, m_oOk M_305.1 q := (fun _ h => absurd h List.not_mem_nil)
set_option maxRecDepth 4000 in
theorem vk_305 : ∀ q ∈ M_305.2.2.2.2.2.2.2.2, decode M_305.2.1 q.1 = .ok (q.2.1, q.2.2) := by decide +kernel
set_option maxRecDepth 4000 in
theorem v_305 : m_mOk M_305 := ⟨(m_gi11 77 rfl rfl), (m_gi1 12 rfl rfl), by decide +kernel, ⟨by decide +kernel, by decide +kernel⟩, by decide +kernel, vf_305, vc_305, vo_305, vk_305⟩
set_option maxRecDepth 4000 in
theorem vf_306 : ∀ q ∈ M_306.2.2.2.2.2.1, m_fOk M_306.1 q := (List.forall_mem_cons.mpr ⟨⟨(R_14, F_14, 92), rfl, Nat.le_of_ble_eq_true rfl, ⟨"EdgeHouseModel", (m_gi9 64 rfl rfl), Or.inl rfl⟩, m_n0 rfl, m_n0 rfl⟩, (fun _ h => absurd h List.not_mem_nil)⟩)
set_option maxRecDepth 4000 in
theorem vc_306 : ∀ q ∈ M_306.2.2.2.2.2.2.1, m_cOk M_306.1 q := (List.forall_mem_cons.mpr ⟨⟨m_n0 rfl, m_n0 rfl, m_n0 rfl, fun _ => ⟨M_278, rfl, m_n0 rfl, fun _ => ⟨(m_gi10 207 rfl rfl), (m_gi10 209 rfl rfl), (R_14, F_14, 92), rfl, rfl, (m_gp 54 rfl rfl)⟩, m_n0 rfl, m_n0 rfl⟩⟩, (List.forall_mem_cons.mpr ⟨⟨m_n0 rfl, m_n0 rfl, m_n0 rfl, fun _ => ⟨M_282, rfl, m_n0 rfl, fun _ => ⟨(m_gi10 222 rfl rfl), (m_gi10 224 rfl rfl), (R_14, F_14, 92), rfl, rfl, (m_gp 57 rfl rfl)⟩, m_n0 rfl, m_n0 rfl⟩⟩, (List.forall_mem_cons.mpr ⟨⟨m_n0 rfl, m_n0 rfl, m_n0 rfl, fun _ => ⟨M_292, rfl, m_n0 rfl, fun _ => ⟨(m_gi11 21 rfl rfl), (m_gi11 23 rfl rfl), (R_14, F_14, 92), rfl, rfl, (m_gp 66 rfl rfl)⟩, m_n0 rfl, m_n0 rfl⟩⟩, (List.forall_mem_cons.mpr ⟨⟨m_n0 rfl, m_n0 rfl, m_n0 rfl, fun _ => ⟨M_293, rfl, m_n0 rfl, fun _ => ⟨(m_gi11 25 rfl rfl), (m_gi11 27 rfl rfl), (R_14, F_14, 92), rfl, rfl, (m_gp 67 rfl rfl)⟩, m_n0 rfl, m_n0 rfl⟩⟩, (fun _ h => absurd h List.not_mem_nil)⟩)⟩)⟩)⟩)
set_option maxRecDepth 4000 in
theorem vo_306 : ∀ q ∈ M_306.2.2.2.2.2.2.2.1, m_oOk M_306.1 q := (fun _ h => absurd h List.not_mem_nil)
set_option maxRecDepth 4000 in
theorem vk_306 : ∀ q ∈ M_306.2.2.2.2.2.2.2.2, decode M_306.2.1 q.1 = .ok (q.2.1, q.2.2) := by decide +kernel
set_option maxRecDepth 4000 in
theorem v_306 : m_mOk M_306 := ⟨(m_gi11 81 rfl rfl), (m_gi1 12 rfl rfl), by decide +kernel, ⟨by decide +kernel, by decide +kernel⟩, by decide +kernel, vf_306, vc_306, vo_306, vk_306⟩
set_option maxRecDepth 4000 in
theorem vf_307 : ∀ q ∈ M_307.2.2.2.2.2.1, m_fOk M_307.1 q := (List.forall_mem_cons.mpr ⟨⟨(R_14, F_14, 92), rfl, Nat.le_of_ble_eq_true rfl, ⟨"EdgeHouseModel", (m_gi9 45 rfl rfl), Or.inl rfl⟩, m_n0 rfl, m_n0 rfl⟩, (List.forall_mem_cons.mpr ⟨⟨(R_14, F_14, 92), rfl, Nat.le_of_ble_eq_true rfl, ⟨"EdgeHouseModel", (m_gi9 49 rfl rfl), Or.inl rfl⟩, m_n0 rfl, m_n0 rfl⟩, (List.forall_mem_cons.mpr ⟨⟨(R_14, F_14, 92), rfl, Nat.le_of_ble_eq_true rfl, ⟨"EdgeHouseModel", (m_gi9 52 rfl rfl), Or.inl rfl⟩, m_n0 rfl, m_n0 rfl⟩, (List.forall_mem_cons.mpr ⟨⟨(R_14, F_14, 92), rfl, Nat.le_of_ble_eq_true rfl, ⟨"EdgeHouseModel", (m_gi9 53 rfl rfl), Or.inl rfl⟩, m_n0 rfl, m_n0 rfl⟩, (List.forall_mem_cons.mpr ⟨⟨(R_14, F_14, 92), rfl, Nat.le_of_ble_eq_true rfl, ⟨"EdgeHouseModel", (m_gi9 55 rfl rfl), Or.inl rfl⟩, m_n0 rfl, m_n0 rfl⟩, (List.forall_mem_cons.mpr ⟨⟨(R_14, F_14, 92), rfl, Nat.le_of_ble_eq_true rfl, ⟨"EdgeHouseModel", (m_gi9 64 rfl rfl), Or.inl rfl⟩, m_n0 rfl, m_n0 rfl⟩, (fun _ h => absurd h List.not_mem_nil)⟩)⟩)⟩)⟩)⟩)⟩)
set_option maxRecDepth 4000 in
theorem vc_307 : ∀ q ∈ M_307.2.2.2.2.2.2.1, m_cOk M_307.1 q := (List.forall_mem_cons.mpr ⟨⟨m_n0 rfl, m_n0 rfl, m_n0 rfl, fun _ => ⟨M_278, rfl, m_n0 rfl, fun _ => ⟨(m_gi10 207 rfl rfl), (m_gi10 209 rfl rfl), (R_14, F_14, 92), rfl, rfl, (m_gp 54 rfl rfl)⟩, m_n0 rfl, m_n0 rfl⟩⟩, (List.forall_mem_cons.mpr ⟨⟨m_n0 rfl, m_n0 rfl, m_n0 rfl, fun _ => ⟨M_282, rfl, m_n0 rfl, fun _ => ⟨(m_gi10 222 rfl rfl), (m_gi10 224 rfl rfl), (R_14, F_14, 92), rfl, rfl, (m_gp 57 rfl rfl)⟩, m_n0 rfl, m_n0 rfl⟩⟩, (List.forall_mem_cons.mpr ⟨⟨m_n0 rfl, m_n0 rfl, m_n0 rfl, fun _ => ⟨M_284, rfl, m_n0 rfl, fun _ => ⟨(m_gi10 230 rfl rfl), (m_gi10 232 rfl rfl), (R_14, F_14, 92), rfl, rfl, (m_gp 59 rfl rfl)⟩, m_n0 rfl, m_n0 rfl⟩⟩, (List.forall_mem_cons.mpr ⟨⟨m_n0 rfl, m_n0 rfl, m_n0 rfl, fun _ => ⟨M_285, rfl, m_n0 rfl, fun _ => ⟨(m_gi10 234 rfl rfl), (m_gi10 236 rfl rfl), (R_14, F_14, 92), rfl, rfl, (m_gp 60 rfl rfl)⟩, m_n0 rfl, m_n0 rfl⟩⟩, (List.forall_mem_cons.mpr ⟨⟨m_n0 rfl, m_n0 rfl, m_n0 rfl, fun _ => ⟨M_277, rfl, m_n0 rfl, fun _ => ⟨(m_gi10 203 rfl rfl), (m_gi10 205 rfl rfl), (R_14, F_14, 92), rfl, rfl, (m_gp 53 rfl rfl)⟩, m_n0 rfl, m_n0 rfl⟩⟩, (List.forall_mem_cons.mpr ⟨⟨m_n0 rfl, m_n0 rfl, m_n0 rfl, fun _ => ⟨M_280, rfl, m_n0 rfl, fun _ => ⟨(m_gi10 214 rfl rfl), (m_gi10 216 rfl rfl), (R_14, F_14, 92), rfl, rfl, (m_gp 55 rfl rfl)⟩, m_n0 rfl, m_n0 rfl⟩⟩, (List.forall_mem_cons.mpr ⟨⟨m_n0 rfl, m_n0 rfl, m_n0 rfl, fun _ => ⟨M_281, rfl, m_n0 rfl, fun _ => ⟨(m_gi10 218 rfl rfl), (m_gi10 220 rfl rfl), (R_14, F_14, 92), rfl, rfl, (m_gp 56 rfl rfl)⟩, m_n0 rfl, m_n0 rfl⟩⟩, (List.forall_mem_cons.mpr ⟨⟨m_n0 rfl, m_n0 rfl, m_n0 rfl, fun _ => ⟨M_283, rfl, m_n0 rfl, fun _ => ⟨(m_gi10 226 rfl rfl), (m_gi10 228 rfl rfl), (R_14, F_14, 92), rfl, rfl, (m_gp 58 rfl rfl)⟩, m_n0 rfl, m_n0 rfl⟩⟩, (List.forall_mem_cons.mpr ⟨⟨m_n0 rfl, m_n0 rfl, m_n0 rfl, fun _ => ⟨M_291, rfl, m_n0 rfl, fun _ => ⟨(m_gi11 17 rfl rfl), (m_gi11 19 rfl rfl), (R_14, F_14, 92), rfl, rfl, (m_gp 65 rfl rfl)⟩, m_n0 rfl, m_n0 rfl⟩⟩, (List.forall_mem_cons.mpr ⟨⟨m_n0 rfl, m_n0 rfl, m_n0 rfl, fun _ => ⟨M_120, rfl, m_n0 rfl, m_n0 rfl, fun _ => ⟨(m_gi11 86 rfl rfl), (m_gi5 177 rfl rfl)⟩, m_n0 rfl⟩⟩, (List.forall_mem_cons.mpr ⟨⟨m_n0 rfl, m_n0 rfl, m_n0 rfl, fun _ => ⟨M_121, rfl, m_n0 rfl, m_n0 rfl, fun _ => ⟨(m_gi11 87 rfl rfl), (m_gi5 181 rfl rfl)⟩, m_n0 rfl⟩⟩, (List.forall_mem_cons.mpr ⟨⟨m_n0 rfl, m_n0 rfl, m_n0 rfl, fun _ => ⟨M_308, rfl, m_n0 rfl, fun _ => ⟨(m_gi11 88 rfl rfl), (m_gi11 90 rfl rfl), (R_14, F_14, 92), rfl, rfl, (m_gp 82 rfl rfl)⟩, m_n0 rfl, m_n0 rfl⟩⟩, (fun _ h => absurd h List.not_mem_nil)⟩)⟩)⟩)⟩)⟩)⟩)⟩)⟩)⟩)⟩)⟩)⟩)
set_option maxRecDepth 4000 in
theorem vo_307 : ∀ q ∈ M_307.2.2.2.2.2.2.2.1, m_oOk M_307.1 q := (fun _ h => absurd h List.not_mem_nil)
set_option maxRecDepth 4000 in
theorem vk_307 : ∀ q ∈ M_307.2.2.2.2.2.2.2.2, decode M_307.2.1 q.1 = .ok (q.2.1, q.2.2) := by decide +kernel
set_option maxRecDepth 4000 in
theorem v_307 : m_mOk M_307 := ⟨(m_gi11 85 rfl rfl), (m_gi1 12 rfl rfl), by decide +kernel, ⟨by decide +kernel, by decide +kernel⟩, by decide +kernel, vf_307, vc_307, vo_307, vk_307⟩
set_option maxRecDepth 4000 in
theorem vf_308 : ∀ q ∈ M_308.2.2.2.2.2.1, m_fOk M_308.1 q := (List.forall_mem_cons.mpr ⟨⟨(R_14, F_14, 92), rfl, Nat.le_of_ble_eq_true rfl, ⟨"EdgeHouseModel", (m_gi9 31 rfl rfl), Or.inl rfl⟩, m_n0 rfl, m_n0 rfl⟩, (List.forall_mem_cons.mpr ⟨⟨(R_14, F_14, 92), rfl, Nat.le_of_ble_eq_true rfl, ⟨"EdgeHouseModel", (m_gi9 34 rfl rfl), Or.inl rfl⟩, m_n0 rfl, m_n0 rfl⟩, (List.forall_mem_cons.mpr ⟨⟨(R_14, F_14, 92), rfl, Nat.le_of_ble_eq_true rfl, ⟨"EdgeHouseModel", (m_gi9 42 rfl rfl), Or.inl rfl⟩, m_n0 rfl, m_n0 rfl⟩, (List.forall_mem_cons.mpr ⟨⟨(R_14, F_14, 92), rfl, Nat.le_of_ble_eq_true rfl, ⟨"EdgeHouseModel", (m_gi9 45 rfl rfl), Or.inl rfl⟩, m_n0 rfl, m_n0 rfl⟩, (List.forall_mem_cons.mpr ⟨⟨(R_14, F_14, 92), rfl, Nat.le_of_ble_eq_true rfl, ⟨"EdgeHouseModel", (m_gi9 48 rfl rfl), Or.inl rfl⟩, m_n0 rfl, m_n0 rfl⟩, (List.forall_mem_cons.mpr ⟨⟨(R_14, F_14, 92), rfl, Nat.le_of_ble_eq_true rfl, ⟨"EdgeHouseModel", (m_gi9 49 rfl rfl), Or.inl rfl⟩, m_n0 rfl, m_n0 rfl⟩, (List.forall_mem_cons.mpr ⟨⟨(R_14, F_14, 92), rfl, Nat.le_of_ble_eq_true rfl, ⟨"EdgeHouseModel", (m_gi9 50 rfl rfl), Or.inl rfl⟩, m_n0 rfl, m_n0 rfl⟩, (List.forall_mem_cons.mpr ⟨⟨(R_14, F_14, 92), rfl, Nat.le_of_ble_eq_true rfl, ⟨"EdgeHouseModel", (m_gi9 51 rfl rfl), Or.inl rfl⟩, m_n0 rfl, m_n0 rfl⟩, (List.forall_mem_cons.mpr ⟨⟨(R_14, F_14, 92), rfl, Nat.le_of_ble_eq_true rfl, ⟨"EdgeHouseModel", (m_gi9 52 rfl rfl), Or.inl rfl⟩, m_n0 rfl, m_n0 rfl⟩, (List.forall_mem_cons.mpr ⟨⟨(R_14, F_14, 92), rfl, Nat.le_of_ble_eq_true rfl, ⟨"EdgeHouseModel", (m_gi9 53 rfl rfl), Or.inl rfl⟩, m_n0 rfl, m_n0 rfl⟩, (List.forall_mem_cons.mpr ⟨⟨(R_14, F_14, 92), rfl, Nat.le_of_ble_eq_true rfl, ⟨"EdgeHouseModel", (m_gi9 54 rfl rfl), Or.inl rfl⟩, m_n0 rfl, m_n0 rfl⟩, (List.forall_mem_cons.mpr ⟨⟨(R_14, F_14, 92), rfl, Nat.le_of_ble_eq_true rfl, ⟨"EdgeHouseModel", (m_gi9 55 rfl rfl), Or.inl rfl⟩, m_n0 rfl, m_n0 rfl⟩, (List.forall_mem_cons.mpr ⟨⟨(R_14, F_14, 92), rfl, Nat.le_of_ble_eq_true rfl, ⟨"EdgeHouseModel", (m_gi9 56 rfl rfl), Or.inl rfl⟩, m_n0 rfl, m_n0 rfl⟩, (List.forall_mem_cons.mpr ⟨⟨(R_14, F_14, 92), rfl, Nat.le_of_ble_eq_true rfl, ⟨"EdgeHouseModel", (m_gi9 68 rfl rfl), Or.inl rfl⟩, m_n0 rfl, m_n0 rfl⟩, (List.forall_mem_cons.mpr ⟨⟨(R_14, F_14, 92), rfl, Nat.le_of_ble_eq_true rfl, ⟨"EdgeHouseModel", (m_gi9 25 rfl rfl), Or.inl rfl⟩, fun _ => rfl, m_n0 rfl⟩, (fun _ h => absurd h List.not_mem_nil)⟩)⟩)⟩)⟩)⟩)⟩)⟩)⟩)⟩)⟩)⟩)⟩)⟩)⟩)⟩)
set_option maxRecDepth 4000 in
theorem vc_308 : ∀ q ∈ M_308.2.2.2.2.2.2.1, m_cOk M_308.1 q := (List.forall_mem_cons.mpr ⟨⟨m_n0 rfl, m_n0 rfl, m_n0 rfl, fun _ => ⟨M_278, rfl, m_n0 rfl, fun _ => ⟨(m_gi10 207 rfl rfl), (m_gi10 209 rfl rfl), (R_14, F_14, 92), rfl, rfl, (m_gp 54 rfl rfl)⟩, m_n0 rfl, m_n0 rfl⟩⟩, (List.forall_mem_cons.mpr ⟨⟨m_n0 rfl, m_n0 rfl, m_n0 rfl, fun _ => ⟨M_286, rfl, m_n0 rfl, m_n0 rfl, fun _ => ⟨(m_gi10 238 rfl rfl), (m_gi10 239 rfl rfl)⟩, m_n0 rfl⟩⟩, (List.forall_mem_cons.mpr ⟨⟨m_n0 rfl, m_n0 rfl, m_n0 rfl, fun _ => ⟨M_277, rfl, m_n0 rfl, fun _ => ⟨(m_gi10 203 rfl rfl), (m_gi10 205 rfl rfl), (R_14, F_14, 92), rfl, rfl, (m_gp 53 rfl rfl)⟩, m_n0 rfl, m_n0 rfl⟩⟩, (List.forall_mem_cons.mpr ⟨⟨m_n0 rfl, m_n0 rfl, m_n0 rfl, fun _ => ⟨M_309, rfl, m_n0 rfl, fun _ => ⟨(m_gi11 92 rfl rfl), (m_gi11 94 rfl rfl), (R_14, F_14, 92), rfl, rfl, (m_gp 83 rfl rfl)⟩, m_n0 rfl, m_n0 rfl⟩⟩, (List.forall_mem_cons.mpr ⟨⟨m_n0 rfl, m_n0 rfl, m_n0 rfl, fun _ => ⟨M_304, rfl, m_n0 rfl, fun _ => ⟨(m_gi11 70 rfl rfl), (m_gi11 72 rfl rfl), (R_14, F_14, 92), rfl, rfl, (m_gp 78 rfl rfl)⟩, m_n0 rfl, m_n0 rfl⟩⟩, (List.forall_mem_cons.mpr ⟨⟨m_n0 rfl, m_n0 rfl, m_n0 rfl, fun _ => ⟨M_305, rfl, m_n0 rfl, fun _ => ⟨(m_gi11 74 rfl rfl), (m_gi11 76 rfl rfl), (R_14, F_14, 92), rfl, rfl, (m_gp 79 rfl rfl)⟩, m_n0 rfl, m_n0 rfl⟩⟩, (fun _ h => absurd h List.not_mem_nil)⟩)⟩)⟩)⟩)⟩)⟩)
set_option maxRecDepth 4000 in
theorem vo_308 : ∀ q ∈ M_308.2.2.2.2.2.2.2.1, m_oOk M_308.1 q := (fun _ h => absurd h List.not_mem_nil)
set_option maxRecDepth 4000 in
theorem vk_308 : ∀ q ∈ M_308.2.2.2.2.2.2.2.2, decode M_308.2.1 q.1 = .ok (q.2.1, q.2.2) := by decide +kernel
set_option maxRecDepth 4000 in
theorem v_308 : m_mOk M_308 := ⟨(m_gi11 91 rfl rfl), (m_gi1 12 rfl rfl), by decide +kernel, ⟨by decide +kernel, by decide +kernel⟩, by decide +kernel, vf_308, vc_308, vo_308, vk_308⟩
set_option maxRecDepth 4000 in
theorem vf_309 : ∀ q ∈ M_309.2.2.2.2.2.1, m_fOk M_309.1 q := (fun _ h => absurd h List.not_mem_nil)
set_option maxRecDepth 4000 in
theorem vc_309 : ∀ q ∈ M_309.2.2.2.2.2.2.1, m_cOk M_309.1 q := (List.forall_mem_cons.mpr ⟨⟨m_n0 rfl, m_n0 rfl, m_n0 rfl, fun _ => ⟨M_272, rfl, m_n0 rfl, fun _ => ⟨(m_gi10 179 rfl rfl), (m_gi10 181 rfl rfl), (R_14, F_14, 92), rfl, rfl, (m_gp 49 rfl rfl)⟩, m_n0 rfl, m_n0 rfl⟩⟩, (fun _ h => absurd h List.not_mem_nil)⟩)
set_option maxRecDepth 4000 in
theorem vo_309 : ∀ q ∈ M_309.2.2.2.2.2.2.2.1, m_oOk M_309.1 q := (fun _ h => absurd h List.not_mem_nil)
set_option maxRecDepth 4000 in
theorem vk_309 : ∀ q ∈ M_309.2.2.2.2.2.2.2.2, decode M_309.2.1 q.1 = .ok (q.2.1, q.2.2) := by decide +kernel
set_option maxRecDepth 4000 in
theorem v_309 : m_mOk M_309 := ⟨(m_gi11 95 rfl rfl), (m_gi1 12 rfl rfl), by decide +kernel, ⟨by decide +kernel, by decide +kernel⟩, by decide +kernel, vf_309, vc_309, vo_309, vk_309⟩
set_option maxRecDepth 4000 in
theorem vf_310 : ∀ q ∈ M_310.2.2.2.2.2.1, m_fOk M_310.1 q := (List.forall_mem_cons.mpr ⟨⟨(R_14, F_14, 92), rfl, Nat.le_of_ble_eq_true rfl, ⟨"EdgeHouseModel", (m_gi9 64 rfl rfl), Or.inl rfl⟩, m_n0 rfl, m_n0 rfl⟩, (List.forall_mem_cons.mpr ⟨⟨(R_14, F_14, 92), rfl, Nat.le_of_ble_eq_true rfl, ⟨"EdgeHouseModel", (m_gi9 63 rfl rfl), Or.inl rfl⟩, fun _ => rfl, m_n0 rfl⟩, (fun _ h => absurd h List.not_mem_nil)⟩)⟩)
set_option maxRecDepth 4000 in
theorem vc_310 : ∀ q ∈ M_310.2.2.2.2.2.2.1, m_cOk M_310.1 q := (fun _ h => absurd h List.not_mem_nil)
set_option maxRecDepth 4000 in
theorem vo_310 : ∀ q ∈ M_310.2.2.2.2.2.2.2.1, m_oOk M_310.1 q := (fun _ h => absurd h List.not_mem_nil)
set_option maxRecDepth 4000 in
theorem vk_310 : ∀ q ∈ M_310.2.2.2.2.2.2.2.2, decode M_310.2.1 q.1 = .ok (q.2.1, q.2.2) := by decide +kernel
set_option maxRecDepth 4000 in
theorem v_310 : m_mOk M_310 := ⟨(m_gi11 99 rfl rfl), (m_gi1 12 rfl rfl), by decide +kernel, ⟨by decide +kernel, by decide +kernel⟩, by decide +kernel, vf_310, vc_310, vo_310, vk_310⟩
set_option maxRecDepth 4000 in
theorem vf_311 : ∀ q ∈ M_311.2.2.2.2.2.1, m_fOk M_311.1 q := (List.forall_mem_cons.mpr ⟨⟨(R_14, F_14, 92), rfl, Nat.le_of_ble_eq_true rfl, ⟨"EdgeHouseModel", (m_gi9 64 rfl rfl), Or.inl rfl⟩, m_n0 rfl, m_n0 rfl⟩, (fun _ h => absurd h List.not_mem_nil)⟩)
set_option maxRecDepth 4000 in
theorem vc_311 : ∀ q ∈ M_311.2.2.2.2.2.2.1, m_cOk M_311.1 q := (List.forall_mem_cons.mpr ⟨⟨m_n0 rfl, m_n0 rfl, m_n0 rfl, fun _ => ⟨M_278, rfl, m_n0 rfl, fun _ => ⟨(m_gi10 207 rfl rfl), (m_gi10 209 rfl rfl), (R_14, F_14, 92), rfl, rfl, (m_gp 54 rfl rfl)⟩, m_n0 rfl, m_n0 rfl⟩⟩, (List.forall_mem_cons.mpr ⟨⟨m_n0 rfl, m_n0 rfl, m_n0 rfl, fun _ => ⟨M_292, rfl, m_n0 rfl, fun _ => ⟨(m_gi11 21 rfl rfl), (m_gi11 23 rfl rfl), (R_14, F_14, 92), rfl, rfl, (m_gp 66 rfl rfl)⟩, m_n0 rfl, m_n0 rfl⟩⟩, (List.forall_mem_cons.mpr ⟨⟨m_n0 rfl, m_n0 rfl, m_n0 rfl, fun _ => ⟨M_293, rfl, m_n0 rfl, fun _ => ⟨(m_gi11 25 rfl rfl), (m_gi11 27 rfl rfl), (R_14, F_14, 92), rfl, rfl, (m_gp 67 rfl rfl)⟩, m_n0 rfl, m_n0 rfl⟩⟩, (List.forall_mem_cons.mpr ⟨⟨m_n0 rfl, m_n0 rfl, m_n0 rfl, fun _ => ⟨M_277, rfl, m_n0 rfl, fun _ => ⟨(m_gi10 203 rfl rfl), (m_gi10 205 rfl rfl), (R_14, F_14, 92), rfl, rfl, (m_gp 53 rfl rfl)⟩, m_n0 rfl, m_n0 rfl⟩⟩, (List.forall_mem_cons.mpr ⟨⟨m_n0 rfl, m_n0 rfl, m_n0 rfl, fun _ => ⟨M_280, rfl, m_n0 rfl, fun _ => ⟨(m_gi10 214 rfl rfl), (m_gi10 216 rfl rfl), (R_14, F_14, 92), rfl, rfl, (m_gp 55 rfl rfl)⟩, m_n0 rfl, m_n0 rfl⟩⟩, (List.forall_mem_cons.mpr ⟨⟨m_n0 rfl, m_n0 rfl, m_n0 rfl, fun _ => ⟨M_283, rfl, m_n0 rfl, fun _ => ⟨(m_gi10 226 rfl rfl), (m_gi10 228 rfl rfl), (R_14, F_14, 92), rfl, rfl, (m_gp 58 rfl rfl)⟩, m_n0 rfl, m_n0 rfl⟩⟩, (List.forall_mem_cons.mpr ⟨⟨m_n0 rfl, m_n0 rfl, m_n0 rfl, fun _ => ⟨M_300, rfl, m_n0 rfl, fun _ => ⟨(m_gi11 54 rfl rfl), (m_gi11 56 rfl rfl), (R_14, F_14, 92), rfl, rfl, (m_gp 74 rfl rfl)⟩, m_n0 rfl, m_n0 rfl⟩⟩, (List.forall_mem_cons.mpr ⟨⟨m_n0 rfl, m_n0 rfl, m_n0 rfl, fun _ => ⟨M_312, rfl, m_n0 rfl, fun _ => ⟨(m_gi11 104 rfl rfl), (m_gi11 106 rfl rfl), (R_14, F_14, 92), rfl, rfl, (m_gp 86 rfl rfl)⟩, m_n0 rfl, m_n0 rfl⟩⟩, (fun _ h => absurd h List.not_mem_nil)⟩)⟩)⟩)⟩)⟩)⟩)⟩)⟩)
set_option maxRecDepth 4000 in
theorem vo_311 : ∀ q ∈ M_311.2.2.2.2.2.2.2.1, m_oOk M_311.1 q := (fun _ h => absurd h List.not_mem_nil)
set_option maxRecDepth 4000 in
theorem vk_311 : ∀ q ∈ M_311.2.2.2.2.2.2.2.2, decode M_311.2.1 q.1 = .ok (q.2.1, q.2.2) := by decide +kernel
set_option maxRecDepth 4000 in
theorem v_311 : m_mOk M_311 := ⟨(m_gi11 103 rfl rfl), (m_gi1 12 rfl rfl), by decide +kernel, ⟨by decide +kernel, by decide +kernel⟩, by decide +kernel, vf_311, vc_311, vo_311, vk_311⟩
set_option maxRecDepth 4000 in
theorem vf_312 : ∀ q ∈ M_312.2.2.2.2.2.1, m_fOk M_312.1 q := (List.forall_mem_cons.mpr ⟨⟨(R_14, F_14, 92), rfl, Nat.le_of_ble_eq_true rfl, ⟨"EdgeHouseModel", (m_gi9 64 rfl rfl), Or.inl rfl⟩, m_n0 rfl, m_n0 rfl⟩, (List.forall_mem_cons.mpr ⟨⟨(R_14, F_14, 92), rfl, Nat.le_of_ble_eq_true rfl, ⟨"EdgeHouseModel", (m_gi9 68 rfl rfl), Or.inl rfl⟩, m_n0 rfl, m_n0 rfl⟩, (fun _ h => absurd h List.not_mem_nil)⟩)⟩)
set_option maxRecDepth 4000 in
theorem vc_312 : ∀ q ∈ M_312.2.2.2.2.2.2.1, m_cOk M_312.1 q := (List.forall_mem_cons.mpr ⟨⟨m_n0 rfl, m_n0 rfl, m_n0 rfl, fun _ => ⟨M_270, rfl, m_n0 rfl, fun _ => ⟨(m_gi10 171 rfl rfl), (m_gi10 173 rfl rfl), (R_14, F_14, 92), rfl, rfl, (m_gp 47 rfl rfl)⟩, m_n0 rfl, m_n0 rfl⟩⟩, (List.forall_mem_cons.mpr ⟨⟨m_n0 rfl, m_n0 rfl, m_n0 rfl, fun _ => ⟨M_304, rfl, m_n0 rfl, fun _ => ⟨(m_gi11 70 rfl rfl), (m_gi11 72 rfl rfl), (R_14, F_14, 92), rfl, rfl, (m_gp 78 rfl rfl)⟩, m_n0 rfl, m_n0 rfl⟩⟩, (List.forall_mem_cons.mpr ⟨⟨m_n0 rfl, m_n0 rfl, m_n0 rfl, fun _ => ⟨M_305, rfl, m_n0 rfl, fun _ => ⟨(m_gi11 74 rfl rfl), (m_gi11 76 rfl rfl), (R_14, F_14, 92), rfl, rfl, (m_gp 79 rfl rfl)⟩, m_n0 rfl, m_n0 rfl⟩⟩, (fun _ h => absurd h List.not_mem_nil)⟩)⟩)⟩)
set_option maxRecDepth 4000 in
theorem vo_312 : ∀ q ∈ M_312.2.2.2.2.2.2.2.1, m_oOk M_312.1 q := (fun _ h => absurd h List.not_mem_nil)
set_option maxRecDepth 4000 in
theorem vk_312 : ∀ q ∈ M_312.2.2.2.2.2.2.2.2, decode M_312.2.1 q.1 = .ok (q.2.1, q.2.2) := by decide +kernel
set_option maxRecDepth 4000 in
theorem v_312 : m_mOk M_312 := ⟨(m_gi11 107 rfl rfl), (m_gi1 12 rfl rfl), by decide +kernel, ⟨by decide +kernel, by decide +kernel⟩, by decide +kernel, vf_312, vc_312, vo_312, vk_312⟩
set_option maxRecDepth 4000 in
theorem vf_313 : ∀ q ∈ M_313.2.2.2.2.2.1, m_fOk M_313.1 q := (List.forall_mem_cons.mpr ⟨⟨(R_14, F_14, 92), rfl, Nat.le_of_ble_eq_true rfl, ⟨"EdgeHouseModel", (m_gi8 232 rfl rfl), Or.inl rfl⟩, fun _ => rfl, m_n0 rfl⟩, (List.forall_mem_cons.mpr ⟨⟨(R_14, F_14, 92), rfl, Nat.le_of_ble_eq_true rfl, ⟨"EdgeHouseModel", (m_gi8 229 rfl rfl), Or.inl rfl⟩, fun _ => rfl, m_n0 rfl⟩, (fun _ h => absurd h List.not_mem_nil)⟩)⟩)
set_option maxRecDepth 4000 in
theorem vc_313 : ∀ q ∈ M_313.2.2.2.2.2.2.1, m_cOk M_313.1 q := (fun _ h => absurd h List.not_mem_nil)
set_option maxRecDepth 4000 in
theorem vo_313 : ∀ q ∈ M_313.2.2.2.2.2.2.2.1, m_oOk M_313.1 q := (fun _ h => absurd h List.not_mem_nil)
set_option maxRecDepth 4000 in
theorem vk_313 : ∀ q ∈ M_313.2.2.2.2.2.2.2.2, decode M_313.2.1 q.1 = .ok (q.2.1, q.2.2) := by decide +kernel
set_option maxRecDepth 4000 in
theorem v_313 : m_mOk M_313 := ⟨(m_gi11 111 rfl rfl), (m_gi1 12 rfl rfl), by decide +kernel, ⟨by decide +kernel, by decide +kernel⟩, by decide +kernel, vf_313, vc_313, vo_313, vk_313⟩
set_option maxRecDepth 4000 in
theorem vf_314 : ∀ q ∈ M_314.2.2.2.2.2.1, m_fOk M_314.1 q := (List.forall_mem_cons.mpr ⟨⟨(R_14, F_14, 92), rfl, Nat.le_of_ble_eq_true rfl, ⟨"EdgeHouseModel", (m_gi8 229 rfl rfl), Or.inl rfl⟩, fun _ => rfl, m_n0 rfl⟩, (List.forall_mem_cons.mpr ⟨⟨(R_14, F_14, 92), rfl, Nat.le_of_ble_eq_true rfl, ⟨"EdgeHouseModel", (m_gi9 66 rfl rfl), Or.inl rfl⟩, fun _ => rfl, m_n0 rfl⟩, (fun _ h => absurd h List.not_mem_nil)⟩)⟩)
set_option maxRecDepth 4000 in
theorem vc_314 : ∀ q ∈ M_314.2.2.2.2.2.2.1, m_cOk M_314.1 q := (List.forall_mem_cons.mpr ⟨⟨m_n0 rfl, m_n0 rfl, m_n0 rfl, fun _ => ⟨M_315, rfl, m_n0 rfl, fun _ => ⟨(m_gi11 116 rfl rfl), (m_gi11 118 rfl rfl), (R_14, F_14, 92), rfl, rfl, (m_gp 87 rfl rfl)⟩, m_n0 rfl, m_n0 rfl⟩⟩, (fun _ h => absurd h List.not_mem_nil)⟩)
set_option maxRecDepth 4000 in
theorem vo_314 : ∀ q ∈ M_314.2.2.2.2.2.2.2.1, m_oOk M_314.1 q := (fun _ h => absurd h List.not_mem_nil)
set_option maxRecDepth 4000 in
theorem vk_314 : ∀ q ∈ M_314.2.2.2.2.2.2.2.2, decode M_314.2.1 q.1 = .ok (q.2.1, q.2.2) := by decide +kernel
set_option maxRecDepth 4000 in
theorem v_314 : m_mOk M_314 := ⟨(m_gi11 115 rfl rfl), (m_gi1 12 rfl rfl), by decide +kernel, ⟨by decide +kernel, by decide +kernel⟩, by decide +kernel, vf_314, vc_314, vo_314, vk_314⟩
set_option maxRecDepth 4000 in
theorem vf_315 : ∀ q ∈ M_315.2.2.2.2.2.1, m_fOk M_315.1 q := (List.forall_mem_cons.mpr ⟨⟨(R_14, F_14, 92), rfl, Nat.le_of_ble_eq_true rfl, ⟨"EdgeHouseModel", (m_gi9 29 rfl rfl), Or.inl rfl⟩, m_n0 rfl, m_n0 rfl⟩, (List.forall_mem_cons.mpr ⟨⟨(R_14, F_14, 92), rfl, Nat.le_of_ble_eq_true rfl, ⟨"EdgeHouseModel", (m_gi9 67 rfl rfl), Or.inl rfl⟩, m_n0 rfl, m_n0 rfl⟩, (List.forall_mem_cons.mpr ⟨⟨(R_14, F_14, 92), rfl, Nat.le_of_ble_eq_true rfl, ⟨"EdgeHouseModel", (m_gi9 78 rfl rfl), Or.inl rfl⟩, m_n0 rfl, m_n0 rfl⟩, (List.forall_mem_cons.mpr ⟨⟨(R_14, F_14, 92), rfl, Nat.le_of_ble_eq_true rfl, ⟨"EdgeHouseModel", (m_gi9 27 rfl rfl), Or.inl rfl⟩, fun _ => rfl, m_n0 rfl⟩, (List.forall_mem_cons.mpr ⟨⟨(R_14, F_14, 92), rfl, Nat.le_of_ble_eq_true rfl, ⟨"EdgeHouseModel", (m_gi9 26 rfl rfl), Or.inl rfl⟩, fun _ => rfl, m_n0 rfl⟩, (fun _ h => absurd h List.not_mem_nil)⟩)⟩)⟩)⟩)⟩)
set_option maxRecDepth 4000 in
theorem vc_315 : ∀ q ∈ M_315.2.2.2.2.2.2.1, m_cOk M_315.1 q := (List.forall_mem_cons.mpr ⟨⟨m_n0 rfl, m_n0 rfl, m_n0 rfl, fun _ => ⟨M_316, rfl, m_n0 rfl, fun _ => ⟨(m_gi11 120 rfl rfl), (m_gi11 122 rfl rfl), (R_14, F_14, 92), rfl, rfl, (m_gp 88 rfl rfl)⟩, m_n0 rfl, m_n0 rfl⟩⟩, (List.forall_mem_cons.mpr ⟨⟨m_n0 rfl, m_n0 rfl, m_n0 rfl, fun _ => ⟨M_317, rfl, m_n0 rfl, fun _ => ⟨(m_gi11 124 rfl rfl), (m_gi11 126 rfl rfl), (R_14, F_14, 92), rfl, rfl, (m_gp 89 rfl rfl)⟩, m_n0 rfl, m_n0 rfl⟩⟩, (List.forall_mem_cons.mpr ⟨⟨m_n0 rfl, m_n0 rfl, m_n0 rfl, fun _ => ⟨M_318, rfl, m_n0 rfl, fun _ => ⟨(m_gi11 128 rfl rfl), (m_gi11 130 rfl rfl), (R_14, F_14, 92), rfl, rfl, (m_gp 90 rfl rfl)⟩, m_n0 rfl, m_n0 rfl⟩⟩, (List.forall_mem_cons.mpr ⟨⟨m_n0 rfl, m_n0 rfl, m_n0 rfl, fun _ => ⟨M_325, rfl, m_n0 rfl, fun _ => ⟨(m_gi11 156 rfl rfl), (m_gi11 158 rfl rfl), (R_14, F_14, 92), rfl, rfl, (m_gp 97 rfl rfl)⟩, m_n0 rfl, m_n0 rfl⟩⟩, (fun _ h => absurd h List.not_mem_nil)⟩)⟩)⟩)⟩)
set_option maxRecDepth 4000 in
theorem vo_315 : ∀ q ∈ M_315.2.2.2.2.2.2.2.1, m_oOk M_315.1 q := (fun _ h => absurd h List.not_mem_nil)
set_option maxRecDepth 4000 in
theorem vk_315 : ∀ q ∈ M_315.2.2.2.2.2.2.2.2, decode M_315.2.1 q.1 = .ok (q.2.1, q.2.2) := by decide +kernel
set_option maxRecDepth 4000 in
theorem v_315 : m_mOk M_315 := ⟨(m_gi11 119 rfl rfl), (m_gi1 12 rfl rfl), by decide +kernel, ⟨by decide +kernel, by decide +kernel⟩, by decide +kernel, vf_315, vc_315, vo_315, vk_315⟩
set_option maxRecDepth 4000 in
theorem vf_316 : ∀ q ∈ M_316.2.2.2.2.2.1, m_fOk M_316.1 q := (List.forall_mem_cons.mpr ⟨⟨(R_14, F_14, 92), rfl, Nat.le_of_ble_eq_true rfl, ⟨"EdgeHouseModel", (m_gi9 67 rfl rfl), Or.inl rfl⟩, m_n0 rfl, m_n0 rfl⟩, (List.forall_mem_cons.mpr ⟨⟨(R_14, F_14, 92), rfl, Nat.le_of_ble_eq_true rfl, ⟨"EdgeHouseModel", (m_gi9 66 rfl rfl), Or.inl rfl⟩, fun _ => rfl, m_n0 rfl⟩, (fun _ h => absurd h List.not_mem_nil)⟩)⟩)
set_option maxRecDepth 4000 in
theorem vc_316 : ∀ q ∈ M_316.2.2.2.2.2.2.1, m_cOk M_316.1 q := (fun _ h => absurd h List.not_mem_nil)
set_option maxRecDepth 4000 in
theorem vo_316 : ∀ q ∈ M_316.2.2.2.2.2.2.2.1, m_oOk M_316.1 q := (fun _ h => absurd h List.not_mem_nil)
set_option maxRecDepth 4000 in
theorem vk_316 : ∀ q ∈ M_316.2.2.2.2.2.2.2.2, decode M_316.2.1 q.1 = .ok (q.2.1, q.2.2) := by decide +kernel
set_option maxRecDepth 4000 in
theorem v_316 : m_mOk M_316 := ⟨(m_gi11 123 rfl rfl), (m_gi1 12 rfl rfl), by decide +kernel, ⟨by decide +kernel, by decide +kernel⟩, by decide +kernel, vf_316, vc_316, vo_316, vk_316⟩
set_option maxRecDepth 4000 in
theorem vf_317 : ∀ q ∈ M_317.2.2.2.2.2.1, m_fOk M_317.1 q := (List.forall_mem_cons.mpr ⟨⟨(R_14, F_14, 92), rfl, Nat.le_of_ble_eq_true rfl, ⟨"EdgeHouseModel", (m_gi9 23 rfl rfl), Or.inl rfl⟩, m_n0 rfl, m_n0 rfl⟩, (List.forall_mem_cons.mpr ⟨⟨(R_14, F_14, 92), rfl, Nat.le_of_ble_eq_true rfl, ⟨"EdgeHouseModel", (m_gi9 64 rfl rfl), Or.inl rfl⟩, m_n0 rfl, m_n0 rfl⟩, (List.forall_mem_cons.mpr ⟨⟨(R_14, F_14, 92), rfl, Nat.le_of_ble_eq_true rfl, ⟨"EdgeHouseModel", (m_gi9 68 rfl rfl), Or.inl rfl⟩, m_n0 rfl, m_n0 rfl⟩, (List.forall_mem_cons.mpr ⟨⟨(R_14, F_14, 92), rfl, Nat.le_of_ble_eq_true rfl, ⟨"EdgeHouseModel", (m_gi9 78 rfl rfl), Or.inl rfl⟩, m_n0 rfl, m_n0 rfl⟩, (List.forall_mem_cons.mpr ⟨⟨(R_14, F_14, 92), rfl, Nat.le_of_ble_eq_true rfl, ⟨"EdgeHouseModel", (m_gi9 25 rfl rfl), Or.inl rfl⟩, fun _ => rfl, m_n0 rfl⟩, (List.forall_mem_cons.mpr ⟨⟨(R_14, F_14, 92), rfl, Nat.le_of_ble_eq_true rfl, ⟨"EdgeHouseModel", (m_gi9 26 rfl rfl), Or.inl rfl⟩, fun _ => rfl, m_n0 rfl⟩, (fun _ h => absurd h List.not_mem_nil)⟩)⟩)⟩)⟩)⟩)⟩)
set_option maxRecDepth 4000 in
theorem vc_317 : ∀ q ∈ M_317.2.2.2.2.2.2.1, m_cOk M_317.1 q := (List.forall_mem_cons.mpr ⟨⟨m_n0 rfl, m_n0 rfl, m_n0 rfl, fun _ => ⟨M_279, rfl, m_n0 rfl, m_n0 rfl, fun _ => ⟨(m_gi10 211 rfl rfl), (m_gi10 212 rfl rfl)⟩, m_n0 rfl⟩⟩, (List.forall_mem_cons.mpr ⟨⟨m_n0 rfl, m_n0 rfl, m_n0 rfl, fun _ => ⟨M_286, rfl, m_n0 rfl, m_n0 rfl, fun _ => ⟨(m_gi10 238 rfl rfl), (m_gi10 239 rfl rfl)⟩, m_n0 rfl⟩⟩, (List.forall_mem_cons.mpr ⟨⟨m_n0 rfl, m_n0 rfl, m_n0 rfl, fun _ => ⟨M_304, rfl, m_n0 rfl, fun _ => ⟨(m_gi11 70 rfl rfl), (m_gi11 72 rfl rfl), (R_14, F_14, 92), rfl, rfl, (m_gp 78 rfl rfl)⟩, m_n0 rfl, m_n0 rfl⟩⟩, (List.forall_mem_cons.mpr ⟨⟨m_n0 rfl, m_n0 rfl, m_n0 rfl, fun _ => ⟨M_305, rfl, m_n0 rfl, fun _ => ⟨(m_gi11 74 rfl rfl), (m_gi11 76 rfl rfl), (R_14, F_14, 92), rfl, rfl, (m_gp 79 rfl rfl)⟩, m_n0 rfl, m_n0 rfl⟩⟩, (List.forall_mem_cons.mpr ⟨⟨m_n0 rfl, m_n0 rfl, m_n0 rfl, fun _ => ⟨M_275, rfl, m_n0 rfl, fun _ => ⟨(m_gi10 195 rfl rfl), (m_gi10 197 rfl rfl), (R_14, F_14, 92), rfl, rfl, (m_gp 51 rfl rfl)⟩, m_n0 rfl, m_n0 rfl⟩⟩, (List.forall_mem_cons.mpr ⟨⟨m_n0 rfl, m_n0 rfl, m_n0 rfl, fun _ => ⟨M_276, rfl, m_n0 rfl, fun _ => ⟨(m_gi10 199 rfl rfl), (m_gi10 201 rfl rfl), (R_14, F_14, 92), rfl, rfl, (m_gp 52 rfl rfl)⟩, m_n0 rfl, m_n0 rfl⟩⟩, (fun _ h => absurd h List.not_mem_nil)⟩)⟩)⟩)⟩)⟩)⟩)
set_option maxRecDepth 4000 in
theorem vo_317 : ∀ q ∈ M_317.2.2.2.2.2.2.2.1, m_oOk M_317.1 q := (fun _ h => absurd h List.not_mem_nil)
set_option maxRecDepth 4000 in
theorem vk_317 : ∀ q ∈ M_317.2.2.2.2.2.2.2.2, decode M_317.2.1 q.1 = .ok (q.2.1, q.2.2) := by decide +kernel
set_option maxRecDepth 4000 in
theorem v_317 : m_mOk M_317 := ⟨(m_gi11 127 rfl rfl), (m_gi1 12 rfl rfl), by decide +kernel, ⟨by decide +kernel, by decide +kernel⟩, by decide +kernel, vf_317, vc_317, vo_317, vk_317⟩
set_option maxRecDepth 4000 in
theorem vf_318 : ∀ q ∈ M_318.2.2.2.2.2.1, m_fOk M_318.1 q := (List.forall_mem_cons.mpr ⟨⟨(R_14, F_14, 92), rfl, Nat.le_of_ble_eq_true rfl, ⟨"EdgeHouseModel", (m_gi9 39 rfl rfl), Or.inl rfl⟩, m_n0 rfl, m_n0 rfl⟩, (List.forall_mem_cons.mpr ⟨⟨(R_14, F_14, 92), rfl, Nat.le_of_ble_eq_true rfl, ⟨"EdgeHouseModel", (m_gi9 48 rfl rfl), Or.inl rfl⟩, m_n0 rfl, m_n0 rfl⟩, (List.forall_mem_cons.mpr ⟨⟨(R_14, F_14, 92), rfl, Nat.le_of_ble_eq_true rfl, ⟨"EdgeHouseModel", (m_gi9 50 rfl rfl), Or.inl rfl⟩, m_n0 rfl, m_n0 rfl⟩, (List.forall_mem_cons.mpr ⟨⟨(R_14, F_14, 92), rfl, Nat.le_of_ble_eq_true rfl, ⟨"EdgeHouseModel", (m_gi9 54 rfl rfl), Or.inl rfl⟩, m_n0 rfl, m_n0 rfl⟩, (List.forall_mem_cons.mpr ⟨⟨(R_14, F_14, 92), rfl, Nat.le_of_ble_eq_true rfl, ⟨"EdgeHouseModel", (m_gi9 55 rfl rfl), Or.inl rfl⟩, m_n0 rfl, m_n0 rfl⟩, (List.forall_mem_cons.mpr ⟨⟨(R_14, F_14, 92), rfl, Nat.le_of_ble_eq_true rfl, ⟨"EdgeHouseModel", (m_gi9 78 rfl rfl), Or.inl rfl⟩, m_n0 rfl, m_n0 rfl⟩, (fun _ h => absurd h List.not_mem_nil)⟩)⟩)⟩)⟩)⟩)⟩)
set_option maxRecDepth 4000 in
theorem vc_318 : ∀ q ∈ M_318.2.2.2.2.2.2.1, m_cOk M_318.1 q := (List.forall_mem_cons.mpr ⟨⟨m_n0 rfl, m_n0 rfl, m_n0 rfl, fun _ => ⟨M_278, rfl, m_n0 rfl, fun _ => ⟨(m_gi10 207 rfl rfl), (m_gi10 209 rfl rfl), (R_14, F_14, 92), rfl, rfl, (m_gp 54 rfl rfl)⟩, m_n0 rfl, m_n0 rfl⟩⟩, (List.forall_mem_cons.mpr ⟨⟨m_n0 rfl, m_n0 rfl, m_n0 rfl, fun _ => ⟨M_279, rfl, m_n0 rfl, m_n0 rfl, fun _ => ⟨(m_gi10 211 rfl rfl), (m_gi10 212 rfl rfl)⟩, m_n0 rfl⟩⟩, (List.forall_mem_cons.mpr ⟨⟨m_n0 rfl, m_n0 rfl, m_n0 rfl, fun _ => ⟨M_308, rfl, m_n0 rfl, fun _ => ⟨(m_gi11 88 rfl rfl), (m_gi11 90 rfl rfl), (R_14, F_14, 92), rfl, rfl, (m_gp 82 rfl rfl)⟩, m_n0 rfl, m_n0 rfl⟩⟩, (List.forall_mem_cons.mpr ⟨⟨m_n0 rfl, m_n0 rfl, m_n0 rfl, fun _ => ⟨M_312, rfl, m_n0 rfl, fun _ => ⟨(m_gi11 104 rfl rfl), (m_gi11 106 rfl rfl), (R_14, F_14, 92), rfl, rfl, (m_gp 86 rfl rfl)⟩, m_n0 rfl, m_n0 rfl⟩⟩, (List.forall_mem_cons.mpr ⟨⟨m_n0 rfl, m_n0 rfl, m_n0 rfl, fun _ => ⟨M_320, rfl, m_n0 rfl, fun _ => ⟨(m_gi11 136 rfl rfl), (m_gi11 138 rfl rfl), (R_14, F_14, 92), rfl, rfl, (m_gp 92 rfl rfl)⟩, m_n0 rfl, m_n0 rfl⟩⟩, (List.forall_mem_cons.mpr ⟨⟨m_n0 rfl, m_n0 rfl, m_n0 rfl, fun _ => ⟨M_321, rfl, m_n0 rfl, fun _ => ⟨(m_gi11 140 rfl rfl), (m_gi11 142 rfl rfl), (R_14, F_14, 92), rfl, rfl, (m_gp 93 rfl rfl)⟩, m_n0 rfl, m_n0 rfl⟩⟩, (List.forall_mem_cons.mpr ⟨⟨m_n0 rfl, m_n0 rfl, m_n0 rfl, fun _ => ⟨M_319, rfl, m_n0 rfl, fun _ => ⟨(m_gi11 132 rfl rfl), (m_gi11 134 rfl rfl), (R_14, F_14, 92), rfl, rfl, (m_gp 91 rfl rfl)⟩, m_n0 rfl, m_n0 rfl⟩⟩, (List.forall_mem_cons.mpr ⟨⟨m_n0 rfl, m_n0 rfl, m_n0 rfl, fun _ => ⟨M_322, rfl, m_n0 rfl, fun _ => ⟨(m_gi11 144 rfl rfl), (m_gi11 146 rfl rfl), (R_14, F_14, 92), rfl, rfl, (m_gp 94 rfl rfl)⟩, m_n0 rfl, m_n0 rfl⟩⟩, (List.forall_mem_cons.mpr ⟨⟨m_n0 rfl, m_n0 rfl, m_n0 rfl, fun _ => ⟨M_323, rfl, m_n0 rfl, fun _ => ⟨(m_gi11 148 rfl rfl), (m_gi11 150 rfl rfl), (R_14, F_14, 92), rfl, rfl, (m_gp 95 rfl rfl)⟩, m_n0 rfl, m_n0 rfl⟩⟩, (List.forall_mem_cons.mpr ⟨⟨m_n0 rfl, m_n0 rfl, m_n0 rfl, fun _ => ⟨M_324, rfl, m_n0 rfl, fun _ => ⟨(m_gi11 152 rfl rfl), (m_gi11 154 rfl rfl), (R_14, F_14, 92), rfl, rfl, (m_gp 96 rfl rfl)⟩, m_n0 rfl, m_n0 rfl⟩⟩, (fun _ h => absurd h List.not_mem_nil)⟩)⟩)⟩)⟩)⟩)⟩)⟩)⟩)⟩)⟩)
set_option maxRecDepth 4000 in
theorem vo_318 : ∀ q ∈ M_318.2.2.2.2.2.2.2.1, m_oOk M_318.1 q := (fun _ h => absurd h List.not_mem_nil)
set_option maxRecDepth 4000 in
theorem vk_318 : ∀ q ∈ M_318.2.2.2.2.2.2.2.2, decode M_318.2.1 q.1 = .ok (q.2.1, q.2.2) := by decide +kernel
set_option maxRecDepth 4000 in
theorem v_318 : m_mOk M_318 := ⟨(m_gi11 131 rfl rfl), (m_gi1 12 rfl rfl), by decide +kernel, ⟨by decide +kernel, by decide +kernel⟩, by decide +kernel, vf_318, vc_318, vo_318, vk_318⟩
set_option maxRecDepth 4000 in
theorem vf_319 : ∀ q ∈ M_319.2.2.2.2.2.1, m_fOk M_319.1 q := (List.forall_mem_cons.mpr ⟨⟨(R_14, F_14, 92), rfl, Nat.le_of_ble_eq_true rfl, ⟨"EdgeHouseModel", (m_gi9 57 rfl rfl), Or.inl rfl⟩, m_n0 rfl, m_n0 rfl⟩, (List.forall_mem_cons.mpr ⟨⟨(R_14, F_14, 92), rfl, Nat.le_of_ble_eq_true rfl, ⟨"EdgeHouseModel", (m_gi9 58 rfl rfl), Or.inl rfl⟩, m_n0 rfl, m_n0 rfl⟩, (fun _ h => absurd h List.not_mem_nil)⟩)⟩)
set_option maxRecDepth 4000 in
theorem vc_319 : ∀ q ∈ M_319.2.2.2.2.2.2.1, m_cOk M_319.1 q := (fun _ h => absurd h List.not_mem_nil)
set_option maxRecDepth 4000 in
theorem vo_319 : ∀ q ∈ M_319.2.2.2.2.2.2.2.1, m_oOk M_319.1 q := (fun _ h => absurd h List.not_mem_nil)
set_option maxRecDepth 4000 in
theorem vk_319 : ∀ q ∈ M_319.2.2.2.2.2.2.2.2, decode M_319.2.1 q.1 = .ok (q.2.1, q.2.2) := by decide +kernel
set_option maxRecDepth 4000 in
theorem v_319 : m_mOk M_319 := ⟨(m_gi11 135 rfl rfl), (m_gi1 12 rfl rfl), by decide +kernel, ⟨by decide +kernel, by decide +kernel⟩, by decide +kernel, vf_319, vc_319, vo_319, vk_319⟩
set_option maxRecDepth 4000 in
theorem vf_320 : ∀ q ∈ M_320.2.2.2.2.2.1, m_fOk M_320.1 q := (List.forall_mem_cons.mpr ⟨⟨(R_14, F_14, 92), rfl, Nat.le_of_ble_eq_true rfl, ⟨"EdgeHouseModel", (m_gi9 64 rfl rfl), Or.inl rfl⟩, m_n0 rfl, m_n0 rfl⟩, (List.forall_mem_cons.mpr ⟨⟨(R_14, F_14, 92), rfl, Nat.le_of_ble_eq_true rfl, ⟨"EdgeHouseModel", (m_gi9 65 rfl rfl), Or.inl rfl⟩, m_n0 rfl, m_n0 rfl⟩, (List.forall_mem_cons.mpr ⟨⟨(R_14, F_14, 92), rfl, Nat.le_of_ble_eq_true rfl, ⟨"EdgeHouseModel", (m_gi9 63 rfl rfl), Or.inl rfl⟩, fun _ => rfl, m_n0 rfl⟩, (fun _ h => absurd h List.not_mem_nil)⟩)⟩)⟩)
set_option maxRecDepth 4000 in
theorem vc_320 : ∀ q ∈ M_320.2.2.2.2.2.2.1, m_cOk M_320.1 q := (fun _ h => absurd h List.not_mem_nil)
set_option maxRecDepth 4000 in
theorem vo_320 : ∀ q ∈ M_320.2.2.2.2.2.2.2.1, m_oOk M_320.1 q := (fun _ h => absurd h List.not_mem_nil)
set_option maxRecDepth 4000 in
theorem vk_320 : ∀ q ∈ M_320.2.2.2.2.2.2.2.2, decode M_320.2.1 q.1 = .ok (q.2.1, q.2.2) := by decide +kernel
set_option maxRecDepth 4000 in
theorem v_320 : m_mOk M_320 := ⟨(m_gi11 139 rfl rfl), (m_gi1 12 rfl rfl), by decide +kernel, ⟨by decide +kernel, by decide +kernel⟩, by decide +kernel, vf_320, vc_320, vo_320, vk_320⟩
set_option maxRecDepth 4000 in
theorem vf_321 : ∀ q ∈ M_321.2.2.2.2.2.1, m_fOk M_321.1 q := (List.forall_mem_cons.mpr ⟨⟨(R_14, F_14, 92), rfl, Nat.le_of_ble_eq_true rfl, ⟨"EdgeHouseModel", (m_gi9 64 rfl rfl), Or.inl rfl⟩, m_n0 rfl, m_n0 rfl⟩, (List.forall_mem_cons.mpr ⟨⟨(R_14, F_14, 92), rfl, Nat.le_of_ble_eq_true rfl, ⟨"EdgeHouseModel", (m_gi9 65 rfl rfl), Or.inl rfl⟩, m_n0 rfl, m_n0 rfl⟩, (fun _ h => absurd h List.not_mem_nil)⟩)⟩)
set_option maxRecDepth 4000 in
theorem vc_321 : ∀ q ∈ M_321.2.2.2.2.2.2.1, m_cOk M_321.1 q := (List.forall_mem_cons.mpr ⟨⟨m_n0 rfl, m_n0 rfl, m_n0 rfl, fun _ => ⟨M_275, rfl, m_n0 rfl, fun _ => ⟨(m_gi10 195 rfl rfl), (m_gi10 197 rfl rfl), (R_14, F_14, 92), rfl, rfl, (m_gp 51 rfl rfl)⟩, m_n0 rfl, m_n0 rfl⟩⟩, (fun _ h => absurd h List.not_mem_nil)⟩)
set_option maxRecDepth 4000 in
theorem vo_321 : ∀ q ∈ M_321.2.2.2.2.2.2.2.1, m_oOk M_321.1 q := (fun _ h => absurd h List.not_mem_nil)
set_option maxRecDepth 4000 in
theorem vk_321 : ∀ q ∈ M_321.2.2.2.2.2.2.2.2, decode M_321.2.1 q.1 = .ok (q.2.1, q.2.2) := by decide +kernel
set_option maxRecDepth 4000 in
theorem v_321 : m_mOk M_321 := ⟨(m_gi11 143 rfl rfl), (m_gi1 12 rfl rfl), by decide +kernel, ⟨by decide +kernel, by decide +kernel⟩, by decide +kernel, vf_321, vc_321, vo_321, vk_321⟩
set_option maxRecDepth 4000 in
theorem vf_322 : ∀ q ∈ M_322.2.2.2.2.2.1, m_fOk M_322.1 q := (List.forall_mem_cons.mpr ⟨⟨(R_14, F_14, 92), rfl, Nat.le_of_ble_eq_true rfl, ⟨"EdgeHouseModel", (m_gi9 48 rfl rfl), Or.inl rfl⟩, m_n0 rfl, m_n0 rfl⟩, (fun _ h => absurd h List.not_mem_nil)⟩)
set_option maxRecDepth 4000 in
theorem vc_322 : ∀ q ∈ M_322.2.2.2.2.2.2.1, m_cOk M_322.1 q := (List.forall_mem_cons.mpr ⟨⟨m_n0 rfl, m_n0 rfl, m_n0 rfl, fun _ => ⟨M_311, rfl, m_n0 rfl, fun _ => ⟨(m_gi11 100 rfl rfl), (m_gi11 102 rfl rfl), (R_14, F_14, 92), rfl, rfl, (m_gp 85 rfl rfl)⟩, m_n0 rfl, m_n0 rfl⟩⟩, (List.forall_mem_cons.mpr ⟨⟨m_n0 rfl, m_n0 rfl, m_n0 rfl, fun _ => ⟨M_320, rfl, m_n0 rfl, fun _ => ⟨(m_gi11 136 rfl rfl), (m_gi11 138 rfl rfl), (R_14, F_14, 92), rfl, rfl, (m_gp 92 rfl rfl)⟩, m_n0 rfl, m_n0 rfl⟩⟩, (List.forall_mem_cons.mpr ⟨⟨m_n0 rfl, m_n0 rfl, m_n0 rfl, fun _ => ⟨M_321, rfl, m_n0 rfl, fun _ => ⟨(m_gi11 140 rfl rfl), (m_gi11 142 rfl rfl), (R_14, F_14, 92), rfl, rfl, (m_gp 93 rfl rfl)⟩, m_n0 rfl, m_n0 rfl⟩⟩, (fun _ h => absurd h List.not_mem_nil)⟩)⟩)⟩)
set_option maxRecDepth 4000 in
theorem vo_322 : ∀ q ∈ M_322.2.2.2.2.2.2.2.1, m_oOk M_322.1 q := (fun _ h => absurd h List.not_mem_nil)
set_option maxRecDepth 4000 in
theorem vk_322 : ∀ q ∈ M_322.2.2.2.2.2.2.2.2, decode M_322.2.1 q.1 = .ok (q.2.1, q.2.2) := by decide +kernel
set_option maxRecDepth 4000 in
theorem v_322 : m_mOk M_322 := ⟨(m_gi11 147 rfl rfl), (m_gi1 12 rfl rfl), by decide +kernel, ⟨by decide +kernel, by decide +kernel⟩, by decide +kernel, vf_322, vc_322, vo_322, vk_322⟩
set_option maxRecDepth 4000 in
theorem vf_323 : ∀ q ∈ M_323.2.2.2.2.2.1, m_fOk M_323.1 q := (List.forall_mem_cons.mpr ⟨⟨(R_14, F_14, 92), rfl, Nat.le_of_ble_eq_true rfl, ⟨"EdgeHouseModel", (m_gi9 35 rfl rfl), Or.inl rfl⟩, m_n0 rfl, m_n0 rfl⟩, (List.forall_mem_cons.mpr ⟨⟨(R_14, F_14, 92), rfl, Nat.le_of_ble_eq_true rfl, ⟨"EdgeHouseModel", (m_gi9 36 rfl rfl), Or.inl rfl⟩, m_n0 rfl, m_n0 rfl⟩, (List.forall_mem_cons.mpr ⟨⟨(R_14, F_14, 92), rfl, Nat.le_of_ble_eq_true rfl, ⟨"EdgeHouseModel", (m_gi9 37 rfl rfl), Or.inl rfl⟩, m_n0 rfl, m_n0 rfl⟩, (List.forall_mem_cons.mpr ⟨⟨(R_14, F_14, 92), rfl, Nat.le_of_ble_eq_true rfl, ⟨"EdgeHouseModel", (m_gi9 38 rfl rfl), Or.inl rfl⟩, m_n0 rfl, m_n0 rfl⟩, (List.forall_mem_cons.mpr ⟨⟨(R_14, F_14, 92), rfl, Nat.le_of_ble_eq_true rfl, ⟨"EdgeHouseModel", (m_gi9 78 rfl rfl), Or.inl rfl⟩, m_n0 rfl, m_n0 rfl⟩, (fun _ h => absurd h List.not_mem_nil)⟩)⟩)⟩)⟩)⟩)
set_option maxRecDepth 4000 in
theorem vc_323 : ∀ q ∈ M_323.2.2.2.2.2.2.1, m_cOk M_323.1 q := (fun _ h => absurd h List.not_mem_nil)
set_option maxRecDepth 4000 in
theorem vo_323 : ∀ q ∈ M_323.2.2.2.2.2.2.2.1, m_oOk M_323.1 q := (fun _ h => absurd h List.not_mem_nil)
set_option maxRecDepth 4000 in
theorem vk_323 : ∀ q ∈ M_323.2.2.2.2.2.2.2.2, decode M_323.2.1 q.1 = .ok (q.2.1, q.2.2) := by decide +kernel
set_option maxRecDepth 4000 in
theorem v_323 : m_mOk M_323 := ⟨(m_gi11 151 rfl rfl), (m_gi1 12 rfl rfl), by decide +kernel, ⟨by decide +kernel, by decide +kernel⟩, by decide +kernel, vf_323, vc_323, vo_323, vk_323⟩
set_option maxRecDepth 4000 in
theorem vf_324 : ∀ q ∈ M_324.2.2.2.2.2.1, m_fOk M_324.1 q := (List.forall_mem_cons.mpr ⟨⟨(R_14, F_14, 92), rfl, Nat.le_of_ble_eq_true rfl, ⟨"EdgeHouseModel", (m_gi9 39 rfl rfl), Or.inl rfl⟩, m_n0 rfl, m_n0 rfl⟩, (List.forall_mem_cons.mpr ⟨⟨(R_14, F_14, 92), rfl, Nat.le_of_ble_eq_true rfl, ⟨"EdgeHouseModel", (m_gi9 40 rfl rfl), Or.inl rfl⟩, m_n0 rfl, m_n0 rfl⟩, (List.forall_mem_cons.mpr ⟨⟨(R_14, F_14, 92), rfl, Nat.le_of_ble_eq_true rfl, ⟨"EdgeHouseModel", (m_gi9 41 rfl rfl), Or.inl rfl⟩, m_n0 rfl, m_n0 rfl⟩, (List.forall_mem_cons.mpr ⟨⟨(R_14, F_14, 92), rfl, Nat.le_of_ble_eq_true rfl, ⟨"EdgeHouseModel", (m_gi9 42 rfl rfl), Or.inl rfl⟩, m_n0 rfl, m_n0 rfl⟩, (List.forall_mem_cons.mpr ⟨⟨(R_14, F_14, 92), rfl, Nat.le_of_ble_eq_true rfl, ⟨"EdgeHouseModel", (m_gi9 43 rfl rfl), Or.inl rfl⟩, m_n0 rfl, m_n0 rfl⟩, (List.forall_mem_cons.mpr ⟨⟨(R_14, F_14, 92), rfl, Nat.le_of_ble_eq_true rfl, ⟨"EdgeHouseModel", (m_gi9 44 rfl rfl), Or.inl rfl⟩, m_n0 rfl, m_n0 rfl⟩, (List.forall_mem_cons.mpr ⟨⟨(R_14, F_14, 92), rfl, Nat.le_of_ble_eq_true rfl, ⟨"EdgeHouseModel", (m_gi9 45 rfl rfl), Or.inl rfl⟩, m_n0 rfl, m_n0 rfl⟩, (List.forall_mem_cons.mpr ⟨⟨(R_14, F_14, 92), rfl, Nat.le_of_ble_eq_true rfl, ⟨"EdgeHouseModel", (m_gi9 48 rfl rfl), Or.inl rfl⟩, m_n0 rfl, m_n0 rfl⟩, (List.forall_mem_cons.mpr ⟨⟨(R_14, F_14, 92), rfl, Nat.le_of_ble_eq_true rfl, ⟨"EdgeHouseModel", (m_gi9 64 rfl rfl), Or.inl rfl⟩, m_n0 rfl, m_n0 rfl⟩, (List.forall_mem_cons.mpr ⟨⟨(R_14, F_14, 92), rfl, Nat.le_of_ble_eq_true rfl, ⟨"EdgeHouseModel", (m_gi9 72 rfl rfl), Or.inl rfl⟩, m_n0 rfl, m_n0 rfl⟩, (List.forall_mem_cons.mpr ⟨⟨(R_14, F_14, 92), rfl, Nat.le_of_ble_eq_true rfl, ⟨"EdgeHouseModel", (m_gi9 78 rfl rfl), Or.inl rfl⟩, m_n0 rfl, m_n0 rfl⟩, (List.forall_mem_cons.mpr ⟨⟨(R_14, F_14, 92), rfl, Nat.le_of_ble_eq_true rfl, ⟨"EdgeHouseModel", (m_gi9 25 rfl rfl), Or.inl rfl⟩, fun _ => rfl, m_n0 rfl⟩, (List.forall_mem_cons.mpr ⟨⟨(R_14, F_14, 92), rfl, Nat.le_of_ble_eq_true rfl, ⟨"EdgeHouseModel", (m_gi9 76 rfl rfl), Or.inl rfl⟩, fun _ => rfl, m_n0 rfl⟩, (List.forall_mem_cons.mpr ⟨⟨(R_14, F_14, 92), rfl, Nat.le_of_ble_eq_true rfl, ⟨"EdgeHouseModel", (m_gi9 73 rfl rfl), Or.inl rfl⟩, fun _ => rfl, m_n0 rfl⟩, (List.forall_mem_cons.mpr ⟨⟨(R_14, F_14, 92), rfl, Nat.le_of_ble_eq_true rfl, ⟨"EdgeHouseModel", (m_gi9 74 rfl rfl), Or.inl rfl⟩, fun _ => rfl, m_n0 rfl⟩, (List.forall_mem_cons.mpr ⟨⟨(R_14, F_14, 92), rfl, Nat.le_of_ble_eq_true rfl, ⟨"EdgeHouseModel", (m_gi9 75 rfl rfl), Or.inl rfl⟩, fun _ => rfl, m_n0 rfl⟩, (fun _ h => absurd h List.not_mem_nil)⟩)⟩)⟩)⟩)⟩)⟩)⟩)⟩)⟩)⟩)⟩)⟩)⟩)⟩)⟩)⟩)
set_option maxRecDepth 4000 in
theorem vc_324 : ∀ q ∈ M_324.2.2.2.2.2.2.1, m_cOk M_324.1 q := (List.forall_mem_cons.mpr ⟨⟨m_n0 rfl, m_n0 rfl, m_n0 rfl, fun _ => ⟨M_295, rfl, m_n0 rfl, fun _ => ⟨(m_gi11 33 rfl rfl), (m_gi11 35 rfl rfl), (R_14, F_14, 92), rfl, rfl, (m_gp 69 rfl rfl)⟩, m_n0 rfl, m_n0 rfl⟩⟩, (List.forall_mem_cons.mpr ⟨⟨m_n0 rfl, m_n0 rfl, m_n0 rfl, fun _ => ⟨M_296, rfl, m_n0 rfl, fun _ => ⟨(m_gi11 37 rfl rfl), (m_gi11 39 rfl rfl), (R_14, F_14, 92), rfl, rfl, (m_gp 70 rfl rfl)⟩, m_n0 rfl, m_n0 rfl⟩⟩, (List.forall_mem_cons.mpr ⟨⟨m_n0 rfl, m_n0 rfl, m_n0 rfl, fun _ => ⟨M_278, rfl, m_n0 rfl, fun _ => ⟨(m_gi10 207 rfl rfl), (m_gi10 209 rfl rfl), (R_14, F_14, 92), rfl, rfl, (m_gp 54 rfl rfl)⟩, m_n0 rfl, m_n0 rfl⟩⟩, (List.forall_mem_cons.mpr ⟨⟨m_n0 rfl, m_n0 rfl, m_n0 rfl, fun _ => ⟨M_279, rfl, m_n0 rfl, m_n0 rfl, fun _ => ⟨(m_gi10 211 rfl rfl), (m_gi10 212 rfl rfl)⟩, m_n0 rfl⟩⟩, (List.forall_mem_cons.mpr ⟨⟨m_n0 rfl, m_n0 rfl, m_n0 rfl, fun _ => ⟨M_285, rfl, m_n0 rfl, fun _ => ⟨(m_gi10 234 rfl rfl), (m_gi10 236 rfl rfl), (R_14, F_14, 92), rfl, rfl, (m_gp 60 rfl rfl)⟩, m_n0 rfl, m_n0 rfl⟩⟩, (List.forall_mem_cons.mpr ⟨⟨m_n0 rfl, m_n0 rfl, m_n0 rfl, fun _ => ⟨M_301, rfl, m_n0 rfl, fun _ => ⟨(m_gi11 58 rfl rfl), (m_gi11 60 rfl rfl), (R_14, F_14, 92), rfl, rfl, (m_gp 75 rfl rfl)⟩, m_n0 rfl, m_n0 rfl⟩⟩, (List.forall_mem_cons.mpr ⟨⟨m_n0 rfl, m_n0 rfl, m_n0 rfl, fun _ => ⟨M_303, rfl, m_n0 rfl, fun _ => ⟨(m_gi11 66 rfl rfl), (m_gi11 68 rfl rfl), (R_14, F_14, 92), rfl, rfl, (m_gp 77 rfl rfl)⟩, m_n0 rfl, m_n0 rfl⟩⟩, (List.forall_mem_cons.mpr ⟨⟨m_n0 rfl, m_n0 rfl, m_n0 rfl, fun _ => ⟨M_276, rfl, m_n0 rfl, fun _ => ⟨(m_gi10 199 rfl rfl), (m_gi10 201 rfl rfl), (R_14, F_14, 92), rfl, rfl, (m_gp 52 rfl rfl)⟩, m_n0 rfl, m_n0 rfl⟩⟩, (List.forall_mem_cons.mpr ⟨⟨m_n0 rfl, m_n0 rfl, m_n0 rfl, fun _ => ⟨M_320, rfl, m_n0 rfl, fun _ => ⟨(m_gi11 136 rfl rfl), (m_gi11 138 rfl rfl), (R_14, F_14, 92), rfl, rfl, (m_gp 92 rfl rfl)⟩, m_n0 rfl, m_n0 rfl⟩⟩, (List.forall_mem_cons.mpr ⟨⟨m_n0 rfl, m_n0 rfl, m_n0 rfl, fun _ => ⟨M_321, rfl, m_n0 rfl, fun _ => ⟨(m_gi11 140 rfl rfl), (m_gi11 142 rfl rfl), (R_14, F_14, 92), rfl, rfl, (m_gp 93 rfl rfl)⟩, m_n0 rfl, m_n0 rfl⟩⟩, (fun _ h => absurd h List.not_mem_nil)⟩)⟩)⟩)⟩)⟩)⟩)⟩)⟩)⟩)⟩)
set_option maxRecDepth 4000 in
theorem vo_324 : ∀ q ∈ M_324.2.2.2.2.2.2.2.1, m_oOk M_324.1 q := (fun _ h => absurd h List.not_mem_nil)
set_option maxRecDepth 4000 in
theorem vk_324 : ∀ q ∈ M_324.2.2.2.2.2.2.2.2, decode M_324.2.1 q.1 = .ok (q.2.1, q.2.2) := by decide +kernel
set_option maxRecDepth 4000 in
theorem v_324 : m_mOk M_324 := ⟨(m_gi11 155 rfl rfl), (m_gi1 12 rfl rfl), by decide +kernel, ⟨by decide +kernel, by decide +kernel⟩, by decide +kernel, vf_324, vc_324, vo_324, vk_324⟩
set_option maxRecDepth 4000 in
theorem vf_325 : ∀ q ∈ M_325.2.2.2.2.2.1, m_fOk M_325.1 q := (List.forall_mem_cons.mpr ⟨⟨(R_14, F_14, 92), rfl, Nat.le_of_ble_eq_true rfl, ⟨"EdgeHouseModel", (m_gi9 31 rfl rfl), Or.inl rfl⟩, m_n0 rfl, m_n0 rfl⟩, (List.forall_mem_cons.mpr ⟨⟨(R_14, F_14, 92), rfl, Nat.le_of_ble_eq_true rfl, ⟨"EdgeHouseModel", (m_gi9 35 rfl rfl), Or.inl rfl⟩, m_n0 rfl, m_n0 rfl⟩, (List.forall_mem_cons.mpr ⟨⟨(R_14, F_14, 92), rfl, Nat.le_of_ble_eq_true rfl, ⟨"EdgeHouseModel", (m_gi9 36 rfl rfl), Or.inl rfl⟩, m_n0 rfl, m_n0 rfl⟩, (List.forall_mem_cons.mpr ⟨⟨(R_14, F_14, 92), rfl, Nat.le_of_ble_eq_true rfl, ⟨"EdgeHouseModel", (m_gi9 37 rfl rfl), Or.inl rfl⟩, m_n0 rfl, m_n0 rfl⟩, (List.forall_mem_cons.mpr ⟨⟨(R_14, F_14, 92), rfl, Nat.le_of_ble_eq_true rfl, ⟨"EdgeHouseModel", (m_gi9 38 rfl rfl), Or.inl rfl⟩, m_n0 rfl, m_n0 rfl⟩, (List.forall_mem_cons.mpr ⟨⟨(R_14, F_14, 92), rfl, Nat.le_of_ble_eq_true rfl, ⟨"EdgeHouseModel", (m_gi9 39 rfl rfl), Or.inl rfl⟩, m_n0 rfl, m_n0 rfl⟩, (List.forall_mem_cons.mpr ⟨⟨(R_14, F_14, 92), rfl, Nat.le_of_ble_eq_true rfl, ⟨"EdgeHouseModel", (m_gi9 78 rfl rfl), Or.inl rfl⟩, m_n0 rfl, m_n0 rfl⟩, (fun _ h => absurd h List.not_mem_nil)⟩)⟩)⟩)⟩)⟩)⟩)⟩)
set_option maxRecDepth 4000 in
theorem vc_325 : ∀ q ∈ M_325.2.2.2.2.2.2.1, m_cOk M_325.1 q := (List.forall_mem_cons.mpr ⟨⟨m_n0 rfl, m_n0 rfl, m_n0 rfl, fun _ => ⟨M_278, rfl, m_n0 rfl, fun _ => ⟨(m_gi10 207 rfl rfl), (m_gi10 209 rfl rfl), (R_14, F_14, 92), rfl, rfl, (m_gp 54 rfl rfl)⟩, m_n0 rfl, m_n0 rfl⟩⟩, (List.forall_mem_cons.mpr ⟨⟨m_n0 rfl, m_n0 rfl, m_n0 rfl, fun _ => ⟨M_304, rfl, m_n0 rfl, fun _ => ⟨(m_gi11 70 rfl rfl), (m_gi11 72 rfl rfl), (R_14, F_14, 92), rfl, rfl, (m_gp 78 rfl rfl)⟩, m_n0 rfl, m_n0 rfl⟩⟩, (List.forall_mem_cons.mpr ⟨⟨m_n0 rfl, m_n0 rfl, m_n0 rfl, fun _ => ⟨M_305, rfl, m_n0 rfl, fun _ => ⟨(m_gi11 74 rfl rfl), (m_gi11 76 rfl rfl), (R_14, F_14, 92), rfl, rfl, (m_gp 79 rfl rfl)⟩, m_n0 rfl, m_n0 rfl⟩⟩, (fun _ h => absurd h List.not_mem_nil)⟩)⟩)⟩)
set_option maxRecDepth 4000 in
theorem vo_325 : ∀ q ∈ M_325.2.2.2.2.2.2.2.1, m_oOk M_325.1 q := (fun _ h => absurd h List.not_mem_nil)
set_option maxRecDepth 4000 in
theorem vk_325 : ∀ q ∈ M_325.2.2.2.2.2.2.2.2, decode M_325.2.1 q.1 = .ok (q.2.1, q.2.2) := by decide +kernel
set_option maxRecDepth 4000 in
theorem v_325 : m_mOk M_325 := ⟨(m_gi11 159 rfl rfl), (m_gi1 12 rfl rfl), by decide +kernel, ⟨by decide +kernel, by decide +kernel⟩, by decide +kernel, vf_325, vc_325, vo_325, vk_325⟩
set_option maxRecDepth 4000 in
theorem vf_326 : ∀ q ∈ M_326.2.2.2.2.2.1, m_fOk M_326.1 q := (List.forall_mem_cons.mpr ⟨⟨(R_14, F_14, 92), rfl, Nat.le_of_ble_eq_true rfl, ⟨"EdgeHouseModel", (m_gi8 229 rfl rfl), Or.inl rfl⟩, fun _ => rfl, m_n0 rfl⟩, (List.forall_mem_cons.mpr ⟨⟨(R_14, F_14, 92), rfl, Nat.le_of_ble_eq_true rfl, ⟨"EdgeHouseModel", (m_gi9 66 rfl rfl), Or.inl rfl⟩, fun _ => rfl, m_n0 rfl⟩, (List.forall_mem_cons.mpr ⟨⟨(R_14, F_14, 92), rfl, Nat.le_of_ble_eq_true rfl, ⟨"EdgeHouseModel", (m_gi9 28 rfl rfl), Or.inl rfl⟩, fun _ => rfl, m_n0 rfl⟩, (fun _ h => absurd h List.not_mem_nil)⟩)⟩)⟩)
set_option maxRecDepth 4000 in
theorem vc_326 : ∀ q ∈ M_326.2.2.2.2.2.2.1, m_cOk M_326.1 q := (List.forall_mem_cons.mpr ⟨⟨m_n0 rfl, m_n0 rfl, m_n0 rfl, fun _ => ⟨M_316, rfl, m_n0 rfl, fun _ => ⟨(m_gi11 120 rfl rfl), (m_gi11 122 rfl rfl), (R_14, F_14, 92), rfl, rfl, (m_gp 88 rfl rfl)⟩, m_n0 rfl, m_n0 rfl⟩⟩, (fun _ h => absurd h List.not_mem_nil)⟩)
set_option maxRecDepth 4000 in
theorem vo_326 : ∀ q ∈ M_326.2.2.2.2.2.2.2.1, m_oOk M_326.1 q := (fun _ h => absurd h List.not_mem_nil)
set_option maxRecDepth 4000 in
theorem vk_326 : ∀ q ∈ M_326.2.2.2.2.2.2.2.2, decode M_326.2.1 q.1 = .ok (q.2.1, q.2.2) := by decide +kernel
set_option maxRecDepth 4000 in
theorem v_326 : m_mOk M_326 := ⟨(m_gi11 163 rfl rfl), (m_gi1 12 rfl rfl), by decide +kernel, ⟨by decide +kernel, by decide +kernel⟩, by decide +kernel, vf_326, vc_326, vo_326, vk_326⟩
set_option maxRecDepth 4000 in
theorem vf_327 : ∀ q ∈ M_327.2.2.2.2.2.1, m_fOk M_327.1 q := (List.forall_mem_cons.mpr ⟨⟨(R_14, F_14, 92), rfl, Nat.le_of_ble_eq_true rfl, ⟨"EdgeHouseModel", (m_gi8 229 rfl rfl), Or.inl rfl⟩, fun _ => rfl, m_n0 rfl⟩, (List.forall_mem_cons.mpr ⟨⟨(R_14, F_14, 92), rfl, Nat.le_of_ble_eq_true rfl, ⟨"EdgeHouseModel", (m_gi9 66 rfl rfl), Or.inl rfl⟩, fun _ => rfl, m_n0 rfl⟩, (fun _ h => absurd h List.not_mem_nil)⟩)⟩)
set_option maxRecDepth 4000 in
theorem vc_327 : ∀ q ∈ M_327.2.2.2.2.2.2.1, m_cOk M_327.1 q := (List.forall_mem_cons.mpr ⟨⟨m_n0 rfl, m_n0 rfl, m_n0 rfl, fun _ => ⟨M_315, rfl, m_n0 rfl, fun _ => ⟨(m_gi11 116 rfl rfl), (m_gi11 118 rfl rfl), (R_14, F_14, 92), rfl, rfl, (m_gp 87 rfl rfl)⟩, m_n0 rfl, m_n0 rfl⟩⟩, (fun _ h => absurd h List.not_mem_nil)⟩)
set_option maxRecDepth 4000 in
theorem vo_327 : ∀ q ∈ M_327.2.2.2.2.2.2.2.1, m_oOk M_327.1 q := (fun _ h => absurd h List.not_mem_nil)
set_option maxRecDepth 4000 in
theorem vk_327 : ∀ q ∈ M_327.2.2.2.2.2.2.2.2, decode M_327.2.1 q.1 = .ok (q.2.1, q.2.2) := by decide +kernel
set_option maxRecDepth 4000 in
theorem v_327 : m_mOk M_327 := ⟨(m_gi11 167 rfl rfl), (m_gi1 12 rfl rfl), by decide +kernel, ⟨by decide +kernel, by decide +kernel⟩, by decide +kernel, vf_327, vc_327, vo_327, vk_327⟩
set_option maxRecDepth 4000 in
theorem vf_328 : ∀ q ∈ M_328.2.2.2.2.2.1, m_fOk M_328.1 q := (List.forall_mem_cons.mpr ⟨⟨(R_14, F_14, 92), rfl, Nat.le_of_ble_eq_true rfl, ⟨"EdgeHouseModel", (m_gi9 29 rfl rfl), Or.inl rfl⟩, m_n0 rfl, m_n0 rfl⟩, (List.forall_mem_cons.mpr ⟨⟨(R_14, F_14, 92), rfl, Nat.le_of_ble_eq_true rfl, ⟨"EdgeHouseModel", (m_gi9 68 rfl rfl), Or.inl rfl⟩, m_n0 rfl, m_n0 rfl⟩, (List.forall_mem_cons.mpr ⟨⟨(R_14, F_14, 92), rfl, Nat.le_of_ble_eq_true rfl, ⟨"EdgeHouseModel", (m_gi8 229 rfl rfl), Or.inl rfl⟩, fun _ => rfl, m_n0 rfl⟩, (List.forall_mem_cons.mpr ⟨⟨(R_14, F_14, 92), rfl, Nat.le_of_ble_eq_true rfl, ⟨"EdgeHouseModel", (m_gi9 27 rfl rfl), Or.inl rfl⟩, fun _ => rfl, m_n0 rfl⟩, (List.forall_mem_cons.mpr ⟨⟨(R_14, F_14, 92), rfl, Nat.le_of_ble_eq_true rfl, ⟨"EdgeHouseModel", (m_gi9 26 rfl rfl), Or.inl rfl⟩, fun _ => rfl, m_n0 rfl⟩, (fun _ h => absurd h List.not_mem_nil)⟩)⟩)⟩)⟩)⟩)
set_option maxRecDepth 4000 in
theorem vc_328 : ∀ q ∈ M_328.2.2.2.2.2.2.1, m_cOk M_328.1 q := (List.forall_mem_cons.mpr ⟨⟨m_n0 rfl, m_n0 rfl, m_n0 rfl, fun _ => ⟨M_304, rfl, m_n0 rfl, fun _ => ⟨(m_gi11 70 rfl rfl), (m_gi11 72 rfl rfl), (R_14, F_14, 92), rfl, rfl, (m_gp 78 rfl rfl)⟩, m_n0 rfl, m_n0 rfl⟩⟩, (List.forall_mem_cons.mpr ⟨⟨m_n0 rfl, m_n0 rfl, m_n0 rfl, fun _ => ⟨M_305, rfl, m_n0 rfl, fun _ => ⟨(m_gi11 74 rfl rfl), (m_gi11 76 rfl rfl), (R_14, F_14, 92), rfl, rfl, (m_gp 79 rfl rfl)⟩, m_n0 rfl, m_n0 rfl⟩⟩, (fun _ h => absurd h List.not_mem_nil)⟩)⟩)
set_option maxRecDepth 4000 in
theorem vo_328 : ∀ q ∈ M_328.2.2.2.2.2.2.2.1, m_oOk M_328.1 q := (fun _ h => absurd h List.not_mem_nil)
set_option maxRecDepth 4000 in
theorem vk_328 : ∀ q ∈ M_328.2.2.2.2.2.2.2.2, decode M_328.2.1 q.1 = .ok (q.2.1, q.2.2) := by decide +kernel
set_option maxRecDepth 4000 in
theorem v_328 : m_mOk M_328 := ⟨(m_gi11 171 rfl rfl), (m_gi1 12 rfl rfl), by decide +kernel, ⟨by decide +kernel, by decide +kernel⟩, by decide +kernel, vf_328, vc_328, vo_328, vk_328⟩
set_option maxRecDepth 4000 in
theorem vf_329 : ∀ q ∈ M_329.2.2.2.2.2.1, m_fOk M_329.1 q := (List.forall_mem_cons.mpr ⟨⟨(R_14, F_14, 92), rfl, Nat.le_of_ble_eq_true rfl, ⟨"EdgeHouseModel", (m_gi8 229 rfl rfl), Or.inl rfl⟩, fun _ => rfl, m_n0 rfl⟩, (List.forall_mem_cons.mpr ⟨⟨(R_14, F_14, 92), rfl, Nat.le_of_ble_eq_true rfl, ⟨"EdgeHouseModel", (m_gi9 25 rfl rfl), Or.inl rfl⟩, fun _ => rfl, m_n0 rfl⟩, (fun _ h => absurd h List.not_mem_nil)⟩)⟩)
set_option maxRecDepth 4000 in
theorem vc_329 : ∀ q ∈ M_329.2.2.2.2.2.2.1, m_cOk M_329.1 q := (List.forall_mem_cons.mpr ⟨⟨m_n0 rfl, m_n0 rfl, m_n0 rfl, fun _ => ⟨M_330, rfl, m_n0 rfl, fun _ => ⟨(m_gi11 176 rfl rfl), (m_gi11 178 rfl rfl), (R_14, F_14, 92), rfl, rfl, (m_gp 98 rfl rfl)⟩, m_n0 rfl, m_n0 rfl⟩⟩, (fun _ h => absurd h List.not_mem_nil)⟩)
set_option maxRecDepth 4000 in
theorem vo_329 : ∀ q ∈ M_329.2.2.2.2.2.2.2.1, m_oOk M_329.1 q := (fun _ h => absurd h List.not_mem_nil)
set_option maxRecDepth 4000 in
theorem vk_329 : ∀ q ∈ M_329.2.2.2.2.2.2.2.2, decode M_329.2.1 q.1 = .ok (q.2.1, q.2.2) := by decide +kernel
set_option maxRecDepth 4000 in
theorem v_329 : m_mOk M_329 := ⟨(m_gi11 175 rfl rfl), (m_gi1 12 rfl rfl), by decide +kernel, ⟨by decide +kernel, by decide +kernel⟩, by decide +kernel, vf_329, vc_329, vo_329, vk_329⟩
set_option maxRecDepth 4000 in
theorem vf_330 : ∀ q ∈ M_330.2.2.2.2.2.1, m_fOk M_330.1 q := (List.forall_mem_cons.mpr ⟨⟨(R_14, F_14, 92), rfl, Nat.le_of_ble_eq_true rfl, ⟨"EdgeHouseModel", (m_gi9 48 rfl rfl), Or.inl rfl⟩, m_n0 rfl, m_n0 rfl⟩, (List.forall_mem_cons.mpr ⟨⟨(R_14, F_14, 92), rfl, Nat.le_of_ble_eq_true rfl, ⟨"EdgeHouseModel", (m_gi9 50 rfl rfl), Or.inl rfl⟩, m_n0 rfl, m_n0 rfl⟩, (List.forall_mem_cons.mpr ⟨⟨(R_14, F_14, 92), rfl, Nat.le_of_ble_eq_true rfl, ⟨"EdgeHouseModel", (m_gi9 51 rfl rfl), Or.inl rfl⟩, m_n0 rfl, m_n0 rfl⟩, (List.forall_mem_cons.mpr ⟨⟨(R_14, F_14, 92), rfl, Nat.le_of_ble_eq_true rfl, ⟨"EdgeHouseModel", (m_gi9 56 rfl rfl), Or.inl rfl⟩, m_n0 rfl, m_n0 rfl⟩, (List.forall_mem_cons.mpr ⟨⟨(R_14, F_14, 92), rfl, Nat.le_of_ble_eq_true rfl, ⟨"EdgeHouseModel", (m_gi9 25 rfl rfl), Or.inl rfl⟩, fun _ => rfl, m_n0 rfl⟩, (fun _ h => absurd h List.not_mem_nil)⟩)⟩)⟩)⟩)⟩)
set_option maxRecDepth 4000 in
theorem vc_330 : ∀ q ∈ M_330.2.2.2.2.2.2.1, m_cOk M_330.1 q := (List.forall_mem_cons.mpr ⟨⟨m_n0 rfl, m_n0 rfl, m_n0 rfl, fun _ => ⟨M_322, rfl, m_n0 rfl, fun _ => ⟨(m_gi11 144 rfl rfl), (m_gi11 146 rfl rfl), (R_14, F_14, 92), rfl, rfl, (m_gp 94 rfl rfl)⟩, m_n0 rfl, m_n0 rfl⟩⟩, (List.forall_mem_cons.mpr ⟨⟨m_n0 rfl, m_n0 rfl, m_n0 rfl, fun _ => ⟨M_331, rfl, m_n0 rfl, fun _ => ⟨(m_gi11 180 rfl rfl), (m_gi11 182 rfl rfl), (R_14, F_14, 92), rfl, rfl, (m_gp 99 rfl rfl)⟩, m_n0 rfl, m_n0 rfl⟩⟩, (fun _ h => absurd h List.not_mem_nil)⟩)⟩)
set_option maxRecDepth 4000 in
theorem vo_330 : ∀ q ∈ M_330.2.2.2.2.2.2.2.1, m_oOk M_330.1 q := (fun _ h => absurd h List.not_mem_nil)
set_option maxRecDepth 4000 in
theorem vk_330 : ∀ q ∈ M_330.2.2.2.2.2.2.2.2, decode M_330.2.1 q.1 = .ok (q.2.1, q.2.2) := by decide +kernel
set_option maxRecDepth 4000 in
theorem v_330 : m_mOk M_330 := ⟨(m_gi11 179 rfl rfl), (m_gi1 12 rfl rfl), by decide +kernel, ⟨by decide +kernel, by decide +kernel⟩, by decide +kernel, vf_330, vc_330, vo_330, vk_330⟩
set_option maxRecDepth 4000 in
theorem vf_331 : ∀ q ∈ M_331.2.2.2.2.2.1, m_fOk M_331.1 q := (List.forall_mem_cons.mpr ⟨⟨(R_14, F_14, 92), rfl, Nat.le_of_ble_eq_true rfl, ⟨"EdgeHouseModel", (m_gi9 57 rfl rfl), Or.inl rfl⟩, m_n0 rfl, m_n0 rfl⟩, (List.forall_mem_cons.mpr ⟨⟨(R_14, F_14, 92), rfl, Nat.le_of_ble_eq_true rfl, ⟨"EdgeHouseModel", (m_gi9 58 rfl rfl), Or.inl rfl⟩, m_n0 rfl, m_n0 rfl⟩, (List.forall_mem_cons.mpr ⟨⟨(R_14, F_14, 92), rfl, Nat.le_of_ble_eq_true rfl, ⟨"EdgeHouseModel", (m_gi9 25 rfl rfl), Or.inl rfl⟩, fun _ => rfl, m_n0 rfl⟩, (fun _ h => absurd h List.not_mem_nil)⟩)⟩)⟩)
set_option maxRecDepth 4000 in
theorem vc_331 : ∀ q ∈ M_331.2.2.2.2.2.2.1, m_cOk M_331.1 q := (fun _ h => absurd h List.not_mem_nil)
set_option maxRecDepth 4000 in
theorem vo_331 : ∀ q ∈ M_331.2.2.2.2.2.2.2.1, m_oOk M_331.1 q := (fun _ h => absurd h List.not_mem_nil)
set_option maxRecDepth 4000 in
theorem vk_331 : ∀ q ∈ M_331.2.2.2.2.2.2.2.2, decode M_331.2.1 q.1 = .ok (q.2.1, q.2.2) := by decide +kernel
set_option maxRecDepth 4000 in
theorem v_331 : m_mOk M_331 := ⟨(m_gi11 183 rfl rfl), (m_gi1 12 rfl rfl), by decide +kernel, ⟨by decide +kernel, by decide +kernel⟩, by decide +kernel, vf_331, vc_331, vo_331, vk_331⟩
set_option maxRecDepth 4000 in
theorem vf_332 : ∀ q ∈ M_332.2.2.2.2.2.1, m_fOk M_332.1 q := (List.forall_mem_cons.mpr ⟨⟨(R_14, F_14, 92), rfl, Nat.le_of_ble_eq_true rfl, ⟨"EdgeHouseModel", (m_gi9 29 rfl rfl), Or.inl rfl⟩, m_n0 rfl, m_n0 rfl⟩, (List.forall_mem_cons.mpr ⟨⟨(R_14, F_14, 92), rfl, Nat.le_of_ble_eq_true rfl, ⟨"EdgeHouseModel", (m_gi9 31 rfl rfl), Or.inl rfl⟩, m_n0 rfl, m_n0 rfl⟩, (List.forall_mem_cons.mpr ⟨⟨(R_14, F_14, 92), rfl, Nat.le_of_ble_eq_true rfl, ⟨"EdgeHouseModel", (m_gi9 35 rfl rfl), Or.inl rfl⟩, m_n0 rfl, m_n0 rfl⟩, (List.forall_mem_cons.mpr ⟨⟨(R_14, F_14, 92), rfl, Nat.le_of_ble_eq_true rfl, ⟨"EdgeHouseModel", (m_gi9 39 rfl rfl), Or.inl rfl⟩, m_n0 rfl, m_n0 rfl⟩, (List.forall_mem_cons.mpr ⟨⟨(R_14, F_14, 92), rfl, Nat.le_of_ble_eq_true rfl, ⟨"EdgeHouseModel", (m_gi9 48 rfl rfl), Or.inl rfl⟩, m_n0 rfl, m_n0 rfl⟩, (List.forall_mem_cons.mpr ⟨⟨(R_14, F_14, 92), rfl, Nat.le_of_ble_eq_true rfl, ⟨"EdgeHouseModel", (m_gi9 65 rfl rfl), Or.inl rfl⟩, m_n0 rfl, m_n0 rfl⟩, (List.forall_mem_cons.mpr ⟨⟨(R_14, F_14, 92), rfl, Nat.le_of_ble_eq_true rfl, ⟨"EdgeHouseModel", (m_gi8 229 rfl rfl), Or.inl rfl⟩, fun _ => rfl, m_n0 rfl⟩, (fun _ h => absurd h List.not_mem_nil)⟩)⟩)⟩)⟩)⟩)⟩)⟩)
set_option maxRecDepth 4000 in
theorem vc_332 : ∀ q ∈ M_332.2.2.2.2.2.2.1, m_cOk M_332.1 q := (List.forall_mem_cons.mpr ⟨⟨m_n0 rfl, m_n0 rfl, m_n0 rfl, fun _ => ⟨M_270, rfl, m_n0 rfl, fun _ => ⟨(m_gi10 171 rfl rfl), (m_gi10 173 rfl rfl), (R_14, F_14, 92), rfl, rfl, (m_gp 47 rfl rfl)⟩, m_n0 rfl, m_n0 rfl⟩⟩, (List.forall_mem_cons.mpr ⟨⟨m_n0 rfl, m_n0 rfl, m_n0 rfl, fun _ => ⟨M_320, rfl, m_n0 rfl, fun _ => ⟨(m_gi11 136 rfl rfl), (m_gi11 138 rfl rfl), (R_14, F_14, 92), rfl, rfl, (m_gp 92 rfl rfl)⟩, m_n0 rfl, m_n0 rfl⟩⟩, (List.forall_mem_cons.mpr ⟨⟨m_n0 rfl, m_n0 rfl, m_n0 rfl, fun _ => ⟨M_319, rfl, m_n0 rfl, fun _ => ⟨(m_gi11 132 rfl rfl), (m_gi11 134 rfl rfl), (R_14, F_14, 92), rfl, rfl, (m_gp 91 rfl rfl)⟩, m_n0 rfl, m_n0 rfl⟩⟩, (List.forall_mem_cons.mpr ⟨⟨m_n0 rfl, m_n0 rfl, m_n0 rfl, fun _ => ⟨M_333, rfl, m_n0 rfl, m_n0 rfl, fun _ => ⟨(m_gi11 188 rfl rfl), (m_gi11 189 rfl rfl)⟩, m_n0 rfl⟩⟩, (fun _ h => absurd h List.not_mem_nil)⟩)⟩)⟩)⟩)
set_option maxRecDepth 4000 in
theorem vo_332 : ∀ q ∈ M_332.2.2.2.2.2.2.2.1, m_oOk M_332.1 q := (fun _ h => absurd h List.not_mem_nil)
set_option maxRecDepth 4000 in
theorem vk_332 : ∀ q ∈ M_332.2.2.2.2.2.2.2.2, decode M_332.2.1 q.1 = .ok (q.2.1, q.2.2) := by decide +kernel
set_option maxRecDepth 4000 in
theorem v_332 : m_mOk M_332 := ⟨(m_gi11 187 rfl rfl), (m_gi1 12 rfl rfl), by decide +kernel, ⟨by decide +kernel, by decide +kernel⟩, by decide +kernel, vf_332, vc_332, vo_332, vk_332⟩
set_option maxRecDepth 4000 in
theorem vf_333 : ∀ q ∈ M_333.2.2.2.2.2.1, m_fOk M_333.1 q := (fun _ h => absurd h List.not_mem_nil)
set_option maxRecDepth 4000 in
theorem vc_333 : ∀ q ∈ M_333.2.2.2.2.2.2.1, m_cOk M_333.1 q := (fun _ h => absurd h List.not_mem_nil)
set_option maxRecDepth 4000 in
theorem vo_333 : ∀ q ∈ M_333.2.2.2.2.2.2.2.1, m_oOk M_333.1 q := (fun _ h => absurd h List.not_mem_nil)
set_option maxRecDepth 4000 in
theorem vk_333 : ∀ q ∈ M_333.2.2.2.2.2.2.2.2, decode M_333.2.1 q.1 = .ok (q.2.1, q.2.2) := by decide +kernel
set_option maxRecDepth 4000 in
theorem v_333 : m_mOk M_333 := ⟨(m_gi11 190 rfl rfl), (m_gi1 12 rfl rfl), by decide +kernel, ⟨by decide +kernel, by decide +kernel⟩, by decide +kernel, vf_333, vc_333, vo_333, vk_333⟩
set_option maxRecDepth 4000 in
theorem vf_334 : ∀ q ∈ M_334.2.2.2.2.2.1, m_fOk M_334.1 q := (List.forall_mem_cons.mpr ⟨⟨(R_14, F_14, 92), rfl, Nat.le_of_ble_eq_true rfl, ⟨"EdgeHouseModel", (m_gi9 29 rfl rfl), Or.inl rfl⟩, m_n0 rfl, m_n0 rfl⟩, (List.forall_mem_cons.mpr ⟨⟨(R_14, F_14, 92), rfl, Nat.le_of_ble_eq_true rfl, ⟨"EdgeHouseModel", (m_gi9 31 rfl rfl), Or.inl rfl⟩, m_n0 rfl, m_n0 rfl⟩, (List.forall_mem_cons.mpr ⟨⟨(R_14, F_14, 92), rfl, Nat.le_of_ble_eq_true rfl, ⟨"EdgeHouseModel", (m_gi8 229 rfl rfl), Or.inl rfl⟩, fun _ => rfl, m_n0 rfl⟩, (List.forall_mem_cons.mpr ⟨⟨(R_14, F_14, 92), rfl, Nat.le_of_ble_eq_true rfl, ⟨"EdgeHouseModel", (m_gi9 26 rfl rfl), Or.inl rfl⟩, fun _ => rfl, m_n0 rfl⟩, (fun _ h => absurd h List.not_mem_nil)⟩)⟩)⟩)⟩)
set_option maxRecDepth 4000 in
theorem vc_334 : ∀ q ∈ M_334.2.2.2.2.2.2.1, m_cOk M_334.1 q := (List.forall_mem_cons.mpr ⟨⟨m_n0 rfl, m_n0 rfl, m_n0 rfl, fun _ => ⟨M_319, rfl, m_n0 rfl, fun _ => ⟨(m_gi11 132 rfl rfl), (m_gi11 134 rfl rfl), (R_14, F_14, 92), rfl, rfl, (m_gp 91 rfl rfl)⟩, m_n0 rfl, m_n0 rfl⟩⟩, (List.forall_mem_cons.mpr ⟨⟨m_n0 rfl, m_n0 rfl, m_n0 rfl, fun _ => ⟨M_333, rfl, m_n0 rfl, m_n0 rfl, fun _ => ⟨(m_gi11 188 rfl rfl), (m_gi11 189 rfl rfl)⟩, m_n0 rfl⟩⟩, (fun _ h => absurd h List.not_mem_nil)⟩)⟩)
set_option maxRecDepth 4000 in
theorem vo_334 : ∀ q ∈ M_334.2.2.2.2.2.2.2.1, m_oOk M_334.1 q := (fun _ h => absurd h List.not_mem_nil)
set_option maxRecDepth 4000 in
theorem vk_334 : ∀ q ∈ M_334.2.2.2.2.2.2.2.2, decode M_334.2.1 q.1 = .ok (q.2.1, q.2.2) := by decide +kernel
set_option maxRecDepth 4000 in
theorem v_334 : m_mOk M_334 := ⟨(m_gi11 194 rfl rfl), (m_gi1 12 rfl rfl), by decide +kernel, ⟨by decide +kernel, by decide +kernel⟩, by decide +kernel, vf_334, vc_334, vo_334, vk_334⟩
set_option maxRecDepth 4000 in
theorem vf_335 : ∀ q ∈ M_335.2.2.2.2.2.1, m_fOk M_335.1 q := (List.forall_mem_cons.mpr ⟨⟨(R_14, F_14, 92), rfl, Nat.le_of_ble_eq_true rfl, ⟨"EdgeHouseModel", (m_gi9 30 rfl rfl), Or.inl rfl⟩, m_n0 rfl, m_n0 rfl⟩, (List.forall_mem_cons.mpr ⟨⟨(R_14, F_14, 92), rfl, Nat.le_of_ble_eq_true rfl, ⟨"EdgeHouseModel", (m_gi8 229 rfl rfl), Or.inl rfl⟩, fun _ => rfl, m_n0 rfl⟩, (fun _ h => absurd h List.not_mem_nil)⟩)⟩)
set_option maxRecDepth 4000 in
theorem vc_335 : ∀ q ∈ M_335.2.2.2.2.2.2.1, m_cOk M_335.1 q := (List.forall_mem_cons.mpr ⟨⟨m_n0 rfl, m_n0 rfl, m_n0 rfl, fun _ => ⟨M_296, rfl, m_n0 rfl, fun _ => ⟨(m_gi11 37 rfl rfl), (m_gi11 39 rfl rfl), (R_14, F_14, 92), rfl, rfl, (m_gp 70 rfl rfl)⟩, m_n0 rfl, m_n0 rfl⟩⟩, (List.forall_mem_cons.mpr ⟨⟨m_n0 rfl, m_n0 rfl, m_n0 rfl, fun _ => ⟨M_333, rfl, m_n0 rfl, m_n0 rfl, fun _ => ⟨(m_gi11 188 rfl rfl), (m_gi11 189 rfl rfl)⟩, m_n0 rfl⟩⟩, (fun _ h => absurd h List.not_mem_nil)⟩)⟩)
set_option maxRecDepth 4000 in
theorem vo_335 : ∀ q ∈ M_335.2.2.2.2.2.2.2.1, m_oOk M_335.1 q := (fun _ h => absurd h List.not_mem_nil)
set_option maxRecDepth 4000 in
theorem vk_335 : ∀ q ∈ M_335.2.2.2.2.2.2.2.2, decode M_335.2.1 q.1 = .ok (q.2.1, q.2.2) := by decide +kernel
set_option maxRecDepth 4000 in
theorem v_335 : m_mOk M_335 := ⟨(m_gi11 198 rfl rfl), (m_gi1 12 rfl rfl), by decide +kernel, ⟨by decide +kernel, by decide +kernel⟩, by decide +kernel, vf_335, vc_335, vo_335, vk_335⟩
set_option maxRecDepth 4000 in
theorem vf_336 : ∀ q ∈ M_336.2.2.2.2.2.1, m_fOk M_336.1 q := (List.forall_mem_cons.mpr ⟨⟨(R_14, F_14, 92), rfl, Nat.le_of_ble_eq_true rfl, ⟨"EdgeHouseModel", (m_gi9 62 rfl rfl), Or.inl rfl⟩, m_n0 rfl, m_n0 rfl⟩, (List.forall_mem_cons.mpr ⟨⟨(R_14, F_14, 92), rfl, Nat.le_of_ble_eq_true rfl, ⟨"EdgeHouseModel", (m_gi9 77 rfl rfl), Or.inl rfl⟩, m_n0 rfl, m_n0 rfl⟩, (List.forall_mem_cons.mpr ⟨⟨(R_14, F_14, 92), rfl, Nat.le_of_ble_eq_true rfl, ⟨"EdgeHouseModel", (m_gi8 229 rfl rfl), Or.inl rfl⟩, fun _ => rfl, m_n0 rfl⟩, (List.forall_mem_cons.mpr ⟨⟨(R_14, F_14, 92), rfl, Nat.le_of_ble_eq_true rfl, ⟨"EdgeHouseModel", (m_gi9 59 rfl rfl), Or.inl rfl⟩, fun _ => rfl, m_n0 rfl⟩, (List.forall_mem_cons.mpr ⟨⟨(R_14, F_14, 92), rfl, Nat.le_of_ble_eq_true rfl, ⟨"EdgeHouseModel", (m_gi9 80 rfl rfl), Or.inl rfl⟩, fun _ => rfl, m_n0 rfl⟩, (fun _ h => absurd h List.not_mem_nil)⟩)⟩)⟩)⟩)⟩)
set_option maxRecDepth 4000 in
theorem vc_336 : ∀ q ∈ M_336.2.2.2.2.2.2.1, m_cOk M_336.1 q := (List.forall_mem_cons.mpr ⟨⟨m_n0 rfl, m_n0 rfl, m_n0 rfl, fun _ => ⟨M_337, rfl, m_n0 rfl, fun _ => ⟨(m_gi11 203 rfl rfl), (m_gi11 205 rfl rfl), (R_14, F_14, 92), rfl, rfl, (m_gp 100 rfl rfl)⟩, m_n0 rfl, m_n0 rfl⟩⟩, (List.forall_mem_cons.mpr ⟨⟨m_n0 rfl, m_n0 rfl, m_n0 rfl, fun _ => ⟨M_339, rfl, m_n0 rfl, fun _ => ⟨(m_gi11 211 rfl rfl), (m_gi11 213 rfl rfl), (R_14, F_14, 92), rfl, rfl, (m_gp 102 rfl rfl)⟩, m_n0 rfl, m_n0 rfl⟩⟩, (fun _ h => absurd h List.not_mem_nil)⟩)⟩)
set_option maxRecDepth 4000 in
theorem vo_336 : ∀ q ∈ M_336.2.2.2.2.2.2.2.1, m_oOk M_336.1 q := (fun _ h => absurd h List.not_mem_nil)
set_option maxRecDepth 4000 in
theorem vk_336 : ∀ q ∈ M_336.2.2.2.2.2.2.2.2, decode M_336.2.1 q.1 = .ok (q.2.1, q.2.2) := by decide +kernel
set_option maxRecDepth 4000 in
theorem v_336 : m_mOk M_336 := ⟨(m_gi11 202 rfl rfl), (m_gi1 12 rfl rfl), by decide +kernel, ⟨by decide +kernel, by decide +kernel⟩, by decide +kernel, vf_336, vc_336, vo_336, vk_336⟩
set_option maxRecDepth 4000 in
theorem vf_337 : ∀ q ∈ M_337.2.2.2.2.2.1, m_fOk M_337.1 q := (List.forall_mem_cons.mpr ⟨⟨(R_14, F_14, 92), rfl, Nat.le_of_ble_eq_true rfl, ⟨"EdgeHouseModel", (m_gi9 77 rfl rfl), Or.inl rfl⟩, m_n0 rfl, m_n0 rfl⟩, (fun _ h => absurd h List.not_mem_nil)⟩)
set_option maxRecDepth 4000 in
theorem vc_337 : ∀ q ∈ M_337.2.2.2.2.2.2.1, m_cOk M_337.1 q := (List.forall_mem_cons.mpr ⟨⟨m_n0 rfl, m_n0 rfl, m_n0 rfl, fun _ => ⟨M_288, rfl, m_n0 rfl, fun _ => ⟨(m_gi11 5 rfl rfl), (m_gi11 7 rfl rfl), (R_14, F_14, 92), rfl, rfl, (m_gp 62 rfl rfl)⟩, m_n0 rfl, m_n0 rfl⟩⟩, (List.forall_mem_cons.mpr ⟨⟨m_n0 rfl, m_n0 rfl, m_n0 rfl, fun _ => ⟨M_290, rfl, m_n0 rfl, fun _ => ⟨(m_gi11 13 rfl rfl), (m_gi11 15 rfl rfl), (R_14, F_14, 92), rfl, rfl, (m_gp 64 rfl rfl)⟩, m_n0 rfl, m_n0 rfl⟩⟩, (List.forall_mem_cons.mpr ⟨⟨m_n0 rfl, m_n0 rfl, m_n0 rfl, fun _ => ⟨M_338, rfl, m_n0 rfl, fun _ => ⟨(m_gi11 207 rfl rfl), (m_gi11 209 rfl rfl), (R_14, F_14, 92), rfl, rfl, (m_gp 101 rfl rfl)⟩, m_n0 rfl, m_n0 rfl⟩⟩, (fun _ h => absurd h List.not_mem_nil)⟩)⟩)⟩)
set_option maxRecDepth 4000 in
theorem vo_337 : ∀ q ∈ M_337.2.2.2.2.2.2.2.1, m_oOk M_337.1 q := (fun _ h => absurd h List.not_mem_nil)
set_option maxRecDepth 4000 in
theorem vk_337 : ∀ q ∈ M_337.2.2.2.2.2.2.2.2, decode M_337.2.1 q.1 = .ok (q.2.1, q.2.2) := by decide +kernel
set_option maxRecDepth 4000 in
theorem v_337 : m_mOk M_337 := ⟨(m_gi11 206 rfl rfl), (m_gi1 12 rfl rfl), by decide +kernel, ⟨by decide +kernel, by decide +kernel⟩, by decide +kernel, vf_337, vc_337, vo_337, vk_337⟩
set_option maxRecDepth 4000 in
theorem vf_338 : ∀ q ∈ M_338.2.2.2.2.2.1, m_fOk M_338.1 q := (List.forall_mem_cons.mpr ⟨⟨(R_14, F_14, 92), rfl, Nat.le_of_ble_eq_true rfl, ⟨"EdgeHouseModel", (m_gi9 77 rfl rfl), Or.inl rfl⟩, m_n0 rfl, m_n0 rfl⟩, (fun _ h => absurd h List.not_mem_nil)⟩)
set_option maxRecDepth 4000 in
theorem vc_338 : ∀ q ∈ M_338.2.2.2.2.2.2.1, m_cOk M_338.1 q := (fun _ h => absurd h List.not_mem_nil)
set_option maxRecDepth 4000 in
theorem vo_338 : ∀ q ∈ M_338.2.2.2.2.2.2.2.1, m_oOk M_338.1 q := (fun _ h => absurd h List.not_mem_nil)
set_option maxRecDepth 4000 in
theorem vk_338 : ∀ q ∈ M_338.2.2.2.2.2.2.2.2, decode M_338.2.1 q.1 = .ok (q.2.1, q.2.2) := by decide +kernel
set_option maxRecDepth 4000 in
theorem v_338 : m_mOk M_338 := ⟨(m_gi11 210 rfl rfl), (m_gi1 12 rfl rfl), by decide +kernel, ⟨by decide +kernel, by decide +kernel⟩, by decide +kernel, vf_338, vc_338, vo_338, vk_338⟩
set_option maxRecDepth 4000 in
theorem vf_339 : ∀ q ∈ M_339.2.2.2.2.2.1, m_fOk M_339.1 q := (List.forall_mem_cons.mpr ⟨⟨(R_14, F_14, 92), rfl, Nat.le_of_ble_eq_true rfl, ⟨"EdgeHouseModel", (m_gi9 62 rfl rfl), Or.inl rfl⟩, m_n0 rfl, m_n0 rfl⟩, (List.forall_mem_cons.mpr ⟨⟨(R_14, F_14, 92), rfl, Nat.le_of_ble_eq_true rfl, ⟨"EdgeHouseModel", (m_gi9 77 rfl rfl), Or.inl rfl⟩, m_n0 rfl, m_n0 rfl⟩, (List.forall_mem_cons.mpr ⟨⟨(R_14, F_14, 92), rfl, Nat.le_of_ble_eq_true rfl, ⟨"EdgeHouseModel", (m_gi9 79 rfl rfl), Or.inl rfl⟩, m_n0 rfl, m_n0 rfl⟩, (List.forall_mem_cons.mpr ⟨⟨(R_14, F_14, 92), rfl, Nat.le_of_ble_eq_true rfl, ⟨"EdgeHouseModel", (m_gi9 80 rfl rfl), Or.inl rfl⟩, fun _ => rfl, m_n0 rfl⟩, (fun _ h => absurd h List.not_mem_nil)⟩)⟩)⟩)⟩)
set_option maxRecDepth 4000 in
theorem vc_339 : ∀ q ∈ M_339.2.2.2.2.2.2.1, m_cOk M_339.1 q := (List.forall_mem_cons.mpr ⟨⟨m_n0 rfl, m_n0 rfl, m_n0 rfl, fun _ => ⟨M_282, rfl, m_n0 rfl, fun _ => ⟨(m_gi10 222 rfl rfl), (m_gi10 224 rfl rfl), (R_14, F_14, 92), rfl, rfl, (m_gp 57 rfl rfl)⟩, m_n0 rfl, m_n0 rfl⟩⟩, (List.forall_mem_cons.mpr ⟨⟨m_n0 rfl, m_n0 rfl, m_n0 rfl, fun _ => ⟨M_288, rfl, m_n0 rfl, fun _ => ⟨(m_gi11 5 rfl rfl), (m_gi11 7 rfl rfl), (R_14, F_14, 92), rfl, rfl, (m_gp 62 rfl rfl)⟩, m_n0 rfl, m_n0 rfl⟩⟩, (List.forall_mem_cons.mpr ⟨⟨m_n0 rfl, m_n0 rfl, m_n0 rfl, fun _ => ⟨M_290, rfl, m_n0 rfl, fun _ => ⟨(m_gi11 13 rfl rfl), (m_gi11 15 rfl rfl), (R_14, F_14, 92), rfl, rfl, (m_gp 64 rfl rfl)⟩, m_n0 rfl, m_n0 rfl⟩⟩, (List.forall_mem_cons.mpr ⟨⟨m_n0 rfl, m_n0 rfl, m_n0 rfl, fun _ => ⟨M_342, rfl, m_n0 rfl, fun _ => ⟨(m_gi11 224 rfl rfl), (m_gi11 226 rfl rfl), (R_14, F_14, 92), rfl, rfl, (m_gp 105 rfl rfl)⟩, m_n0 rfl, m_n0 rfl⟩⟩, (List.forall_mem_cons.mpr ⟨⟨m_n0 rfl, m_n0 rfl, m_n0 rfl, fun _ => ⟨M_341, rfl, m_n0 rfl, fun _ => ⟨(m_gi11 219 rfl rfl), (m_gi11 221 rfl rfl), (R_14, F_14, 92), rfl, rfl, (m_gp 104 rfl rfl)⟩, m_n0 rfl, m_n0 rfl⟩⟩, (List.forall_mem_cons.mpr ⟨⟨m_n0 rfl, m_n0 rfl, m_n0 rfl, fun _ => ⟨M_338, rfl, m_n0 rfl, fun _ => ⟨(m_gi11 207 rfl rfl), (m_gi11 209 rfl rfl), (R_14, F_14, 92), rfl, rfl, (m_gp 101 rfl rfl)⟩, m_n0 rfl, m_n0 rfl⟩⟩, (List.forall_mem_cons.mpr ⟨⟨m_n0 rfl, m_n0 rfl, m_n0 rfl, fun _ => ⟨M_340, rfl, m_n0 rfl, fun _ => ⟨(m_gi11 215 rfl rfl), (m_gi11 217 rfl rfl), (R_14, F_14, 92), rfl, rfl, (m_gp 103 rfl rfl)⟩, m_n0 rfl, m_n0 rfl⟩⟩, (List.forall_mem_cons.mpr ⟨⟨m_n0 rfl, m_n0 rfl, m_n0 rfl, fun _ => ⟨M_343, rfl, m_n0 rfl, fun _ => ⟨(m_gi11 239 rfl rfl), (m_gi12 1 rfl rfl), (R_14, F_14, 92), rfl, rfl, (m_gp 106 rfl rfl)⟩, m_n0 rfl, m_n0 rfl⟩⟩, (List.forall_mem_cons.mpr ⟨⟨m_n0 rfl, m_n0 rfl, m_n0 rfl, fun _ => ⟨M_337, rfl, m_n0 rfl, fun _ => ⟨(m_gi11 203 rfl rfl), (m_gi11 205 rfl rfl), (R_14, F_14, 92), rfl, rfl, (m_gp 100 rfl rfl)⟩, m_n0 rfl, m_n0 rfl⟩⟩, (fun _ h => absurd h List.not_mem_nil)⟩)⟩)⟩)⟩)⟩)⟩)⟩)⟩)⟩)
set_option maxRecDepth 4000 in
theorem vo_339 : ∀ q ∈ M_339.2.2.2.2.2.2.2.1, m_oOk M_339.1 q := (List.forall_mem_cons.mpr ⟨⟨m_n0 rfl, m_n0 rfl, m_n0 rfl, m_n0 rfl, m_n0 rfl, fun _ => ⟨_, List.mem_of_getElem? (i := 80) rfl⟩, m_n0 rfl, Nat.le_of_ble_eq_true rfl⟩, (List.forall_mem_cons.mpr ⟨⟨m_n0 rfl, m_n0 rfl, m_n0 rfl, m_n0 rfl, m_n0 rfl, fun _ => ⟨_, List.mem_of_getElem? (i := 90) rfl⟩, m_n0 rfl, Nat.le_of_ble_eq_true rfl⟩, (List.forall_mem_cons.mpr ⟨⟨m_n0 rfl, m_n0 rfl, m_n0 rfl, m_n0 rfl, m_n0 rfl, fun _ => ⟨_, List.mem_of_getElem? (i := 91) rfl⟩, m_n0 rfl, Nat.le_of_ble_eq_true rfl⟩, (List.forall_mem_cons.mpr ⟨⟨m_n0 rfl, m_n0 rfl, m_n0 rfl, m_n0 rfl, m_n0 rfl, fun _ => ⟨_, List.mem_of_getElem? (i := 92) rfl⟩, m_n0 rfl, Nat.le_of_ble_eq_true rfl⟩, (List.forall_mem_cons.mpr ⟨⟨m_n0 rfl, m_n0 rfl, m_n0 rfl, m_n0 rfl, m_n0 rfl, fun _ => ⟨_, List.mem_of_getElem? (i := 93) rfl⟩, m_n0 rfl, Nat.le_of_ble_eq_true rfl⟩, (List.forall_mem_cons.mpr ⟨⟨m_n0 rfl, m_n0 rfl, m_n0 rfl, m_n0 rfl, m_n0 rfl, fun _ => ⟨_, List.mem_of_getElem? (i := 94) rfl⟩, m_n0 rfl, Nat.le_of_ble_eq_true rfl⟩, (List.forall_mem_cons.mpr ⟨⟨m_n0 rfl, m_n0 rfl, m_n0 rfl, m_n0 rfl, m_n0 rfl, fun _ => ⟨_, List.mem_of_getElem? (i := 95) rfl⟩, m_n0 rfl, Nat.le_of_ble_eq_true rfl⟩, (List.forall_mem_cons.mpr ⟨⟨m_n0 rfl, m_n0 rfl, m_n0 rfl, m_n0 rfl, m_n0 rfl, fun _ => ⟨_, List.mem_of_getElem? (i := 96) rfl⟩, m_n0 rfl, Nat.le_of_ble_eq_true rfl⟩, (List.forall_mem_cons.mpr ⟨⟨m_n0 rfl, m_n0 rfl, m_n0 rfl, m_n0 rfl, m_n0 rfl, fun _ => ⟨_, List.mem_of_getElem? (i := 97) rfl⟩, m_n0 rfl, Nat.le_of_ble_eq_true rfl⟩, (List.forall_mem_cons.mpr ⟨⟨m_n0 rfl, m_n0 rfl, m_n0 rfl, m_n0 rfl, m_n0 rfl, fun _ => ⟨_, List.mem_of_getElem? (i := 98) rfl⟩, m_n0 rfl, Nat.le_of_ble_eq_true rfl⟩, (List.forall_mem_cons.mpr ⟨⟨m_n0 rfl, m_n0 rfl, m_n0 rfl, m_n0 rfl, m_n0 rfl, fun _ => ⟨_, List.mem_of_getElem? (i := 99) rfl⟩, m_n0 rfl, Nat.le_of_ble_eq_true rfl⟩, (List.forall_mem_cons.mpr ⟨⟨m_n0 rfl, m_n0 rfl, m_n0 rfl, m_n0 rfl, m_n0 rfl, fun _ => ⟨_, List.mem_of_getElem? (i := 100) rfl⟩, m_n0 rfl, Nat.le_of_ble_eq_true rfl⟩, (List.forall_mem_cons.mpr ⟨⟨m_n0 rfl, m_n0 rfl, m_n0 rfl, m_n0 rfl, m_n0 rfl, fun _ => ⟨_, List.mem_of_getElem? (i := 101) rfl⟩, m_n0 rfl, Nat.le_of_ble_eq_true rfl⟩, (List.forall_mem_cons.mpr ⟨⟨m_n0 rfl, m_n0 rfl, m_n0 rfl, m_n0 rfl, m_n0 rfl, fun _ => ⟨_, List.mem_of_getElem? (i := 102) rfl⟩, m_n0 rfl, Nat.le_of_ble_eq_true rfl⟩, (List.forall_mem_cons.mpr ⟨⟨m_n0 rfl, m_n0 rfl, m_n0 rfl, m_n0 rfl, m_n0 rfl, fun _ => ⟨_, List.mem_of_getElem? (i := 103) rfl⟩, m_n0 rfl, Nat.le_of_ble_eq_true rfl⟩, (fun _ h => absurd h List.not_mem_nil)⟩)⟩)⟩)⟩)⟩)⟩)⟩)⟩)⟩)⟩)⟩)⟩)⟩)⟩)⟩)
set_option maxRecDepth 4000 in
theorem vk_339 : ∀ q ∈ M_339.2.2.2.2.2.2.2.2, decode M_339.2.1 q.1 = .ok (q.2.1, q.2.2) := by decide +kernel
set_option maxRecDepth 4000 in
theorem v_339 : m_mOk M_339 := ⟨(m_gi11 214 rfl rfl), (m_gi1 12 rfl rfl), by decide +kernel, ⟨by decide +kernel, by decide +kernel⟩, by decide +kernel, vf_339, vc_339, vo_339, vk_339⟩
set_option maxRecDepth 4000 in
theorem vf_340 : ∀ q ∈ M_340.2.2.2.2.2.1, m_fOk M_340.1 q := (fun _ h => absurd h List.not_mem_nil)
set_option maxRecDepth 4000 in
theorem vc_340 : ∀ q ∈ M_340.2.2.2.2.2.2.1, m_cOk M_340.1 q := (List.forall_mem_cons.mpr ⟨⟨m_n0 rfl, m_n0 rfl, m_n0 rfl, fun _ => ⟨M_342, rfl, m_n0 rfl, fun _ => ⟨(m_gi11 224 rfl rfl), (m_gi11 226 rfl rfl), (R_14, F_14, 92), rfl, rfl, (m_gp 105 rfl rfl)⟩, m_n0 rfl, m_n0 rfl⟩⟩, (List.forall_mem_cons.mpr ⟨⟨m_n0 rfl, m_n0 rfl, m_n0 rfl, fun _ => ⟨M_341, rfl, m_n0 rfl, fun _ => ⟨(m_gi11 219 rfl rfl), (m_gi11 221 rfl rfl), (R_14, F_14, 92), rfl, rfl, (m_gp 104 rfl rfl)⟩, m_n0 rfl, m_n0 rfl⟩⟩, (fun _ h => absurd h List.not_mem_nil)⟩)⟩)
set_option maxRecDepth 4000 in
theorem vo_340 : ∀ q ∈ M_340.2.2.2.2.2.2.2.1, m_oOk M_340.1 q := (List.forall_mem_cons.mpr ⟨⟨m_n0 rfl, m_n0 rfl, m_n0 rfl, m_n0 rfl, m_n0 rfl, fun _ => ⟨_, List.mem_of_getElem? (i := 81) rfl⟩, m_n0 rfl, Nat.le_of_ble_eq_true rfl⟩, (List.forall_mem_cons.mpr ⟨⟨m_n0 rfl, m_n0 rfl, m_n0 rfl, m_n0 rfl, m_n0 rfl, fun _ => ⟨_, List.mem_of_getElem? (i := 82) rfl⟩, m_n0 rfl, Nat.le_of_ble_eq_true rfl⟩, (List.forall_mem_cons.mpr ⟨⟨m_n0 rfl, m_n0 rfl, m_n0 rfl, m_n0 rfl, m_n0 rfl, fun _ => ⟨_, List.mem_of_getElem? (i := 83) rfl⟩, m_n0 rfl, Nat.le_of_ble_eq_true rfl⟩, (List.forall_mem_cons.mpr ⟨⟨m_n0 rfl, m_n0 rfl, m_n0 rfl, m_n0 rfl, m_n0 rfl, fun _ => ⟨_, List.mem_of_getElem? (i := 84) rfl⟩, m_n0 rfl, Nat.le_of_ble_eq_true rfl⟩, (List.forall_mem_cons.mpr ⟨⟨m_n0 rfl, m_n0 rfl, m_n0 rfl, m_n0 rfl, m_n0 rfl, fun _ => ⟨_, List.mem_of_getElem? (i := 85) rfl⟩, m_n0 rfl, Nat.le_of_ble_eq_true rfl⟩, (List.forall_mem_cons.mpr ⟨⟨m_n0 rfl, m_n0 rfl, m_n0 rfl, m_n0 rfl, m_n0 rfl, fun _ => ⟨_, List.mem_of_getElem? (i := 86) rfl⟩, m_n0 rfl, Nat.le_of_ble_eq_true rfl⟩, (List.forall_mem_cons.mpr ⟨⟨m_n0 rfl, m_n0 rfl, m_n0 rfl, m_n0 rfl, m_n0 rfl, fun _ => ⟨_, List.mem_of_getElem? (i := 87) rfl⟩, m_n0 rfl, Nat.le_of_ble_eq_true rfl⟩, (List.forall_mem_cons.mpr ⟨⟨m_n0 rfl, m_n0 rfl, m_n0 rfl, m_n0 rfl, m_n0 rfl, fun _ => ⟨_, List.mem_of_getElem? (i := 88) rfl⟩, m_n0 rfl, Nat.le_of_ble_eq_true rfl⟩, (List.forall_mem_cons.mpr ⟨⟨m_n0 rfl, m_n0 rfl, m_n0 rfl, m_n0 rfl, m_n0 rfl, fun _ => ⟨_, List.mem_of_getElem? (i := 89) rfl⟩, m_n0 rfl, Nat.le_of_ble_eq_true rfl⟩, (fun _ h => absurd h List.not_mem_nil)⟩)⟩)⟩)⟩)⟩)⟩)⟩)⟩)⟩)
set_option maxRecDepth 4000 in
theorem vk_340 : ∀ q ∈ M_340.2.2.2.2.2.2.2.2, decode M_340.2.1 q.1 = .ok (q.2.1, q.2.2) := by decide +kernel
set_option maxRecDepth 4000 in
theorem v_340 : m_mOk M_340 := ⟨(m_gi11 218 rfl rfl), (m_gi1 12 rfl rfl), by decide +kernel, ⟨by decide +kernel, by decide +kernel⟩, by decide +kernel, vf_340, vc_340, vo_340, vk_340⟩
set_option maxRecDepth 4000 in
theorem vf_341 : ∀ q ∈ M_341.2.2.2.2.2.1, m_fOk M_341.1 q := (List.forall_mem_cons.mpr ⟨⟨(R_14, F_14, 92), rfl, Nat.le_of_ble_eq_true rfl, ⟨"EdgeHouseModel", (m_gi9 79 rfl rfl), Or.inl rfl⟩, m_n0 rfl, m_n0 rfl⟩, (List.forall_mem_cons.mpr ⟨⟨(R_14, F_14, 92), rfl, Nat.le_of_ble_eq_true rfl, ⟨"EdgeHouseModel", (m_gi9 80 rfl rfl), Or.inl rfl⟩, fun _ => rfl, m_n0 rfl⟩, (fun _ h => absurd h List.not_mem_nil)⟩)⟩)
set_option maxRecDepth 4000 in
theorem vc_341 : ∀ q ∈ M_341.2.2.2.2.2.2.1, m_cOk M_341.1 q := (fun _ h => absurd h List.not_mem_nil)
set_option maxRecDepth 4000 in
theorem vo_341 : ∀ q ∈ M_341.2.2.2.2.2.2.2.1, m_oOk M_341.1 q := (fun _ h => absurd h List.not_mem_nil)
set_option maxRecDepth 4000 in
theorem vk_341 : ∀ q ∈ M_341.2.2.2.2.2.2.2.2, decode M_341.2.1 q.1 = .ok (q.2.1, q.2.2) := by decide +kernel
set_option maxRecDepth 4000 in
theorem v_341 : m_mOk M_341 := ⟨(m_gi11 222 rfl rfl), (m_gi1 12 rfl rfl), by decide +kernel, ⟨by decide +kernel, by decide +kernel⟩, by decide +kernel, vf_341, vc_341, vo_341, vk_341⟩
set_option maxRecDepth 4000 in
theorem vf_342 : ∀ q ∈ M_342.2.2.2.2.2.1, m_fOk M_342.1 q := (List.forall_mem_cons.mpr ⟨⟨(R_14, F_14, 92), rfl, Nat.le_of_ble_eq_true rfl, ⟨"EdgeHouseModel", (m_gi9 79 rfl rfl), Or.inl rfl⟩, m_n0 rfl, m_n0 rfl⟩, (List.forall_mem_cons.mpr ⟨⟨(R_14, F_14, 92), rfl, Nat.le_of_ble_eq_true rfl, ⟨"EdgeHouseModel", (m_gi9 80 rfl rfl), Or.inl rfl⟩, fun _ => rfl, m_n0 rfl⟩, (fun _ h => absurd h List.not_mem_nil)⟩)⟩)
set_option maxRecDepth 4000 in
theorem vc_342 : ∀ q ∈ M_342.2.2.2.2.2.2.1, m_cOk M_342.1 q := (List.forall_mem_cons.mpr ⟨⟨m_n0 rfl, m_n0 rfl, m_n0 rfl, fun _ => ⟨M_24, rfl, m_n0 rfl, fun _ => ⟨(m_gi10 52 rfl rfl), (m_gi2 231 rfl rfl), (R_12, F_12, 4), rfl, rfl, (m_gi2 232 rfl rfl)⟩, m_n0 rfl, m_n0 rfl⟩⟩, (List.forall_mem_cons.mpr ⟨⟨m_n0 rfl, m_n0 rfl, m_n0 rfl, fun _ => ⟨M_26, rfl, m_n0 rfl, fun _ => ⟨(m_gi10 53 rfl rfl), (m_gi3 0 rfl rfl), (R_12, F_12, 4), rfl, rfl, (m_gi3 1 rfl rfl)⟩, m_n0 rfl, m_n0 rfl⟩⟩, (fun _ h => absurd h List.not_mem_nil)⟩)⟩)
set_option maxRecDepth 4000 in
theorem vo_342 : ∀ q ∈ M_342.2.2.2.2.2.2.2.1, m_oOk M_342.1 q := (fun _ h => absurd h List.not_mem_nil)
set_option maxRecDepth 4000 in
theorem vk_342 : ∀ q ∈ M_342.2.2.2.2.2.2.2.2, decode M_342.2.1 q.1 = .ok (q.2.1, q.2.2) := by decide +kernel
set_option maxRecDepth 4000 in
theorem v_342 : m_mOk M_342 := ⟨(m_gi11 227 rfl rfl), (m_gi1 12 rfl rfl), by decide +kernel, ⟨by decide +kernel, by decide +kernel⟩, by decide +kernel, vf_342, vc_342, vo_342, vk_342⟩
set_option maxRecDepth 4000 in
theorem vf_343 : ∀ q ∈ M_343.2.2.2.2.2.1, m_fOk M_343.1 q := (fun _ h => absurd h List.not_mem_nil)
set_option maxRecDepth 4000 in
theorem vc_343 : ∀ q ∈ M_343.2.2.2.2.2.2.1, m_cOk M_343.1 q := (List.forall_mem_cons.mpr ⟨⟨m_n0 rfl, m_n0 rfl, m_n0 rfl, fun _ => ⟨M_342, rfl, m_n0 rfl, fun _ => ⟨(m_gi11 224 rfl rfl), (m_gi11 226 rfl rfl), (R_14, F_14, 92), rfl, rfl, (m_gp 105 rfl rfl)⟩, m_n0 rfl, m_n0 rfl⟩⟩, (List.forall_mem_cons.mpr ⟨⟨m_n0 rfl, m_n0 rfl, m_n0 rfl, fun _ => ⟨M_341, rfl, m_n0 rfl, fun _ => ⟨(m_gi11 219 rfl rfl), (m_gi11 221 rfl rfl), (R_14, F_14, 92), rfl, rfl, (m_gp 104 rfl rfl)⟩, m_n0 rfl, m_n0 rfl⟩⟩, (fun _ h => absurd h List.not_mem_nil)⟩)⟩)
set_option maxRecDepth 4000 in
theorem vo_343 : ∀ q ∈ M_343.2.2.2.2.2.2.2.1, m_oOk M_343.1 q := (List.forall_mem_cons.mpr ⟨⟨m_n0 rfl, m_n0 rfl, m_n0 rfl, m_n0 rfl, m_n0 rfl, fun _ => ⟨_, List.mem_of_getElem? (i := 80) rfl⟩, m_n0 rfl, Nat.le_of_ble_eq_true rfl⟩, (fun _ h => absurd h List.not_mem_nil)⟩)
set_option maxRecDepth 4000 in
theorem vk_343 : ∀ q ∈ M_343.2.2.2.2.2.2.2.2, decode M_343.2.1 q.1 = .ok (q.2.1, q.2.2) := by decide +kernel
set_option maxRecDepth 4000 in
theorem v_343 : m_mOk M_343 := ⟨(m_gi12 2 rfl rfl), (m_gi1 12 rfl rfl), by decide +kernel, ⟨by decide +kernel, by decide +kernel⟩, by decide +kernel, vf_343, vc_343, vo_343, vk_343⟩
set_option maxRecDepth 4000 in
theorem vf_344 : ∀ q ∈ M_344.2.2.2.2.2.1, m_fOk M_344.1 q := (List.forall_mem_cons.mpr ⟨⟨(R_14, F_14, 92), rfl, Nat.le_of_ble_eq_true rfl, ⟨"EdgeHouseModel", (m_gi9 79 rfl rfl), Or.inl rfl⟩, m_n0 rfl, m_n0 rfl⟩, (List.forall_mem_cons.mpr ⟨⟨(R_14, F_14, 92), rfl, Nat.le_of_ble_eq_true rfl, ⟨"EdgeHouseModel", (m_gi8 229 rfl rfl), Or.inl rfl⟩, fun _ => rfl, m_n0 rfl⟩, (List.forall_mem_cons.mpr ⟨⟨(R_14, F_14, 92), rfl, Nat.le_of_ble_eq_true rfl, ⟨"EdgeHouseModel", (m_gi9 59 rfl rfl), Or.inl rfl⟩, fun _ => rfl, m_n0 rfl⟩, (List.forall_mem_cons.mpr ⟨⟨(R_14, F_14, 92), rfl, Nat.le_of_ble_eq_true rfl, ⟨"EdgeHouseModel", (m_gi9 80 rfl rfl), Or.inl rfl⟩, fun _ => rfl, m_n0 rfl⟩, (fun _ h => absurd h List.not_mem_nil)⟩)⟩)⟩)⟩)
set_option maxRecDepth 4000 in
theorem vc_344 : ∀ q ∈ M_344.2.2.2.2.2.2.1, m_cOk M_344.1 q := (List.forall_mem_cons.mpr ⟨⟨m_n0 rfl, m_n0 rfl, m_n0 rfl, fun _ => ⟨M_339, rfl, m_n0 rfl, fun _ => ⟨(m_gi11 211 rfl rfl), (m_gi11 213 rfl rfl), (R_14, F_14, 92), rfl, rfl, (m_gp 102 rfl rfl)⟩, m_n0 rfl, m_n0 rfl⟩⟩, (fun _ h => absurd h List.not_mem_nil)⟩)
set_option maxRecDepth 4000 in
theorem vo_344 : ∀ q ∈ M_344.2.2.2.2.2.2.2.1, m_oOk M_344.1 q := (fun _ h => absurd h List.not_mem_nil)
set_option maxRecDepth 4000 in
theorem vk_344 : ∀ q ∈ M_344.2.2.2.2.2.2.2.2, decode M_344.2.1 q.1 = .ok (q.2.1, q.2.2) := by decide +kernel
set_option maxRecDepth 4000 in
theorem v_344 : m_mOk M_344 := ⟨(m_gi12 18 rfl rfl), (m_gi1 12 rfl rfl), by decide +kernel, ⟨by decide +kernel, by decide +kernel⟩, by decide +kernel, vf_344, vc_344, vo_344, vk_344⟩
set_option maxRecDepth 4000 in
theorem vf_345 : ∀ q ∈ M_345.2.2.2.2.2.1, m_fOk M_345.1 q := (List.forall_mem_cons.mpr ⟨⟨(R_14, F_14, 92), rfl, Nat.le_of_ble_eq_true rfl, ⟨"EdgeHouseModel", (m_gi9 29 rfl rfl), Or.inl rfl⟩, m_n0 rfl, m_n0 rfl⟩, (List.forall_mem_cons.mpr ⟨⟨(R_14, F_14, 92), rfl, Nat.le_of_ble_eq_true rfl, ⟨"EdgeHouseModel", (m_gi9 31 rfl rfl), Or.inl rfl⟩, m_n0 rfl, m_n0 rfl⟩, (List.forall_mem_cons.mpr ⟨⟨(R_14, F_14, 92), rfl, Nat.le_of_ble_eq_true rfl, ⟨"EdgeHouseModel", (m_gi9 32 rfl rfl), Or.inl rfl⟩, m_n0 rfl, m_n0 rfl⟩, (List.forall_mem_cons.mpr ⟨⟨(R_14, F_14, 92), rfl, Nat.le_of_ble_eq_true rfl, ⟨"EdgeHouseModel", (m_gi9 33 rfl rfl), Or.inl rfl⟩, m_n0 rfl, m_n0 rfl⟩, (List.forall_mem_cons.mpr ⟨⟨(R_14, F_14, 92), rfl, Nat.le_of_ble_eq_true rfl, ⟨"EdgeHouseModel", (m_gi9 39 rfl rfl), Or.inl rfl⟩, m_n0 rfl, m_n0 rfl⟩, (List.forall_mem_cons.mpr ⟨⟨(R_14, F_14, 92), rfl, Nat.le_of_ble_eq_true rfl, ⟨"EdgeHouseModel", (m_gi9 40 rfl rfl), Or.inl rfl⟩, m_n0 rfl, m_n0 rfl⟩, (List.forall_mem_cons.mpr ⟨⟨(R_14, F_14, 92), rfl, Nat.le_of_ble_eq_true rfl, ⟨"EdgeHouseModel", (m_gi9 48 rfl rfl), Or.inl rfl⟩, m_n0 rfl, m_n0 rfl⟩, (List.forall_mem_cons.mpr ⟨⟨(R_14, F_14, 92), rfl, Nat.le_of_ble_eq_true rfl, ⟨"EdgeHouseModel", (m_gi9 57 rfl rfl), Or.inl rfl⟩, m_n0 rfl, m_n0 rfl⟩, (List.forall_mem_cons.mpr ⟨⟨(R_14, F_14, 92), rfl, Nat.le_of_ble_eq_true rfl, ⟨"EdgeHouseModel", (m_gi9 58 rfl rfl), Or.inl rfl⟩, m_n0 rfl, m_n0 rfl⟩, (List.forall_mem_cons.mpr ⟨⟨(R_14, F_14, 92), rfl, Nat.le_of_ble_eq_true rfl, ⟨"EdgeHouseModel", (m_gi9 64 rfl rfl), Or.inl rfl⟩, m_n0 rfl, m_n0 rfl⟩, (List.forall_mem_cons.mpr ⟨⟨(R_14, F_14, 92), rfl, Nat.le_of_ble_eq_true rfl, ⟨"EdgeHouseModel", (m_gi8 229 rfl rfl), Or.inl rfl⟩, fun _ => rfl, m_n0 rfl⟩, (List.forall_mem_cons.mpr ⟨⟨(R_14, F_14, 92), rfl, Nat.le_of_ble_eq_true rfl, ⟨"EdgeHouseModel", (m_gi9 63 rfl rfl), Or.inl rfl⟩, fun _ => rfl, m_n0 rfl⟩, (fun _ h => absurd h List.not_mem_nil)⟩)⟩)⟩)⟩)⟩)⟩)⟩)⟩)⟩)⟩)⟩)⟩)
set_option maxRecDepth 4000 in
theorem vc_345 : ∀ q ∈ M_345.2.2.2.2.2.2.1, m_cOk M_345.1 q := (List.forall_mem_cons.mpr ⟨⟨m_n0 rfl, m_n0 rfl, m_n0 rfl, fun _ => ⟨M_274, rfl, m_n0 rfl, fun _ => ⟨(m_gi10 190 rfl rfl), (m_gi10 192 rfl rfl), (R_14, F_14, 92), rfl, rfl, (m_gp 50 rfl rfl)⟩, m_n0 rfl, m_n0 rfl⟩⟩, (List.forall_mem_cons.mpr ⟨⟨m_n0 rfl, m_n0 rfl, m_n0 rfl, fun _ => ⟨M_297, rfl, m_n0 rfl, fun _ => ⟨(m_gi11 41 rfl rfl), (m_gi11 43 rfl rfl), (R_14, F_14, 92), rfl, rfl, (m_gp 71 rfl rfl)⟩, m_n0 rfl, m_n0 rfl⟩⟩, (List.forall_mem_cons.mpr ⟨⟨m_n0 rfl, m_n0 rfl, m_n0 rfl, fun _ => ⟨M_333, rfl, m_n0 rfl, m_n0 rfl, fun _ => ⟨(m_gi11 188 rfl rfl), (m_gi11 189 rfl rfl)⟩, m_n0 rfl⟩⟩, (fun _ h => absurd h List.not_mem_nil)⟩)⟩)⟩)
set_option maxRecDepth 4000 in
theorem vo_345 : ∀ q ∈ M_345.2.2.2.2.2.2.2.1, m_oOk M_345.1 q := (fun _ h => absurd h List.not_mem_nil)
set_option maxRecDepth 4000 in
theorem vk_345 : ∀ q ∈ M_345.2.2.2.2.2.2.2.2, decode M_345.2.1 q.1 = .ok (q.2.1, q.2.2) := by decide +kernel
set_option maxRecDepth 4000 in
theorem v_345 : m_mOk M_345 := ⟨(m_gi12 22 rfl rfl), (m_gi1 12 rfl rfl), by decide +kernel, ⟨by decide +kernel, by decide +kernel⟩, by decide +kernel, vf_345, vc_345, vo_345, vk_345⟩
set_option maxRecDepth 4000 in
theorem vf_346 : ∀ q ∈ M_346.2.2.2.2.2.1, m_fOk M_346.1 q := (List.forall_mem_cons.mpr ⟨⟨(R_14, F_14, 92), rfl, Nat.le_of_ble_eq_true rfl, ⟨"EdgeHouseModel", (m_gi9 39 rfl rfl), Or.inl rfl⟩, m_n0 rfl, m_n0 rfl⟩, (List.forall_mem_cons.mpr ⟨⟨(R_14, F_14, 92), rfl, Nat.le_of_ble_eq_true rfl, ⟨"EdgeHouseModel", (m_gi9 40 rfl rfl), Or.inl rfl⟩, m_n0 rfl, m_n0 rfl⟩, (List.forall_mem_cons.mpr ⟨⟨(R_14, F_14, 92), rfl, Nat.le_of_ble_eq_true rfl, ⟨"EdgeHouseModel", (m_gi9 42 rfl rfl), Or.inl rfl⟩, m_n0 rfl, m_n0 rfl⟩, (List.forall_mem_cons.mpr ⟨⟨(R_14, F_14, 92), rfl, Nat.le_of_ble_eq_true rfl, ⟨"EdgeHouseModel", (m_gi9 45 rfl rfl), Or.inl rfl⟩, m_n0 rfl, m_n0 rfl⟩, (List.forall_mem_cons.mpr ⟨⟨(R_14, F_14, 92), rfl, Nat.le_of_ble_eq_true rfl, ⟨"EdgeHouseModel", (m_gi9 46 rfl rfl), Or.inl rfl⟩, m_n0 rfl, m_n0 rfl⟩, (List.forall_mem_cons.mpr ⟨⟨(R_14, F_14, 92), rfl, Nat.le_of_ble_eq_true rfl, ⟨"EdgeHouseModel", (m_gi8 229 rfl rfl), Or.inl rfl⟩, fun _ => rfl, m_n0 rfl⟩, (fun _ h => absurd h List.not_mem_nil)⟩)⟩)⟩)⟩)⟩)⟩)
set_option maxRecDepth 4000 in
theorem vc_346 : ∀ q ∈ M_346.2.2.2.2.2.2.1, m_cOk M_346.1 q := (List.forall_mem_cons.mpr ⟨⟨m_n0 rfl, m_n0 rfl, m_n0 rfl, fun _ => ⟨M_100, rfl, m_n0 rfl, m_n0 rfl, fun _ => ⟨(m_gi11 49 rfl rfl), (m_gi4 177 rfl rfl)⟩, m_n0 rfl⟩⟩, (List.forall_mem_cons.mpr ⟨⟨m_n0 rfl, m_n0 rfl, m_n0 rfl, fun _ => ⟨M_278, rfl, m_n0 rfl, fun _ => ⟨(m_gi10 207 rfl rfl), (m_gi10 209 rfl rfl), (R_14, F_14, 92), rfl, rfl, (m_gp 54 rfl rfl)⟩, m_n0 rfl, m_n0 rfl⟩⟩, (List.forall_mem_cons.mpr ⟨⟨m_n0 rfl, m_n0 rfl, m_n0 rfl, fun _ => ⟨M_292, rfl, m_n0 rfl, fun _ => ⟨(m_gi11 21 rfl rfl), (m_gi11 23 rfl rfl), (R_14, F_14, 92), rfl, rfl, (m_gp 66 rfl rfl)⟩, m_n0 rfl, m_n0 rfl⟩⟩, (List.forall_mem_cons.mpr ⟨⟨m_n0 rfl, m_n0 rfl, m_n0 rfl, fun _ => ⟨M_333, rfl, m_n0 rfl, m_n0 rfl, fun _ => ⟨(m_gi11 188 rfl rfl), (m_gi11 189 rfl rfl)⟩, m_n0 rfl⟩⟩, (fun _ h => absurd h List.not_mem_nil)⟩)⟩)⟩)⟩)
set_option maxRecDepth 4000 in
theorem vo_346 : ∀ q ∈ M_346.2.2.2.2.2.2.2.1, m_oOk M_346.1 q := (fun _ h => absurd h List.not_mem_nil)
set_option maxRecDepth 4000 in
theorem vk_346 : ∀ q ∈ M_346.2.2.2.2.2.2.2.2, decode M_346.2.1 q.1 = .ok (q.2.1, q.2.2) := by decide +kernel
set_option maxRecDepth 4000 in
theorem v_346 : m_mOk M_346 := ⟨(m_gi12 26 rfl rfl), (m_gi1 12 rfl rfl), by decide +kernel, ⟨by decide +kernel, by decide +kernel⟩, by decide +kernel, vf_346, vc_346, vo_346, vk_346⟩
set_option maxRecDepth 4000 in
theorem vf_347 : ∀ q ∈ M_347.2.2.2.2.2.1, m_fOk M_347.1 q := (List.forall_mem_cons.mpr ⟨⟨(R_14, F_14, 92), rfl, Nat.le_of_ble_eq_true rfl, ⟨"EdgeHouseModel", (m_gi9 67 rfl rfl), Or.inl rfl⟩, m_n0 rfl, m_n0 rfl⟩, (List.forall_mem_cons.mpr ⟨⟨(R_14, F_14, 92), rfl, Nat.le_of_ble_eq_true rfl, ⟨"EdgeHouseModel", (m_gi8 229 rfl rfl), Or.inl rfl⟩, fun _ => rfl, m_n0 rfl⟩, (List.forall_mem_cons.mpr ⟨⟨(R_14, F_14, 92), rfl, Nat.le_of_ble_eq_true rfl, ⟨"EdgeHouseModel", (m_gi9 66 rfl rfl), Or.inl rfl⟩, fun _ => rfl, m_n0 rfl⟩, (fun _ h => absurd h List.not_mem_nil)⟩)⟩)⟩)
set_option maxRecDepth 4000 in
theorem vc_347 : ∀ q ∈ M_347.2.2.2.2.2.2.1, m_cOk M_347.1 q := (fun _ h => absurd h List.not_mem_nil)
set_option maxRecDepth 4000 in
theorem vo_347 : ∀ q ∈ M_347.2.2.2.2.2.2.2.1, m_oOk M_347.1 q := (fun _ h => absurd h List.not_mem_nil)
set_option maxRecDepth 4000 in
theorem vk_347 : ∀ q ∈ M_347.2.2.2.2.2.2.2.2, decode M_347.2.1 q.1 = .ok (q.2.1, q.2.2) := by decide +kernel
set_option maxRecDepth 4000 in
theorem v_347 : m_mOk M_347 := ⟨(m_gi12 30 rfl rfl), (m_gi1 12 rfl rfl), by decide +kernel, ⟨by decide +kernel, by decide +kernel⟩, by decide +kernel, vf_347, vc_347, vo_347, vk_347⟩
set_option maxRecDepth 4000 in
theorem vf_348 : ∀ q ∈ M_348.2.2.2.2.2.1, m_fOk M_348.1 q := (List.forall_mem_cons.mpr ⟨⟨(R_14, F_14, 92), rfl, Nat.le_of_ble_eq_true rfl, ⟨"EdgeHouseModel", (m_gi8 229 rfl rfl), Or.inl rfl⟩, fun _ => rfl, m_n0 rfl⟩, (List.forall_mem_cons.mpr ⟨⟨(R_14, F_14, 92), rfl, Nat.le_of_ble_eq_true rfl, ⟨"EdgeHouseModel", (m_gi9 25 rfl rfl), Or.inl rfl⟩, fun _ => rfl, m_n0 rfl⟩, (List.forall_mem_cons.mpr ⟨⟨(R_14, F_14, 92), rfl, Nat.le_of_ble_eq_true rfl, ⟨"EdgeHouseModel", (m_gi9 66 rfl rfl), Or.inl rfl⟩, fun _ => rfl, m_n0 rfl⟩, (List.forall_mem_cons.mpr ⟨⟨(R_14, F_14, 92), rfl, Nat.le_of_ble_eq_true rfl, ⟨"EdgeHouseModel", (m_gi9 28 rfl rfl), Or.inl rfl⟩, fun _ => rfl, m_n0 rfl⟩, (List.forall_mem_cons.mpr ⟨⟨(R_14, F_14, 92), rfl, Nat.le_of_ble_eq_true rfl, ⟨"EdgeHouseModel", (m_gi9 60 rfl rfl), Or.inl rfl⟩, fun _ => rfl, m_n0 rfl⟩, (List.forall_mem_cons.mpr ⟨⟨(R_14, F_14, 92), rfl, Nat.le_of_ble_eq_true rfl, ⟨"EdgeHouseModel", (m_gi9 27 rfl rfl), Or.inl rfl⟩, fun _ => rfl, m_n0 rfl⟩, (List.forall_mem_cons.mpr ⟨⟨(R_14, F_14, 92), rfl, Nat.le_of_ble_eq_true rfl, ⟨"EdgeHouseModel", (m_gi9 26 rfl rfl), Or.inl rfl⟩, fun _ => rfl, m_n0 rfl⟩, (List.forall_mem_cons.mpr ⟨⟨(R_14, F_14, 92), rfl, Nat.le_of_ble_eq_true rfl, ⟨"EdgeHouseModel", (m_gi9 59 rfl rfl), Or.inl rfl⟩, fun _ => rfl, m_n0 rfl⟩, (fun _ h => absurd h List.not_mem_nil)⟩)⟩)⟩)⟩)⟩)⟩)⟩)⟩)
set_option maxRecDepth 4000 in
theorem vc_348 : ∀ q ∈ M_348.2.2.2.2.2.2.1, m_cOk M_348.1 q := (fun _ h => absurd h List.not_mem_nil)
set_option maxRecDepth 4000 in
theorem vo_348 : ∀ q ∈ M_348.2.2.2.2.2.2.2.1, m_oOk M_348.1 q := (fun _ h => absurd h List.not_mem_nil)
set_option maxRecDepth 4000 in
theorem vk_348 : ∀ q ∈ M_348.2.2.2.2.2.2.2.2, decode M_348.2.1 q.1 = .ok (q.2.1, q.2.2) := by decide +kernel
set_option maxRecDepth 4000 in
theorem v_348 : m_mOk M_348 := ⟨(m_gi12 34 rfl rfl), (m_gi1 12 rfl rfl), by decide +kernel, ⟨by decide +kernel, by decide +kernel⟩, by decide +kernel, vf_348, vc_348, vo_348, vk_348⟩
