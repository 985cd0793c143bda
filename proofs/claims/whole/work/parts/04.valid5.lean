set_option maxRecDepth 4000 in
theorem vf_240 : ∀ q ∈ M_240.2.2.2.2.2.1, m_fOk M_240.1 q := (List.forall_mem_cons.mpr ⟨⟨(R_14, F_14, 92), rfl, Nat.le_of_ble_eq_true rfl, ⟨"EdgeHouseModel", (m_gi8 230 rfl rfl), Or.inl rfl⟩, m_n0 rfl, fun _ => ⟨rfl, rfl, rfl⟩⟩, (List.forall_mem_cons.mpr ⟨⟨(R_14, F_14, 92), rfl, Nat.le_of_ble_eq_true rfl, ⟨"EdgeHouseModel", (m_gi8 232 rfl rfl), Or.inl rfl⟩, fun _ => rfl, m_n0 rfl⟩, (List.forall_mem_cons.mpr ⟨⟨(R_14, F_14, 92), rfl, Nat.le_of_ble_eq_true rfl, ⟨"EdgeHouseModel", (m_gi9 10 rfl rfl), Or.inl rfl⟩, m_n0 rfl, fun _ => ⟨rfl, rfl, rfl⟩⟩, (List.forall_mem_cons.mpr ⟨⟨(R_14, F_14, 92), rfl, Nat.le_of_ble_eq_true rfl, ⟨"EdgeHouseModel", (m_gi9 11 rfl rfl), Or.inl rfl⟩, m_n0 rfl, fun _ => ⟨rfl, rfl, rfl⟩⟩, (List.forall_mem_cons.mpr ⟨⟨(R_14, F_14, 92), rfl, Nat.le_of_ble_eq_true rfl, ⟨"EdgeHouseModel", (m_gi9 21 rfl rfl), Or.inl rfl⟩, m_n0 rfl, fun _ => ⟨rfl, rfl, rfl⟩⟩, (List.forall_mem_cons.mpr ⟨⟨(R_14, F_14, 92), rfl, Nat.le_of_ble_eq_true rfl, ⟨"EdgeHouseModel", (m_gi9 22 rfl rfl), Or.inl rfl⟩, m_n0 rfl, fun _ => ⟨rfl, rfl, rfl⟩⟩, (List.forall_mem_cons.mpr ⟨⟨(R_14, F_14, 92), rfl, Nat.le_of_ble_eq_true rfl, ⟨"EdgeHouseModel", (m_gi9 23 rfl rfl), Or.inl rfl⟩, m_n0 rfl, fun _ => ⟨rfl, rfl, rfl⟩⟩, (List.forall_mem_cons.mpr ⟨⟨(R_14, F_14, 92), rfl, Nat.le_of_ble_eq_true rfl, ⟨"EdgeHouseModel", (m_gi9 24 rfl rfl), Or.inl rfl⟩, m_n0 rfl, fun _ => ⟨rfl, rfl, rfl⟩⟩, (List.forall_mem_cons.mpr ⟨⟨(R_14, F_14, 92), rfl, Nat.le_of_ble_eq_true rfl, ⟨"EdgeHouseModel", (m_gi9 29 rfl rfl), Or.inl rfl⟩, m_n0 rfl, fun _ => ⟨rfl, rfl, rfl⟩⟩, (List.forall_mem_cons.mpr ⟨⟨(R_14, F_14, 92), rfl, Nat.le_of_ble_eq_true rfl, ⟨"EdgeHouseModel", (m_gi9 30 rfl rfl), Or.inl rfl⟩, m_n0 rfl, fun _ => ⟨rfl, rfl, rfl⟩⟩, (List.forall_mem_cons.mpr ⟨⟨(R_14, F_14, 92), rfl, Nat.le_of_ble_eq_true rfl, ⟨"EdgeHouseModel", (m_gi9 31 rfl rfl), Or.inl rfl⟩, m_n0 rfl, fun _ => ⟨rfl, rfl, rfl⟩⟩, (List.forall_mem_cons.mpr ⟨⟨(R_14, F_14, 92), rfl, Nat.le_of_ble_eq_true rfl, ⟨"EdgeHouseModel", (m_gi9 32 rfl rfl), Or.inl rfl⟩, m_n0 rfl, fun _ => ⟨rfl, rfl, rfl⟩⟩, (List.forall_mem_cons.mpr ⟨⟨(R_14, F_14, 92), rfl, Nat.le_of_ble_eq_true rfl, ⟨"EdgeHouseModel", (m_gi9 33 rfl rfl), Or.inl rfl⟩, m_n0 rfl, fun _ => ⟨rfl, rfl, rfl⟩⟩, (List.forall_mem_cons.mpr ⟨⟨(R_14, F_14, 92), rfl, Nat.le_of_ble_eq_true rfl, ⟨"EdgeHouseModel", (m_gi9 34 rfl rfl), Or.inl rfl⟩, m_n0 rfl, fun _ => ⟨rfl, rfl, rfl⟩⟩, (List.forall_mem_cons.mpr ⟨⟨(R_14, F_14, 92), rfl, Nat.le_of_ble_eq_true rfl, ⟨"EdgeHouseModel", (m_gi9 35 rfl rfl), Or.inl rfl⟩, m_n0 rfl, fun _ => ⟨rfl, rfl, rfl⟩⟩, (List.forall_mem_cons.mpr ⟨⟨(R_14, F_14, 92), rfl, Nat.le_of_ble_eq_true rfl, ⟨"EdgeHouseModel", (m_gi9 36 rfl rfl), Or.inl rfl⟩, m_n0 rfl, fun _ => ⟨rfl, rfl, rfl⟩⟩, (List.forall_mem_cons.mpr ⟨⟨(R_14, F_14, 92), rfl, Nat.le_of_ble_eq_true rfl, ⟨"EdgeHouseModel", (m_gi9 37 rfl rfl), Or.inl rfl⟩, m_n0 rfl, fun _ => ⟨rfl, rfl, rfl⟩⟩, (List.forall_mem_cons.mpr ⟨⟨(R_14, F_14, 92), rfl, Nat.le_of_ble_eq_true rfl, ⟨"EdgeHouseModel", (m_gi9 38 rfl rfl), Or.inl rfl⟩, m_n0 rfl, fun _ => ⟨rfl, rfl, rfl⟩⟩, (List.forall_mem_cons.mpr ⟨⟨(R_14, F_14, 92), rfl, Nat.le_of_ble_eq_true rfl, ⟨"EdgeHouseModel", (m_gi9 39 rfl rfl), Or.inl rfl⟩, m_n0 rfl, fun _ => ⟨rfl, rfl, rfl⟩⟩, (List.forall_mem_cons.mpr ⟨⟨(R_14, F_14, 92), rfl, Nat.le_of_ble_eq_true rfl, ⟨"EdgeHouseModel", (m_gi9 40 rfl rfl), Or.inl rfl⟩, m_n0 rfl, fun _ => ⟨rfl, rfl, rfl⟩⟩, (List.forall_mem_cons.mpr ⟨⟨(R_14, F_14, 92), rfl, Nat.le_of_ble_eq_true rfl, ⟨"EdgeHouseModel", (m_gi9 41 rfl rfl), Or.inl rfl⟩, m_n0 rfl, fun _ => ⟨rfl, rfl, rfl⟩⟩, (List.forall_mem_cons.mpr ⟨⟨(R_14, F_14, 92), rfl, Nat.le_of_ble_eq_true rfl, ⟨"EdgeHouseModel", (m_gi9 42 rfl rfl), Or.inl rfl⟩, m_n0 rfl, fun _ => ⟨rfl, rfl, rfl⟩⟩, (List.forall_mem_cons.mpr ⟨⟨(R_14, F_14, 92), rfl, Nat.le_of_ble_eq_true rfl, ⟨"EdgeHouseModel", (m_gi9 43 rfl rfl), Or.inl rfl⟩, m_n0 rfl, fun _ => ⟨rfl, rfl, rfl⟩⟩, (List.forall_mem_cons.mpr ⟨⟨(R_14, F_14, 92), rfl, Nat.le_of_ble_eq_true rfl, ⟨"EdgeHouseModel", (m_gi9 44 rfl rfl), Or.inl rfl⟩, m_n0 rfl, fun _ => ⟨rfl, rfl, rfl⟩⟩, (List.forall_mem_cons.mpr ⟨⟨(R_14, F_14, 92), rfl, Nat.le_of_ble_eq_true rfl, ⟨"EdgeHouseModel", (m_gi9 45 rfl rfl), Or.inl rfl⟩, m_n0 rfl, fun _ => ⟨rfl, rfl, rfl⟩⟩, (List.forall_mem_cons.mpr ⟨⟨(R_14, F_14, 92), rfl, Nat.le_of_ble_eq_true rfl, ⟨"EdgeHouseModel", (m_gi9 46 rfl rfl), Or.inl rfl⟩, m_n0 rfl, fun _ => ⟨rfl, rfl, rfl⟩⟩, (List.forall_mem_cons.mpr ⟨⟨(R_14, F_14, 92), rfl, Nat.le_of_ble_eq_true rfl, ⟨"EdgeHouseModel", (m_gi9 48 rfl rfl), Or.inl rfl⟩, m_n0 rfl, fun _ => ⟨rfl, rfl, rfl⟩⟩, (List.forall_mem_cons.mpr ⟨⟨(R_14, F_14, 92), rfl, Nat.le_of_ble_eq_true rfl, ⟨"EdgeHouseModel", (m_gi9 49 rfl rfl), Or.inl rfl⟩, m_n0 rfl, fun _ => ⟨rfl, rfl, rfl⟩⟩, (List.forall_mem_cons.mpr ⟨⟨(R_14, F_14, 92), rfl, Nat.le_of_ble_eq_true rfl, ⟨"EdgeHouseModel", (m_gi9 50 rfl rfl), Or.inl rfl⟩, m_n0 rfl, fun _ => ⟨rfl, rfl, rfl⟩⟩, (List.forall_mem_cons.mpr ⟨⟨(R_14, F_14, 92), rfl, Nat.le_of_ble_eq_true rfl, ⟨"EdgeHouseModel", (m_gi9 51 rfl rfl), Or.inl rfl⟩, m_n0 rfl, fun _ => ⟨rfl, rfl, rfl⟩⟩, (List.forall_mem_cons.mpr ⟨⟨(R_14, F_14, 92), rfl, Nat.le_of_ble_eq_true rfl, ⟨"EdgeHouseModel", (m_gi9 52 rfl rfl), Or.inl rfl⟩, m_n0 rfl, fun _ => ⟨rfl, rfl, rfl⟩⟩, (List.forall_mem_cons.mpr ⟨⟨(R_14, F_14, 92), rfl, Nat.le_of_ble_eq_true rfl, ⟨"EdgeHouseModel", (m_gi9 53 rfl rfl), Or.inl rfl⟩, m_n0 rfl, fun _ => ⟨rfl, rfl, rfl⟩⟩, (List.forall_mem_cons.mpr ⟨⟨(R_14, F_14, 92), rfl, Nat.le_of_ble_eq_true rfl, ⟨"EdgeHouseModel", (m_gi9 54 rfl rfl), Or.inl rfl⟩, m_n0 rfl, fun _ => ⟨rfl, rfl, rfl⟩⟩, (List.forall_mem_cons.mpr ⟨⟨(R_14, F_14, 92), rfl, Nat.le_of_ble_eq_true rfl, ⟨"EdgeHouseModel", (m_gi9 55 rfl rfl), Or.inl rfl⟩, m_n0 rfl, fun _ => ⟨rfl, rfl, rfl⟩⟩, (List.forall_mem_cons.mpr ⟨⟨(R_14, F_14, 92), rfl, Nat.le_of_ble_eq_true rfl, ⟨"EdgeHouseModel", (m_gi9 56 rfl rfl), Or.inl rfl⟩, m_n0 rfl, fun _ => ⟨rfl, rfl, rfl⟩⟩, (List.forall_mem_cons.mpr ⟨⟨(R_14, F_14, 92), rfl, Nat.le_of_ble_eq_true rfl, ⟨"EdgeHouseModel", (m_gi9 57 rfl rfl), Or.inl rfl⟩, m_n0 rfl, fun _ => ⟨rfl, rfl, rfl⟩⟩, (List.forall_mem_cons.mpr ⟨⟨(R_14, F_14, 92), rfl, Nat.le_of_ble_eq_true rfl, ⟨"EdgeHouseModel", (m_gi9 58 rfl rfl), Or.inl rfl⟩, m_n0 rfl, fun _ => ⟨rfl, rfl, rfl⟩⟩, (List.forall_mem_cons.mpr ⟨⟨(R_14, F_14, 92), rfl, Nat.le_of_ble_eq_true rfl, ⟨"EdgeHouseModel", (m_gi9 61 rfl rfl), Or.inl rfl⟩, m_n0 rfl, fun _ => ⟨rfl, rfl, rfl⟩⟩, (List.forall_mem_cons.mpr ⟨⟨(R_14, F_14, 92), rfl, Nat.le_of_ble_eq_true rfl, ⟨"EdgeHouseModel", (m_gi9 62 rfl rfl), Or.inl rfl⟩, m_n0 rfl, fun _ => ⟨rfl, rfl, rfl⟩⟩, (List.forall_mem_cons.mpr ⟨⟨(R_14, F_14, 92), rfl, Nat.le_of_ble_eq_true rfl, ⟨"EdgeHouseModel", (m_gi9 64 rfl rfl), Or.inl rfl⟩, m_n0 rfl, fun _ => ⟨rfl, rfl, rfl⟩⟩, (List.forall_mem_cons.mpr ⟨⟨(R_14, F_14, 92), rfl, Nat.le_of_ble_eq_true rfl, ⟨"EdgeHouseModel", (m_gi9 65 rfl rfl), Or.inl rfl⟩, m_n0 rfl, fun _ => ⟨rfl, rfl, rfl⟩⟩, (List.forall_mem_cons.mpr ⟨⟨(R_14, F_14, 92), rfl, Nat.le_of_ble_eq_true rfl, ⟨"EdgeHouseModel", (m_gi9 67 rfl rfl), Or.inl rfl⟩, m_n0 rfl, fun _ => ⟨rfl, rfl, rfl⟩⟩, (List.forall_mem_cons.mpr ⟨⟨(R_14, F_14, 92), rfl, Nat.le_of_ble_eq_true rfl, ⟨"EdgeHouseModel", (m_gi9 68 rfl rfl), Or.inl rfl⟩, m_n0 rfl, fun _ => ⟨rfl, rfl, rfl⟩⟩, (List.forall_mem_cons.mpr ⟨⟨(R_14, F_14, 92), rfl, Nat.le_of_ble_eq_true rfl, ⟨"EdgeHouseModel", (m_gi9 72 rfl rfl), Or.inl rfl⟩, m_n0 rfl, fun _ => ⟨rfl, rfl, rfl⟩⟩, (List.forall_mem_cons.mpr ⟨⟨(R_14, F_14, 92), rfl, Nat.le_of_ble_eq_true rfl, ⟨"EdgeHouseModel", (m_gi9 77 rfl rfl), Or.inl rfl⟩, m_n0 rfl, fun _ => ⟨rfl, rfl, rfl⟩⟩, (List.forall_mem_cons.mpr ⟨⟨(R_14, F_14, 92), rfl, Nat.le_of_ble_eq_true rfl, ⟨"EdgeHouseModel", (m_gi9 78 rfl rfl), Or.inl rfl⟩, m_n0 rfl, fun _ => ⟨rfl, rfl, rfl⟩⟩, (List.forall_mem_cons.mpr ⟨⟨(R_14, F_14, 92), rfl, Nat.le_of_ble_eq_true rfl, ⟨"EdgeHouseModel", (m_gi9 79 rfl rfl), Or.inl rfl⟩, m_n0 rfl, fun _ => ⟨rfl, rfl, rfl⟩⟩, (fun _ h => absurd h List.not_mem_nil)⟩)⟩)⟩)⟩)⟩)⟩)⟩)⟩)⟩)⟩)⟩)⟩)⟩)⟩)⟩)⟩)⟩)⟩)⟩)⟩)⟩)⟩)⟩)⟩)⟩)⟩)⟩)⟩)⟩)⟩)⟩)⟩)⟩)⟩)⟩)⟩)⟩)⟩)⟩)⟩)⟩)⟩)⟩)⟩)⟩)⟩)⟩)
set_option maxRecDepth 4000 in
theorem vc_240 : ∀ q ∈ M_240.2.2.2.2.2.2.1, m_cOk M_240.1 q := (List.forall_mem_cons.mpr ⟨⟨fun _ => (m_gi8 226 rfl rfl), m_n0 rfl, m_n0 rfl, m_n1 rfl⟩, (fun _ h => absurd h List.not_mem_nil)⟩)
set_option maxRecDepth 4000 in
theorem vo_240 : ∀ q ∈ M_240.2.2.2.2.2.2.2.1, m_oOk M_240.1 q := (List.forall_mem_cons.mpr ⟨⟨m_n0 rfl, m_n0 rfl, fun _ => ⟨_, rfl, (m_gi8 227 rfl rfl)⟩, m_n0 rfl, m_n0 rfl, m_n0 rfl, m_n0 rfl, Nat.le_of_ble_eq_true rfl⟩, (List.forall_mem_cons.mpr ⟨⟨m_n0 rfl, m_n0 rfl, fun _ => ⟨_, rfl, (m_gi8 228 rfl rfl)⟩, m_n0 rfl, m_n0 rfl, m_n0 rfl, m_n0 rfl, Nat.le_of_ble_eq_true rfl⟩, (fun _ h => absurd h List.not_mem_nil)⟩)⟩)
set_option maxRecDepth 4000 in
theorem vk_240 : ∀ q ∈ M_240.2.2.2.2.2.2.2.2, decode M_240.2.1 q.1 = .ok (q.2.1, q.2.2) := by decide +kernel
set_option maxRecDepth 4000 in
theorem v_240 : m_mOk M_240 := ⟨(m_gi8 225 rfl rfl), (m_gi1 12 rfl rfl), by decide +kernel, ⟨by decide +kernel, by decide +kernel⟩, by decide +kernel, vf_240, vc_240, vo_240, vk_240⟩
set_option maxRecDepth 4000 in
theorem vf_241 : ∀ q ∈ M_241.2.2.2.2.2.1, m_fOk M_241.1 q := (List.forall_mem_cons.mpr ⟨⟨(R_14, F_14, 92), rfl, Nat.le_of_ble_eq_true rfl, ⟨"EdgeHouseModel", (m_gi8 229 rfl rfl), Or.inl rfl⟩, fun _ => rfl, m_n0 rfl⟩, (fun _ h => absurd h List.not_mem_nil)⟩)
set_option maxRecDepth 4000 in
theorem vc_241 : ∀ q ∈ M_241.2.2.2.2.2.2.1, m_cOk M_241.1 q := (fun _ h => absurd h List.not_mem_nil)
set_option maxRecDepth 4000 in
theorem vo_241 : ∀ q ∈ M_241.2.2.2.2.2.2.2.1, m_oOk M_241.1 q := (fun _ h => absurd h List.not_mem_nil)
set_option maxRecDepth 4000 in
theorem vk_241 : ∀ q ∈ M_241.2.2.2.2.2.2.2.2, decode M_241.2.1 q.1 = .ok (q.2.1, q.2.2) := by decide +kernel
set_option maxRecDepth 4000 in
theorem v_241 : m_mOk M_241 := ⟨(m_gi10 29 rfl rfl), (m_gi1 12 rfl rfl), by decide +kernel, ⟨by decide +kernel, by decide +kernel⟩, by decide +kernel, vf_241, vc_241, vo_241, vk_241⟩
set_option maxRecDepth 4000 in
theorem vf_242 : ∀ q ∈ M_242.2.2.2.2.2.1, m_fOk M_242.1 q := (List.forall_mem_cons.mpr ⟨⟨(R_14, F_14, 92), rfl, Nat.le_of_ble_eq_true rfl, ⟨"EdgeHouseModel", (m_gi8 230 rfl rfl), Or.inl rfl⟩, m_n0 rfl, m_n0 rfl⟩, (List.forall_mem_cons.mpr ⟨⟨(R_14, F_14, 92), rfl, Nat.le_of_ble_eq_true rfl, ⟨"EdgeHouseModel", (m_gi8 229 rfl rfl), Or.inl rfl⟩, fun _ => rfl, m_n0 rfl⟩, (List.forall_mem_cons.mpr ⟨⟨(R_14, F_14, 92), rfl, Nat.le_of_ble_eq_true rfl, ⟨"EdgeHouseModel", (m_gi8 231 rfl rfl), Or.inl rfl⟩, fun _ => rfl, m_n0 rfl⟩, (fun _ h => absurd h List.not_mem_nil)⟩)⟩)⟩)
set_option maxRecDepth 4000 in
theorem vc_242 : ∀ q ∈ M_242.2.2.2.2.2.2.1, m_cOk M_242.1 q := (fun _ h => absurd h List.not_mem_nil)
set_option maxRecDepth 4000 in
theorem vo_242 : ∀ q ∈ M_242.2.2.2.2.2.2.2.1, m_oOk M_242.1 q := (List.forall_mem_cons.mpr ⟨⟨m_n0 rfl, m_n0 rfl, m_n0 rfl, fun _ => ⟨_, rfl, (m_gi10 34 rfl rfl)⟩, m_n0 rfl, m_n0 rfl, m_n0 rfl, Nat.le_of_ble_eq_true rfl⟩, (fun _ h => absurd h List.not_mem_nil)⟩)
set_option maxRecDepth 4000 in
theorem vk_242 : ∀ q ∈ M_242.2.2.2.2.2.2.2.2, decode M_242.2.1 q.1 = .ok (q.2.1, q.2.2) := by decide +kernel
set_option maxRecDepth 4000 in
theorem v_242 : m_mOk M_242 := ⟨(m_gi10 33 rfl rfl), (m_gi1 12 rfl rfl), by decide +kernel, ⟨by decide +kernel, by decide +kernel⟩, by decide +kernel, vf_242, vc_242, vo_242, vk_242⟩
set_option maxRecDepth 4000 in
theorem vf_243 : ∀ q ∈ M_243.2.2.2.2.2.1, m_fOk M_243.1 q := (List.forall_mem_cons.mpr ⟨⟨(R_14, F_14, 92), rfl, Nat.le_of_ble_eq_true rfl, ⟨"EdgeHouseModel", (m_gi9 23 rfl rfl), Or.inl rfl⟩, m_n0 rfl, m_n0 rfl⟩, (List.forall_mem_cons.mpr ⟨⟨(R_14, F_14, 92), rfl, Nat.le_of_ble_eq_true rfl, ⟨"EdgeHouseModel", (m_gi9 24 rfl rfl), Or.inl rfl⟩, m_n0 rfl, m_n0 rfl⟩, (List.forall_mem_cons.mpr ⟨⟨(R_14, F_14, 92), rfl, Nat.le_of_ble_eq_true rfl, ⟨"EdgeHouseModel", (m_gi8 229 rfl rfl), Or.inl rfl⟩, fun _ => rfl, m_n0 rfl⟩, (List.forall_mem_cons.mpr ⟨⟨(R_14, F_14, 92), rfl, Nat.le_of_ble_eq_true rfl, ⟨"EdgeHouseModel", (m_gi8 236 rfl rfl), Or.inl rfl⟩, fun _ => rfl, m_n0 rfl⟩, (List.forall_mem_cons.mpr ⟨⟨(R_14, F_14, 92), rfl, Nat.le_of_ble_eq_true rfl, ⟨"EdgeHouseModel", (m_gi9 18 rfl rfl), Or.inl rfl⟩, fun _ => rfl, m_n0 rfl⟩, (List.forall_mem_cons.mpr ⟨⟨(R_14, F_14, 92), rfl, Nat.le_of_ble_eq_true rfl, ⟨"EdgeHouseModel", (m_gi9 19 rfl rfl), Or.inl rfl⟩, fun _ => rfl, m_n0 rfl⟩, (List.forall_mem_cons.mpr ⟨⟨(R_14, F_14, 92), rfl, Nat.le_of_ble_eq_true rfl, ⟨"EdgeHouseModel", (m_gi9 14 rfl rfl), Or.inl rfl⟩, fun _ => rfl, m_n0 rfl⟩, (List.forall_mem_cons.mpr ⟨⟨(R_14, F_14, 92), rfl, Nat.le_of_ble_eq_true rfl, ⟨"EdgeHouseModel", (m_gi9 15 rfl rfl), Or.inl rfl⟩, fun _ => rfl, m_n0 rfl⟩, (List.forall_mem_cons.mpr ⟨⟨(R_14, F_14, 92), rfl, Nat.le_of_ble_eq_true rfl, ⟨"EdgeHouseModel", (m_gi9 16 rfl rfl), Or.inl rfl⟩, fun _ => rfl, m_n0 rfl⟩, (List.forall_mem_cons.mpr ⟨⟨(R_14, F_14, 92), rfl, Nat.le_of_ble_eq_true rfl, ⟨"EdgeHouseModel", (m_gi9 17 rfl rfl), Or.inl rfl⟩, fun _ => rfl, m_n0 rfl⟩, (List.forall_mem_cons.mpr ⟨⟨(R_14, F_14, 92), rfl, Nat.le_of_ble_eq_true rfl, ⟨"EdgeHouseModel", (m_gi9 13 rfl rfl), Or.inl rfl⟩, fun _ => rfl, m_n0 rfl⟩, (List.forall_mem_cons.mpr ⟨⟨(R_14, F_14, 92), rfl, Nat.le_of_ble_eq_true rfl, ⟨"EdgeHouseModel", (m_gi9 12 rfl rfl), Or.inl rfl⟩, fun _ => rfl, m_n0 rfl⟩, (fun _ h => absurd h List.not_mem_nil)⟩)⟩)⟩)⟩)⟩)⟩)⟩)⟩)⟩)⟩)⟩)⟩)
set_option maxRecDepth 4000 in
theorem vc_243 : ∀ q ∈ M_243.2.2.2.2.2.2.1, m_cOk M_243.1 q := (List.forall_mem_cons.mpr ⟨⟨m_n0 rfl, m_n0 rfl, m_n0 rfl, fun _ => ⟨M_244, rfl, m_n0 rfl, fun _ => ⟨(m_gi10 39 rfl rfl), (m_gi10 41 rfl rfl), (R_14, F_14, 92), rfl, rfl, (m_gp 25 rfl rfl)⟩, m_n0 rfl, m_n0 rfl⟩⟩, (fun _ h => absurd h List.not_mem_nil)⟩)
set_option maxRecDepth 4000 in
theorem vo_243 : ∀ q ∈ M_243.2.2.2.2.2.2.2.1, m_oOk M_243.1 q := (fun _ h => absurd h List.not_mem_nil)
set_option maxRecDepth 4000 in
theorem vk_243 : ∀ q ∈ M_243.2.2.2.2.2.2.2.2, decode M_243.2.1 q.1 = .ok (q.2.1, q.2.2) := by decide +kernel
set_option maxRecDepth 4000 in
theorem v_243 : m_mOk M_243 := ⟨(m_gi10 38 rfl rfl), (m_gi1 12 rfl rfl), by decide +kernel, ⟨by decide +kernel, by decide +kernel⟩, by decide +kernel, vf_243, vc_243, vo_243, vk_243⟩
set_option maxRecDepth 4000 in
theorem vf_244 : ∀ q ∈ M_244.2.2.2.2.2.1, m_fOk M_244.1 q := (List.forall_mem_cons.mpr ⟨⟨(R_14, F_14, 92), rfl, Nat.le_of_ble_eq_true rfl, ⟨"EdgeHouseModel", (m_gi8 232 rfl rfl), Or.inl rfl⟩, fun _ => rfl, m_n0 rfl⟩, (List.forall_mem_cons.mpr ⟨⟨(R_14, F_14, 92), rfl, Nat.le_of_ble_eq_true rfl, ⟨"EdgeHouseModel", (m_gi9 10 rfl rfl), Or.inl rfl⟩, m_n0 rfl, m_n0 rfl⟩, (List.forall_mem_cons.mpr ⟨⟨(R_14, F_14, 92), rfl, Nat.le_of_ble_eq_true rfl, ⟨"EdgeHouseModel", (m_gi8 231 rfl rfl), Or.inl rfl⟩, fun _ => rfl, m_n0 rfl⟩, (List.forall_mem_cons.mpr ⟨⟨(R_14, F_14, 92), rfl, Nat.le_of_ble_eq_true rfl, ⟨"EdgeHouseModel", (m_gi8 233 rfl rfl), Or.inl rfl⟩, fun _ => rfl, m_n0 rfl⟩, (List.forall_mem_cons.mpr ⟨⟨(R_14, F_14, 92), rfl, Nat.le_of_ble_eq_true rfl, ⟨"EdgeHouseModel", (m_gi8 234 rfl rfl), Or.inl rfl⟩, fun _ => rfl, m_n0 rfl⟩, (List.forall_mem_cons.mpr ⟨⟨(R_14, F_14, 92), rfl, Nat.le_of_ble_eq_true rfl, ⟨"EdgeHouseModel", (m_gi8 235 rfl rfl), Or.inl rfl⟩, fun _ => rfl, m_n0 rfl⟩, (List.forall_mem_cons.mpr ⟨⟨(R_14, F_14, 92), rfl, Nat.le_of_ble_eq_true rfl, ⟨"EdgeHouseModel", (m_gi9 20 rfl rfl), Or.inl rfl⟩, fun _ => rfl, m_n0 rfl⟩, (List.forall_mem_cons.mpr ⟨⟨(R_14, F_14, 92), rfl, Nat.le_of_ble_eq_true rfl, ⟨"EdgeHouseModel", (m_gi8 238 rfl rfl), Or.inl rfl⟩, fun _ => rfl, m_n0 rfl⟩, (List.forall_mem_cons.mpr ⟨⟨(R_14, F_14, 92), rfl, Nat.le_of_ble_eq_true rfl, ⟨"EdgeHouseModel", (m_gi9 6 rfl rfl), Or.inl rfl⟩, fun _ => rfl, m_n0 rfl⟩, (List.forall_mem_cons.mpr ⟨⟨(R_14, F_14, 92), rfl, Nat.le_of_ble_eq_true rfl, ⟨"EdgeHouseModel", (m_gi9 1 rfl rfl), Or.inl rfl⟩, fun _ => rfl, m_n0 rfl⟩, (List.forall_mem_cons.mpr ⟨⟨(R_14, F_14, 92), rfl, Nat.le_of_ble_eq_true rfl, ⟨"EdgeHouseModel", (m_gi9 7 rfl rfl), Or.inl rfl⟩, fun _ => rfl, m_n0 rfl⟩, (List.forall_mem_cons.mpr ⟨⟨(R_14, F_14, 92), rfl, Nat.le_of_ble_eq_true rfl, ⟨"EdgeHouseModel", (m_gi9 8 rfl rfl), Or.inl rfl⟩, fun _ => rfl, m_n0 rfl⟩, (List.forall_mem_cons.mpr ⟨⟨(R_14, F_14, 92), rfl, Nat.le_of_ble_eq_true rfl, ⟨"EdgeHouseModel", (m_gi9 2 rfl rfl), Or.inl rfl⟩, fun _ => rfl, m_n0 rfl⟩, (List.forall_mem_cons.mpr ⟨⟨(R_14, F_14, 92), rfl, Nat.le_of_ble_eq_true rfl, ⟨"EdgeHouseModel", (m_gi9 3 rfl rfl), Or.inl rfl⟩, fun _ => rfl, m_n0 rfl⟩, (List.forall_mem_cons.mpr ⟨⟨(R_14, F_14, 92), rfl, Nat.le_of_ble_eq_true rfl, ⟨"EdgeHouseModel", (m_gi9 4 rfl rfl), Or.inl rfl⟩, fun _ => rfl, m_n0 rfl⟩, (List.forall_mem_cons.mpr ⟨⟨(R_14, F_14, 92), rfl, Nat.le_of_ble_eq_true rfl, ⟨"EdgeHouseModel", (m_gi9 18 rfl rfl), Or.inl rfl⟩, fun _ => rfl, m_n0 rfl⟩, (List.forall_mem_cons.mpr ⟨⟨(R_14, F_14, 92), rfl, Nat.le_of_ble_eq_true rfl, ⟨"EdgeHouseModel", (m_gi9 19 rfl rfl), Or.inl rfl⟩, fun _ => rfl, m_n0 rfl⟩, (List.forall_mem_cons.mpr ⟨⟨(R_14, F_14, 92), rfl, Nat.le_of_ble_eq_true rfl, ⟨"EdgeHouseModel", (m_gi9 14 rfl rfl), Or.inl rfl⟩, fun _ => rfl, m_n0 rfl⟩, (List.forall_mem_cons.mpr ⟨⟨(R_14, F_14, 92), rfl, Nat.le_of_ble_eq_true rfl, ⟨"EdgeHouseModel", (m_gi9 15 rfl rfl), Or.inl rfl⟩, fun _ => rfl, m_n0 rfl⟩, (List.forall_mem_cons.mpr ⟨⟨(R_14, F_14, 92), rfl, Nat.le_of_ble_eq_true rfl, ⟨"EdgeHouseModel", (m_gi9 16 rfl rfl), Or.inl rfl⟩, fun _ => rfl, m_n0 rfl⟩, (List.forall_mem_cons.mpr ⟨⟨(R_14, F_14, 92), rfl, Nat.le_of_ble_eq_true rfl, ⟨"EdgeHouseModel", (m_gi9 17 rfl rfl), Or.inl rfl⟩, fun _ => rfl, m_n0 rfl⟩, (List.forall_mem_cons.mpr ⟨⟨(R_14, F_14, 92), rfl, Nat.le_of_ble_eq_true rfl, ⟨"EdgeHouseModel", (m_gi9 13 rfl rfl), Or.inl rfl⟩, fun _ => rfl, m_n0 rfl⟩, (List.forall_mem_cons.mpr ⟨⟨(R_14, F_14, 92), rfl, Nat.le_of_ble_eq_true rfl, ⟨"EdgeHouseModel", (m_gi9 5 rfl rfl), Or.inl rfl⟩, fun _ => rfl, m_n0 rfl⟩, (List.forall_mem_cons.mpr ⟨⟨(R_14, F_14, 92), rfl, Nat.le_of_ble_eq_true rfl, ⟨"EdgeHouseModel", (m_gi9 12 rfl rfl), Or.inl rfl⟩, fun _ => rfl, m_n0 rfl⟩, (List.forall_mem_cons.mpr ⟨⟨(R_14, F_14, 92), rfl, Nat.le_of_ble_eq_true rfl, ⟨"EdgeHouseModel", (m_gi9 9 rfl rfl), Or.inl rfl⟩, fun _ => rfl, m_n0 rfl⟩, (fun _ h => absurd h List.not_mem_nil)⟩)⟩)⟩)⟩)⟩)⟩)⟩)⟩)⟩)⟩)⟩)⟩)⟩)⟩)⟩)⟩)⟩)⟩)⟩)⟩)⟩)⟩)⟩)⟩)⟩)
set_option maxRecDepth 4000 in
theorem vc_244 : ∀ q ∈ M_244.2.2.2.2.2.2.1, m_cOk M_244.1 q := (List.forall_mem_cons.mpr ⟨⟨m_n0 rfl, m_n0 rfl, m_n0 rfl, fun _ => ⟨M_245, rfl, m_n0 rfl, fun _ => ⟨(m_gi10 43 rfl rfl), (m_gi10 45 rfl rfl), (R_14, F_14, 92), rfl, rfl, (m_gp 26 rfl rfl)⟩, m_n0 rfl, m_n0 rfl⟩⟩, (List.forall_mem_cons.mpr ⟨⟨m_n0 rfl, m_n0 rfl, m_n0 rfl, fun _ => ⟨M_248, rfl, m_n0 rfl, fun _ => ⟨(m_gi10 58 rfl rfl), (m_gi10 60 rfl rfl), (R_14, F_14, 92), rfl, rfl, (m_gp 29 rfl rfl)⟩, m_n0 rfl, m_n0 rfl⟩⟩, (List.forall_mem_cons.mpr ⟨⟨m_n0 rfl, m_n0 rfl, m_n0 rfl, fun _ => ⟨M_247, rfl, m_n0 rfl, fun _ => ⟨(m_gi10 54 rfl rfl), (m_gi10 56 rfl rfl), (R_14, F_14, 92), rfl, rfl, (m_gp 28 rfl rfl)⟩, m_n0 rfl, m_n0 rfl⟩⟩, (List.forall_mem_cons.mpr ⟨⟨m_n0 rfl, m_n0 rfl, m_n0 rfl, fun _ => ⟨M_246, rfl, m_n0 rfl, fun _ => ⟨(m_gi10 48 rfl rfl), (m_gi10 50 rfl rfl), (R_14, F_14, 92), rfl, rfl, (m_gp 27 rfl rfl)⟩, m_n0 rfl, m_n0 rfl⟩⟩, (List.forall_mem_cons.mpr ⟨⟨m_n0 rfl, m_n0 rfl, m_n0 rfl, fun _ => ⟨M_249, rfl, m_n0 rfl, fun _ => ⟨(m_gi10 64 rfl rfl), (m_gi10 66 rfl rfl), (R_14, F_14, 92), rfl, rfl, (m_gp 30 rfl rfl)⟩, m_n0 rfl, m_n0 rfl⟩⟩, (List.forall_mem_cons.mpr ⟨⟨m_n0 rfl, m_n0 rfl, m_n0 rfl, fun _ => ⟨M_252, rfl, m_n0 rfl, fun _ => ⟨(m_gi10 75 rfl rfl), (m_gi10 77 rfl rfl), (R_14, F_14, 92), rfl, rfl, (m_gp 32 rfl rfl)⟩, m_n0 rfl, m_n0 rfl⟩⟩, (fun _ h => absurd h List.not_mem_nil)⟩)⟩)⟩)⟩)⟩)⟩)
set_option maxRecDepth 4000 in
theorem vo_244 : ∀ q ∈ M_244.2.2.2.2.2.2.2.1, m_oOk M_244.1 q := (List.forall_mem_cons.mpr ⟨⟨m_n0 rfl, m_n0 rfl, m_n0 rfl, m_n0 rfl, m_n0 rfl, fun _ => ⟨_, List.mem_of_getElem? (i := 70) rfl⟩, m_n0 rfl, Nat.le_of_ble_eq_true rfl⟩, (List.forall_mem_cons.mpr ⟨⟨m_n0 rfl, m_n0 rfl, m_n0 rfl, m_n0 rfl, m_n0 rfl, fun _ => ⟨_, List.mem_of_getElem? (i := 71) rfl⟩, m_n0 rfl, Nat.le_of_ble_eq_true rfl⟩, (List.forall_mem_cons.mpr ⟨⟨m_n0 rfl, m_n0 rfl, m_n0 rfl, m_n0 rfl, m_n0 rfl, fun _ => ⟨_, List.mem_of_getElem? (i := 72) rfl⟩, m_n0 rfl, Nat.le_of_ble_eq_true rfl⟩, (fun _ h => absurd h List.not_mem_nil)⟩)⟩)⟩)
set_option maxRecDepth 4000 in
theorem vk_244 : ∀ q ∈ M_244.2.2.2.2.2.2.2.2, decode M_244.2.1 q.1 = .ok (q.2.1, q.2.2) := by decide +kernel
set_option maxRecDepth 4000 in
theorem v_244 : m_mOk M_244 := ⟨(m_gi10 42 rfl rfl), (m_gi1 12 rfl rfl), by decide +kernel, ⟨by decide +kernel, by decide +kernel⟩, by decide +kernel, vf_244, vc_244, vo_244, vk_244⟩
set_option maxRecDepth 4000 in
theorem vf_245 : ∀ q ∈ M_245.2.2.2.2.2.1, m_fOk M_245.1 q := (List.forall_mem_cons.mpr ⟨⟨(R_14, F_14, 92), rfl, Nat.le_of_ble_eq_true rfl, ⟨"EdgeHouseModel", (m_gi8 230 rfl rfl), Or.inl rfl⟩, m_n0 rfl, m_n0 rfl⟩, (List.forall_mem_cons.mpr ⟨⟨(R_14, F_14, 92), rfl, Nat.le_of_ble_eq_true rfl, ⟨"EdgeHouseModel", (m_gi8 231 rfl rfl), Or.inl rfl⟩, fun _ => rfl, m_n0 rfl⟩, (List.forall_mem_cons.mpr ⟨⟨(R_14, F_14, 92), rfl, Nat.le_of_ble_eq_true rfl, ⟨"EdgeHouseModel", (m_gi8 233 rfl rfl), Or.inl rfl⟩, fun _ => rfl, m_n0 rfl⟩, (fun _ h => absurd h List.not_mem_nil)⟩)⟩)⟩)
set_option maxRecDepth 4000 in
theorem vc_245 : ∀ q ∈ M_245.2.2.2.2.2.2.1, m_cOk M_245.1 q := (fun _ h => absurd h List.not_mem_nil)
set_option maxRecDepth 4000 in
theorem vo_245 : ∀ q ∈ M_245.2.2.2.2.2.2.2.1, m_oOk M_245.1 q := (fun _ h => absurd h List.not_mem_nil)
set_option maxRecDepth 4000 in
theorem vk_245 : ∀ q ∈ M_245.2.2.2.2.2.2.2.2, decode M_245.2.1 q.1 = .ok (q.2.1, q.2.2) := by decide +kernel
set_option maxRecDepth 4000 in
theorem v_245 : m_mOk M_245 := ⟨(m_gi10 46 rfl rfl), (m_gi1 12 rfl rfl), by decide +kernel, ⟨by decide +kernel, by decide +kernel⟩, by decide +kernel, vf_245, vc_245, vo_245, vk_245⟩
set_option maxRecDepth 4000 in
theorem vf_246 : ∀ q ∈ M_246.2.2.2.2.2.1, m_fOk M_246.1 q := (fun _ h => absurd h List.not_mem_nil)
set_option maxRecDepth 4000 in
theorem vc_246 : ∀ q ∈ M_246.2.2.2.2.2.2.1, m_cOk M_246.1 q := (List.forall_mem_cons.mpr ⟨⟨m_n0 rfl, m_n0 rfl, m_n0 rfl, fun _ => ⟨M_24, rfl, m_n0 rfl, fun _ => ⟨(m_gi10 52 rfl rfl), (m_gi2 231 rfl rfl), (R_12, F_12, 4), rfl, rfl, (m_gi2 232 rfl rfl)⟩, m_n0 rfl, m_n0 rfl⟩⟩, (List.forall_mem_cons.mpr ⟨⟨m_n0 rfl, m_n0 rfl, m_n0 rfl, fun _ => ⟨M_26, rfl, m_n0 rfl, fun _ => ⟨(m_gi10 53 rfl rfl), (m_gi3 0 rfl rfl), (R_12, F_12, 4), rfl, rfl, (m_gi3 1 rfl rfl)⟩, m_n0 rfl, m_n0 rfl⟩⟩, (List.forall_mem_cons.mpr ⟨⟨m_n0 rfl, m_n0 rfl, m_n0 rfl, fun _ => ⟨M_247, rfl, m_n0 rfl, fun _ => ⟨(m_gi10 54 rfl rfl), (m_gi10 56 rfl rfl), (R_14, F_14, 92), rfl, rfl, (m_gp 28 rfl rfl)⟩, m_n0 rfl, m_n0 rfl⟩⟩, (fun _ h => absurd h List.not_mem_nil)⟩)⟩)⟩)
set_option maxRecDepth 4000 in
theorem vo_246 : ∀ q ∈ M_246.2.2.2.2.2.2.2.1, m_oOk M_246.1 q := (fun _ h => absurd h List.not_mem_nil)
set_option maxRecDepth 4000 in
theorem vk_246 : ∀ q ∈ M_246.2.2.2.2.2.2.2.2, decode M_246.2.1 q.1 = .ok (q.2.1, q.2.2) := by decide +kernel
set_option maxRecDepth 4000 in
theorem v_246 : m_mOk M_246 := ⟨(m_gi10 51 rfl rfl), (m_gi1 12 rfl rfl), by decide +kernel, ⟨by decide +kernel, by decide +kernel⟩, by decide +kernel, vf_246, vc_246, vo_246, vk_246⟩
set_option maxRecDepth 4000 in
theorem vf_247 : ∀ q ∈ M_247.2.2.2.2.2.1, m_fOk M_247.1 q := (List.forall_mem_cons.mpr ⟨⟨(R_14, F_14, 92), rfl, Nat.le_of_ble_eq_true rfl, ⟨"EdgeHouseModel", (m_gi8 233 rfl rfl), Or.inl rfl⟩, fun _ => rfl, m_n0 rfl⟩, (List.forall_mem_cons.mpr ⟨⟨(R_14, F_14, 92), rfl, Nat.le_of_ble_eq_true rfl, ⟨"EdgeHouseModel", (m_gi8 234 rfl rfl), Or.inl rfl⟩, fun _ => rfl, m_n0 rfl⟩, (fun _ h => absurd h List.not_mem_nil)⟩)⟩)
set_option maxRecDepth 4000 in
theorem vc_247 : ∀ q ∈ M_247.2.2.2.2.2.2.1, m_cOk M_247.1 q := (List.forall_mem_cons.mpr ⟨⟨m_n0 rfl, m_n0 rfl, m_n0 rfl, fun _ => ⟨M_245, rfl, m_n0 rfl, fun _ => ⟨(m_gi10 43 rfl rfl), (m_gi10 45 rfl rfl), (R_14, F_14, 92), rfl, rfl, (m_gp 26 rfl rfl)⟩, m_n0 rfl, m_n0 rfl⟩⟩, (List.forall_mem_cons.mpr ⟨⟨m_n0 rfl, m_n0 rfl, m_n0 rfl, fun _ => ⟨M_248, rfl, m_n0 rfl, fun _ => ⟨(m_gi10 58 rfl rfl), (m_gi10 60 rfl rfl), (R_14, F_14, 92), rfl, rfl, (m_gp 29 rfl rfl)⟩, m_n0 rfl, m_n0 rfl⟩⟩, (fun _ h => absurd h List.not_mem_nil)⟩)⟩)
set_option maxRecDepth 4000 in
theorem vo_247 : ∀ q ∈ M_247.2.2.2.2.2.2.2.1, m_oOk M_247.1 q := (fun _ h => absurd h List.not_mem_nil)
set_option maxRecDepth 4000 in
theorem vk_247 : ∀ q ∈ M_247.2.2.2.2.2.2.2.2, decode M_247.2.1 q.1 = .ok (q.2.1, q.2.2) := by decide +kernel
set_option maxRecDepth 4000 in
theorem v_247 : m_mOk M_247 := ⟨(m_gi10 57 rfl rfl), (m_gi1 12 rfl rfl), by decide +kernel, ⟨by decide +kernel, by decide +kernel⟩, by decide +kernel, vf_247, vc_247, vo_247, vk_247⟩
set_option maxRecDepth 4000 in
theorem vf_248 : ∀ q ∈ M_248.2.2.2.2.2.1, m_fOk M_248.1 q := (List.forall_mem_cons.mpr ⟨⟨(R_14, F_14, 92), rfl, Nat.le_of_ble_eq_true rfl, ⟨"EdgeHouseModel", (m_gi8 234 rfl rfl), Or.inl rfl⟩, fun _ => rfl, m_n0 rfl⟩, (List.forall_mem_cons.mpr ⟨⟨(R_14, F_14, 92), rfl, Nat.le_of_ble_eq_true rfl, ⟨"EdgeHouseModel", (m_gi8 235 rfl rfl), Or.inl rfl⟩, fun _ => rfl, m_n0 rfl⟩, (fun _ h => absurd h List.not_mem_nil)⟩)⟩)
set_option maxRecDepth 4000 in
theorem vc_248 : ∀ q ∈ M_248.2.2.2.2.2.2.1, m_cOk M_248.1 q := (fun _ h => absurd h List.not_mem_nil)
set_option maxRecDepth 4000 in
theorem vo_248 : ∀ q ∈ M_248.2.2.2.2.2.2.2.1, m_oOk M_248.1 q := (fun _ h => absurd h List.not_mem_nil)
set_option maxRecDepth 4000 in
theorem vk_248 : ∀ q ∈ M_248.2.2.2.2.2.2.2.2, decode M_248.2.1 q.1 = .ok (q.2.1, q.2.2) := by decide +kernel
set_option maxRecDepth 4000 in
theorem v_248 : m_mOk M_248 := ⟨(m_gi10 61 rfl rfl), (m_gi1 12 rfl rfl), by decide +kernel, ⟨by decide +kernel, by decide +kernel⟩, by decide +kernel, vf_248, vc_248, vo_248, vk_248⟩
set_option maxRecDepth 4000 in
theorem vf_249 : ∀ q ∈ M_249.2.2.2.2.2.1, m_fOk M_249.1 q := (List.forall_mem_cons.mpr ⟨⟨(R_14, F_14, 92), rfl, Nat.le_of_ble_eq_true rfl, ⟨"EdgeHouseModel", (m_gi8 233 rfl rfl), Or.inl rfl⟩, fun _ => rfl, m_n0 rfl⟩, (List.forall_mem_cons.mpr ⟨⟨(R_14, F_14, 92), rfl, Nat.le_of_ble_eq_true rfl, ⟨"EdgeHouseModel", (m_gi8 234 rfl rfl), Or.inl rfl⟩, fun _ => rfl, m_n0 rfl⟩, (List.forall_mem_cons.mpr ⟨⟨(R_14, F_14, 92), rfl, Nat.le_of_ble_eq_true rfl, ⟨"EdgeHouseModel", (m_gi8 236 rfl rfl), Or.inl rfl⟩, fun _ => rfl, m_n0 rfl⟩, (List.forall_mem_cons.mpr ⟨⟨(R_14, F_14, 92), rfl, Nat.le_of_ble_eq_true rfl, ⟨"EdgeHouseModel", (m_gi8 237 rfl rfl), Or.inl rfl⟩, fun _ => rfl, m_n0 rfl⟩, (fun _ h => absurd h List.not_mem_nil)⟩)⟩)⟩)⟩)
set_option maxRecDepth 4000 in
theorem vc_249 : ∀ q ∈ M_249.2.2.2.2.2.2.1, m_cOk M_249.1 q := (List.forall_mem_cons.mpr ⟨⟨m_n0 rfl, m_n0 rfl, m_n0 rfl, fun _ => ⟨M_245, rfl, m_n0 rfl, fun _ => ⟨(m_gi10 43 rfl rfl), (m_gi10 45 rfl rfl), (R_14, F_14, 92), rfl, rfl, (m_gp 26 rfl rfl)⟩, m_n0 rfl, m_n0 rfl⟩⟩, (List.forall_mem_cons.mpr ⟨⟨m_n0 rfl, m_n0 rfl, m_n0 rfl, fun _ => ⟨M_247, rfl, m_n0 rfl, fun _ => ⟨(m_gi10 54 rfl rfl), (m_gi10 56 rfl rfl), (R_14, F_14, 92), rfl, rfl, (m_gp 28 rfl rfl)⟩, m_n0 rfl, m_n0 rfl⟩⟩, (List.forall_mem_cons.mpr ⟨⟨m_n0 rfl, m_n0 rfl, m_n0 rfl, fun _ => ⟨M_250, rfl, m_n0 rfl, fun _ => ⟨(m_gi10 68 rfl rfl), (m_gi10 70 rfl rfl), (R_14, F_14, 92), rfl, rfl, (m_gp 31 rfl rfl)⟩, m_n0 rfl, m_n0 rfl⟩⟩, (fun _ h => absurd h List.not_mem_nil)⟩)⟩)⟩)
set_option maxRecDepth 4000 in
theorem vo_249 : ∀ q ∈ M_249.2.2.2.2.2.2.2.1, m_oOk M_249.1 q := (fun _ h => absurd h List.not_mem_nil)
set_option maxRecDepth 4000 in
theorem vk_249 : ∀ q ∈ M_249.2.2.2.2.2.2.2.2, decode M_249.2.1 q.1 = .ok (q.2.1, q.2.2) := by decide +kernel
set_option maxRecDepth 4000 in
theorem v_249 : m_mOk M_249 := ⟨(m_gi10 67 rfl rfl), (m_gi1 12 rfl rfl), by decide +kernel, ⟨by decide +kernel, by decide +kernel⟩, by decide +kernel, vf_249, vc_249, vo_249, vk_249⟩
set_option maxRecDepth 4000 in
theorem vf_250 : ∀ q ∈ M_250.2.2.2.2.2.1, m_fOk M_250.1 q := (List.forall_mem_cons.mpr ⟨⟨(R_14, F_14, 92), rfl, Nat.le_of_ble_eq_true rfl, ⟨"EdgeHouseModel", (m_gi8 233 rfl rfl), Or.inl rfl⟩, fun _ => rfl, m_n0 rfl⟩, (List.forall_mem_cons.mpr ⟨⟨(R_14, F_14, 92), rfl, Nat.le_of_ble_eq_true rfl, ⟨"EdgeHouseModel", (m_gi8 234 rfl rfl), Or.inl rfl⟩, fun _ => rfl, m_n0 rfl⟩, (fun _ h => absurd h List.not_mem_nil)⟩)⟩)
set_option maxRecDepth 4000 in
theorem vc_250 : ∀ q ∈ M_250.2.2.2.2.2.2.1, m_cOk M_250.1 q := (List.forall_mem_cons.mpr ⟨⟨m_n0 rfl, m_n0 rfl, m_n0 rfl, fun _ => ⟨M_245, rfl, m_n0 rfl, fun _ => ⟨(m_gi10 43 rfl rfl), (m_gi10 45 rfl rfl), (R_14, F_14, 92), rfl, rfl, (m_gp 26 rfl rfl)⟩, m_n0 rfl, m_n0 rfl⟩⟩, (List.forall_mem_cons.mpr ⟨⟨m_n0 rfl, m_n0 rfl, m_n0 rfl, fun _ => ⟨M_248, rfl, m_n0 rfl, fun _ => ⟨(m_gi10 58 rfl rfl), (m_gi10 60 rfl rfl), (R_14, F_14, 92), rfl, rfl, (m_gp 29 rfl rfl)⟩, m_n0 rfl, m_n0 rfl⟩⟩, (List.forall_mem_cons.mpr ⟨⟨m_n0 rfl, m_n0 rfl, m_n0 rfl, fun _ => ⟨M_251, rfl, m_n0 rfl, m_n0 rfl, fun _ => ⟨(m_gi10 72 rfl rfl), (m_gi10 73 rfl rfl)⟩, m_n0 rfl⟩⟩, (fun _ h => absurd h List.not_mem_nil)⟩)⟩)⟩)
set_option maxRecDepth 4000 in
theorem vo_250 : ∀ q ∈ M_250.2.2.2.2.2.2.2.1, m_oOk M_250.1 q := (fun _ h => absurd h List.not_mem_nil)
set_option maxRecDepth 4000 in
theorem vk_250 : ∀ q ∈ M_250.2.2.2.2.2.2.2.2, decode M_250.2.1 q.1 = .ok (q.2.1, q.2.2) := by decide +kernel
set_option maxRecDepth 4000 in
theorem v_250 : m_mOk M_250 := ⟨(m_gi10 71 rfl rfl), (m_gi1 12 rfl rfl), by decide +kernel, ⟨by decide +kernel, by decide +kernel⟩, by decide +kernel, vf_250, vc_250, vo_250, vk_250⟩
set_option maxRecDepth 4000 in
theorem vf_251 : ∀ q ∈ M_251.2.2.2.2.2.1, m_fOk M_251.1 q := (fun _ h => absurd h List.not_mem_nil)
set_option maxRecDepth 4000 in
theorem vc_251 : ∀ q ∈ M_251.2.2.2.2.2.2.1, m_cOk M_251.1 q := (fun _ h => absurd h List.not_mem_nil)
set_option maxRecDepth 4000 in
theorem vo_251 : ∀ q ∈ M_251.2.2.2.2.2.2.2.1, m_oOk M_251.1 q := (fun _ h => absurd h List.not_mem_nil)
set_option maxRecDepth 4000 in
theorem vk_251 : ∀ q ∈ M_251.2.2.2.2.2.2.2.2, decode M_251.2.1 q.1 = .ok (q.2.1, q.2.2) := by decide +kernel
set_option maxRecDepth 4000 in
theorem v_251 : m_mOk M_251 := ⟨(m_gi10 74 rfl rfl), (m_gi1 12 rfl rfl), by decide +kernel, ⟨by decide +kernel, by decide +kernel⟩, by decide +kernel, vf_251, vc_251, vo_251, vk_251⟩
set_option maxRecDepth 4000 in
theorem vf_252 : ∀ q ∈ M_252.2.2.2.2.2.1, m_fOk M_252.1 q := (List.forall_mem_cons.mpr ⟨⟨(R_14, F_14, 92), rfl, Nat.le_of_ble_eq_true rfl, ⟨"EdgeHouseModel", (m_gi8 231 rfl rfl), Or.inl rfl⟩, fun _ => rfl, m_n0 rfl⟩, (List.forall_mem_cons.mpr ⟨⟨(R_14, F_14, 92), rfl, Nat.le_of_ble_eq_true rfl, ⟨"EdgeHouseModel", (m_gi8 233 rfl rfl), Or.inl rfl⟩, fun _ => rfl, m_n0 rfl⟩, (List.forall_mem_cons.mpr ⟨⟨(R_14, F_14, 92), rfl, Nat.le_of_ble_eq_true rfl, ⟨"EdgeHouseModel", (m_gi9 12 rfl rfl), Or.inl rfl⟩, fun _ => rfl, m_n0 rfl⟩, (List.forall_mem_cons.mpr ⟨⟨(R_14, F_14, 92), rfl, Nat.le_of_ble_eq_true rfl, ⟨"EdgeHouseModel", (m_gi9 9 rfl rfl), Or.inl rfl⟩, fun _ => rfl, m_n0 rfl⟩, (fun _ h => absurd h List.not_mem_nil)⟩)⟩)⟩)⟩)
set_option maxRecDepth 4000 in
theorem vc_252 : ∀ q ∈ M_252.2.2.2.2.2.2.1, m_cOk M_252.1 q := (List.forall_mem_cons.mpr ⟨⟨m_n0 rfl, m_n0 rfl, m_n0 rfl, fun _ => ⟨M_248, rfl, m_n0 rfl, fun _ => ⟨(m_gi10 58 rfl rfl), (m_gi10 60 rfl rfl), (R_14, F_14, 92), rfl, rfl, (m_gp 29 rfl rfl)⟩, m_n0 rfl, m_n0 rfl⟩⟩, (List.forall_mem_cons.mpr ⟨⟨m_n0 rfl, m_n0 rfl, m_n0 rfl, fun _ => ⟨M_247, rfl, m_n0 rfl, fun _ => ⟨(m_gi10 54 rfl rfl), (m_gi10 56 rfl rfl), (R_14, F_14, 92), rfl, rfl, (m_gp 28 rfl rfl)⟩, m_n0 rfl, m_n0 rfl⟩⟩, (List.forall_mem_cons.mpr ⟨⟨m_n0 rfl, m_n0 rfl, m_n0 rfl, fun _ => ⟨M_250, rfl, m_n0 rfl, fun _ => ⟨(m_gi10 68 rfl rfl), (m_gi10 70 rfl rfl), (R_14, F_14, 92), rfl, rfl, (m_gp 31 rfl rfl)⟩, m_n0 rfl, m_n0 rfl⟩⟩, (List.forall_mem_cons.mpr ⟨⟨m_n0 rfl, m_n0 rfl, m_n0 rfl, fun _ => ⟨M_253, rfl, m_n0 rfl, fun _ => ⟨(m_gi10 79 rfl rfl), (m_gi10 81 rfl rfl), (R_14, F_14, 92), rfl, rfl, (m_gp 33 rfl rfl)⟩, m_n0 rfl, m_n0 rfl⟩⟩, (List.forall_mem_cons.mpr ⟨⟨m_n0 rfl, m_n0 rfl, m_n0 rfl, fun _ => ⟨M_256, rfl, m_n0 rfl, fun _ => ⟨(m_gi10 91 rfl rfl), (m_gi10 93 rfl rfl), (R_14, F_14, 92), rfl, rfl, (m_gp 35 rfl rfl)⟩, m_n0 rfl, m_n0 rfl⟩⟩, (List.forall_mem_cons.mpr ⟨⟨m_n0 rfl, m_n0 rfl, m_n0 rfl, fun _ => ⟨M_257, rfl, m_n0 rfl, fun _ => ⟨(m_gi10 95 rfl rfl), (m_gi10 97 rfl rfl), (R_14, F_14, 92), rfl, rfl, (m_gp 36 rfl rfl)⟩, m_n0 rfl, m_n0 rfl⟩⟩, (List.forall_mem_cons.mpr ⟨⟨m_n0 rfl, m_n0 rfl, m_n0 rfl, fun _ => ⟨M_258, rfl, m_n0 rfl, fun _ => ⟨(m_gi10 102 rfl rfl), (m_gi10 104 rfl rfl), (R_14, F_14, 92), rfl, rfl, (m_gp 37 rfl rfl)⟩, m_n0 rfl, m_n0 rfl⟩⟩, (List.forall_mem_cons.mpr ⟨⟨m_n0 rfl, m_n0 rfl, m_n0 rfl, fun _ => ⟨M_259, rfl, m_n0 rfl, fun _ => ⟨(m_gi10 107 rfl rfl), (m_gi10 109 rfl rfl), (R_14, F_14, 92), rfl, rfl, (m_gp 38 rfl rfl)⟩, m_n0 rfl, m_n0 rfl⟩⟩, (List.forall_mem_cons.mpr ⟨⟨m_n0 rfl, m_n0 rfl, m_n0 rfl, fun _ => ⟨M_260, rfl, m_n0 rfl, fun _ => ⟨(m_gi10 112 rfl rfl), (m_gi10 114 rfl rfl), (R_14, F_14, 92), rfl, rfl, (m_gp 39 rfl rfl)⟩, m_n0 rfl, m_n0 rfl⟩⟩, (List.forall_mem_cons.mpr ⟨⟨m_n0 rfl, m_n0 rfl, m_n0 rfl, fun _ => ⟨M_266, rfl, m_n0 rfl, fun _ => ⟨(m_gi10 155 rfl rfl), (m_gi10 157 rfl rfl), (R_14, F_14, 92), rfl, rfl, (m_gp 45 rfl rfl)⟩, m_n0 rfl, m_n0 rfl⟩⟩, (List.forall_mem_cons.mpr ⟨⟨m_n0 rfl, m_n0 rfl, m_n0 rfl, fun _ => ⟨M_267, rfl, m_n0 rfl, fun _ => ⟨(m_gi10 159 rfl rfl), (m_gi10 161 rfl rfl), (R_14, F_14, 92), rfl, rfl, (m_gp 46 rfl rfl)⟩, m_n0 rfl, m_n0 rfl⟩⟩, (fun _ h => absurd h List.not_mem_nil)⟩)⟩)⟩)⟩)⟩)⟩)⟩)⟩)⟩)⟩)⟩)
set_option maxRecDepth 4000 in
theorem vo_252 : ∀ q ∈ M_252.2.2.2.2.2.2.2.1, m_oOk M_252.1 q := (List.forall_mem_cons.mpr ⟨⟨m_n0 rfl, m_n0 rfl, m_n0 rfl, m_n0 rfl, m_n0 rfl, fun _ => ⟨_, List.mem_of_getElem? (i := 68) rfl⟩, m_n0 rfl, Nat.le_of_ble_eq_true rfl⟩, (List.forall_mem_cons.mpr ⟨⟨m_n0 rfl, m_n0 rfl, m_n0 rfl, m_n0 rfl, m_n0 rfl, fun _ => ⟨_, List.mem_of_getElem? (i := 69) rfl⟩, m_n0 rfl, Nat.le_of_ble_eq_true rfl⟩, (List.forall_mem_cons.mpr ⟨⟨m_n0 rfl, m_n0 rfl, m_n0 rfl, m_n0 rfl, m_n0 rfl, fun _ => ⟨_, List.mem_of_getElem? (i := 73) rfl⟩, m_n0 rfl, Nat.le_of_ble_eq_true rfl⟩, (List.forall_mem_cons.mpr ⟨⟨m_n0 rfl, m_n0 rfl, m_n0 rfl, m_n0 rfl, m_n0 rfl, fun _ => ⟨_, List.mem_of_getElem? (i := 74) rfl⟩, m_n0 rfl, Nat.le_of_ble_eq_true rfl⟩, (List.forall_mem_cons.mpr ⟨⟨m_n0 rfl, m_n0 rfl, m_n0 rfl, m_n0 rfl, m_n0 rfl, fun _ => ⟨_, List.mem_of_getElem? (i := 75) rfl⟩, m_n0 rfl, Nat.le_of_ble_eq_true rfl⟩, (List.forall_mem_cons.mpr ⟨⟨m_n0 rfl, m_n0 rfl, m_n0 rfl, m_n0 rfl, m_n0 rfl, fun _ => ⟨_, List.mem_of_getElem? (i := 76) rfl⟩, m_n0 rfl, Nat.le_of_ble_eq_true rfl⟩, (List.forall_mem_cons.mpr ⟨⟨m_n0 rfl, m_n0 rfl, m_n0 rfl, m_n0 rfl, m_n0 rfl, fun _ => ⟨_, List.mem_of_getElem? (i := 77) rfl⟩, m_n0 rfl, Nat.le_of_ble_eq_true rfl⟩, (List.forall_mem_cons.mpr ⟨⟨m_n0 rfl, m_n0 rfl, m_n0 rfl, m_n0 rfl, m_n0 rfl, fun _ => ⟨_, List.mem_of_getElem? (i := 78) rfl⟩, m_n0 rfl, Nat.le_of_ble_eq_true rfl⟩, (List.forall_mem_cons.mpr ⟨⟨m_n0 rfl, m_n0 rfl, m_n0 rfl, m_n0 rfl, m_n0 rfl, fun _ => ⟨_, List.mem_of_getElem? (i := 79) rfl⟩, m_n0 rfl, Nat.le_of_ble_eq_true rfl⟩, (fun _ h => absurd h List.not_mem_nil)⟩)⟩)⟩)⟩)⟩)⟩)⟩)⟩)⟩)
set_option maxRecDepth 4000 in
theorem vk_252 : ∀ q ∈ M_252.2.2.2.2.2.2.2.2, decode M_252.2.1 q.1 = .ok (q.2.1, q.2.2) := by decide +kernel
set_option maxRecDepth 4000 in
theorem v_252 : m_mOk M_252 := ⟨(m_gi10 78 rfl rfl), (m_gi1 12 rfl rfl), by decide +kernel, ⟨by decide +kernel, by decide +kernel⟩, by decide +kernel, vf_252, vc_252, vo_252, vk_252⟩
set_option maxRecDepth 4000 in
theorem vf_253 : ∀ q ∈ M_253.2.2.2.2.2.1, m_fOk M_253.1 q := (List.forall_mem_cons.mpr ⟨⟨(R_14, F_14, 92), rfl, Nat.le_of_ble_eq_true rfl, ⟨"EdgeHouseModel", (m_gi9 21 rfl rfl), Or.inl rfl⟩, m_n0 rfl, m_n0 rfl⟩, (List.forall_mem_cons.mpr ⟨⟨(R_14, F_14, 92), rfl, Nat.le_of_ble_eq_true rfl, ⟨"EdgeHouseModel", (m_gi9 22 rfl rfl), Or.inl rfl⟩, m_n0 rfl, m_n0 rfl⟩, (List.forall_mem_cons.mpr ⟨⟨(R_14, F_14, 92), rfl, Nat.le_of_ble_eq_true rfl, ⟨"EdgeHouseModel", (m_gi8 233 rfl rfl), Or.inl rfl⟩, fun _ => rfl, m_n0 rfl⟩, (List.forall_mem_cons.mpr ⟨⟨(R_14, F_14, 92), rfl, Nat.le_of_ble_eq_true rfl, ⟨"EdgeHouseModel", (m_gi9 20 rfl rfl), Or.inl rfl⟩, fun _ => rfl, m_n0 rfl⟩, (fun _ h => absurd h List.not_mem_nil)⟩)⟩)⟩)⟩)
set_option maxRecDepth 4000 in
theorem vc_253 : ∀ q ∈ M_253.2.2.2.2.2.2.1, m_cOk M_253.1 q := (List.forall_mem_cons.mpr ⟨⟨m_n0 rfl, m_n0 rfl, m_n0 rfl, fun _ => ⟨M_245, rfl, m_n0 rfl, fun _ => ⟨(m_gi10 43 rfl rfl), (m_gi10 45 rfl rfl), (R_14, F_14, 92), rfl, rfl, (m_gp 26 rfl rfl)⟩, m_n0 rfl, m_n0 rfl⟩⟩, (List.forall_mem_cons.mpr ⟨⟨m_n0 rfl, m_n0 rfl, m_n0 rfl, fun _ => ⟨M_248, rfl, m_n0 rfl, fun _ => ⟨(m_gi10 58 rfl rfl), (m_gi10 60 rfl rfl), (R_14, F_14, 92), rfl, rfl, (m_gp 29 rfl rfl)⟩, m_n0 rfl, m_n0 rfl⟩⟩, (List.forall_mem_cons.mpr ⟨⟨m_n0 rfl, m_n0 rfl, m_n0 rfl, fun _ => ⟨M_254, rfl, m_n0 rfl, m_n0 rfl, fun _ => ⟨(m_gi10 83 rfl rfl), (m_gi10 84 rfl rfl)⟩, m_n0 rfl⟩⟩, (List.forall_mem_cons.mpr ⟨⟨m_n0 rfl, m_n0 rfl, m_n0 rfl, fun _ => ⟨M_255, rfl, m_n0 rfl, fun _ => ⟨(m_gi10 86 rfl rfl), (m_gi10 88 rfl rfl), (R_14, F_14, 92), rfl, rfl, (m_gp 34 rfl rfl)⟩, m_n0 rfl, m_n0 rfl⟩⟩, (fun _ h => absurd h List.not_mem_nil)⟩)⟩)⟩)⟩)
set_option maxRecDepth 4000 in
theorem vo_253 : ∀ q ∈ M_253.2.2.2.2.2.2.2.1, m_oOk M_253.1 q := (fun _ h => absurd h List.not_mem_nil)
set_option maxRecDepth 4000 in
theorem vk_253 : ∀ q ∈ M_253.2.2.2.2.2.2.2.2, decode M_253.2.1 q.1 = .ok (q.2.1, q.2.2) := by decide +kernel
set_option maxRecDepth 4000 in
theorem v_253 : m_mOk M_253 := ⟨(m_gi10 82 rfl rfl), (m_gi1 12 rfl rfl), by decide +kernel, ⟨by decide +kernel, by decide +kernel⟩, by decide +kernel, vf_253, vc_253, vo_253, vk_253⟩
set_option maxRecDepth 4000 in
theorem vf_254 : ∀ q ∈ M_254.2.2.2.2.2.1, m_fOk M_254.1 q := (fun _ h => absurd h List.not_mem_nil)
set_option maxRecDepth 4000 in
theorem vc_254 : ∀ q ∈ M_254.2.2.2.2.2.2.1, m_cOk M_254.1 q := (fun _ h => absurd h List.not_mem_nil)
set_option maxRecDepth 4000 in
theorem vo_254 : ∀ q ∈ M_254.2.2.2.2.2.2.2.1, m_oOk M_254.1 q := (fun _ h => absurd h List.not_mem_nil)
set_option maxRecDepth 4000 in
theorem vk_254 : ∀ q ∈ M_254.2.2.2.2.2.2.2.2, decode M_254.2.1 q.1 = .ok (q.2.1, q.2.2) := by decide +kernel
set_option maxRecDepth 4000 in
theorem v_254 : m_mOk M_254 := ⟨(m_gi10 85 rfl rfl), (m_gi1 12 rfl rfl), by decide +kernel, ⟨by decide +kernel, by decide +kernel⟩, by decide +kernel, vf_254, vc_254, vo_254, vk_254⟩
set_option maxRecDepth 4000 in
theorem vf_255 : ∀ q ∈ M_255.2.2.2.2.2.1, m_fOk M_255.1 q := (List.forall_mem_cons.mpr ⟨⟨(R_14, F_14, 92), rfl, Nat.le_of_ble_eq_true rfl, ⟨"EdgeHouseModel", (m_gi8 230 rfl rfl), Or.inl rfl⟩, m_n0 rfl, m_n0 rfl⟩, (fun _ h => absurd h List.not_mem_nil)⟩)
set_option maxRecDepth 4000 in
theorem vc_255 : ∀ q ∈ M_255.2.2.2.2.2.2.1, m_cOk M_255.1 q := (fun _ h => absurd h List.not_mem_nil)
set_option maxRecDepth 4000 in
theorem vo_255 : ∀ q ∈ M_255.2.2.2.2.2.2.2.1, m_oOk M_255.1 q := (fun _ h => absurd h List.not_mem_nil)
set_option maxRecDepth 4000 in
theorem vk_255 : ∀ q ∈ M_255.2.2.2.2.2.2.2.2, decode M_255.2.1 q.1 = .ok (q.2.1, q.2.2) := by decide +kernel
set_option maxRecDepth 4000 in
theorem v_255 : m_mOk M_255 := ⟨(m_gi10 89 rfl rfl), (m_gi1 12 rfl rfl), by decide +kernel, ⟨by decide +kernel, by decide +kernel⟩, by decide +kernel, vf_255, vc_255, vo_255, vk_255⟩
set_option maxRecDepth 4000 in
theorem vf_256 : ∀ q ∈ M_256.2.2.2.2.2.1, m_fOk M_256.1 q := (List.forall_mem_cons.mpr ⟨⟨(R_14, F_14, 92), rfl, Nat.le_of_ble_eq_true rfl, ⟨"EdgeHouseModel", (m_gi8 230 rfl rfl), Or.inl rfl⟩, m_n0 rfl, m_n0 rfl⟩, (List.forall_mem_cons.mpr ⟨⟨(R_14, F_14, 92), rfl, Nat.le_of_ble_eq_true rfl, ⟨"EdgeHouseModel", (m_gi9 21 rfl rfl), Or.inl rfl⟩, m_n0 rfl, m_n0 rfl⟩, (List.forall_mem_cons.mpr ⟨⟨(R_14, F_14, 92), rfl, Nat.le_of_ble_eq_true rfl, ⟨"EdgeHouseModel", (m_gi9 22 rfl rfl), Or.inl rfl⟩, m_n0 rfl, m_n0 rfl⟩, (List.forall_mem_cons.mpr ⟨⟨(R_14, F_14, 92), rfl, Nat.le_of_ble_eq_true rfl, ⟨"EdgeHouseModel", (m_gi9 20 rfl rfl), Or.inl rfl⟩, fun _ => rfl, m_n0 rfl⟩, (fun _ h => absurd h List.not_mem_nil)⟩)⟩)⟩)⟩)
set_option maxRecDepth 4000 in
theorem vc_256 : ∀ q ∈ M_256.2.2.2.2.2.2.1, m_cOk M_256.1 q := (List.forall_mem_cons.mpr ⟨⟨m_n0 rfl, m_n0 rfl, m_n0 rfl, fun _ => ⟨M_24, rfl, m_n0 rfl, fun _ => ⟨(m_gi10 52 rfl rfl), (m_gi2 231 rfl rfl), (R_12, F_12, 4), rfl, rfl, (m_gi2 232 rfl rfl)⟩, m_n0 rfl, m_n0 rfl⟩⟩, (List.forall_mem_cons.mpr ⟨⟨m_n0 rfl, m_n0 rfl, m_n0 rfl, fun _ => ⟨M_26, rfl, m_n0 rfl, fun _ => ⟨(m_gi10 53 rfl rfl), (m_gi3 0 rfl rfl), (R_12, F_12, 4), rfl, rfl, (m_gi3 1 rfl rfl)⟩, m_n0 rfl, m_n0 rfl⟩⟩, (fun _ h => absurd h List.not_mem_nil)⟩)⟩)
set_option maxRecDepth 4000 in
theorem vo_256 : ∀ q ∈ M_256.2.2.2.2.2.2.2.1, m_oOk M_256.1 q := (fun _ h => absurd h List.not_mem_nil)
set_option maxRecDepth 4000 in
theorem vk_256 : ∀ q ∈ M_256.2.2.2.2.2.2.2.2, decode M_256.2.1 q.1 = .ok (q.2.1, q.2.2) := by decide +kernel
set_option maxRecDepth 4000 in
theorem v_256 : m_mOk M_256 := ⟨(m_gi10 94 rfl rfl), (m_gi1 12 rfl rfl), by decide +kernel, ⟨by decide +kernel, by decide +kernel⟩, by decide +kernel, vf_256, vc_256, vo_256, vk_256⟩
set_option maxRecDepth 4000 in
theorem vf_257 : ∀ q ∈ M_257.2.2.2.2.2.1, m_fOk M_257.1 q := (List.forall_mem_cons.mpr ⟨⟨(R_14, F_14, 92), rfl, Nat.le_of_ble_eq_true rfl, ⟨"EdgeHouseModel", (m_gi8 233 rfl rfl), Or.inl rfl⟩, fun _ => rfl, m_n0 rfl⟩, (List.forall_mem_cons.mpr ⟨⟨(R_14, F_14, 92), rfl, Nat.le_of_ble_eq_true rfl, ⟨"EdgeHouseModel", (m_gi8 234 rfl rfl), Or.inl rfl⟩, fun _ => rfl, m_n0 rfl⟩, (List.forall_mem_cons.mpr ⟨⟨(R_14, F_14, 92), rfl, Nat.le_of_ble_eq_true rfl, ⟨"EdgeHouseModel", (m_gi8 238 rfl rfl), Or.inl rfl⟩, fun _ => rfl, m_n0 rfl⟩, (List.forall_mem_cons.mpr ⟨⟨(R_14, F_14, 92), rfl, Nat.le_of_ble_eq_true rfl, ⟨"EdgeHouseModel", (m_gi8 239 rfl rfl), Or.inl rfl⟩, fun _ => rfl, m_n0 rfl⟩, (List.forall_mem_cons.mpr ⟨⟨(R_14, F_14, 92), rfl, Nat.le_of_ble_eq_true rfl, ⟨"EdgeHouseModel", (m_gi9 0 rfl rfl), Or.inl rfl⟩, fun _ => rfl, m_n0 rfl⟩, (fun _ h => absurd h List.not_mem_nil)⟩)⟩)⟩)⟩)⟩)
set_option maxRecDepth 4000 in
theorem vc_257 : ∀ q ∈ M_257.2.2.2.2.2.2.1, m_cOk M_257.1 q := (List.forall_mem_cons.mpr ⟨⟨m_n0 rfl, m_n0 rfl, m_n0 rfl, fun _ => ⟨M_245, rfl, m_n0 rfl, fun _ => ⟨(m_gi10 43 rfl rfl), (m_gi10 45 rfl rfl), (R_14, F_14, 92), rfl, rfl, (m_gp 26 rfl rfl)⟩, m_n0 rfl, m_n0 rfl⟩⟩, (List.forall_mem_cons.mpr ⟨⟨m_n0 rfl, m_n0 rfl, m_n0 rfl, fun _ => ⟨M_247, rfl, m_n0 rfl, fun _ => ⟨(m_gi10 54 rfl rfl), (m_gi10 56 rfl rfl), (R_14, F_14, 92), rfl, rfl, (m_gp 28 rfl rfl)⟩, m_n0 rfl, m_n0 rfl⟩⟩, (List.forall_mem_cons.mpr ⟨⟨m_n0 rfl, m_n0 rfl, m_n0 rfl, fun _ => ⟨M_251, rfl, m_n0 rfl, m_n0 rfl, fun _ => ⟨(m_gi10 72 rfl rfl), (m_gi10 73 rfl rfl)⟩, m_n0 rfl⟩⟩, (List.forall_mem_cons.mpr ⟨⟨m_n0 rfl, m_n0 rfl, m_n0 rfl, fun _ => ⟨M_250, rfl, m_n0 rfl, fun _ => ⟨(m_gi10 68 rfl rfl), (m_gi10 70 rfl rfl), (R_14, F_14, 92), rfl, rfl, (m_gp 31 rfl rfl)⟩, m_n0 rfl, m_n0 rfl⟩⟩, (List.forall_mem_cons.mpr ⟨⟨m_n0 rfl, m_n0 rfl, m_n0 rfl, fun _ => ⟨M_246, rfl, m_n0 rfl, fun _ => ⟨(m_gi10 48 rfl rfl), (m_gi10 50 rfl rfl), (R_14, F_14, 92), rfl, rfl, (m_gp 27 rfl rfl)⟩, m_n0 rfl, m_n0 rfl⟩⟩, (fun _ h => absurd h List.not_mem_nil)⟩)⟩)⟩)⟩)⟩)
set_option maxRecDepth 4000 in
theorem vo_257 : ∀ q ∈ M_257.2.2.2.2.2.2.2.1, m_oOk M_257.1 q := (List.forall_mem_cons.mpr ⟨⟨m_n0 rfl, m_n0 rfl, m_n0 rfl, m_n0 rfl, m_n0 rfl, fun _ => ⟨_, List.mem_of_getElem? (i := 54) rfl⟩, m_n0 rfl, Nat.le_of_ble_eq_true rfl⟩, (List.forall_mem_cons.mpr ⟨⟨m_n0 rfl, m_n0 rfl, fun _ => ⟨_, rfl, (m_gi10 100 rfl rfl)⟩, m_n0 rfl, m_n0 rfl, m_n0 rfl, m_n0 rfl, Nat.le_of_ble_eq_true rfl⟩, (fun _ h => absurd h List.not_mem_nil)⟩)⟩)
set_option maxRecDepth 4000 in
theorem vk_257 : ∀ q ∈ M_257.2.2.2.2.2.2.2.2, decode M_257.2.1 q.1 = .ok (q.2.1, q.2.2) := by decide +kernel
set_option maxRecDepth 4000 in
theorem v_257 : m_mOk M_257 := ⟨(m_gi10 98 rfl rfl), (m_gi1 12 rfl rfl), by decide +kernel, ⟨by decide +kernel, by decide +kernel⟩, by decide +kernel, vf_257, vc_257, vo_257, vk_257⟩
set_option maxRecDepth 4000 in
theorem vf_258 : ∀ q ∈ M_258.2.2.2.2.2.1, m_fOk M_258.1 q := (List.forall_mem_cons.mpr ⟨⟨(R_14, F_14, 92), rfl, Nat.le_of_ble_eq_true rfl, ⟨"EdgeHouseModel", (m_gi9 11 rfl rfl), Or.inl rfl⟩, m_n0 rfl, m_n0 rfl⟩, (List.forall_mem_cons.mpr ⟨⟨(R_14, F_14, 92), rfl, Nat.le_of_ble_eq_true rfl, ⟨"EdgeHouseModel", (m_gi8 233 rfl rfl), Or.inl rfl⟩, fun _ => rfl, m_n0 rfl⟩, (List.forall_mem_cons.mpr ⟨⟨(R_14, F_14, 92), rfl, Nat.le_of_ble_eq_true rfl, ⟨"EdgeHouseModel", (m_gi8 234 rfl rfl), Or.inl rfl⟩, fun _ => rfl, m_n0 rfl⟩, (List.forall_mem_cons.mpr ⟨⟨(R_14, F_14, 92), rfl, Nat.le_of_ble_eq_true rfl, ⟨"EdgeHouseModel", (m_gi9 6 rfl rfl), Or.inl rfl⟩, fun _ => rfl, m_n0 rfl⟩, (List.forall_mem_cons.mpr ⟨⟨(R_14, F_14, 92), rfl, Nat.le_of_ble_eq_true rfl, ⟨"EdgeHouseModel", (m_gi9 1 rfl rfl), Or.inl rfl⟩, fun _ => rfl, m_n0 rfl⟩, (fun _ h => absurd h List.not_mem_nil)⟩)⟩)⟩)⟩)⟩)
set_option maxRecDepth 4000 in
theorem vc_258 : ∀ q ∈ M_258.2.2.2.2.2.2.1, m_cOk M_258.1 q := (List.forall_mem_cons.mpr ⟨⟨m_n0 rfl, m_n0 rfl, m_n0 rfl, fun _ => ⟨M_245, rfl, m_n0 rfl, fun _ => ⟨(m_gi10 43 rfl rfl), (m_gi10 45 rfl rfl), (R_14, F_14, 92), rfl, rfl, (m_gp 26 rfl rfl)⟩, m_n0 rfl, m_n0 rfl⟩⟩, (List.forall_mem_cons.mpr ⟨⟨m_n0 rfl, m_n0 rfl, m_n0 rfl, fun _ => ⟨M_247, rfl, m_n0 rfl, fun _ => ⟨(m_gi10 54 rfl rfl), (m_gi10 56 rfl rfl), (R_14, F_14, 92), rfl, rfl, (m_gp 28 rfl rfl)⟩, m_n0 rfl, m_n0 rfl⟩⟩, (List.forall_mem_cons.mpr ⟨⟨m_n0 rfl, m_n0 rfl, m_n0 rfl, fun _ => ⟨M_250, rfl, m_n0 rfl, fun _ => ⟨(m_gi10 68 rfl rfl), (m_gi10 70 rfl rfl), (R_14, F_14, 92), rfl, rfl, (m_gp 31 rfl rfl)⟩, m_n0 rfl, m_n0 rfl⟩⟩, (fun _ h => absurd h List.not_mem_nil)⟩)⟩)⟩)
set_option maxRecDepth 4000 in
theorem vo_258 : ∀ q ∈ M_258.2.2.2.2.2.2.2.1, m_oOk M_258.1 q := (List.forall_mem_cons.mpr ⟨⟨m_n0 rfl, m_n0 rfl, fun _ => ⟨_, rfl, (m_gi10 100 rfl rfl)⟩, m_n0 rfl, m_n0 rfl, m_n0 rfl, m_n0 rfl, Nat.le_of_ble_eq_true rfl⟩, (fun _ h => absurd h List.not_mem_nil)⟩)
set_option maxRecDepth 4000 in
theorem vk_258 : ∀ q ∈ M_258.2.2.2.2.2.2.2.2, decode M_258.2.1 q.1 = .ok (q.2.1, q.2.2) := by decide +kernel
set_option maxRecDepth 4000 in
theorem v_258 : m_mOk M_258 := ⟨(m_gi10 105 rfl rfl), (m_gi1 12 rfl rfl), by decide +kernel, ⟨by decide +kernel, by decide +kernel⟩, by decide +kernel, vf_258, vc_258, vo_258, vk_258⟩
set_option maxRecDepth 4000 in
theorem vf_259 : ∀ q ∈ M_259.2.2.2.2.2.1, m_fOk M_259.1 q := (fun _ h => absurd h List.not_mem_nil)
set_option maxRecDepth 4000 in
theorem vc_259 : ∀ q ∈ M_259.2.2.2.2.2.2.1, m_cOk M_259.1 q := (List.forall_mem_cons.mpr ⟨⟨m_n0 rfl, m_n0 rfl, m_n0 rfl, fun _ => ⟨M_247, rfl, m_n0 rfl, fun _ => ⟨(m_gi10 54 rfl rfl), (m_gi10 56 rfl rfl), (R_14, F_14, 92), rfl, rfl, (m_gp 28 rfl rfl)⟩, m_n0 rfl, m_n0 rfl⟩⟩, (List.forall_mem_cons.mpr ⟨⟨m_n0 rfl, m_n0 rfl, m_n0 rfl, fun _ => ⟨M_250, rfl, m_n0 rfl, fun _ => ⟨(m_gi10 68 rfl rfl), (m_gi10 70 rfl rfl), (R_14, F_14, 92), rfl, rfl, (m_gp 31 rfl rfl)⟩, m_n0 rfl, m_n0 rfl⟩⟩, (fun _ h => absurd h List.not_mem_nil)⟩)⟩)
set_option maxRecDepth 4000 in
theorem vo_259 : ∀ q ∈ M_259.2.2.2.2.2.2.2.1, m_oOk M_259.1 q := (List.forall_mem_cons.mpr ⟨⟨m_n0 rfl, m_n0 rfl, fun _ => ⟨_, rfl, (m_gi10 100 rfl rfl)⟩, m_n0 rfl, m_n0 rfl, m_n0 rfl, m_n0 rfl, Nat.le_of_ble_eq_true rfl⟩, (fun _ h => absurd h List.not_mem_nil)⟩)
set_option maxRecDepth 4000 in
theorem vk_259 : ∀ q ∈ M_259.2.2.2.2.2.2.2.2, decode M_259.2.1 q.1 = .ok (q.2.1, q.2.2) := by decide +kernel
set_option maxRecDepth 4000 in
theorem v_259 : m_mOk M_259 := ⟨(m_gi10 110 rfl rfl), (m_gi1 12 rfl rfl), by decide +kernel, ⟨by decide +kernel, by decide +kernel⟩, by decide +kernel, vf_259, vc_259, vo_259, vk_259⟩
set_option maxRecDepth 4000 in
theorem vf_260 : ∀ q ∈ M_260.2.2.2.2.2.1, m_fOk M_260.1 q := (List.forall_mem_cons.mpr ⟨⟨(R_14, F_14, 92), rfl, Nat.le_of_ble_eq_true rfl, ⟨"EdgeHouseModel", (m_gi9 10 rfl rfl), Or.inl rfl⟩, m_n0 rfl, m_n0 rfl⟩, (List.forall_mem_cons.mpr ⟨⟨(R_14, F_14, 92), rfl, Nat.le_of_ble_eq_true rfl, ⟨"EdgeHouseModel", (m_gi8 233 rfl rfl), Or.inl rfl⟩, fun _ => rfl, m_n0 rfl⟩, (List.forall_mem_cons.mpr ⟨⟨(R_14, F_14, 92), rfl, Nat.le_of_ble_eq_true rfl, ⟨"EdgeHouseModel", (m_gi8 234 rfl rfl), Or.inl rfl⟩, fun _ => rfl, m_n0 rfl⟩, (List.forall_mem_cons.mpr ⟨⟨(R_14, F_14, 92), rfl, Nat.le_of_ble_eq_true rfl, ⟨"EdgeHouseModel", (m_gi9 69 rfl rfl), Or.inl rfl⟩, fun _ => rfl, m_n0 rfl⟩, (List.forall_mem_cons.mpr ⟨⟨(R_14, F_14, 92), rfl, Nat.le_of_ble_eq_true rfl, ⟨"EdgeHouseModel", (m_gi9 70 rfl rfl), Or.inl rfl⟩, fun _ => rfl, m_n0 rfl⟩, (List.forall_mem_cons.mpr ⟨⟨(R_14, F_14, 92), rfl, Nat.le_of_ble_eq_true rfl, ⟨"EdgeHouseModel", (m_gi9 71 rfl rfl), Or.inl rfl⟩, fun _ => rfl, m_n0 rfl⟩, (fun _ h => absurd h List.not_mem_nil)⟩)⟩)⟩)⟩)⟩)⟩)
set_option maxRecDepth 4000 in
theorem vc_260 : ∀ q ∈ M_260.2.2.2.2.2.2.1, m_cOk M_260.1 q := (List.forall_mem_cons.mpr ⟨⟨m_n0 rfl, m_n0 rfl, m_n0 rfl, fun _ => ⟨M_245, rfl, m_n0 rfl, fun _ => ⟨(m_gi10 43 rfl rfl), (m_gi10 45 rfl rfl), (R_14, F_14, 92), rfl, rfl, (m_gp 26 rfl rfl)⟩, m_n0 rfl, m_n0 rfl⟩⟩, (List.forall_mem_cons.mpr ⟨⟨m_n0 rfl, m_n0 rfl, m_n0 rfl, fun _ => ⟨M_248, rfl, m_n0 rfl, fun _ => ⟨(m_gi10 58 rfl rfl), (m_gi10 60 rfl rfl), (R_14, F_14, 92), rfl, rfl, (m_gp 29 rfl rfl)⟩, m_n0 rfl, m_n0 rfl⟩⟩, (List.forall_mem_cons.mpr ⟨⟨m_n0 rfl, m_n0 rfl, m_n0 rfl, fun _ => ⟨M_247, rfl, m_n0 rfl, fun _ => ⟨(m_gi10 54 rfl rfl), (m_gi10 56 rfl rfl), (R_14, F_14, 92), rfl, rfl, (m_gp 28 rfl rfl)⟩, m_n0 rfl, m_n0 rfl⟩⟩, (List.forall_mem_cons.mpr ⟨⟨m_n0 rfl, m_n0 rfl, m_n0 rfl, fun _ => ⟨M_250, rfl, m_n0 rfl, fun _ => ⟨(m_gi10 68 rfl rfl), (m_gi10 70 rfl rfl), (R_14, F_14, 92), rfl, rfl, (m_gp 31 rfl rfl)⟩, m_n0 rfl, m_n0 rfl⟩⟩, (List.forall_mem_cons.mpr ⟨⟨m_n0 rfl, m_n0 rfl, m_n0 rfl, fun _ => ⟨M_254, rfl, m_n0 rfl, m_n0 rfl, fun _ => ⟨(m_gi10 83 rfl rfl), (m_gi10 84 rfl rfl)⟩, m_n0 rfl⟩⟩, (List.forall_mem_cons.mpr ⟨⟨m_n0 rfl, m_n0 rfl, m_n0 rfl, fun _ => ⟨M_261, rfl, m_n0 rfl, fun _ => ⟨(m_gi10 116 rfl rfl), (m_gi10 118 rfl rfl), (R_14, F_14, 92), rfl, rfl, (m_gp 40 rfl rfl)⟩, m_n0 rfl, m_n0 rfl⟩⟩, (List.forall_mem_cons.mpr ⟨⟨m_n0 rfl, m_n0 rfl, m_n0 rfl, fun _ => ⟨M_263, rfl, m_n0 rfl, fun _ => ⟨(m_gi10 130 rfl rfl), (m_gi10 132 rfl rfl), (R_14, F_14, 92), rfl, rfl, (m_gp 42 rfl rfl)⟩, m_n0 rfl, m_n0 rfl⟩⟩, (List.forall_mem_cons.mpr ⟨⟨m_n0 rfl, m_n0 rfl, m_n0 rfl, fun _ => ⟨M_264, rfl, m_n0 rfl, fun _ => ⟨(m_gi10 137 rfl rfl), (m_gi10 139 rfl rfl), (R_14, F_14, 92), rfl, rfl, (m_gp 43 rfl rfl)⟩, m_n0 rfl, m_n0 rfl⟩⟩, (List.forall_mem_cons.mpr ⟨⟨m_n0 rfl, m_n0 rfl, m_n0 rfl, fun _ => ⟨M_262, rfl, m_n0 rfl, fun _ => ⟨(m_gi10 121 rfl rfl), (m_gi10 123 rfl rfl), (R_14, F_14, 92), rfl, rfl, (m_gp 41 rfl rfl)⟩, m_n0 rfl, m_n0 rfl⟩⟩, (List.forall_mem_cons.mpr ⟨⟨m_n0 rfl, m_n0 rfl, m_n0 rfl, fun _ => ⟨M_265, rfl, m_n0 rfl, fun _ => ⟨(m_gi10 146 rfl rfl), (m_gi10 148 rfl rfl), (R_14, F_14, 92), rfl, rfl, (m_gp 44 rfl rfl)⟩, m_n0 rfl, m_n0 rfl⟩⟩, (fun _ h => absurd h List.not_mem_nil)⟩)⟩)⟩)⟩)⟩)⟩)⟩)⟩)⟩)⟩)
set_option maxRecDepth 4000 in
theorem vo_260 : ∀ q ∈ M_260.2.2.2.2.2.2.2.1, m_oOk M_260.1 q := (List.forall_mem_cons.mpr ⟨⟨m_n0 rfl, m_n0 rfl, fun _ => ⟨_, rfl, (m_gi10 100 rfl rfl)⟩, m_n0 rfl, m_n0 rfl, m_n0 rfl, m_n0 rfl, Nat.le_of_ble_eq_true rfl⟩, (List.forall_mem_cons.mpr ⟨⟨m_n0 rfl, m_n0 rfl, m_n0 rfl, m_n0 rfl, m_n0 rfl, fun _ => ⟨_, List.mem_of_getElem? (i := 55) rfl⟩, m_n0 rfl, Nat.le_of_ble_eq_true rfl⟩, (fun _ h => absurd h List.not_mem_nil)⟩)⟩)
set_option maxRecDepth 4000 in
theorem vk_260 : ∀ q ∈ M_260.2.2.2.2.2.2.2.2, decode M_260.2.1 q.1 = .ok (q.2.1, q.2.2) := by decide +kernel
set_option maxRecDepth 4000 in
theorem v_260 : m_mOk M_260 := ⟨(m_gi10 115 rfl rfl), (m_gi1 12 rfl rfl), by decide +kernel, ⟨by decide +kernel, by decide +kernel⟩, by decide +kernel, vf_260, vc_260, vo_260, vk_260⟩
set_option maxRecDepth 4000 in
theorem vf_261 : ∀ q ∈ M_261.2.2.2.2.2.1, m_fOk M_261.1 q := (List.forall_mem_cons.mpr ⟨⟨(R_14, F_14, 92), rfl, Nat.le_of_ble_eq_true rfl, ⟨"EdgeHouseModel", (m_gi9 71 rfl rfl), Or.inl rfl⟩, fun _ => rfl, m_n0 rfl⟩, (List.forall_mem_cons.mpr ⟨⟨(R_14, F_14, 92), rfl, Nat.le_of_ble_eq_true rfl, ⟨"EdgeHouseModel", (m_gi9 7 rfl rfl), Or.inl rfl⟩, fun _ => rfl, m_n0 rfl⟩, (List.forall_mem_cons.mpr ⟨⟨(R_14, F_14, 92), rfl, Nat.le_of_ble_eq_true rfl, ⟨"EdgeHouseModel", (m_gi9 8 rfl rfl), Or.inl rfl⟩, fun _ => rfl, m_n0 rfl⟩, (List.forall_mem_cons.mpr ⟨⟨(R_14, F_14, 92), rfl, Nat.le_of_ble_eq_true rfl, ⟨"EdgeHouseModel", (m_gi9 2 rfl rfl), Or.inl rfl⟩, fun _ => rfl, m_n0 rfl⟩, (List.forall_mem_cons.mpr ⟨⟨(R_14, F_14, 92), rfl, Nat.le_of_ble_eq_true rfl, ⟨"EdgeHouseModel", (m_gi9 3 rfl rfl), Or.inl rfl⟩, fun _ => rfl, m_n0 rfl⟩, (List.forall_mem_cons.mpr ⟨⟨(R_14, F_14, 92), rfl, Nat.le_of_ble_eq_true rfl, ⟨"EdgeHouseModel", (m_gi9 4 rfl rfl), Or.inl rfl⟩, fun _ => rfl, m_n0 rfl⟩, (fun _ h => absurd h List.not_mem_nil)⟩)⟩)⟩)⟩)⟩)⟩)
set_option maxRecDepth 4000 in
theorem vc_261 : ∀ q ∈ M_261.2.2.2.2.2.2.1, m_cOk M_261.1 q := (List.forall_mem_cons.mpr ⟨⟨m_n0 rfl, m_n0 rfl, m_n0 rfl, fun _ => ⟨M_262, rfl, m_n0 rfl, fun _ => ⟨(m_gi10 121 rfl rfl), (m_gi10 123 rfl rfl), (R_14, F_14, 92), rfl, rfl, (m_gp 41 rfl rfl)⟩, m_n0 rfl, m_n0 rfl⟩⟩, (fun _ h => absurd h List.not_mem_nil)⟩)
set_option maxRecDepth 4000 in
theorem vo_261 : ∀ q ∈ M_261.2.2.2.2.2.2.2.1, m_oOk M_261.1 q := (List.forall_mem_cons.mpr ⟨⟨m_n0 rfl, m_n0 rfl, m_n0 rfl, m_n0 rfl, m_n0 rfl, fun _ => ⟨_, List.mem_of_getElem? (i := 56) rfl⟩, m_n0 rfl, Nat.le_of_ble_eq_true rfl⟩, (List.forall_mem_cons.mpr ⟨⟨m_n0 rfl, m_n0 rfl, m_n0 rfl, m_n0 rfl, m_n0 rfl, fun _ => ⟨_, List.mem_of_getElem? (i := 57) rfl⟩, m_n0 rfl, Nat.le_of_ble_eq_true rfl⟩, (List.forall_mem_cons.mpr ⟨⟨m_n0 rfl, m_n0 rfl, m_n0 rfl, m_n0 rfl, m_n0 rfl, fun _ => ⟨_, List.mem_of_getElem? (i := 58) rfl⟩, m_n0 rfl, Nat.le_of_ble_eq_true rfl⟩, (List.forall_mem_cons.mpr ⟨⟨m_n0 rfl, m_n0 rfl, m_n0 rfl, m_n0 rfl, m_n0 rfl, fun _ => ⟨_, List.mem_of_getElem? (i := 59) rfl⟩, m_n0 rfl, Nat.le_of_ble_eq_true rfl⟩, (List.forall_mem_cons.mpr ⟨⟨m_n0 rfl, m_n0 rfl, fun _ => ⟨_, rfl, (m_gi10 128 rfl rfl)⟩, m_n0 rfl, m_n0 rfl, m_n0 rfl, m_n0 rfl, Nat.le_of_ble_eq_true rfl⟩, (List.forall_mem_cons.mpr ⟨⟨m_n0 rfl, m_n0 rfl, m_n0 rfl, m_n0 rfl, m_n0 rfl, fun _ => ⟨_, List.mem_of_getElem? (i := 60) rfl⟩, m_n0 rfl, Nat.le_of_ble_eq_true rfl⟩, (fun _ h => absurd h List.not_mem_nil)⟩)⟩)⟩)⟩)⟩)⟩)
set_option maxRecDepth 4000 in
theorem vk_261 : ∀ q ∈ M_261.2.2.2.2.2.2.2.2, decode M_261.2.1 q.1 = .ok (q.2.1, q.2.2) := by decide +kernel
set_option maxRecDepth 4000 in
theorem v_261 : m_mOk M_261 := ⟨(m_gi10 119 rfl rfl), (m_gi1 12 rfl rfl), by decide +kernel, ⟨by decide +kernel, by decide +kernel⟩, by decide +kernel, vf_261, vc_261, vo_261, vk_261⟩
set_option maxRecDepth 4000 in
theorem vf_262 : ∀ q ∈ M_262.2.2.2.2.2.1, m_fOk M_262.1 q := (List.forall_mem_cons.mpr ⟨⟨(R_14, F_14, 92), rfl, Nat.le_of_ble_eq_true rfl, ⟨"EdgeHouseModel", (m_gi8 230 rfl rfl), Or.inl rfl⟩, m_n0 rfl, m_n0 rfl⟩, (List.forall_mem_cons.mpr ⟨⟨(R_14, F_14, 92), rfl, Nat.le_of_ble_eq_true rfl, ⟨"EdgeHouseModel", (m_gi9 69 rfl rfl), Or.inl rfl⟩, fun _ => rfl, m_n0 rfl⟩, (List.forall_mem_cons.mpr ⟨⟨(R_14, F_14, 92), rfl, Nat.le_of_ble_eq_true rfl, ⟨"EdgeHouseModel", (m_gi9 70 rfl rfl), Or.inl rfl⟩, fun _ => rfl, m_n0 rfl⟩, (fun _ h => absurd h List.not_mem_nil)⟩)⟩)⟩)
set_option maxRecDepth 4000 in
theorem vc_262 : ∀ q ∈ M_262.2.2.2.2.2.2.1, m_cOk M_262.1 q := (List.forall_mem_cons.mpr ⟨⟨m_n0 rfl, m_n0 rfl, m_n0 rfl, fun _ => ⟨M_24, rfl, m_n0 rfl, fun _ => ⟨(m_gi10 52 rfl rfl), (m_gi2 231 rfl rfl), (R_12, F_12, 4), rfl, rfl, (m_gi2 232 rfl rfl)⟩, m_n0 rfl, m_n0 rfl⟩⟩, (List.forall_mem_cons.mpr ⟨⟨m_n0 rfl, m_n0 rfl, m_n0 rfl, fun _ => ⟨M_26, rfl, m_n0 rfl, fun _ => ⟨(m_gi10 53 rfl rfl), (m_gi3 0 rfl rfl), (R_12, F_12, 4), rfl, rfl, (m_gi3 1 rfl rfl)⟩, m_n0 rfl, m_n0 rfl⟩⟩, (fun _ h => absurd h List.not_mem_nil)⟩)⟩)
set_option maxRecDepth 4000 in
theorem vo_262 : ∀ q ∈ M_262.2.2.2.2.2.2.2.1, m_oOk M_262.1 q := (fun _ h => absurd h List.not_mem_nil)
set_option maxRecDepth 4000 in
theorem vk_262 : ∀ q ∈ M_262.2.2.2.2.2.2.2.2, decode M_262.2.1 q.1 = .ok (q.2.1, q.2.2) := by decide +kernel
set_option maxRecDepth 4000 in
theorem v_262 : m_mOk M_262 := ⟨(m_gi10 124 rfl rfl), (m_gi1 12 rfl rfl), by decide +kernel, ⟨by decide +kernel, by decide +kernel⟩, by decide +kernel, vf_262, vc_262, vo_262, vk_262⟩
set_option maxRecDepth 4000 in
theorem vf_263 : ∀ q ∈ M_263.2.2.2.2.2.1, m_fOk M_263.1 q := (List.forall_mem_cons.mpr ⟨⟨(R_14, F_14, 92), rfl, Nat.le_of_ble_eq_true rfl, ⟨"EdgeHouseModel", (m_gi9 71 rfl rfl), Or.inl rfl⟩, fun _ => rfl, m_n0 rfl⟩, (List.forall_mem_cons.mpr ⟨⟨(R_14, F_14, 92), rfl, Nat.le_of_ble_eq_true rfl, ⟨"EdgeHouseModel", (m_gi9 18 rfl rfl), Or.inl rfl⟩, fun _ => rfl, m_n0 rfl⟩, (List.forall_mem_cons.mpr ⟨⟨(R_14, F_14, 92), rfl, Nat.le_of_ble_eq_true rfl, ⟨"EdgeHouseModel", (m_gi9 19 rfl rfl), Or.inl rfl⟩, fun _ => rfl, m_n0 rfl⟩, (List.forall_mem_cons.mpr ⟨⟨(R_14, F_14, 92), rfl, Nat.le_of_ble_eq_true rfl, ⟨"EdgeHouseModel", (m_gi9 14 rfl rfl), Or.inl rfl⟩, fun _ => rfl, m_n0 rfl⟩, (List.forall_mem_cons.mpr ⟨⟨(R_14, F_14, 92), rfl, Nat.le_of_ble_eq_true rfl, ⟨"EdgeHouseModel", (m_gi9 15 rfl rfl), Or.inl rfl⟩, fun _ => rfl, m_n0 rfl⟩, (List.forall_mem_cons.mpr ⟨⟨(R_14, F_14, 92), rfl, Nat.le_of_ble_eq_true rfl, ⟨"EdgeHouseModel", (m_gi9 16 rfl rfl), Or.inl rfl⟩, fun _ => rfl, m_n0 rfl⟩, (fun _ h => absurd h List.not_mem_nil)⟩)⟩)⟩)⟩)⟩)⟩)
set_option maxRecDepth 4000 in
theorem vc_263 : ∀ q ∈ M_263.2.2.2.2.2.2.1, m_cOk M_263.1 q := (List.forall_mem_cons.mpr ⟨⟨m_n0 rfl, m_n0 rfl, m_n0 rfl, fun _ => ⟨M_262, rfl, m_n0 rfl, fun _ => ⟨(m_gi10 121 rfl rfl), (m_gi10 123 rfl rfl), (R_14, F_14, 92), rfl, rfl, (m_gp 41 rfl rfl)⟩, m_n0 rfl, m_n0 rfl⟩⟩, (fun _ h => absurd h List.not_mem_nil)⟩)
set_option maxRecDepth 4000 in
theorem vo_263 : ∀ q ∈ M_263.2.2.2.2.2.2.2.1, m_oOk M_263.1 q := (List.forall_mem_cons.mpr ⟨⟨m_n0 rfl, m_n0 rfl, m_n0 rfl, m_n0 rfl, m_n0 rfl, fun _ => ⟨_, List.mem_of_getElem? (i := 56) rfl⟩, m_n0 rfl, Nat.le_of_ble_eq_true rfl⟩, (List.forall_mem_cons.mpr ⟨⟨m_n0 rfl, m_n0 rfl, m_n0 rfl, m_n0 rfl, m_n0 rfl, fun _ => ⟨_, List.mem_of_getElem? (i := 58) rfl⟩, m_n0 rfl, Nat.le_of_ble_eq_true rfl⟩, (List.forall_mem_cons.mpr ⟨⟨m_n0 rfl, m_n0 rfl, m_n0 rfl, m_n0 rfl, m_n0 rfl, fun _ => ⟨_, List.mem_of_getElem? (i := 61) rfl⟩, m_n0 rfl, Nat.le_of_ble_eq_true rfl⟩, (List.forall_mem_cons.mpr ⟨⟨m_n0 rfl, m_n0 rfl, m_n0 rfl, m_n0 rfl, m_n0 rfl, fun _ => ⟨_, List.mem_of_getElem? (i := 62) rfl⟩, m_n0 rfl, Nat.le_of_ble_eq_true rfl⟩, (List.forall_mem_cons.mpr ⟨⟨m_n0 rfl, m_n0 rfl, m_n0 rfl, m_n0 rfl, m_n0 rfl, fun _ => ⟨_, List.mem_of_getElem? (i := 63) rfl⟩, m_n0 rfl, Nat.le_of_ble_eq_true rfl⟩, (fun _ h => absurd h List.not_mem_nil)⟩)⟩)⟩)⟩)⟩)
set_option maxRecDepth 4000 in
theorem vk_263 : ∀ q ∈ M_263.2.2.2.2.2.2.2.2, decode M_263.2.1 q.1 = .ok (q.2.1, q.2.2) := by decide +kernel
set_option maxRecDepth 4000 in
theorem v_263 : m_mOk M_263 := ⟨(m_gi10 133 rfl rfl), (m_gi1 12 rfl rfl), by decide +kernel, ⟨by decide +kernel, by decide +kernel⟩, by decide +kernel, vf_263, vc_263, vo_263, vk_263⟩
set_option maxRecDepth 4000 in
theorem vf_264 : ∀ q ∈ M_264.2.2.2.2.2.1, m_fOk M_264.1 q := (List.forall_mem_cons.mpr ⟨⟨(R_14, F_14, 92), rfl, Nat.le_of_ble_eq_true rfl, ⟨"EdgeHouseModel", (m_gi9 10 rfl rfl), Or.inl rfl⟩, m_n0 rfl, m_n0 rfl⟩, (List.forall_mem_cons.mpr ⟨⟨(R_14, F_14, 92), rfl, Nat.le_of_ble_eq_true rfl, ⟨"EdgeHouseModel", (m_gi9 71 rfl rfl), Or.inl rfl⟩, fun _ => rfl, m_n0 rfl⟩, (fun _ h => absurd h List.not_mem_nil)⟩)⟩)
set_option maxRecDepth 4000 in
theorem vc_264 : ∀ q ∈ M_264.2.2.2.2.2.2.1, m_cOk M_264.1 q := (List.forall_mem_cons.mpr ⟨⟨m_n0 rfl, m_n0 rfl, m_n0 rfl, fun _ => ⟨M_262, rfl, m_n0 rfl, fun _ => ⟨(m_gi10 121 rfl rfl), (m_gi10 123 rfl rfl), (R_14, F_14, 92), rfl, rfl, (m_gp 41 rfl rfl)⟩, m_n0 rfl, m_n0 rfl⟩⟩, (fun _ h => absurd h List.not_mem_nil)⟩)
set_option maxRecDepth 4000 in
theorem vo_264 : ∀ q ∈ M_264.2.2.2.2.2.2.2.1, m_oOk M_264.1 q := (List.forall_mem_cons.mpr ⟨⟨m_n0 rfl, m_n0 rfl, m_n0 rfl, m_n0 rfl, m_n0 rfl, fun _ => ⟨_, List.mem_of_getElem? (i := 64) rfl⟩, m_n0 rfl, Nat.le_of_ble_eq_true rfl⟩, (List.forall_mem_cons.mpr ⟨⟨m_n0 rfl, m_n0 rfl, m_n0 rfl, m_n0 rfl, m_n0 rfl, fun _ => ⟨_, List.mem_of_getElem? (i := 65) rfl⟩, m_n0 rfl, Nat.le_of_ble_eq_true rfl⟩, (List.forall_mem_cons.mpr ⟨⟨m_n0 rfl, m_n0 rfl, m_n0 rfl, m_n0 rfl, m_n0 rfl, fun _ => ⟨_, List.mem_of_getElem? (i := 66) rfl⟩, m_n0 rfl, Nat.le_of_ble_eq_true rfl⟩, (List.forall_mem_cons.mpr ⟨⟨m_n0 rfl, m_n0 rfl, m_n0 rfl, m_n0 rfl, m_n0 rfl, fun _ => ⟨_, List.mem_of_getElem? (i := 67) rfl⟩, m_n0 rfl, Nat.le_of_ble_eq_true rfl⟩, (fun _ h => absurd h List.not_mem_nil)⟩)⟩)⟩)⟩)
set_option maxRecDepth 4000 in
theorem vk_264 : ∀ q ∈ M_264.2.2.2.2.2.2.2.2, decode M_264.2.1 q.1 = .ok (q.2.1, q.2.2) := by decide +kernel
set_option maxRecDepth 4000 in
theorem v_264 : m_mOk M_264 := ⟨(m_gi10 140 rfl rfl), (m_gi1 12 rfl rfl), by decide +kernel, ⟨by decide +kernel, by decide +kernel⟩, by decide +kernel, vf_264, vc_264, vo_264, vk_264⟩
set_option maxRecDepth 4000 in
theorem vf_265 : ∀ q ∈ M_265.2.2.2.2.2.1, m_fOk M_265.1 q := (List.forall_mem_cons.mpr ⟨⟨(R_14, F_14, 92), rfl, Nat.le_of_ble_eq_true rfl, ⟨"EdgeHouseModel", (m_gi9 71 rfl rfl), Or.inl rfl⟩, fun _ => rfl, m_n0 rfl⟩, (List.forall_mem_cons.mpr ⟨⟨(R_14, F_14, 92), rfl, Nat.le_of_ble_eq_true rfl, ⟨"EdgeHouseModel", (m_gi9 17 rfl rfl), Or.inl rfl⟩, fun _ => rfl, m_n0 rfl⟩, (fun _ h => absurd h List.not_mem_nil)⟩)⟩)
set_option maxRecDepth 4000 in
theorem vc_265 : ∀ q ∈ M_265.2.2.2.2.2.2.1, m_cOk M_265.1 q := (List.forall_mem_cons.mpr ⟨⟨m_n0 rfl, m_n0 rfl, m_n0 rfl, fun _ => ⟨M_262, rfl, m_n0 rfl, fun _ => ⟨(m_gi10 121 rfl rfl), (m_gi10 123 rfl rfl), (R_14, F_14, 92), rfl, rfl, (m_gp 41 rfl rfl)⟩, m_n0 rfl, m_n0 rfl⟩⟩, (fun _ h => absurd h List.not_mem_nil)⟩)
set_option maxRecDepth 4000 in
theorem vo_265 : ∀ q ∈ M_265.2.2.2.2.2.2.2.1, m_oOk M_265.1 q := (List.forall_mem_cons.mpr ⟨⟨m_n0 rfl, m_n0 rfl, m_n0 rfl, m_n0 rfl, m_n0 rfl, fun _ => ⟨_, List.mem_of_getElem? (i := 68) rfl⟩, m_n0 rfl, Nat.le_of_ble_eq_true rfl⟩, (List.forall_mem_cons.mpr ⟨⟨m_n0 rfl, m_n0 rfl, m_n0 rfl, m_n0 rfl, m_n0 rfl, fun _ => ⟨_, List.mem_of_getElem? (i := 69) rfl⟩, m_n0 rfl, Nat.le_of_ble_eq_true rfl⟩, (fun _ h => absurd h List.not_mem_nil)⟩)⟩)
set_option maxRecDepth 4000 in
theorem vk_265 : ∀ q ∈ M_265.2.2.2.2.2.2.2.2, decode M_265.2.1 q.1 = .ok (q.2.1, q.2.2) := by decide +kernel
set_option maxRecDepth 4000 in
theorem v_265 : m_mOk M_265 := ⟨(m_gi10 149 rfl rfl), (m_gi1 12 rfl rfl), by decide +kernel, ⟨by decide +kernel, by decide +kernel⟩, by decide +kernel, vf_265, vc_265, vo_265, vk_265⟩
set_option maxRecDepth 4000 in
theorem vf_266 : ∀ q ∈ M_266.2.2.2.2.2.1, m_fOk M_266.1 q := (List.forall_mem_cons.mpr ⟨⟨(R_14, F_14, 92), rfl, Nat.le_of_ble_eq_true rfl, ⟨"EdgeHouseModel", (m_gi8 233 rfl rfl), Or.inl rfl⟩, fun _ => rfl, m_n0 rfl⟩, (List.forall_mem_cons.mpr ⟨⟨(R_14, F_14, 92), rfl, Nat.le_of_ble_eq_true rfl, ⟨"EdgeHouseModel", (m_gi8 234 rfl rfl), Or.inl rfl⟩, fun _ => rfl, m_n0 rfl⟩, (List.forall_mem_cons.mpr ⟨⟨(R_14, F_14, 92), rfl, Nat.le_of_ble_eq_true rfl, ⟨"EdgeHouseModel", (m_gi9 13 rfl rfl), Or.inl rfl⟩, fun _ => rfl, m_n0 rfl⟩, (fun _ h => absurd h List.not_mem_nil)⟩)⟩)⟩)
set_option maxRecDepth 4000 in
theorem vc_266 : ∀ q ∈ M_266.2.2.2.2.2.2.1, m_cOk M_266.1 q := (List.forall_mem_cons.mpr ⟨⟨m_n0 rfl, m_n0 rfl, m_n0 rfl, fun _ => ⟨M_245, rfl, m_n0 rfl, fun _ => ⟨(m_gi10 43 rfl rfl), (m_gi10 45 rfl rfl), (R_14, F_14, 92), rfl, rfl, (m_gp 26 rfl rfl)⟩, m_n0 rfl, m_n0 rfl⟩⟩, (List.forall_mem_cons.mpr ⟨⟨m_n0 rfl, m_n0 rfl, m_n0 rfl, fun _ => ⟨M_248, rfl, m_n0 rfl, fun _ => ⟨(m_gi10 58 rfl rfl), (m_gi10 60 rfl rfl), (R_14, F_14, 92), rfl, rfl, (m_gp 29 rfl rfl)⟩, m_n0 rfl, m_n0 rfl⟩⟩, (fun _ h => absurd h List.not_mem_nil)⟩)⟩)
set_option maxRecDepth 4000 in
theorem vo_266 : ∀ q ∈ M_266.2.2.2.2.2.2.2.1, m_oOk M_266.1 q := (fun _ h => absurd h List.not_mem_nil)
set_option maxRecDepth 4000 in
theorem vk_266 : ∀ q ∈ M_266.2.2.2.2.2.2.2.2, decode M_266.2.1 q.1 = .ok (q.2.1, q.2.2) := by decide +kernel
set_option maxRecDepth 4000 in
theorem v_266 : m_mOk M_266 := ⟨(m_gi10 158 rfl rfl), (m_gi1 12 rfl rfl), by decide +kernel, ⟨by decide +kernel, by decide +kernel⟩, by decide +kernel, vf_266, vc_266, vo_266, vk_266⟩
set_option maxRecDepth 4000 in
theorem vf_267 : ∀ q ∈ M_267.2.2.2.2.2.1, m_fOk M_267.1 q := (List.forall_mem_cons.mpr ⟨⟨(R_14, F_14, 92), rfl, Nat.le_of_ble_eq_true rfl, ⟨"EdgeHouseModel", (m_gi8 231 rfl rfl), Or.inl rfl⟩, fun _ => rfl, m_n0 rfl⟩, (List.forall_mem_cons.mpr ⟨⟨(R_14, F_14, 92), rfl, Nat.le_of_ble_eq_true rfl, ⟨"EdgeHouseModel", (m_gi8 233 rfl rfl), Or.inl rfl⟩, fun _ => rfl, m_n0 rfl⟩, (fun _ h => absurd h List.not_mem_nil)⟩)⟩)
set_option maxRecDepth 4000 in
theorem vc_267 : ∀ q ∈ M_267.2.2.2.2.2.2.1, m_cOk M_267.1 q := (List.forall_mem_cons.mpr ⟨⟨m_n0 rfl, m_n0 rfl, m_n0 rfl, fun _ => ⟨M_245, rfl, m_n0 rfl, fun _ => ⟨(m_gi10 43 rfl rfl), (m_gi10 45 rfl rfl), (R_14, F_14, 92), rfl, rfl, (m_gp 26 rfl rfl)⟩, m_n0 rfl, m_n0 rfl⟩⟩, (fun _ h => absurd h List.not_mem_nil)⟩)
set_option maxRecDepth 4000 in
theorem vo_267 : ∀ q ∈ M_267.2.2.2.2.2.2.2.1, m_oOk M_267.1 q := (fun _ h => absurd h List.not_mem_nil)
set_option maxRecDepth 4000 in
theorem vk_267 : ∀ q ∈ M_267.2.2.2.2.2.2.2.2, decode M_267.2.1 q.1 = .ok (q.2.1, q.2.2) := by decide +kernel
set_option maxRecDepth 4000 in
theorem v_267 : m_mOk M_267 := ⟨(m_gi10 162 rfl rfl), (m_gi1 12 rfl rfl), by decide +kernel, ⟨by decide +kernel, by decide +kernel⟩, by decide +kernel, vf_267, vc_267, vo_267, vk_267⟩
set_option maxRecDepth 4000 in
theorem vf_268 : ∀ q ∈ M_268.2.2.2.2.2.1, m_fOk M_268.1 q := (List.forall_mem_cons.mpr ⟨⟨(R_14, F_14, 92), rfl, Nat.le_of_ble_eq_true rfl, ⟨"EdgeHouseModel", (m_gi9 23 rfl rfl), Or.inl rfl⟩, m_n0 rfl, m_n0 rfl⟩, (List.forall_mem_cons.mpr ⟨⟨(R_14, F_14, 92), rfl, Nat.le_of_ble_eq_true rfl, ⟨"EdgeHouseModel", (m_gi8 229 rfl rfl), Or.inl rfl⟩, fun _ => rfl, m_n0 rfl⟩, (fun _ h => absurd h List.not_mem_nil)⟩)⟩)
set_option maxRecDepth 4000 in
theorem vc_268 : ∀ q ∈ M_268.2.2.2.2.2.2.1, m_cOk M_268.1 q := (fun _ h => absurd h List.not_mem_nil)
set_option maxRecDepth 4000 in
theorem vo_268 : ∀ q ∈ M_268.2.2.2.2.2.2.2.1, m_oOk M_268.1 q := (fun _ h => absurd h List.not_mem_nil)
set_option maxRecDepth 4000 in
theorem vk_268 : ∀ q ∈ M_268.2.2.2.2.2.2.2.2, decode M_268.2.1 q.1 = .ok (q.2.1, q.2.2) := by decide +kernel
set_option maxRecDepth 4000 in
theorem v_268 : m_mOk M_268 := ⟨(m_gi10 166 rfl rfl), (m_gi1 12 rfl rfl), by decide +kernel, ⟨by decide +kernel, by decide +kernel⟩, by decide +kernel, vf_268, vc_268, vo_268, vk_268⟩
set_option maxRecDepth 4000 in
theorem vf_269 : ∀ q ∈ M_269.2.2.2.2.2.1, m_fOk M_269.1 q := (List.forall_mem_cons.mpr ⟨⟨(R_14, F_14, 92), rfl, Nat.le_of_ble_eq_true rfl, ⟨"EdgeHouseModel", (m_gi9 11 rfl rfl), Or.inl rfl⟩, m_n0 rfl, m_n0 rfl⟩, (List.forall_mem_cons.mpr ⟨⟨(R_14, F_14, 92), rfl, Nat.le_of_ble_eq_true rfl, ⟨"EdgeHouseModel", (m_gi9 61 rfl rfl), Or.inl rfl⟩, m_n0 rfl, m_n0 rfl⟩, (List.forall_mem_cons.mpr ⟨⟨(R_14, F_14, 92), rfl, Nat.le_of_ble_eq_true rfl, ⟨"EdgeHouseModel", (m_gi9 62 rfl rfl), Or.inl rfl⟩, m_n0 rfl, m_n0 rfl⟩, (List.forall_mem_cons.mpr ⟨⟨(R_14, F_14, 92), rfl, Nat.le_of_ble_eq_true rfl, ⟨"EdgeHouseModel", (m_gi9 64 rfl rfl), Or.inl rfl⟩, m_n0 rfl, m_n0 rfl⟩, (List.forall_mem_cons.mpr ⟨⟨(R_14, F_14, 92), rfl, Nat.le_of_ble_eq_true rfl, ⟨"EdgeHouseModel", (m_gi9 77 rfl rfl), Or.inl rfl⟩, m_n0 rfl, m_n0 rfl⟩, (List.forall_mem_cons.mpr ⟨⟨(R_14, F_14, 92), rfl, Nat.le_of_ble_eq_true rfl, ⟨"EdgeHouseModel", (m_gi8 229 rfl rfl), Or.inl rfl⟩, fun _ => rfl, m_n0 rfl⟩, (List.forall_mem_cons.mpr ⟨⟨(R_14, F_14, 92), rfl, Nat.le_of_ble_eq_true rfl, ⟨"EdgeHouseModel", (m_gi8 236 rfl rfl), Or.inl rfl⟩, fun _ => rfl, m_n0 rfl⟩, (List.forall_mem_cons.mpr ⟨⟨(R_14, F_14, 92), rfl, Nat.le_of_ble_eq_true rfl, ⟨"EdgeHouseModel", (m_gi8 237 rfl rfl), Or.inl rfl⟩, fun _ => rfl, m_n0 rfl⟩, (List.forall_mem_cons.mpr ⟨⟨(R_14, F_14, 92), rfl, Nat.le_of_ble_eq_true rfl, ⟨"EdgeHouseModel", (m_gi8 238 rfl rfl), Or.inl rfl⟩, fun _ => rfl, m_n0 rfl⟩, (List.forall_mem_cons.mpr ⟨⟨(R_14, F_14, 92), rfl, Nat.le_of_ble_eq_true rfl, ⟨"EdgeHouseModel", (m_gi8 239 rfl rfl), Or.inl rfl⟩, fun _ => rfl, m_n0 rfl⟩, (List.forall_mem_cons.mpr ⟨⟨(R_14, F_14, 92), rfl, Nat.le_of_ble_eq_true rfl, ⟨"EdgeHouseModel", (m_gi9 0 rfl rfl), Or.inl rfl⟩, fun _ => rfl, m_n0 rfl⟩, (List.forall_mem_cons.mpr ⟨⟨(R_14, F_14, 92), rfl, Nat.le_of_ble_eq_true rfl, ⟨"EdgeHouseModel", (m_gi9 6 rfl rfl), Or.inl rfl⟩, fun _ => rfl, m_n0 rfl⟩, (List.forall_mem_cons.mpr ⟨⟨(R_14, F_14, 92), rfl, Nat.le_of_ble_eq_true rfl, ⟨"EdgeHouseModel", (m_gi9 1 rfl rfl), Or.inl rfl⟩, fun _ => rfl, m_n0 rfl⟩, (List.forall_mem_cons.mpr ⟨⟨(R_14, F_14, 92), rfl, Nat.le_of_ble_eq_true rfl, ⟨"EdgeHouseModel", (m_gi9 7 rfl rfl), Or.inl rfl⟩, fun _ => rfl, m_n0 rfl⟩, (List.forall_mem_cons.mpr ⟨⟨(R_14, F_14, 92), rfl, Nat.le_of_ble_eq_true rfl, ⟨"EdgeHouseModel", (m_gi9 8 rfl rfl), Or.inl rfl⟩, fun _ => rfl, m_n0 rfl⟩, (List.forall_mem_cons.mpr ⟨⟨(R_14, F_14, 92), rfl, Nat.le_of_ble_eq_true rfl, ⟨"EdgeHouseModel", (m_gi9 2 rfl rfl), Or.inl rfl⟩, fun _ => rfl, m_n0 rfl⟩, (List.forall_mem_cons.mpr ⟨⟨(R_14, F_14, 92), rfl, Nat.le_of_ble_eq_true rfl, ⟨"EdgeHouseModel", (m_gi9 3 rfl rfl), Or.inl rfl⟩, fun _ => rfl, m_n0 rfl⟩, (List.forall_mem_cons.mpr ⟨⟨(R_14, F_14, 92), rfl, Nat.le_of_ble_eq_true rfl, ⟨"EdgeHouseModel", (m_gi9 4 rfl rfl), Or.inl rfl⟩, fun _ => rfl, m_n0 rfl⟩, (List.forall_mem_cons.mpr ⟨⟨(R_14, F_14, 92), rfl, Nat.le_of_ble_eq_true rfl, ⟨"EdgeHouseModel", (m_gi9 5 rfl rfl), Or.inl rfl⟩, fun _ => rfl, m_n0 rfl⟩, (List.forall_mem_cons.mpr ⟨⟨(R_14, F_14, 92), rfl, Nat.le_of_ble_eq_true rfl, ⟨"EdgeHouseModel", (m_gi9 9 rfl rfl), Or.inl rfl⟩, fun _ => rfl, m_n0 rfl⟩, (List.forall_mem_cons.mpr ⟨⟨(R_14, F_14, 92), rfl, Nat.le_of_ble_eq_true rfl, ⟨"EdgeHouseModel", (m_gi9 59 rfl rfl), Or.inl rfl⟩, fun _ => rfl, m_n0 rfl⟩, (fun _ h => absurd h List.not_mem_nil)⟩)⟩)⟩)⟩)⟩)⟩)⟩)⟩)⟩)⟩)⟩)⟩)⟩)⟩)⟩)⟩)⟩)⟩)⟩)⟩)⟩)
set_option maxRecDepth 4000 in
theorem vc_269 : ∀ q ∈ M_269.2.2.2.2.2.2.1, m_cOk M_269.1 q := (List.forall_mem_cons.mpr ⟨⟨m_n0 rfl, m_n0 rfl, m_n0 rfl, fun _ => ⟨M_270, rfl, m_n0 rfl, fun _ => ⟨(m_gi10 171 rfl rfl), (m_gi10 173 rfl rfl), (R_14, F_14, 92), rfl, rfl, (m_gp 47 rfl rfl)⟩, m_n0 rfl, m_n0 rfl⟩⟩, (List.forall_mem_cons.mpr ⟨⟨m_n0 rfl, m_n0 rfl, m_n0 rfl, fun _ => ⟨M_272, rfl, m_n0 rfl, fun _ => ⟨(m_gi10 179 rfl rfl), (m_gi10 181 rfl rfl), (R_14, F_14, 92), rfl, rfl, (m_gp 49 rfl rfl)⟩, m_n0 rfl, m_n0 rfl⟩⟩, (List.forall_mem_cons.mpr ⟨⟨m_n0 rfl, m_n0 rfl, m_n0 rfl, fun _ => ⟨M_275, rfl, m_n0 rfl, fun _ => ⟨(m_gi10 195 rfl rfl), (m_gi10 197 rfl rfl), (R_14, F_14, 92), rfl, rfl, (m_gp 51 rfl rfl)⟩, m_n0 rfl, m_n0 rfl⟩⟩, (List.forall_mem_cons.mpr ⟨⟨m_n0 rfl, m_n0 rfl, m_n0 rfl, fun _ => ⟨M_276, rfl, m_n0 rfl, fun _ => ⟨(m_gi10 199 rfl rfl), (m_gi10 201 rfl rfl), (R_14, F_14, 92), rfl, rfl, (m_gp 52 rfl rfl)⟩, m_n0 rfl, m_n0 rfl⟩⟩, (List.forall_mem_cons.mpr ⟨⟨m_n0 rfl, m_n0 rfl, m_n0 rfl, fun _ => ⟨M_244, rfl, m_n0 rfl, fun _ => ⟨(m_gi10 39 rfl rfl), (m_gi10 41 rfl rfl), (R_14, F_14, 92), rfl, rfl, (m_gp 25 rfl rfl)⟩, m_n0 rfl, m_n0 rfl⟩⟩, (List.forall_mem_cons.mpr ⟨⟨m_n0 rfl, m_n0 rfl, m_n0 rfl, fun _ => ⟨M_271, rfl, m_n0 rfl, fun _ => ⟨(m_gi10 175 rfl rfl), (m_gi10 177 rfl rfl), (R_14, F_14, 92), rfl, rfl, (m_gp 48 rfl rfl)⟩, m_n0 rfl, m_n0 rfl⟩⟩, (fun _ h => absurd h List.not_mem_nil)⟩)⟩)⟩)⟩)⟩)⟩)
set_option maxRecDepth 4000 in
theorem vo_269 : ∀ q ∈ M_269.2.2.2.2.2.2.2.1, m_oOk M_269.1 q := (fun _ h => absurd h List.not_mem_nil)
set_option maxRecDepth 4000 in
theorem vk_269 : ∀ q ∈ M_269.2.2.2.2.2.2.2.2, decode M_269.2.1 q.1 = .ok (q.2.1, q.2.2) := by decide +kernel
set_option maxRecDepth 4000 in
theorem v_269 : m_mOk M_269 := ⟨(m_gi10 170 rfl rfl), (m_gi1 12 rfl rfl), by decide +kernel, ⟨by decide +kernel, by decide +kernel⟩, by decide +kernel, vf_269, vc_269, vo_269, vk_269⟩
set_option maxRecDepth 4000 in
theorem vf_270 : ∀ q ∈ M_270.2.2.2.2.2.1, m_fOk M_270.1 q := (List.forall_mem_cons.mpr ⟨⟨(R_14, F_14, 92), rfl, Nat.le_of_ble_eq_true rfl, ⟨"EdgeHouseModel", (m_gi9 62 rfl rfl), Or.inl rfl⟩, m_n0 rfl, m_n0 rfl⟩, (List.forall_mem_cons.mpr ⟨⟨(R_14, F_14, 92), rfl, Nat.le_of_ble_eq_true rfl, ⟨"EdgeHouseModel", (m_gi9 72 rfl rfl), Or.inl rfl⟩, m_n0 rfl, m_n0 rfl⟩, (List.forall_mem_cons.mpr ⟨⟨(R_14, F_14, 92), rfl, Nat.le_of_ble_eq_true rfl, ⟨"EdgeHouseModel", (m_gi9 77 rfl rfl), Or.inl rfl⟩, m_n0 rfl, m_n0 rfl⟩, (List.forall_mem_cons.mpr ⟨⟨(R_14, F_14, 92), rfl, Nat.le_of_ble_eq_true rfl, ⟨"EdgeHouseModel", (m_gi9 25 rfl rfl), Or.inl rfl⟩, fun _ => rfl, m_n0 rfl⟩, (List.forall_mem_cons.mpr ⟨⟨(R_14, F_14, 92), rfl, Nat.le_of_ble_eq_true rfl, ⟨"EdgeHouseModel", (m_gi9 76 rfl rfl), Or.inl rfl⟩, fun _ => rfl, m_n0 rfl⟩, (List.forall_mem_cons.mpr ⟨⟨(R_14, F_14, 92), rfl, Nat.le_of_ble_eq_true rfl, ⟨"EdgeHouseModel", (m_gi9 74 rfl rfl), Or.inl rfl⟩, fun _ => rfl, m_n0 rfl⟩, (List.forall_mem_cons.mpr ⟨⟨(R_14, F_14, 92), rfl, Nat.le_of_ble_eq_true rfl, ⟨"EdgeHouseModel", (m_gi9 60 rfl rfl), Or.inl rfl⟩, fun _ => rfl, m_n0 rfl⟩, (fun _ h => absurd h List.not_mem_nil)⟩)⟩)⟩)⟩)⟩)⟩)⟩)
set_option maxRecDepth 4000 in
theorem vc_270 : ∀ q ∈ M_270.2.2.2.2.2.2.1, m_cOk M_270.1 q := (fun _ h => absurd h List.not_mem_nil)
set_option maxRecDepth 4000 in
theorem vo_270 : ∀ q ∈ M_270.2.2.2.2.2.2.2.1, m_oOk M_270.1 q := (fun _ h => absurd h List.not_mem_nil)
set_option maxRecDepth 4000 in
theorem vk_270 : ∀ q ∈ M_270.2.2.2.2.2.2.2.2, decode M_270.2.1 q.1 = .ok (q.2.1, q.2.2) := by decide +kernel
set_option maxRecDepth 4000 in
theorem v_270 : m_mOk M_270 := ⟨(m_gi10 174 rfl rfl), (m_gi1 12 rfl rfl), by decide +kernel, ⟨by decide +kernel, by decide +kernel⟩, by decide +kernel, vf_270, vc_270, vo_270, vk_270⟩
set_option maxRecDepth 4000 in
theorem vf_271 : ∀ q ∈ M_271.2.2.2.2.2.1, m_fOk M_271.1 q := (List.forall_mem_cons.mpr ⟨⟨(R_14, F_14, 92), rfl, Nat.le_of_ble_eq_true rfl, ⟨"EdgeHouseModel", (m_gi9 10 rfl rfl), Or.inl rfl⟩, m_n0 rfl, m_n0 rfl⟩, (fun _ h => absurd h List.not_mem_nil)⟩)
set_option maxRecDepth 4000 in
theorem vc_271 : ∀ q ∈ M_271.2.2.2.2.2.2.1, m_cOk M_271.1 q := (fun _ h => absurd h List.not_mem_nil)
set_option maxRecDepth 4000 in
theorem vo_271 : ∀ q ∈ M_271.2.2.2.2.2.2.2.1, m_oOk M_271.1 q := (fun _ h => absurd h List.not_mem_nil)
set_option maxRecDepth 4000 in
theorem vk_271 : ∀ q ∈ M_271.2.2.2.2.2.2.2.2, decode M_271.2.1 q.1 = .ok (q.2.1, q.2.2) := by decide +kernel
set_option maxRecDepth 4000 in
theorem v_271 : m_mOk M_271 := ⟨(m_gi10 178 rfl rfl), (m_gi1 12 rfl rfl), by decide +kernel, ⟨by decide +kernel, by decide +kernel⟩, by decide +kernel, vf_271, vc_271, vo_271, vk_271⟩
set_option maxRecDepth 4000 in
theorem vf_272 : ∀ q ∈ M_272.2.2.2.2.2.1, m_fOk M_272.1 q := (List.forall_mem_cons.mpr ⟨⟨(R_14, F_14, 92), rfl, Nat.le_of_ble_eq_true rfl, ⟨"EdgeHouseModel", (m_gi9 29 rfl rfl), Or.inl rfl⟩, m_n0 rfl, m_n0 rfl⟩, (fun _ h => absurd h List.not_mem_nil)⟩)
set_option maxRecDepth 4000 in
theorem vc_272 : ∀ q ∈ M_272.2.2.2.2.2.2.1, m_cOk M_272.1 q := (List.forall_mem_cons.mpr ⟨⟨m_n0 rfl, m_n0 rfl, m_n0 rfl, fun _ => ⟨M_273, rfl, m_n0 rfl, m_n0 rfl, fun _ => ⟨(m_gi10 183 rfl rfl), (m_gi10 184 rfl rfl)⟩, m_n0 rfl⟩⟩, (List.forall_mem_cons.mpr ⟨⟨m_n0 rfl, m_n0 rfl, m_n0 rfl, fun _ => ⟨M_274, rfl, m_n0 rfl, fun _ => ⟨(m_gi10 190 rfl rfl), (m_gi10 192 rfl rfl), (R_14, F_14, 92), rfl, rfl, (m_gp 50 rfl rfl)⟩, m_n0 rfl, m_n0 rfl⟩⟩, (fun _ h => absurd h List.not_mem_nil)⟩)⟩)
set_option maxRecDepth 4000 in
theorem vo_272 : ∀ q ∈ M_272.2.2.2.2.2.2.2.1, m_oOk M_272.1 q := (List.forall_mem_cons.mpr ⟨⟨m_n0 rfl, m_n0 rfl, m_n0 rfl, fun _ => ⟨_, rfl, (m_gi10 189 rfl rfl)⟩, m_n0 rfl, m_n0 rfl, m_n0 rfl, Nat.le_of_ble_eq_true rfl⟩, (List.forall_mem_cons.mpr ⟨⟨m_n0 rfl, m_n0 rfl, m_n0 rfl, fun _ => ⟨_, rfl, (m_gi10 194 rfl rfl)⟩, m_n0 rfl, m_n0 rfl, m_n0 rfl, Nat.le_of_ble_eq_true rfl⟩, (fun _ h => absurd h List.not_mem_nil)⟩)⟩)
set_option maxRecDepth 4000 in
theorem vk_272 : ∀ q ∈ M_272.2.2.2.2.2.2.2.2, decode M_272.2.1 q.1 = .ok (q.2.1, q.2.2) := by decide +kernel
set_option maxRecDepth 4000 in
theorem v_272 : m_mOk M_272 := ⟨(m_gi10 182 rfl rfl), (m_gi1 12 rfl rfl), by decide +kernel, ⟨by decide +kernel, by decide +kernel⟩, by decide +kernel, vf_272, vc_272, vo_272, vk_272⟩
set_option maxRecDepth 4000 in
theorem vf_273 : ∀ q ∈ M_273.2.2.2.2.2.1, m_fOk M_273.1 q := (fun _ h => absurd h List.not_mem_nil)
set_option maxRecDepth 4000 in
theorem vc_273 : ∀ q ∈ M_273.2.2.2.2.2.2.1, m_cOk M_273.1 q := (fun _ h => absurd h List.not_mem_nil)
set_option maxRecDepth 4000 in
theorem vo_273 : ∀ q ∈ M_273.2.2.2.2.2.2.2.1, m_oOk M_273.1 q := (List.forall_mem_cons.mpr ⟨⟨m_n0 rfl, m_n0 rfl, fun _ => ⟨_, rfl, (m_gi10 186 rfl rfl)⟩, m_n0 rfl, m_n0 rfl, m_n0 rfl, m_n0 rfl, Nat.le_of_ble_eq_true rfl⟩, (List.forall_mem_cons.mpr ⟨⟨m_n0 rfl, m_n0 rfl, fun _ => ⟨_, rfl, (m_gi10 187 rfl rfl)⟩, m_n0 rfl, m_n0 rfl, m_n0 rfl, m_n0 rfl, Nat.le_of_ble_eq_true rfl⟩, (List.forall_mem_cons.mpr ⟨⟨m_n0 rfl, m_n0 rfl, fun _ => ⟨_, rfl, (m_gi10 188 rfl rfl)⟩, m_n0 rfl, m_n0 rfl, m_n0 rfl, m_n0 rfl, Nat.le_of_ble_eq_true rfl⟩, (fun _ h => absurd h List.not_mem_nil)⟩)⟩)⟩)
set_option maxRecDepth 4000 in
theorem vk_273 : ∀ q ∈ M_273.2.2.2.2.2.2.2.2, decode M_273.2.1 q.1 = .ok (q.2.1, q.2.2) := by decide +kernel
set_option maxRecDepth 4000 in
theorem v_273 : m_mOk M_273 := ⟨(m_gi10 185 rfl rfl), (m_gi1 12 rfl rfl), by decide +kernel, ⟨by decide +kernel, by decide +kernel⟩, by decide +kernel, vf_273, vc_273, vo_273, vk_273⟩
set_option maxRecDepth 4000 in
theorem vf_274 : ∀ q ∈ M_274.2.2.2.2.2.1, m_fOk M_274.1 q := (List.forall_mem_cons.mpr ⟨⟨(R_14, F_14, 92), rfl, Nat.le_of_ble_eq_true rfl, ⟨"EdgeHouseModel", (m_gi9 58 rfl rfl), Or.inl rfl⟩, m_n0 rfl, m_n0 rfl⟩, (List.forall_mem_cons.mpr ⟨⟨(R_14, F_14, 92), rfl, Nat.le_of_ble_eq_true rfl, ⟨"EdgeHouseModel", (m_gi9 25 rfl rfl), Or.inl rfl⟩, fun _ => rfl, m_n0 rfl⟩, (fun _ h => absurd h List.not_mem_nil)⟩)⟩)
set_option maxRecDepth 4000 in
theorem vc_274 : ∀ q ∈ M_274.2.2.2.2.2.2.1, m_cOk M_274.1 q := (fun _ h => absurd h List.not_mem_nil)
set_option maxRecDepth 4000 in
theorem vo_274 : ∀ q ∈ M_274.2.2.2.2.2.2.2.1, m_oOk M_274.1 q := (fun _ h => absurd h List.not_mem_nil)
set_option maxRecDepth 4000 in
theorem vk_274 : ∀ q ∈ M_274.2.2.2.2.2.2.2.2, decode M_274.2.1 q.1 = .ok (q.2.1, q.2.2) := by decide +kernel
set_option maxRecDepth 4000 in
theorem v_274 : m_mOk M_274 := ⟨(m_gi10 193 rfl rfl), (m_gi1 12 rfl rfl), by decide +kernel, ⟨by decide +kernel, by decide +kernel⟩, by decide +kernel, vf_274, vc_274, vo_274, vk_274⟩
set_option maxRecDepth 4000 in
theorem vf_275 : ∀ q ∈ M_275.2.2.2.2.2.1, m_fOk M_275.1 q := (List.forall_mem_cons.mpr ⟨⟨(R_14, F_14, 92), rfl, Nat.le_of_ble_eq_true rfl, ⟨"EdgeHouseModel", (m_gi9 63 rfl rfl), Or.inl rfl⟩, fun _ => rfl, m_n0 rfl⟩, (fun _ h => absurd h List.not_mem_nil)⟩)
set_option maxRecDepth 4000 in
theorem vc_275 : ∀ q ∈ M_275.2.2.2.2.2.2.1, m_cOk M_275.1 q := (fun _ h => absurd h List.not_mem_nil)
set_option maxRecDepth 4000 in
theorem vo_275 : ∀ q ∈ M_275.2.2.2.2.2.2.2.1, m_oOk M_275.1 q := (fun _ h => absurd h List.not_mem_nil)
set_option maxRecDepth 4000 in
theorem vk_275 : ∀ q ∈ M_275.2.2.2.2.2.2.2.2, decode M_275.2.1 q.1 = .ok (q.2.1, q.2.2) := by decide +kernel
set_option maxRecDepth 4000 in
theorem v_275 : m_mOk M_275 := ⟨(m_gi10 198 rfl rfl), (m_gi1 12 rfl rfl), by decide +kernel, ⟨by decide +kernel, by decide +kernel⟩, by decide +kernel, vf_275, vc_275, vo_275, vk_275⟩
set_option maxRecDepth 4000 in
theorem vf_276 : ∀ q ∈ M_276.2.2.2.2.2.1, m_fOk M_276.1 q := (List.forall_mem_cons.mpr ⟨⟨(R_14, F_14, 92), rfl, Nat.le_of_ble_eq_true rfl, ⟨"EdgeHouseModel", (m_gi9 32 rfl rfl), Or.inl rfl⟩, m_n0 rfl, m_n0 rfl⟩, (List.forall_mem_cons.mpr ⟨⟨(R_14, F_14, 92), rfl, Nat.le_of_ble_eq_true rfl, ⟨"EdgeHouseModel", (m_gi9 33 rfl rfl), Or.inl rfl⟩, m_n0 rfl, m_n0 rfl⟩, (List.forall_mem_cons.mpr ⟨⟨(R_14, F_14, 92), rfl, Nat.le_of_ble_eq_true rfl, ⟨"EdgeHouseModel", (m_gi9 48 rfl rfl), Or.inl rfl⟩, m_n0 rfl, m_n0 rfl⟩, (List.forall_mem_cons.mpr ⟨⟨(R_14, F_14, 92), rfl, Nat.le_of_ble_eq_true rfl, ⟨"EdgeHouseModel", (m_gi9 64 rfl rfl), Or.inl rfl⟩, m_n0 rfl, m_n0 rfl⟩, (fun _ h => absurd h List.not_mem_nil)⟩)⟩)⟩)⟩)
set_option maxRecDepth 4000 in
theorem vc_276 : ∀ q ∈ M_276.2.2.2.2.2.2.1, m_cOk M_276.1 q := (List.forall_mem_cons.mpr ⟨⟨m_n0 rfl, m_n0 rfl, m_n0 rfl, fun _ => ⟨M_282, rfl, m_n0 rfl, fun _ => ⟨(m_gi10 222 rfl rfl), (m_gi10 224 rfl rfl), (R_14, F_14, 92), rfl, rfl, (m_gp 57 rfl rfl)⟩, m_n0 rfl, m_n0 rfl⟩⟩, (List.forall_mem_cons.mpr ⟨⟨m_n0 rfl, m_n0 rfl, m_n0 rfl, fun _ => ⟨M_277, rfl, m_n0 rfl, fun _ => ⟨(m_gi10 203 rfl rfl), (m_gi10 205 rfl rfl), (R_14, F_14, 92), rfl, rfl, (m_gp 53 rfl rfl)⟩, m_n0 rfl, m_n0 rfl⟩⟩, (List.forall_mem_cons.mpr ⟨⟨m_n0 rfl, m_n0 rfl, m_n0 rfl, fun _ => ⟨M_280, rfl, m_n0 rfl, fun _ => ⟨(m_gi10 214 rfl rfl), (m_gi10 216 rfl rfl), (R_14, F_14, 92), rfl, rfl, (m_gp 55 rfl rfl)⟩, m_n0 rfl, m_n0 rfl⟩⟩, (List.forall_mem_cons.mpr ⟨⟨m_n0 rfl, m_n0 rfl, m_n0 rfl, fun _ => ⟨M_281, rfl, m_n0 rfl, fun _ => ⟨(m_gi10 218 rfl rfl), (m_gi10 220 rfl rfl), (R_14, F_14, 92), rfl, rfl, (m_gp 56 rfl rfl)⟩, m_n0 rfl, m_n0 rfl⟩⟩, (List.forall_mem_cons.mpr ⟨⟨m_n0 rfl, m_n0 rfl, m_n0 rfl, fun _ => ⟨M_283, rfl, m_n0 rfl, fun _ => ⟨(m_gi10 226 rfl rfl), (m_gi10 228 rfl rfl), (R_14, F_14, 92), rfl, rfl, (m_gp 58 rfl rfl)⟩, m_n0 rfl, m_n0 rfl⟩⟩, (List.forall_mem_cons.mpr ⟨⟨m_n0 rfl, m_n0 rfl, m_n0 rfl, fun _ => ⟨M_291, rfl, m_n0 rfl, fun _ => ⟨(m_gi11 17 rfl rfl), (m_gi11 19 rfl rfl), (R_14, F_14, 92), rfl, rfl, (m_gp 65 rfl rfl)⟩, m_n0 rfl, m_n0 rfl⟩⟩, (List.forall_mem_cons.mpr ⟨⟨m_n0 rfl, m_n0 rfl, m_n0 rfl, fun _ => ⟨M_294, rfl, m_n0 rfl, fun _ => ⟨(m_gi11 29 rfl rfl), (m_gi11 31 rfl rfl), (R_14, F_14, 92), rfl, rfl, (m_gp 68 rfl rfl)⟩, m_n0 rfl, m_n0 rfl⟩⟩, (List.forall_mem_cons.mpr ⟨⟨m_n0 rfl, m_n0 rfl, m_n0 rfl, fun _ => ⟨M_300, rfl, m_n0 rfl, fun _ => ⟨(m_gi11 54 rfl rfl), (m_gi11 56 rfl rfl), (R_14, F_14, 92), rfl, rfl, (m_gp 74 rfl rfl)⟩, m_n0 rfl, m_n0 rfl⟩⟩, (List.forall_mem_cons.mpr ⟨⟨m_n0 rfl, m_n0 rfl, m_n0 rfl, fun _ => ⟨M_306, rfl, m_n0 rfl, fun _ => ⟨(m_gi11 78 rfl rfl), (m_gi11 80 rfl rfl), (R_14, F_14, 92), rfl, rfl, (m_gp 80 rfl rfl)⟩, m_n0 rfl, m_n0 rfl⟩⟩, (List.forall_mem_cons.mpr ⟨⟨m_n0 rfl, m_n0 rfl, m_n0 rfl, fun _ => ⟨M_307, rfl, m_n0 rfl, fun _ => ⟨(m_gi11 82 rfl rfl), (m_gi11 84 rfl rfl), (R_14, F_14, 92), rfl, rfl, (m_gp 81 rfl rfl)⟩, m_n0 rfl, m_n0 rfl⟩⟩, (List.forall_mem_cons.mpr ⟨⟨m_n0 rfl, m_n0 rfl, m_n0 rfl, fun _ => ⟨M_270, rfl, m_n0 rfl, fun _ => ⟨(m_gi10 171 rfl rfl), (m_gi10 173 rfl rfl), (R_14, F_14, 92), rfl, rfl, (m_gp 47 rfl rfl)⟩, m_n0 rfl, m_n0 rfl⟩⟩, (List.forall_mem_cons.mpr ⟨⟨m_n0 rfl, m_n0 rfl, m_n0 rfl, fun _ => ⟨M_310, rfl, m_n0 rfl, fun _ => ⟨(m_gi11 96 rfl rfl), (m_gi11 98 rfl rfl), (R_14, F_14, 92), rfl, rfl, (m_gp 84 rfl rfl)⟩, m_n0 rfl, m_n0 rfl⟩⟩, (List.forall_mem_cons.mpr ⟨⟨m_n0 rfl, m_n0 rfl, m_n0 rfl, fun _ => ⟨M_311, rfl, m_n0 rfl, fun _ => ⟨(m_gi11 100 rfl rfl), (m_gi11 102 rfl rfl), (R_14, F_14, 92), rfl, rfl, (m_gp 85 rfl rfl)⟩, m_n0 rfl, m_n0 rfl⟩⟩, (fun _ h => absurd h List.not_mem_nil)⟩)⟩)⟩)⟩)⟩)⟩)⟩)⟩)⟩)⟩)⟩)⟩)⟩)
set_option maxRecDepth 4000 in
theorem vo_276 : ∀ q ∈ M_276.2.2.2.2.2.2.2.1, m_oOk M_276.1 q := (fun _ h => absurd h List.not_mem_nil)
set_option maxRecDepth 4000 in
theorem vk_276 : ∀ q ∈ M_276.2.2.2.2.2.2.2.2, decode M_276.2.1 q.1 = .ok (q.2.1, q.2.2) := by decide +kernel
set_option maxRecDepth 4000 in
theorem v_276 : m_mOk M_276 := ⟨(m_gi10 202 rfl rfl), (m_gi1 12 rfl rfl), by decide +kernel, ⟨by decide +kernel, by decide +kernel⟩, by decide +kernel, vf_276, vc_276, vo_276, vk_276⟩
set_option maxRecDepth 4000 in
theorem vf_277 : ∀ q ∈ M_277.2.2.2.2.2.1, m_fOk M_277.1 q := (List.forall_mem_cons.mpr ⟨⟨(R_14, F_14, 92), rfl, Nat.le_of_ble_eq_true rfl, ⟨"EdgeHouseModel", (m_gi9 39 rfl rfl), Or.inl rfl⟩, m_n0 rfl, m_n0 rfl⟩, (fun _ h => absurd h List.not_mem_nil)⟩)
set_option maxRecDepth 4000 in
theorem vc_277 : ∀ q ∈ M_277.2.2.2.2.2.2.1, m_cOk M_277.1 q := (List.forall_mem_cons.mpr ⟨⟨m_n0 rfl, m_n0 rfl, m_n0 rfl, fun _ => ⟨M_278, rfl, m_n0 rfl, fun _ => ⟨(m_gi10 207 rfl rfl), (m_gi10 209 rfl rfl), (R_14, F_14, 92), rfl, rfl, (m_gp 54 rfl rfl)⟩, m_n0 rfl, m_n0 rfl⟩⟩, (List.forall_mem_cons.mpr ⟨⟨m_n0 rfl, m_n0 rfl, m_n0 rfl, fun _ => ⟨M_279, rfl, m_n0 rfl, m_n0 rfl, fun _ => ⟨(m_gi10 211 rfl rfl), (m_gi10 212 rfl rfl)⟩, m_n0 rfl⟩⟩, (fun _ h => absurd h List.not_mem_nil)⟩)⟩)
set_option maxRecDepth 4000 in
theorem vo_277 : ∀ q ∈ M_277.2.2.2.2.2.2.2.1, m_oOk M_277.1 q := (fun _ h => absurd h List.not_mem_nil)
set_option maxRecDepth 4000 in
theorem vk_277 : ∀ q ∈ M_277.2.2.2.2.2.2.2.2, decode M_277.2.1 q.1 = .ok (q.2.1, q.2.2) := by decide +kernel
set_option maxRecDepth 4000 in
theorem v_277 : m_mOk M_277 := ⟨(m_gi10 206 rfl rfl), (m_gi1 12 rfl rfl), by decide +kernel, ⟨by decide +kernel, by decide +kernel⟩, by decide +kernel, vf_277, vc_277, vo_277, vk_277⟩
set_option maxRecDepth 4000 in
theorem vf_278 : ∀ q ∈ M_278.2.2.2.2.2.1, m_fOk M_278.1 q := (List.forall_mem_cons.mpr ⟨⟨(R_14, F_14, 92), rfl, Nat.le_of_ble_eq_true rfl, ⟨"EdgeHouseModel", (m_gi9 41 rfl rfl), Or.inl rfl⟩, m_n0 rfl, m_n0 rfl⟩, (fun _ h => absurd h List.not_mem_nil)⟩)
set_option maxRecDepth 4000 in
theorem vc_278 : ∀ q ∈ M_278.2.2.2.2.2.2.1, m_cOk M_278.1 q := (fun _ h => absurd h List.not_mem_nil)
set_option maxRecDepth 4000 in
theorem vo_278 : ∀ q ∈ M_278.2.2.2.2.2.2.2.1, m_oOk M_278.1 q := (fun _ h => absurd h List.not_mem_nil)
set_option maxRecDepth 4000 in
theorem vk_278 : ∀ q ∈ M_278.2.2.2.2.2.2.2.2, decode M_278.2.1 q.1 = .ok (q.2.1, q.2.2) := by decide +kernel
set_option maxRecDepth 4000 in
theorem v_278 : m_mOk M_278 := ⟨(m_gi10 210 rfl rfl), (m_gi1 12 rfl rfl), by decide +kernel, ⟨by decide +kernel, by decide +kernel⟩, by decide +kernel, vf_278, vc_278, vo_278, vk_278⟩
set_option maxRecDepth 4000 in
theorem vf_279 : ∀ q ∈ M_279.2.2.2.2.2.1, m_fOk M_279.1 q := (fun _ h => absurd h List.not_mem_nil)
set_option maxRecDepth 4000 in
theorem vc_279 : ∀ q ∈ M_279.2.2.2.2.2.2.1, m_cOk M_279.1 q := (fun _ h => absurd h List.not_mem_nil)
set_option maxRecDepth 4000 in
theorem vo_279 : ∀ q ∈ M_279.2.2.2.2.2.2.2.1, m_oOk M_279.1 q := (fun _ h => absurd h List.not_mem_nil)
set_option maxRecDepth 4000 in
theorem vk_279 : ∀ q ∈ M_279.2.2.2.2.2.2.2.2, decode M_279.2.1 q.1 = .ok (q.2.1, q.2.2) := by decide +kernel
set_option maxRecDepth 4000 in
theorem v_279 : m_mOk M_279 := ⟨(m_gi10 213 rfl rfl), (m_gi1 12 rfl rfl), by decide +kernel, ⟨by decide +kernel, by decide +kernel⟩, by decide +kernel, vf_279, vc_279, vo_279, vk_279⟩
set_option maxRecDepth 4000 in
theorem vf_280 : ∀ q ∈ M_280.2.2.2.2.2.1, m_fOk M_280.1 q := (List.forall_mem_cons.mpr ⟨⟨(R_14, F_14, 92), rfl, Nat.le_of_ble_eq_true rfl, ⟨"EdgeHouseModel", (m_gi9 42 rfl rfl), Or.inl rfl⟩, m_n0 rfl, m_n0 rfl⟩, (List.forall_mem_cons.mpr ⟨⟨(R_14, F_14, 92), rfl, Nat.le_of_ble_eq_true rfl, ⟨"EdgeHouseModel", (m_gi9 64 rfl rfl), Or.inl rfl⟩, m_n0 rfl, m_n0 rfl⟩, (fun _ h => absurd h List.not_mem_nil)⟩)⟩)
set_option maxRecDepth 4000 in
theorem vc_280 : ∀ q ∈ M_280.2.2.2.2.2.2.1, m_cOk M_280.1 q := (fun _ h => absurd h List.not_mem_nil)
set_option maxRecDepth 4000 in
theorem vo_280 : ∀ q ∈ M_280.2.2.2.2.2.2.2.1, m_oOk M_280.1 q := (fun _ h => absurd h List.not_mem_nil)
set_option maxRecDepth 4000 in
theorem vk_280 : ∀ q ∈ M_280.2.2.2.2.2.2.2.2, decode M_280.2.1 q.1 = .ok (q.2.1, q.2.2) := by decide +kernel
set_option maxRecDepth 4000 in
theorem v_280 : m_mOk M_280 := ⟨(m_gi10 217 rfl rfl), (m_gi1 12 rfl rfl), by decide +kernel, ⟨by decide +kernel, by decide +kernel⟩, by decide +kernel, vf_280, vc_280, vo_280, vk_280⟩
set_option maxRecDepth 4000 in
theorem vf_281 : ∀ q ∈ M_281.2.2.2.2.2.1, m_fOk M_281.1 q := (List.forall_mem_cons.mpr ⟨⟨(R_14, F_14, 92), rfl, Nat.le_of_ble_eq_true rfl, ⟨"EdgeHouseModel", (m_gi9 64 rfl rfl), Or.inl rfl⟩, m_n0 rfl, m_n0 rfl⟩, (fun _ h => absurd h List.not_mem_nil)⟩)
set_option maxRecDepth 4000 in
theorem vc_281 : ∀ q ∈ M_281.2.2.2.2.2.2.1, m_cOk M_281.1 q := (List.forall_mem_cons.mpr ⟨⟨m_n0 rfl, m_n0 rfl, m_n0 rfl, fun _ => ⟨M_282, rfl, m_n0 rfl, fun _ => ⟨(m_gi10 222 rfl rfl), (m_gi10 224 rfl rfl), (R_14, F_14, 92), rfl, rfl, (m_gp 57 rfl rfl)⟩, m_n0 rfl, m_n0 rfl⟩⟩, (fun _ h => absurd h List.not_mem_nil)⟩)
set_option maxRecDepth 4000 in
theorem vo_281 : ∀ q ∈ M_281.2.2.2.2.2.2.2.1, m_oOk M_281.1 q := (fun _ h => absurd h List.not_mem_nil)
set_option maxRecDepth 4000 in
theorem vk_281 : ∀ q ∈ M_281.2.2.2.2.2.2.2.2, decode M_281.2.1 q.1 = .ok (q.2.1, q.2.2) := by decide +kernel
set_option maxRecDepth 4000 in
theorem v_281 : m_mOk M_281 := ⟨(m_gi10 221 rfl rfl), (m_gi1 12 rfl rfl), by decide +kernel, ⟨by decide +kernel, by decide +kernel⟩, by decide +kernel, vf_281, vc_281, vo_281, vk_281⟩
set_option maxRecDepth 4000 in
theorem vf_282 : ∀ q ∈ M_282.2.2.2.2.2.1, m_fOk M_282.1 q := (List.forall_mem_cons.mpr ⟨⟨(R_14, F_14, 92), rfl, Nat.le_of_ble_eq_true rfl, ⟨"EdgeHouseModel", (m_gi9 61 rfl rfl), Or.inl rfl⟩, m_n0 rfl, m_n0 rfl⟩, (fun _ h => absurd h List.not_mem_nil)⟩)
set_option maxRecDepth 4000 in
theorem vc_282 : ∀ q ∈ M_282.2.2.2.2.2.2.1, m_cOk M_282.1 q := (fun _ h => absurd h List.not_mem_nil)
set_option maxRecDepth 4000 in
theorem vo_282 : ∀ q ∈ M_282.2.2.2.2.2.2.2.1, m_oOk M_282.1 q := (fun _ h => absurd h List.not_mem_nil)
set_option maxRecDepth 4000 in
theorem vk_282 : ∀ q ∈ M_282.2.2.2.2.2.2.2.2, decode M_282.2.1 q.1 = .ok (q.2.1, q.2.2) := by decide +kernel
set_option maxRecDepth 4000 in
theorem v_282 : m_mOk M_282 := ⟨(m_gi10 225 rfl rfl), (m_gi1 12 rfl rfl), by decide +kernel, ⟨by decide +kernel, by decide +kernel⟩, by decide +kernel, vf_282, vc_282, vo_282, vk_282⟩
set_option maxRecDepth 4000 in
theorem vf_283 : ∀ q ∈ M_283.2.2.2.2.2.1, m_fOk M_283.1 q := (List.forall_mem_cons.mpr ⟨⟨(R_14, F_14, 92), rfl, Nat.le_of_ble_eq_true rfl, ⟨"EdgeHouseModel", (m_gi9 45 rfl rfl), Or.inl rfl⟩, m_n0 rfl, m_n0 rfl⟩, (fun _ h => absurd h List.not_mem_nil)⟩)
set_option maxRecDepth 4000 in
theorem vc_283 : ∀ q ∈ M_283.2.2.2.2.2.2.1, m_cOk M_283.1 q := (List.forall_mem_cons.mpr ⟨⟨m_n0 rfl, m_n0 rfl, m_n0 rfl, fun _ => ⟨M_278, rfl, m_n0 rfl, fun _ => ⟨(m_gi10 207 rfl rfl), (m_gi10 209 rfl rfl), (R_14, F_14, 92), rfl, rfl, (m_gp 54 rfl rfl)⟩, m_n0 rfl, m_n0 rfl⟩⟩, (List.forall_mem_cons.mpr ⟨⟨m_n0 rfl, m_n0 rfl, m_n0 rfl, fun _ => ⟨M_284, rfl, m_n0 rfl, fun _ => ⟨(m_gi10 230 rfl rfl), (m_gi10 232 rfl rfl), (R_14, F_14, 92), rfl, rfl, (m_gp 59 rfl rfl)⟩, m_n0 rfl, m_n0 rfl⟩⟩, (List.forall_mem_cons.mpr ⟨⟨m_n0 rfl, m_n0 rfl, m_n0 rfl, fun _ => ⟨M_285, rfl, m_n0 rfl, fun _ => ⟨(m_gi10 234 rfl rfl), (m_gi10 236 rfl rfl), (R_14, F_14, 92), rfl, rfl, (m_gp 60 rfl rfl)⟩, m_n0 rfl, m_n0 rfl⟩⟩, (fun _ h => absurd h List.not_mem_nil)⟩)⟩)⟩)
set_option maxRecDepth 4000 in
theorem vo_283 : ∀ q ∈ M_283.2.2.2.2.2.2.2.1, m_oOk M_283.1 q := (fun _ h => absurd h List.not_mem_nil)
set_option maxRecDepth 4000 in
theorem vk_283 : ∀ q ∈ M_283.2.2.2.2.2.2.2.2, decode M_283.2.1 q.1 = .ok (q.2.1, q.2.2) := by decide +kernel
set_option maxRecDepth 4000 in
theorem v_283 : m_mOk M_283 := ⟨(m_gi10 229 rfl rfl), (m_gi1 12 rfl rfl), by decide +kernel, ⟨by decide +kernel, by decide +kernel⟩, by decide +kernel, vf_283, vc_283, vo_283, vk_283⟩
set_option maxRecDepth 4000 in
theorem vf_284 : ∀ q ∈ M_284.2.2.2.2.2.1, m_fOk M_284.1 q := (fun _ h => absurd h List.not_mem_nil)
set_option maxRecDepth 4000 in
theorem vc_284 : ∀ q ∈ M_284.2.2.2.2.2.2.1, m_cOk M_284.1 q := (List.forall_mem_cons.mpr ⟨⟨m_n0 rfl, m_n0 rfl, m_n0 rfl, fun _ => ⟨M_278, rfl, m_n0 rfl, fun _ => ⟨(m_gi10 207 rfl rfl), (m_gi10 209 rfl rfl), (R_14, F_14, 92), rfl, rfl, (m_gp 54 rfl rfl)⟩, m_n0 rfl, m_n0 rfl⟩⟩, (fun _ h => absurd h List.not_mem_nil)⟩)
set_option maxRecDepth 4000 in
theorem vo_284 : ∀ q ∈ M_284.2.2.2.2.2.2.2.1, m_oOk M_284.1 q := (fun _ h => absurd h List.not_mem_nil)
set_option maxRecDepth 4000 in
theorem vk_284 : ∀ q ∈ M_284.2.2.2.2.2.2.2.2, decode M_284.2.1 q.1 = .ok (q.2.1, q.2.2) := by decide +kernel
set_option maxRecDepth 4000 in
theorem v_284 : m_mOk M_284 := ⟨(m_gi10 233 rfl rfl), (m_gi1 12 rfl rfl), by decide +kernel, ⟨by decide +kernel, by decide +kernel⟩, by decide +kernel, vf_284, vc_284, vo_284, vk_284⟩
set_option maxRecDepth 4000 in
theorem vf_285 : ∀ q ∈ M_285.2.2.2.2.2.1, m_fOk M_285.1 q := (List.forall_mem_cons.mpr ⟨⟨(R_14, F_14, 92), rfl, Nat.le_of_ble_eq_true rfl, ⟨"EdgeHouseModel", (m_gi9 64 rfl rfl), Or.inl rfl⟩, m_n0 rfl, m_n0 rfl⟩, (fun _ h => absurd h List.not_mem_nil)⟩)
set_option maxRecDepth 4000 in
theorem vc_285 : ∀ q ∈ M_285.2.2.2.2.2.2.1, m_cOk M_285.1 q := (List.forall_mem_cons.mpr ⟨⟨m_n0 rfl, m_n0 rfl, m_n0 rfl, fun _ => ⟨M_288, rfl, m_n0 rfl, fun _ => ⟨(m_gi11 5 rfl rfl), (m_gi11 7 rfl rfl), (R_14, F_14, 92), rfl, rfl, (m_gp 62 rfl rfl)⟩, m_n0 rfl, m_n0 rfl⟩⟩, (List.forall_mem_cons.mpr ⟨⟨m_n0 rfl, m_n0 rfl, m_n0 rfl, fun _ => ⟨M_290, rfl, m_n0 rfl, fun _ => ⟨(m_gi11 13 rfl rfl), (m_gi11 15 rfl rfl), (R_14, F_14, 92), rfl, rfl, (m_gp 64 rfl rfl)⟩, m_n0 rfl, m_n0 rfl⟩⟩, (List.forall_mem_cons.mpr ⟨⟨m_n0 rfl, m_n0 rfl, m_n0 rfl, fun _ => ⟨M_286, rfl, m_n0 rfl, m_n0 rfl, fun _ => ⟨(m_gi10 238 rfl rfl), (m_gi10 239 rfl rfl)⟩, m_n0 rfl⟩⟩, (List.forall_mem_cons.mpr ⟨⟨m_n0 rfl, m_n0 rfl, m_n0 rfl, fun _ => ⟨M_287, rfl, m_n0 rfl, fun _ => ⟨(m_gi11 1 rfl rfl), (m_gi11 3 rfl rfl), (R_14, F_14, 92), rfl, rfl, (m_gp 61 rfl rfl)⟩, m_n0 rfl, m_n0 rfl⟩⟩, (fun _ h => absurd h List.not_mem_nil)⟩)⟩)⟩)⟩)
set_option maxRecDepth 4000 in
theorem vo_285 : ∀ q ∈ M_285.2.2.2.2.2.2.2.1, m_oOk M_285.1 q := (fun _ h => absurd h List.not_mem_nil)
set_option maxRecDepth 4000 in
theorem vk_285 : ∀ q ∈ M_285.2.2.2.2.2.2.2.2, decode M_285.2.1 q.1 = .ok (q.2.1, q.2.2) := by decide +kernel
set_option maxRecDepth 4000 in
theorem v_285 : m_mOk M_285 := ⟨(m_gi10 237 rfl rfl), (m_gi1 12 rfl rfl), by decide +kernel, ⟨by decide +kernel, by decide +kernel⟩, by decide +kernel, vf_285, vc_285, vo_285, vk_285⟩
set_option maxRecDepth 4000 in
theorem vf_286 : ∀ q ∈ M_286.2.2.2.2.2.1, m_fOk M_286.1 q := (fun _ h => absurd h List.not_mem_nil)
set_option maxRecDepth 4000 in
theorem vc_286 : ∀ q ∈ M_286.2.2.2.2.2.2.1, m_cOk M_286.1 q := (fun _ h => absurd h List.not_mem_nil)
set_option maxRecDepth 4000 in
theorem vo_286 : ∀ q ∈ M_286.2.2.2.2.2.2.2.1, m_oOk M_286.1 q := (fun _ h => absurd h List.not_mem_nil)
set_option maxRecDepth 4000 in
theorem vk_286 : ∀ q ∈ M_286.2.2.2.2.2.2.2.2, decode M_286.2.1 q.1 = .ok (q.2.1, q.2.2) := by decide +kernel
set_option maxRecDepth 4000 in
theorem v_286 : m_mOk M_286 := ⟨(m_gi11 0 rfl rfl), (m_gi1 12 rfl rfl), by decide +kernel, ⟨by decide +kernel, by decide +kernel⟩, by decide +kernel, vf_286, vc_286, vo_286, vk_286⟩
set_option maxRecDepth 4000 in
theorem vf_287 : ∀ q ∈ M_287.2.2.2.2.2.1, m_fOk M_287.1 q := (fun _ h => absurd h List.not_mem_nil)
set_option maxRecDepth 4000 in
theorem vc_287 : ∀ q ∈ M_287.2.2.2.2.2.2.1, m_cOk M_287.1 q := (List.forall_mem_cons.mpr ⟨⟨m_n0 rfl, m_n0 rfl, m_n0 rfl, fun _ => ⟨M_288, rfl, m_n0 rfl, fun _ => ⟨(m_gi11 5 rfl rfl), (m_gi11 7 rfl rfl), (R_14, F_14, 92), rfl, rfl, (m_gp 62 rfl rfl)⟩, m_n0 rfl, m_n0 rfl⟩⟩, (List.forall_mem_cons.mpr ⟨⟨m_n0 rfl, m_n0 rfl, m_n0 rfl, fun _ => ⟨M_290, rfl, m_n0 rfl, fun _ => ⟨(m_gi11 13 rfl rfl), (m_gi11 15 rfl rfl), (R_14, F_14, 92), rfl, rfl, (m_gp 64 rfl rfl)⟩, m_n0 rfl, m_n0 rfl⟩⟩, (fun _ h => absurd h List.not_mem_nil)⟩)⟩)
set_option maxRecDepth 4000 in
theorem vo_287 : ∀ q ∈ M_287.2.2.2.2.2.2.2.1, m_oOk M_287.1 q := (fun _ h => absurd h List.not_mem_nil)
set_option maxRecDepth 4000 in
theorem vk_287 : ∀ q ∈ M_287.2.2.2.2.2.2.2.2, decode M_287.2.1 q.1 = .ok (q.2.1, q.2.2) := by decide +kernel
set_option maxRecDepth 4000 in
theorem v_287 : m_mOk M_287 := ⟨(m_gi11 4 rfl rfl), (m_gi1 12 rfl rfl), by decide +kernel, ⟨by decide +kernel, by decide +kernel⟩, by decide +kernel, vf_287, vc_287, vo_287, vk_287⟩
set_option maxRecDepth 4000 in
theorem vf_288 : ∀ q ∈ M_288.2.2.2.2.2.1, m_fOk M_288.1 q := (fun _ h => absurd h List.not_mem_nil)
set_option maxRecDepth 4000 in
theorem vc_288 : ∀ q ∈ M_288.2.2.2.2.2.2.1, m_cOk M_288.1 q := (List.forall_mem_cons.mpr ⟨⟨m_n0 rfl, m_n0 rfl, m_n0 rfl, fun _ => ⟨M_282, rfl, m_n0 rfl, fun _ => ⟨(m_gi10 222 rfl rfl), (m_gi10 224 rfl rfl), (R_14, F_14, 92), rfl, rfl, (m_gp 57 rfl rfl)⟩, m_n0 rfl, m_n0 rfl⟩⟩, (List.forall_mem_cons.mpr ⟨⟨m_n0 rfl, m_n0 rfl, m_n0 rfl, fun _ => ⟨M_289, rfl, m_n0 rfl, fun _ => ⟨(m_gi11 9 rfl rfl), (m_gi11 11 rfl rfl), (R_14, F_14, 92), rfl, rfl, (m_gp 63 rfl rfl)⟩, m_n0 rfl, m_n0 rfl⟩⟩, (fun _ h => absurd h List.not_mem_nil)⟩)⟩)
set_option maxRecDepth 4000 in
theorem vo_288 : ∀ q ∈ M_288.2.2.2.2.2.2.2.1, m_oOk M_288.1 q := (fun _ h => absurd h List.not_mem_nil)
set_option maxRecDepth 4000 in
theorem vk_288 : ∀ q ∈ M_288.2.2.2.2.2.2.2.2, decode M_288.2.1 q.1 = .ok (q.2.1, q.2.2) := by decide +kernel
set_option maxRecDepth 4000 in
theorem v_288 : m_mOk M_288 := ⟨(m_gi11 8 rfl rfl), (m_gi1 12 rfl rfl), by decide +kernel, ⟨by decide +kernel, by decide +kernel⟩, by decide +kernel, vf_288, vc_288, vo_288, vk_288⟩
set_option maxRecDepth 4000 in
theorem vf_289 : ∀ q ∈ M_289.2.2.2.2.2.1, m_fOk M_289.1 q := (fun _ h => absurd h List.not_mem_nil)
set_option maxRecDepth 4000 in
theorem vc_289 : ∀ q ∈ M_289.2.2.2.2.2.2.1, m_cOk M_289.1 q := (List.forall_mem_cons.mpr ⟨⟨m_n0 rfl, m_n0 rfl, m_n0 rfl, fun _ => ⟨M_282, rfl, m_n0 rfl, fun _ => ⟨(m_gi10 222 rfl rfl), (m_gi10 224 rfl rfl), (R_14, F_14, 92), rfl, rfl, (m_gp 57 rfl rfl)⟩, m_n0 rfl, m_n0 rfl⟩⟩, (fun _ h => absurd h List.not_mem_nil)⟩)
set_option maxRecDepth 4000 in
theorem vo_289 : ∀ q ∈ M_289.2.2.2.2.2.2.2.1, m_oOk M_289.1 q := (fun _ h => absurd h List.not_mem_nil)
set_option maxRecDepth 4000 in
theorem vk_289 : ∀ q ∈ M_289.2.2.2.2.2.2.2.2, decode M_289.2.1 q.1 = .ok (q.2.1, q.2.2) := by decide +kernel
set_option maxRecDepth 4000 in
theorem v_289 : m_mOk M_289 := ⟨(m_gi11 12 rfl rfl), (m_gi1 12 rfl rfl), by decide +kernel, ⟨by decide +kernel, by decide +kernel⟩, by decide +kernel, vf_289, vc_289, vo_289, vk_289⟩
set_option maxRecDepth 4000 in
theorem vf_290 : ∀ q ∈ M_290.2.2.2.2.2.1, m_fOk M_290.1 q := (fun _ h => absurd h List.not_mem_nil)
set_option maxRecDepth 4000 in
theorem vc_290 : ∀ q ∈ M_290.2.2.2.2.2.2.1, m_cOk M_290.1 q := (List.forall_mem_cons.mpr ⟨⟨m_n0 rfl, m_n0 rfl, m_n0 rfl, fun _ => ⟨M_282, rfl, m_n0 rfl, fun _ => ⟨(m_gi10 222 rfl rfl), (m_gi10 224 rfl rfl), (R_14, F_14, 92), rfl, rfl, (m_gp 57 rfl rfl)⟩, m_n0 rfl, m_n0 rfl⟩⟩, (List.forall_mem_cons.mpr ⟨⟨m_n0 rfl, m_n0 rfl, m_n0 rfl, fun _ => ⟨M_289, rfl, m_n0 rfl, fun _ => ⟨(m_gi11 9 rfl rfl), (m_gi11 11 rfl rfl), (R_14, F_14, 92), rfl, rfl, (m_gp 63 rfl rfl)⟩, m_n0 rfl, m_n0 rfl⟩⟩, (fun _ h => absurd h List.not_mem_nil)⟩)⟩)
set_option maxRecDepth 4000 in
theorem vo_290 : ∀ q ∈ M_290.2.2.2.2.2.2.2.1, m_oOk M_290.1 q := (fun _ h => absurd h List.not_mem_nil)
set_option maxRecDepth 4000 in
theorem vk_290 : ∀ q ∈ M_290.2.2.2.2.2.2.2.2, decode M_290.2.1 q.1 = .ok (q.2.1, q.2.2) := by decide +kernel
set_option maxRecDepth 4000 in
theorem v_290 : m_mOk M_290 := ⟨(m_gi11 16 rfl rfl), (m_gi1 12 rfl rfl), by decide +kernel, ⟨by decide +kernel, by decide +kernel⟩, by decide +kernel, vf_290, vc_290, vo_290, vk_290⟩
set_option maxRecDepth 4000 in
theorem vf_291 : ∀ q ∈ M_291.2.2.2.2.2.1, m_fOk M_291.1 q := (List.forall_mem_cons.mpr ⟨⟨(R_14, F_14, 92), rfl, Nat.le_of_ble_eq_true rfl, ⟨"EdgeHouseModel", (m_gi9 64 rfl rfl), Or.inl rfl⟩, m_n0 rfl, m_n0 rfl⟩, (fun _ h => absurd h List.not_mem_nil)⟩)
set_option maxRecDepth 4000 in
theorem vc_291 : ∀ q ∈ M_291.2.2.2.2.2.2.1, m_cOk M_291.1 q := (List.forall_mem_cons.mpr ⟨⟨m_n0 rfl, m_n0 rfl, m_n0 rfl, fun _ => ⟨M_282, rfl, m_n0 rfl, fun _ => ⟨(m_gi10 222 rfl rfl), (m_gi10 224 rfl rfl), (R_14, F_14, 92), rfl, rfl, (m_gp 57 rfl rfl)⟩, m_n0 rfl, m_n0 rfl⟩⟩, (List.forall_mem_cons.mpr ⟨⟨m_n0 rfl, m_n0 rfl, m_n0 rfl, fun _ => ⟨M_292, rfl, m_n0 rfl, fun _ => ⟨(m_gi11 21 rfl rfl), (m_gi11 23 rfl rfl), (R_14, F_14, 92), rfl, rfl, (m_gp 66 rfl rfl)⟩, m_n0 rfl, m_n0 rfl⟩⟩, (List.forall_mem_cons.mpr ⟨⟨m_n0 rfl, m_n0 rfl, m_n0 rfl, fun _ => ⟨M_293, rfl, m_n0 rfl, fun _ => ⟨(m_gi11 25 rfl rfl), (m_gi11 27 rfl rfl), (R_14, F_14, 92), rfl, rfl, (m_gp 67 rfl rfl)⟩, m_n0 rfl, m_n0 rfl⟩⟩, (fun _ h => absurd h List.not_mem_nil)⟩)⟩)⟩)
set_option maxRecDepth 4000 in
theorem vo_291 : ∀ q ∈ M_291.2.2.2.2.2.2.2.1, m_oOk M_291.1 q := (fun _ h => absurd h List.not_mem_nil)
set_option maxRecDepth 4000 in
theorem vk_291 : ∀ q ∈ M_291.2.2.2.2.2.2.2.2, decode M_291.2.1 q.1 = .ok (q.2.1, q.2.2) := by decide +kernel
set_option maxRecDepth 4000 in
theorem v_291 : m_mOk M_291 := ⟨(m_gi11 20 rfl rfl), (m_gi1 12 rfl rfl), by decide +kernel, ⟨by decide +kernel, by decide +kernel⟩, by decide +kernel, vf_291, vc_291, vo_291, vk_291⟩
set_option maxRecDepth 4000 in
theorem vf_292 : ∀ q ∈ M_292.2.2.2.2.2.1, m_fOk M_292.1 q := (List.forall_mem_cons.mpr ⟨⟨(R_14, F_14, 92), rfl, Nat.le_of_ble_eq_true rfl, ⟨"EdgeHouseModel", (m_gi9 43 rfl rfl), Or.inl rfl⟩, m_n0 rfl, m_n0 rfl⟩, (List.forall_mem_cons.mpr ⟨⟨(R_14, F_14, 92), rfl, Nat.le_of_ble_eq_true rfl, ⟨"EdgeHouseModel", (m_gi9 44 rfl rfl), Or.inl rfl⟩, m_n0 rfl, m_n0 rfl⟩, (List.forall_mem_cons.mpr ⟨⟨(R_14, F_14, 92), rfl, Nat.le_of_ble_eq_true rfl, ⟨"EdgeHouseModel", (m_gi9 25 rfl rfl), Or.inl rfl⟩, fun _ => rfl, m_n0 rfl⟩, (fun _ h => absurd h List.not_mem_nil)⟩)⟩)⟩)
set_option maxRecDepth 4000 in
theorem vc_292 : ∀ q ∈ M_292.2.2.2.2.2.2.1, m_cOk M_292.1 q := (fun _ h => absurd h List.not_mem_nil)
set_option maxRecDepth 4000 in
theorem vo_292 : ∀ q ∈ M_292.2.2.2.2.2.2.2.1, m_oOk M_292.1 q := (fun _ h => absurd h List.not_mem_nil)
set_option maxRecDepth 4000 in
theorem vk_292 : ∀ q ∈ M_292.2.2.2.2.2.2.2.2, decode M_292.2.1 q.1 = .ok (q.2.1, q.2.2) := by decide +kernel
set_option maxRecDepth 4000 in
theorem v_292 : m_mOk M_292 := ⟨(m_gi11 24 rfl rfl), (m_gi1 12 rfl rfl), by decide +kernel, ⟨by decide +kernel, by decide +kernel⟩, by decide +kernel, vf_292, vc_292, vo_292, vk_292⟩
set_option maxRecDepth 4000 in
theorem vf_293 : ∀ q ∈ M_293.2.2.2.2.2.1, m_fOk M_293.1 q := (fun _ h => absurd h List.not_mem_nil)
set_option maxRecDepth 4000 in
theorem vc_293 : ∀ q ∈ M_293.2.2.2.2.2.2.1, m_cOk M_293.1 q := (List.forall_mem_cons.mpr ⟨⟨m_n0 rfl, m_n0 rfl, m_n0 rfl, fun _ => ⟨M_278, rfl, m_n0 rfl, fun _ => ⟨(m_gi10 207 rfl rfl), (m_gi10 209 rfl rfl), (R_14, F_14, 92), rfl, rfl, (m_gp 54 rfl rfl)⟩, m_n0 rfl, m_n0 rfl⟩⟩, (fun _ h => absurd h List.not_mem_nil)⟩)
set_option maxRecDepth 4000 in
theorem vo_293 : ∀ q ∈ M_293.2.2.2.2.2.2.2.1, m_oOk M_293.1 q := (fun _ h => absurd h List.not_mem_nil)
set_option maxRecDepth 4000 in
theorem vk_293 : ∀ q ∈ M_293.2.2.2.2.2.2.2.2, decode M_293.2.1 q.1 = .ok (q.2.1, q.2.2) := by decide +kernel
set_option maxRecDepth 4000 in
theorem v_293 : m_mOk M_293 := ⟨(m_gi11 28 rfl rfl), (m_gi1 12 rfl rfl), by decide +kernel, ⟨by decide +kernel, by decide +kernel⟩, by decide +kernel, vf_293, vc_293, vo_293, vk_293⟩
set_option maxRecDepth 4000 in
theorem vf_294 : ∀ q ∈ M_294.2.2.2.2.2.1, m_fOk M_294.1 q := (List.forall_mem_cons.mpr ⟨⟨(R_14, F_14, 92), rfl, Nat.le_of_ble_eq_true rfl, ⟨"EdgeHouseModel", (m_gi9 40 rfl rfl), Or.inl rfl⟩, m_n0 rfl, m_n0 rfl⟩, (fun _ h => absurd h List.not_mem_nil)⟩)
set_option maxRecDepth 4000 in
theorem vc_294 : ∀ q ∈ M_294.2.2.2.2.2.2.1, m_cOk M_294.1 q := (List.forall_mem_cons.mpr ⟨⟨m_n0 rfl, m_n0 rfl, m_n0 rfl, fun _ => ⟨M_295, rfl, m_n0 rfl, fun _ => ⟨(m_gi11 33 rfl rfl), (m_gi11 35 rfl rfl), (R_14, F_14, 92), rfl, rfl, (m_gp 69 rfl rfl)⟩, m_n0 rfl, m_n0 rfl⟩⟩, (List.forall_mem_cons.mpr ⟨⟨m_n0 rfl, m_n0 rfl, m_n0 rfl, fun _ => ⟨M_296, rfl, m_n0 rfl, fun _ => ⟨(m_gi11 37 rfl rfl), (m_gi11 39 rfl rfl), (R_14, F_14, 92), rfl, rfl, (m_gp 70 rfl rfl)⟩, m_n0 rfl, m_n0 rfl⟩⟩, (fun _ h => absurd h List.not_mem_nil)⟩)⟩)
set_option maxRecDepth 4000 in
theorem vo_294 : ∀ q ∈ M_294.2.2.2.2.2.2.2.1, m_oOk M_294.1 q := (fun _ h => absurd h List.not_mem_nil)
set_option maxRecDepth 4000 in
theorem vk_294 : ∀ q ∈ M_294.2.2.2.2.2.2.2.2, decode M_294.2.1 q.1 = .ok (q.2.1, q.2.2) := by decide +kernel
set_option maxRecDepth 4000 in
theorem v_294 : m_mOk M_294 := ⟨(m_gi11 32 rfl rfl), (m_gi1 12 rfl rfl), by decide +kernel, ⟨by decide +kernel, by decide +kernel⟩, by decide +kernel, vf_294, vc_294, vo_294, vk_294⟩
set_option maxRecDepth 4000 in
theorem vf_295 : ∀ q ∈ M_295.2.2.2.2.2.1, m_fOk M_295.1 q := (List.forall_mem_cons.mpr ⟨⟨(R_14, F_14, 92), rfl, Nat.le_of_ble_eq_true rfl, ⟨"EdgeHouseModel", (m_gi9 46 rfl rfl), Or.inl rfl⟩, m_n0 rfl, m_n0 rfl⟩, (List.forall_mem_cons.mpr ⟨⟨(R_14, F_14, 92), rfl, Nat.le_of_ble_eq_true rfl, ⟨"EdgeHouseModel", (m_gi9 47 rfl rfl), Or.inl rfl⟩, fun _ => rfl, m_n0 rfl⟩, (fun _ h => absurd h List.not_mem_nil)⟩)⟩)
set_option maxRecDepth 4000 in
theorem vc_295 : ∀ q ∈ M_295.2.2.2.2.2.2.1, m_cOk M_295.1 q := (fun _ h => absurd h List.not_mem_nil)
set_option maxRecDepth 4000 in
theorem vo_295 : ∀ q ∈ M_295.2.2.2.2.2.2.2.1, m_oOk M_295.1 q := (fun _ h => absurd h List.not_mem_nil)
set_option maxRecDepth 4000 in
theorem vk_295 : ∀ q ∈ M_295.2.2.2.2.2.2.2.2, decode M_295.2.1 q.1 = .ok (q.2.1, q.2.2) := by decide +kernel
set_option maxRecDepth 4000 in
theorem v_295 : m_mOk M_295 := ⟨(m_gi11 36 rfl rfl), (m_gi1 12 rfl rfl), by decide +kernel, ⟨by decide +kernel, by decide +kernel⟩, by decide +kernel, vf_295, vc_295, vo_295, vk_295⟩
set_option maxRecDepth 4000 in
theorem vf_296 : ∀ q ∈ M_296.2.2.2.2.2.1, m_fOk M_296.1 q := (List.forall_mem_cons.mpr ⟨⟨(R_14, F_14, 92), rfl, Nat.le_of_ble_eq_true rfl, ⟨"EdgeHouseModel", (m_gi9 30 rfl rfl), Or.inl rfl⟩, m_n0 rfl, m_n0 rfl⟩, (List.forall_mem_cons.mpr ⟨⟨(R_14, F_14, 92), rfl, Nat.le_of_ble_eq_true rfl, ⟨"EdgeHouseModel", (m_gi9 39 rfl rfl), Or.inl rfl⟩, m_n0 rfl, m_n0 rfl⟩, (List.forall_mem_cons.mpr ⟨⟨(R_14, F_14, 92), rfl, Nat.le_of_ble_eq_true rfl, ⟨"EdgeHouseModel", (m_gi9 40 rfl rfl), Or.inl rfl⟩, m_n0 rfl, m_n0 rfl⟩, (fun _ h => absurd h List.not_mem_nil)⟩)⟩)⟩)
set_option maxRecDepth 4000 in
theorem vc_296 : ∀ q ∈ M_296.2.2.2.2.2.2.1, m_cOk M_296.1 q := (List.forall_mem_cons.mpr ⟨⟨m_n0 rfl, m_n0 rfl, m_n0 rfl, fun _ => ⟨M_297, rfl, m_n0 rfl, fun _ => ⟨(m_gi11 41 rfl rfl), (m_gi11 43 rfl rfl), (R_14, F_14, 92), rfl, rfl, (m_gp 71 rfl rfl)⟩, m_n0 rfl, m_n0 rfl⟩⟩, (List.forall_mem_cons.mpr ⟨⟨m_n0 rfl, m_n0 rfl, m_n0 rfl, fun _ => ⟨M_299, rfl, m_n0 rfl, fun _ => ⟨(m_gi11 50 rfl rfl), (m_gi11 52 rfl rfl), (R_14, F_14, 92), rfl, rfl, (m_gp 73 rfl rfl)⟩, m_n0 rfl, m_n0 rfl⟩⟩, (List.forall_mem_cons.mpr ⟨⟨m_n0 rfl, m_n0 rfl, m_n0 rfl, fun _ => ⟨M_295, rfl, m_n0 rfl, fun _ => ⟨(m_gi11 33 rfl rfl), (m_gi11 35 rfl rfl), (R_14, F_14, 92), rfl, rfl, (m_gp 69 rfl rfl)⟩, m_n0 rfl, m_n0 rfl⟩⟩, (fun _ h => absurd h List.not_mem_nil)⟩)⟩)⟩)
set_option maxRecDepth 4000 in
theorem vo_296 : ∀ q ∈ M_296.2.2.2.2.2.2.2.1, m_oOk M_296.1 q := (fun _ h => absurd h List.not_mem_nil)
set_option maxRecDepth 4000 in
theorem vk_296 : ∀ q ∈ M_296.2.2.2.2.2.2.2.2, decode M_296.2.1 q.1 = .ok (q.2.1, q.2.2) := by decide +kernel
set_option maxRecDepth 4000 in
theorem v_296 : m_mOk M_296 := ⟨(m_gi11 40 rfl rfl), (m_gi1 12 rfl rfl), by decide +kernel, ⟨by decide +kernel, by decide +kernel⟩, by decide +kernel, vf_296, vc_296, vo_296, vk_296⟩
set_option maxRecDepth 4000 in
theorem vf_297 : ∀ q ∈ M_297.2.2.2.2.2.1, m_fOk M_297.1 q := (List.forall_mem_cons.mpr ⟨⟨(R_14, F_14, 92), rfl, Nat.le_of_ble_eq_true rfl, ⟨"EdgeHouseModel", (m_gi9 39 rfl rfl), Or.inl rfl⟩, m_n0 rfl, m_n0 rfl⟩, (List.forall_mem_cons.mpr ⟨⟨(R_14, F_14, 92), rfl, Nat.le_of_ble_eq_true rfl, ⟨"EdgeHouseModel", (m_gi9 40 rfl rfl), Or.inl rfl⟩, m_n0 rfl, m_n0 rfl⟩, (fun _ h => absurd h List.not_mem_nil)⟩)⟩)
set_option maxRecDepth 4000 in
theorem vc_297 : ∀ q ∈ M_297.2.2.2.2.2.2.1, m_cOk M_297.1 q := (List.forall_mem_cons.mpr ⟨⟨m_n0 rfl, m_n0 rfl, m_n0 rfl, fun _ => ⟨M_298, rfl, m_n0 rfl, fun _ => ⟨(m_gi11 45 rfl rfl), (m_gi11 47 rfl rfl), (R_14, F_14, 92), rfl, rfl, (m_gp 72 rfl rfl)⟩, m_n0 rfl, m_n0 rfl⟩⟩, (fun _ h => absurd h List.not_mem_nil)⟩)
set_option maxRecDepth 4000 in
theorem vo_297 : ∀ q ∈ M_297.2.2.2.2.2.2.2.1, m_oOk M_297.1 q := (fun _ h => absurd h List.not_mem_nil)
set_option maxRecDepth 4000 in
theorem vk_297 : ∀ q ∈ M_297.2.2.2.2.2.2.2.2, decode M_297.2.1 q.1 = .ok (q.2.1, q.2.2) := by decide +kernel
set_option maxRecDepth 4000 in
theorem v_297 : m_mOk M_297 := ⟨(m_gi11 44 rfl rfl), (m_gi1 12 rfl rfl), by decide +kernel, ⟨by decide +kernel, by decide +kernel⟩, by decide +kernel, vf_297, vc_297, vo_297, vk_297⟩
set_option maxRecDepth 4000 in
theorem vf_298 : ∀ q ∈ M_298.2.2.2.2.2.1, m_fOk M_298.1 q := (List.forall_mem_cons.mpr ⟨⟨(R_14, F_14, 92), rfl, Nat.le_of_ble_eq_true rfl, ⟨"EdgeHouseModel", (m_gi9 45 rfl rfl), Or.inl rfl⟩, m_n0 rfl, m_n0 rfl⟩, (fun _ h => absurd h List.not_mem_nil)⟩)
set_option maxRecDepth 4000 in
theorem vc_298 : ∀ q ∈ M_298.2.2.2.2.2.2.1, m_cOk M_298.1 q := (List.forall_mem_cons.mpr ⟨⟨m_n0 rfl, m_n0 rfl, m_n0 rfl, fun _ => ⟨M_100, rfl, m_n0 rfl, m_n0 rfl, fun _ => ⟨(m_gi11 49 rfl rfl), (m_gi4 177 rfl rfl)⟩, m_n0 rfl⟩⟩, (fun _ h => absurd h List.not_mem_nil)⟩)
set_option maxRecDepth 4000 in
theorem vo_298 : ∀ q ∈ M_298.2.2.2.2.2.2.2.1, m_oOk M_298.1 q := (fun _ h => absurd h List.not_mem_nil)
set_option maxRecDepth 4000 in
theorem vk_298 : ∀ q ∈ M_298.2.2.2.2.2.2.2.2, decode M_298.2.1 q.1 = .ok (q.2.1, q.2.2) := by decide +kernel
set_option maxRecDepth 4000 in
theorem v_298 : m_mOk M_298 := ⟨(m_gi11 48 rfl rfl), (m_gi1 12 rfl rfl), by decide +kernel, ⟨by decide +kernel, by decide +kernel⟩, by decide +kernel, vf_298, vc_298, vo_298, vk_298⟩
set_option maxRecDepth 4000 in
theorem vf_299 : ∀ q ∈ M_299.2.2.2.2.2.1, m_fOk M_299.1 q := (List.forall_mem_cons.mpr ⟨⟨(R_14, F_14, 92), rfl, Nat.le_of_ble_eq_true rfl, ⟨"EdgeHouseModel", (m_gi9 39 rfl rfl), Or.inl rfl⟩, m_n0 rfl, m_n0 rfl⟩, (List.forall_mem_cons.mpr ⟨⟨(R_14, F_14, 92), rfl, Nat.le_of_ble_eq_true rfl, ⟨"EdgeHouseModel", (m_gi9 40 rfl rfl), Or.inl rfl⟩, m_n0 rfl, m_n0 rfl⟩, (List.forall_mem_cons.mpr ⟨⟨(R_14, F_14, 92), rfl, Nat.le_of_ble_eq_true rfl, ⟨"EdgeHouseModel", (m_gi9 46 rfl rfl), Or.inl rfl⟩, m_n0 rfl, m_n0 rfl⟩, (fun _ h => absurd h List.not_mem_nil)⟩)⟩)⟩)
set_option maxRecDepth 4000 in
theorem vc_299 : ∀ q ∈ M_299.2.2.2.2.2.2.1, m_cOk M_299.1 q := (fun _ h => absurd h List.not_mem_nil)
set_option maxRecDepth 4000 in
theorem vo_299 : ∀ q ∈ M_299.2.2.2.2.2.2.2.1, m_oOk M_299.1 q := (fun _ h => absurd h List.not_mem_nil)
set_option maxRecDepth 4000 in
theorem vk_299 : ∀ q ∈ M_299.2.2.2.2.2.2.2.2, decode M_299.2.1 q.1 = .ok (q.2.1, q.2.2) := by decide +kernel
set_option maxRecDepth 4000 in
theorem v_299 : m_mOk M_299 := ⟨(m_gi11 53 rfl rfl), (m_gi1 12 rfl rfl), by decide +kernel, ⟨by decide +kernel, by decide +kernel⟩, by decide +kernel, vf_299, vc_299, vo_299, vk_299⟩
