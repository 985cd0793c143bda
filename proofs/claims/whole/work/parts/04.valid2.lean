set_option maxRecDepth 4000 in
theorem vf_60 : ∀ q ∈ M_60.2.2.2.2.2.1, m_fOk M_60.1 q := (List.forall_mem_cons.mpr ⟨⟨(R_1, F_1, 16), rfl, Nat.le_of_ble_eq_true rfl, ⟨"EdgeHouse$Reader", (m_gi1 51 rfl rfl), Or.inl rfl⟩, fun _ => rfl, m_n0 rfl⟩, (fun _ h => absurd h List.not_mem_nil)⟩)
set_option maxRecDepth 4000 in
theorem vc_60 : ∀ q ∈ M_60.2.2.2.2.2.2.1, m_cOk M_60.1 q := (fun _ h => absurd h List.not_mem_nil)
set_option maxRecDepth 4000 in
theorem vo_60 : ∀ q ∈ M_60.2.2.2.2.2.2.2.1, m_oOk M_60.1 q := (fun _ h => absurd h List.not_mem_nil)
set_option maxRecDepth 4000 in
theorem vk_60 : ∀ q ∈ M_60.2.2.2.2.2.2.2.2, decode M_60.2.1 q.1 = .ok (q.2.1, q.2.2) := by decide +kernel
set_option maxRecDepth 4000 in
theorem v_60 : m_mOk M_60 := ⟨(m_gi3 164 rfl rfl), (m_gi1 2 rfl rfl), by decide +kernel, ⟨by decide +kernel, by decide +kernel⟩, by decide +kernel, vf_60, vc_60, vo_60, vk_60⟩
set_option maxRecDepth 4000 in
theorem vf_61 : ∀ q ∈ M_61.2.2.2.2.2.1, m_fOk M_61.1 q := (List.forall_mem_cons.mpr ⟨⟨(R_8, F_8, 14), rfl, Nat.le_of_ble_eq_true rfl, ⟨"EdgeHouse$Reply", (m_gi3 190 rfl rfl), Or.inl rfl⟩, fun _ => rfl, m_n0 rfl⟩, (fun _ h => absurd h List.not_mem_nil)⟩)
set_option maxRecDepth 4000 in
theorem vc_61 : ∀ q ∈ M_61.2.2.2.2.2.2.1, m_cOk M_61.1 q := (List.forall_mem_cons.mpr ⟨⟨fun _ => (m_gi3 170 rfl rfl), m_n0 rfl, m_n0 rfl, m_n1 rfl⟩, (fun _ h => absurd h List.not_mem_nil)⟩)
set_option maxRecDepth 4000 in
theorem vo_61 : ∀ q ∈ M_61.2.2.2.2.2.2.2.1, m_oOk M_61.1 q := (List.forall_mem_cons.mpr ⟨⟨m_n0 rfl, m_n0 rfl, m_n0 rfl, m_n0 rfl, m_n0 rfl, fun _ => ⟨_, List.mem_of_getElem? (i := 30) rfl⟩, m_n0 rfl, Nat.le_of_ble_eq_true rfl⟩, (fun _ h => absurd h List.not_mem_nil)⟩)
set_option maxRecDepth 4000 in
theorem vk_61 : ∀ q ∈ M_61.2.2.2.2.2.2.2.2, decode M_61.2.1 q.1 = .ok (q.2.1, q.2.2) := by decide +kernel
set_option maxRecDepth 4000 in
theorem v_61 : m_mOk M_61 := ⟨(m_gi3 169 rfl rfl), (m_gi1 23 rfl rfl), by decide +kernel, ⟨by decide +kernel, by decide +kernel⟩, by decide +kernel, vf_61, vc_61, vo_61, vk_61⟩
set_option maxRecDepth 4000 in
theorem vf_62 : ∀ q ∈ M_62.2.2.2.2.2.1, m_fOk M_62.1 q := (List.forall_mem_cons.mpr ⟨⟨(R_2, F_2, 3), rfl, Nat.le_of_ble_eq_true rfl, ⟨"java/util/ArrayList", (m_gi1 120 rfl rfl), Or.inl rfl⟩, fun _ => rfl, m_n0 rfl⟩, (List.forall_mem_cons.mpr ⟨⟨(R_2, F_2, 3), rfl, Nat.le_of_ble_eq_true rfl, ⟨"java/util/ArrayList", (m_gi1 121 rfl rfl), Or.inl rfl⟩, fun _ => rfl, m_n0 rfl⟩, (List.forall_mem_cons.mpr ⟨⟨(R_2, F_2, 3), rfl, Nat.le_of_ble_eq_true rfl, ⟨"java/util/ArrayList", (m_gi1 123 rfl rfl), Or.inr (m_gi1 124 rfl rfl)⟩, fun _ => rfl, m_n0 rfl⟩, (fun _ h => absurd h List.not_mem_nil)⟩)⟩)⟩)
set_option maxRecDepth 4000 in
theorem vc_62 : ∀ q ∈ M_62.2.2.2.2.2.2.1, m_cOk M_62.1 q := (List.forall_mem_cons.mpr ⟨⟨m_n0 rfl, m_n0 rfl, m_n0 rfl, fun _ => ⟨M_63, rfl, m_n0 rfl, fun _ => ⟨(m_gi3 225 rfl rfl), (m_gi3 227 rfl rfl), (R_2, F_2, 3), rfl, rfl, (m_gp 0 rfl rfl)⟩, m_n0 rfl, m_n0 rfl⟩⟩, (fun _ h => absurd h List.not_mem_nil)⟩)
set_option maxRecDepth 4000 in
theorem vo_62 : ∀ q ∈ M_62.2.2.2.2.2.2.2.1, m_oOk M_62.1 q := (fun _ h => absurd h List.not_mem_nil)
set_option maxRecDepth 4000 in
theorem vk_62 : ∀ q ∈ M_62.2.2.2.2.2.2.2.2, decode M_62.2.1 q.1 = .ok (q.2.1, q.2.2) := by decide +kernel
set_option maxRecDepth 4000 in
theorem v_62 : m_mOk M_62 := ⟨(m_gi3 224 rfl rfl), (m_gi1 5 rfl rfl), by decide +kernel, ⟨by decide +kernel, by decide +kernel⟩, by decide +kernel, vf_62, vc_62, vo_62, vk_62⟩
set_option maxRecDepth 4000 in
theorem vf_63 : ∀ q ∈ M_63.2.2.2.2.2.1, m_fOk M_63.1 q := (List.forall_mem_cons.mpr ⟨⟨(R_2, F_2, 3), rfl, Nat.le_of_ble_eq_true rfl, ⟨"java/util/ArrayList", (m_gi1 121 rfl rfl), Or.inl rfl⟩, fun _ => rfl, m_n0 rfl⟩, (fun _ h => absurd h List.not_mem_nil)⟩)
set_option maxRecDepth 4000 in
theorem vc_63 : ∀ q ∈ M_63.2.2.2.2.2.2.1, m_cOk M_63.1 q := (List.forall_mem_cons.mpr ⟨⟨m_n0 rfl, m_n0 rfl, m_n0 rfl, fun _ => ⟨M_64, rfl, m_n0 rfl, fun _ => ⟨(m_gi3 229 rfl rfl), (m_gi3 231 rfl rfl), (R_2, F_2, 3), rfl, rfl, (m_gp 1 rfl rfl)⟩, m_n0 rfl, m_n0 rfl⟩⟩, (fun _ h => absurd h List.not_mem_nil)⟩)
set_option maxRecDepth 4000 in
theorem vo_63 : ∀ q ∈ M_63.2.2.2.2.2.2.2.1, m_oOk M_63.1 q := (fun _ h => absurd h List.not_mem_nil)
set_option maxRecDepth 4000 in
theorem vk_63 : ∀ q ∈ M_63.2.2.2.2.2.2.2.2, decode M_63.2.1 q.1 = .ok (q.2.1, q.2.2) := by decide +kernel
set_option maxRecDepth 4000 in
theorem v_63 : m_mOk M_63 := ⟨(m_gi3 228 rfl rfl), (m_gi1 5 rfl rfl), by decide +kernel, ⟨by decide +kernel, by decide +kernel⟩, by decide +kernel, vf_63, vc_63, vo_63, vk_63⟩
set_option maxRecDepth 4000 in
theorem vf_64 : ∀ q ∈ M_64.2.2.2.2.2.1, m_fOk M_64.1 q := (List.forall_mem_cons.mpr ⟨⟨(R_2, F_2, 3), rfl, Nat.le_of_ble_eq_true rfl, ⟨"java/util/ArrayList", (m_gi1 121 rfl rfl), Or.inl rfl⟩, fun _ => rfl, m_n0 rfl⟩, (fun _ h => absurd h List.not_mem_nil)⟩)
set_option maxRecDepth 4000 in
theorem vc_64 : ∀ q ∈ M_64.2.2.2.2.2.2.1, m_cOk M_64.1 q := (List.forall_mem_cons.mpr ⟨⟨m_n0 rfl, m_n0 rfl, m_n0 rfl, fun _ => ⟨M_65, rfl, m_n0 rfl, fun _ => ⟨(m_gi3 233 rfl rfl), (m_gi3 235 rfl rfl), (R_2, F_2, 3), rfl, rfl, (m_gp 2 rfl rfl)⟩, m_n0 rfl, m_n0 rfl⟩⟩, (fun _ h => absurd h List.not_mem_nil)⟩)
set_option maxRecDepth 4000 in
theorem vo_64 : ∀ q ∈ M_64.2.2.2.2.2.2.2.1, m_oOk M_64.1 q := (fun _ h => absurd h List.not_mem_nil)
set_option maxRecDepth 4000 in
theorem vk_64 : ∀ q ∈ M_64.2.2.2.2.2.2.2.2, decode M_64.2.1 q.1 = .ok (q.2.1, q.2.2) := by decide +kernel
set_option maxRecDepth 4000 in
theorem v_64 : m_mOk M_64 := ⟨(m_gi3 232 rfl rfl), (m_gi1 5 rfl rfl), by decide +kernel, ⟨by decide +kernel, by decide +kernel⟩, by decide +kernel, vf_64, vc_64, vo_64, vk_64⟩
set_option maxRecDepth 4000 in
theorem vf_65 : ∀ q ∈ M_65.2.2.2.2.2.1, m_fOk M_65.1 q := (List.forall_mem_cons.mpr ⟨⟨(R_2, F_2, 3), rfl, Nat.le_of_ble_eq_true rfl, ⟨"java/util/ArrayList", (m_gi1 120 rfl rfl), Or.inl rfl⟩, fun _ => rfl, m_n0 rfl⟩, (fun _ h => absurd h List.not_mem_nil)⟩)
set_option maxRecDepth 4000 in
theorem vc_65 : ∀ q ∈ M_65.2.2.2.2.2.2.1, m_cOk M_65.1 q := (List.forall_mem_cons.mpr ⟨⟨m_n0 rfl, m_n0 rfl, m_n0 rfl, fun _ => ⟨M_68, rfl, m_n0 rfl, m_n0 rfl, fun _ => ⟨(m_gi4 7 rfl rfl), (m_gi4 8 rfl rfl)⟩, m_n0 rfl⟩⟩, (List.forall_mem_cons.mpr ⟨⟨m_n0 rfl, m_n0 rfl, m_n0 rfl, fun _ => ⟨M_66, rfl, m_n0 rfl, m_n0 rfl, fun _ => ⟨(m_gi3 237 rfl rfl), (m_gi3 238 rfl rfl)⟩, m_n0 rfl⟩⟩, (List.forall_mem_cons.mpr ⟨⟨m_n0 rfl, fun _ => (m_gi4 44 rfl rfl), m_n0 rfl, m_n1 rfl⟩, (fun _ h => absurd h List.not_mem_nil)⟩)⟩)⟩)
set_option maxRecDepth 4000 in
theorem vo_65 : ∀ q ∈ M_65.2.2.2.2.2.2.2.1, m_oOk M_65.1 q := (List.forall_mem_cons.mpr ⟨⟨m_n0 rfl, fun _ => ⟨by decide, "java/lang/Object", by decide, rfl, (m_gi4 45 rfl rfl)⟩, m_n0 rfl, m_n0 rfl, m_n0 rfl, m_n0 rfl, m_n0 rfl, Nat.le_of_ble_eq_true rfl⟩, (List.forall_mem_cons.mpr ⟨⟨m_n0 rfl, m_n0 rfl, m_n0 rfl, m_n0 rfl, fun _ => ⟨"java/util/ArrayList", "DEFAULTCAPACITY_EMPTY_ELEMENTDATA", "[Ljava/lang/Object;", by decide, (m_gi1 118 rfl rfl)⟩, m_n0 rfl, m_n0 rfl, Nat.le_of_ble_eq_true rfl⟩, (fun _ h => absurd h List.not_mem_nil)⟩)⟩)
set_option maxRecDepth 4000 in
theorem vk_65 : ∀ q ∈ M_65.2.2.2.2.2.2.2.2, decode M_65.2.1 q.1 = .ok (q.2.1, q.2.2) := by decide +kernel
set_option maxRecDepth 4000 in
theorem v_65 : m_mOk M_65 := ⟨(m_gi3 236 rfl rfl), (m_gi1 5 rfl rfl), by decide +kernel, ⟨by decide +kernel, by decide +kernel⟩, by decide +kernel, vf_65, vc_65, vo_65, vk_65⟩
set_option maxRecDepth 4000 in
theorem vf_66 : ∀ q ∈ M_66.2.2.2.2.2.1, m_fOk M_66.1 q := (fun _ h => absurd h List.not_mem_nil)
set_option maxRecDepth 4000 in
theorem vc_66 : ∀ q ∈ M_66.2.2.2.2.2.2.1, m_cOk M_66.1 q := (List.forall_mem_cons.mpr ⟨⟨m_n0 rfl, fun _ => (m_gi4 0 rfl rfl), m_n0 rfl, m_n1 rfl⟩, (List.forall_mem_cons.mpr ⟨⟨m_n0 rfl, m_n0 rfl, m_n0 rfl, fun _ => ⟨M_67, rfl, m_n0 rfl, m_n0 rfl, fun _ => ⟨(m_gi4 4 rfl rfl), (m_gi4 5 rfl rfl)⟩, m_n0 rfl⟩⟩, (fun _ h => absurd h List.not_mem_nil)⟩)⟩)
set_option maxRecDepth 4000 in
theorem vo_66 : ∀ q ∈ M_66.2.2.2.2.2.2.2.1, m_oOk M_66.1 q := (List.forall_mem_cons.mpr ⟨⟨m_n0 rfl, m_n0 rfl, fun _ => ⟨_, rfl, (m_gi4 3 rfl rfl)⟩, m_n0 rfl, m_n0 rfl, m_n0 rfl, m_n0 rfl, Nat.le_of_ble_eq_true rfl⟩, (fun _ h => absurd h List.not_mem_nil)⟩)
set_option maxRecDepth 4000 in
theorem vk_66 : ∀ q ∈ M_66.2.2.2.2.2.2.2.2, decode M_66.2.1 q.1 = .ok (q.2.1, q.2.2) := by decide +kernel
set_option maxRecDepth 4000 in
theorem v_66 : m_mOk M_66 := ⟨(m_gi3 239 rfl rfl), (m_gi1 24 rfl rfl), by decide +kernel, ⟨by decide +kernel, by decide +kernel⟩, by decide +kernel, vf_66, vc_66, vo_66, vk_66⟩
set_option maxRecDepth 4000 in
theorem vf_67 : ∀ q ∈ M_67.2.2.2.2.2.1, m_fOk M_67.1 q := (fun _ h => absurd h List.not_mem_nil)
set_option maxRecDepth 4000 in
theorem vc_67 : ∀ q ∈ M_67.2.2.2.2.2.2.1, m_cOk M_67.1 q := (fun _ h => absurd h List.not_mem_nil)
set_option maxRecDepth 4000 in
theorem vo_67 : ∀ q ∈ M_67.2.2.2.2.2.2.2.1, m_oOk M_67.1 q := (List.forall_mem_cons.mpr ⟨⟨m_n0 rfl, m_n0 rfl, fun _ => ⟨_, rfl, (m_gi4 3 rfl rfl)⟩, m_n0 rfl, m_n0 rfl, m_n0 rfl, m_n0 rfl, Nat.le_of_ble_eq_true rfl⟩, (fun _ h => absurd h List.not_mem_nil)⟩)
set_option maxRecDepth 4000 in
theorem vk_67 : ∀ q ∈ M_67.2.2.2.2.2.2.2.2, decode M_67.2.1 q.1 = .ok (q.2.1, q.2.2) := by decide +kernel
set_option maxRecDepth 4000 in
theorem v_67 : m_mOk M_67 := ⟨(m_gi4 6 rfl rfl), (m_gi1 24 rfl rfl), by decide +kernel, ⟨by decide +kernel, by decide +kernel⟩, by decide +kernel, vf_67, vc_67, vo_67, vk_67⟩
set_option maxRecDepth 4000 in
theorem vf_68 : ∀ q ∈ M_68.2.2.2.2.2.1, m_fOk M_68.1 q := (fun _ h => absurd h List.not_mem_nil)
set_option maxRecDepth 4000 in
theorem vc_68 : ∀ q ∈ M_68.2.2.2.2.2.2.1, m_cOk M_68.1 q := (List.forall_mem_cons.mpr ⟨⟨m_n0 rfl, m_n0 rfl, m_n0 rfl, fun _ => ⟨M_69, rfl, m_n0 rfl, m_n0 rfl, fun _ => ⟨(m_gi4 34 rfl rfl), (m_gi4 35 rfl rfl)⟩, m_n0 rfl⟩⟩, (fun _ h => absurd h List.not_mem_nil)⟩)
set_option maxRecDepth 4000 in
theorem vo_68 : ∀ q ∈ M_68.2.2.2.2.2.2.2.1, m_oOk M_68.1 q := (fun _ h => absurd h List.not_mem_nil)
set_option maxRecDepth 4000 in
theorem vk_68 : ∀ q ∈ M_68.2.2.2.2.2.2.2.2, decode M_68.2.1 q.1 = .ok (q.2.1, q.2.2) := by decide +kernel
set_option maxRecDepth 4000 in
theorem v_68 : m_mOk M_68 := ⟨(m_gi4 9 rfl rfl), (m_gi1 25 rfl rfl), by decide +kernel, ⟨by decide +kernel, by decide +kernel⟩, by decide +kernel, vf_68, vc_68, vo_68, vk_68⟩
set_option maxRecDepth 4000 in
theorem vf_69 : ∀ q ∈ M_69.2.2.2.2.2.1, m_fOk M_69.1 q := (fun _ h => absurd h List.not_mem_nil)
set_option maxRecDepth 4000 in
theorem vc_69 : ∀ q ∈ M_69.2.2.2.2.2.2.1, m_cOk M_69.1 q := (List.forall_mem_cons.mpr ⟨⟨m_n0 rfl, m_n0 rfl, fun _ => (m_gi4 40 rfl rfl), m_n1 rfl⟩, (fun _ h => absurd h List.not_mem_nil)⟩)
set_option maxRecDepth 4000 in
theorem vo_69 : ∀ q ∈ M_69.2.2.2.2.2.2.2.1, m_oOk M_69.1 q := (List.forall_mem_cons.mpr ⟨⟨m_n0 rfl, fun _ => ⟨by decide, "java/lang/Object", by decide, rfl, (m_gi4 39 rfl rfl)⟩, m_n0 rfl, m_n0 rfl, m_n0 rfl, m_n0 rfl, m_n0 rfl, Nat.le_of_ble_eq_true rfl⟩, (fun _ h => absurd h List.not_mem_nil)⟩)
set_option maxRecDepth 4000 in
theorem vk_69 : ∀ q ∈ M_69.2.2.2.2.2.2.2.2, decode M_69.2.1 q.1 = .ok (q.2.1, q.2.2) := by decide +kernel
set_option maxRecDepth 4000 in
theorem v_69 : m_mOk M_69 := ⟨(m_gi4 36 rfl rfl), (m_gi1 25 rfl rfl), by decide +kernel, ⟨by decide +kernel, by decide +kernel⟩, by decide +kernel, vf_69, vc_69, vo_69, vk_69⟩
set_option maxRecDepth 4000 in
theorem vf_70 : ∀ q ∈ M_70.2.2.2.2.2.1, m_fOk M_70.1 q := (List.forall_mem_cons.mpr ⟨⟨(R_0, F_0, 15), rfl, Nat.le_of_ble_eq_true rfl, ⟨"EdgeHouse", (m_gi2 15 rfl rfl), Or.inl rfl⟩, fun _ => rfl, m_n0 rfl⟩, (List.forall_mem_cons.mpr ⟨⟨(R_0, F_0, 15), rfl, Nat.le_of_ble_eq_true rfl, ⟨"EdgeHouse", (m_gi2 11 rfl rfl), Or.inl rfl⟩, fun _ => rfl, m_n0 rfl⟩, (List.forall_mem_cons.mpr ⟨⟨(R_8, F_8, 14), rfl, Nat.le_of_ble_eq_true rfl, ⟨"EdgeHouse$Reply", (m_gi3 175 rfl rfl), Or.inl rfl⟩, fun _ => rfl, m_n0 rfl⟩, (List.forall_mem_cons.mpr ⟨⟨(R_8, F_8, 14), rfl, Nat.le_of_ble_eq_true rfl, ⟨"EdgeHouse$Reply", (m_gi3 189 rfl rfl), Or.inl rfl⟩, fun _ => rfl, m_n0 rfl⟩, (fun _ h => absurd h List.not_mem_nil)⟩)⟩)⟩)⟩)
set_option maxRecDepth 4000 in
theorem vc_70 : ∀ q ∈ M_70.2.2.2.2.2.2.1, m_cOk M_70.1 q := (fun _ h => absurd h List.not_mem_nil)
set_option maxRecDepth 4000 in
theorem vo_70 : ∀ q ∈ M_70.2.2.2.2.2.2.2.1, m_oOk M_70.1 q := (fun _ h => absurd h List.not_mem_nil)
set_option maxRecDepth 4000 in
theorem vk_70 : ∀ q ∈ M_70.2.2.2.2.2.2.2.2, decode M_70.2.1 q.1 = .ok (q.2.1, q.2.2) := by decide +kernel
set_option maxRecDepth 4000 in
theorem v_70 : m_mOk M_70 := ⟨(m_gi4 49 rfl rfl), (m_gi1 1 rfl rfl), by decide +kernel, ⟨by decide +kernel, by decide +kernel⟩, by decide +kernel, vf_70, vc_70, vo_70, vk_70⟩
set_option maxRecDepth 4000 in
theorem vf_71 : ∀ q ∈ M_71.2.2.2.2.2.1, m_fOk M_71.1 q := (List.forall_mem_cons.mpr ⟨⟨(R_0, F_0, 15), rfl, Nat.le_of_ble_eq_true rfl, ⟨"EdgeHouse", (m_gi2 4 rfl rfl), Or.inl rfl⟩, m_n0 rfl, m_n0 rfl⟩, (List.forall_mem_cons.mpr ⟨⟨(R_0, F_0, 15), rfl, Nat.le_of_ble_eq_true rfl, ⟨"EdgeHouse", (m_gi2 5 rfl rfl), Or.inl rfl⟩, m_n0 rfl, m_n0 rfl⟩, (List.forall_mem_cons.mpr ⟨⟨(R_4, F_4, 11), rfl, Nat.le_of_ble_eq_true rfl, ⟨"EdgeHouse$Node", (m_gi1 203 rfl rfl), Or.inl rfl⟩, fun _ => rfl, m_n0 rfl⟩, (List.forall_mem_cons.mpr ⟨⟨(R_0, F_0, 15), rfl, Nat.le_of_ble_eq_true rfl, ⟨"EdgeHouse", (m_gi2 15 rfl rfl), Or.inl rfl⟩, fun _ => rfl, m_n0 rfl⟩, (fun _ h => absurd h List.not_mem_nil)⟩)⟩)⟩)⟩)
set_option maxRecDepth 4000 in
theorem vc_71 : ∀ q ∈ M_71.2.2.2.2.2.2.1, m_cOk M_71.1 q := (List.forall_mem_cons.mpr ⟨⟨m_n0 rfl, m_n0 rfl, m_n0 rfl, fun _ => ⟨M_11, rfl, m_n0 rfl, m_n0 rfl, fun _ => ⟨(m_gi1 235 rfl rfl), (m_gi1 236 rfl rfl)⟩, m_n0 rfl⟩⟩, (List.forall_mem_cons.mpr ⟨⟨m_n0 rfl, m_n0 rfl, m_n0 rfl, fun _ => ⟨M_72, rfl, m_n0 rfl, fun _ => ⟨(m_gi4 54 rfl rfl), (m_gi4 55 rfl rfl), (R_4, F_4, 11), rfl, rfl, (m_gi4 56 rfl rfl)⟩, m_n0 rfl, m_n0 rfl⟩⟩, (fun _ h => absurd h List.not_mem_nil)⟩)⟩)
set_option maxRecDepth 4000 in
theorem vo_71 : ∀ q ∈ M_71.2.2.2.2.2.2.2.1, m_oOk M_71.1 q := (List.forall_mem_cons.mpr ⟨⟨m_n0 rfl, m_n0 rfl, fun _ => ⟨_, rfl, (m_gi4 58 rfl rfl)⟩, m_n0 rfl, m_n0 rfl, m_n0 rfl, m_n0 rfl, Nat.le_of_ble_eq_true rfl⟩, (List.forall_mem_cons.mpr ⟨⟨m_n0 rfl, m_n0 rfl, fun _ => ⟨_, rfl, (m_gi4 59 rfl rfl)⟩, m_n0 rfl, m_n0 rfl, m_n0 rfl, m_n0 rfl, Nat.le_of_ble_eq_true rfl⟩, (fun _ h => absurd h List.not_mem_nil)⟩)⟩)
set_option maxRecDepth 4000 in
theorem vk_71 : ∀ q ∈ M_71.2.2.2.2.2.2.2.2, decode M_71.2.1 q.1 = .ok (q.2.1, q.2.2) := by decide +kernel
set_option maxRecDepth 4000 in
theorem v_71 : m_mOk M_71 := ⟨(m_gi4 53 rfl rfl), (m_gi1 1 rfl rfl), by decide +kernel, ⟨by decide +kernel, by decide +kernel⟩, by decide +kernel, vf_71, vc_71, vo_71, vk_71⟩
set_option maxRecDepth 4000 in
theorem vf_72 : ∀ q ∈ M_72.2.2.2.2.2.1, m_fOk M_72.1 q := (List.forall_mem_cons.mpr ⟨⟨(R_4, F_4, 11), rfl, Nat.le_of_ble_eq_true rfl, ⟨"EdgeHouse$Node", (m_gi1 201 rfl rfl), Or.inl rfl⟩, m_n0 rfl, m_n0 rfl⟩, (fun _ h => absurd h List.not_mem_nil)⟩)
set_option maxRecDepth 4000 in
theorem vc_72 : ∀ q ∈ M_72.2.2.2.2.2.2.1, m_cOk M_72.1 q := (fun _ h => absurd h List.not_mem_nil)
set_option maxRecDepth 4000 in
theorem vo_72 : ∀ q ∈ M_72.2.2.2.2.2.2.2.1, m_oOk M_72.1 q := (fun _ h => absurd h List.not_mem_nil)
set_option maxRecDepth 4000 in
theorem vk_72 : ∀ q ∈ M_72.2.2.2.2.2.2.2.2, decode M_72.2.1 q.1 = .ok (q.2.1, q.2.2) := by decide +kernel
set_option maxRecDepth 4000 in
theorem v_72 : m_mOk M_72 := ⟨(m_gi4 57 rfl rfl), (m_gi1 10 rfl rfl), by decide +kernel, ⟨by decide +kernel, by decide +kernel⟩, by decide +kernel, vf_72, vc_72, vo_72, vk_72⟩
set_option maxRecDepth 4000 in
theorem vf_73 : ∀ q ∈ M_73.2.2.2.2.2.1, m_fOk M_73.1 q := (List.forall_mem_cons.mpr ⟨⟨(R_6, F_6, 19), rfl, Nat.le_of_ble_eq_true rfl, ⟨"EdgeHouse$Request", (m_gi2 88 rfl rfl), Or.inl rfl⟩, fun _ => rfl, m_n0 rfl⟩, (List.forall_mem_cons.mpr ⟨⟨(R_6, F_6, 19), rfl, Nat.le_of_ble_eq_true rfl, ⟨"EdgeHouse$Request", (m_gi2 93 rfl rfl), Or.inl rfl⟩, fun _ => rfl, m_n0 rfl⟩, (List.forall_mem_cons.mpr ⟨⟨(R_0, F_0, 15), rfl, Nat.le_of_ble_eq_true rfl, ⟨"EdgeHouse", (m_gi2 15 rfl rfl), Or.inl rfl⟩, fun _ => rfl, m_n0 rfl⟩, (List.forall_mem_cons.mpr ⟨⟨(R_4, F_4, 11), rfl, Nat.le_of_ble_eq_true rfl, ⟨"EdgeHouse$Node", (m_gi1 196 rfl rfl), Or.inl rfl⟩, m_n0 rfl, m_n0 rfl⟩, (List.forall_mem_cons.mpr ⟨⟨(R_6, F_6, 19), rfl, Nat.le_of_ble_eq_true rfl, ⟨"EdgeHouse$Request", (m_gi2 126 rfl rfl), Or.inl rfl⟩, fun _ => rfl, m_n0 rfl⟩, (List.forall_mem_cons.mpr ⟨⟨(R_11, F_11, 9), rfl, Nat.le_of_ble_eq_true rfl, ⟨"EdgeHouse$Entry", (m_gi6 7 rfl rfl), Or.inl rfl⟩, fun _ => rfl, m_n0 rfl⟩, (List.forall_mem_cons.mpr ⟨⟨(R_11, F_11, 9), rfl, Nat.le_of_ble_eq_true rfl, ⟨"EdgeHouse$Entry", (m_gi5 239 rfl rfl), Or.inl rfl⟩, m_n0 rfl, m_n0 rfl⟩, (List.forall_mem_cons.mpr ⟨⟨(R_6, F_6, 19), rfl, Nat.le_of_ble_eq_true rfl, ⟨"EdgeHouse$Request", (m_gi2 114 rfl rfl), Or.inl rfl⟩, fun _ => rfl, m_n0 rfl⟩, (List.forall_mem_cons.mpr ⟨⟨(R_6, F_6, 19), rfl, Nat.le_of_ble_eq_true rfl, ⟨"EdgeHouse$Request", (m_gi2 125 rfl rfl), Or.inl rfl⟩, fun _ => rfl, m_n0 rfl⟩, (List.forall_mem_cons.mpr ⟨⟨(R_4, F_4, 11), rfl, Nat.le_of_ble_eq_true rfl, ⟨"EdgeHouse$Node", (m_gi1 207 rfl rfl), Or.inl rfl⟩, fun _ => rfl, m_n0 rfl⟩, (List.forall_mem_cons.mpr ⟨⟨(R_6, F_6, 19), rfl, Nat.le_of_ble_eq_true rfl, ⟨"EdgeHouse$Request", (m_gi2 116 rfl rfl), Or.inl rfl⟩, fun _ => rfl, m_n0 rfl⟩, (fun _ h => absurd h List.not_mem_nil)⟩)⟩)⟩)⟩)⟩)⟩)⟩)⟩)⟩)⟩)⟩)
set_option maxRecDepth 4000 in
theorem vc_73 : ∀ q ∈ M_73.2.2.2.2.2.2.1, m_cOk M_73.1 q := (List.forall_mem_cons.mpr ⟨⟨m_n0 rfl, m_n0 rfl, m_n0 rfl, fun _ => ⟨M_122, rfl, m_n0 rfl, fun _ => ⟨(m_gi5 183 rfl rfl), (m_gi5 185 rfl rfl), (R_0, F_0, 15), rfl, rfl, (m_gp 14 rfl rfl)⟩, m_n0 rfl, m_n0 rfl⟩⟩, (List.forall_mem_cons.mpr ⟨⟨m_n0 rfl, m_n0 rfl, m_n0 rfl, fun _ => ⟨M_116, rfl, m_n0 rfl, fun _ => ⟨(m_gi5 160 rfl rfl), (m_gi5 162 rfl rfl), (R_0, F_0, 15), rfl, rfl, (m_gp 11 rfl rfl)⟩, m_n0 rfl, m_n0 rfl⟩⟩, (List.forall_mem_cons.mpr ⟨⟨m_n0 rfl, m_n0 rfl, m_n0 rfl, fun _ => ⟨M_111, rfl, m_n0 rfl, fun _ => ⟨(m_gi5 138 rfl rfl), (m_gi5 140 rfl rfl), (R_0, F_0, 15), rfl, rfl, (m_gp 10 rfl rfl)⟩, m_n0 rfl, m_n0 rfl⟩⟩, (List.forall_mem_cons.mpr ⟨⟨m_n0 rfl, m_n0 rfl, m_n0 rfl, fun _ => ⟨M_102, rfl, m_n0 rfl, fun _ => ⟨(m_gi4 186 rfl rfl), (m_gi4 188 rfl rfl), (R_0, F_0, 15), rfl, rfl, (m_gp 7 rfl rfl)⟩, m_n0 rfl, m_n0 rfl⟩⟩, (List.forall_mem_cons.mpr ⟨⟨m_n0 rfl, m_n0 rfl, m_n0 rfl, fun _ => ⟨M_74, rfl, m_n0 rfl, fun _ => ⟨(m_gi4 64 rfl rfl), (m_gi4 65 rfl rfl), (R_5, F_5, 3), rfl, rfl, (m_gi4 66 rfl rfl)⟩, m_n0 rfl, m_n0 rfl⟩⟩, (List.forall_mem_cons.mpr ⟨⟨m_n0 rfl, m_n0 rfl, m_n0 rfl, fun _ => ⟨M_83, rfl, m_n0 rfl, fun _ => ⟨(m_gi4 102 rfl rfl), (m_gi4 103 rfl rfl), (R_11, F_11, 9), rfl, rfl, (m_gi4 104 rfl rfl)⟩, m_n0 rfl, m_n0 rfl⟩⟩, (List.forall_mem_cons.mpr ⟨⟨m_n0 rfl, m_n0 rfl, m_n0 rfl, fun _ => ⟨M_84, rfl, m_n0 rfl, fun _ => ⟨(m_gi4 106 rfl rfl), (m_gi4 107 rfl rfl), (R_6, F_6, 19), rfl, rfl, (m_gi4 108 rfl rfl)⟩, m_n0 rfl, m_n0 rfl⟩⟩, (List.forall_mem_cons.mpr ⟨⟨m_n0 rfl, m_n0 rfl, m_n0 rfl, fun _ => ⟨M_90, rfl, m_n0 rfl, fun _ => ⟨(m_gi4 133 rfl rfl), (m_gi4 134 rfl rfl), (R_6, F_6, 19), rfl, rfl, (m_gi4 135 rfl rfl)⟩, m_n0 rfl, m_n0 rfl⟩⟩, (List.forall_mem_cons.mpr ⟨⟨m_n0 rfl, m_n0 rfl, m_n0 rfl, fun _ => ⟨M_92, rfl, m_n0 rfl, fun _ => ⟨(m_gi4 142 rfl rfl), (m_gi4 143 rfl rfl), (R_5, F_5, 3), rfl, rfl, (m_gi4 144 rfl rfl)⟩, m_n0 rfl, m_n0 rfl⟩⟩, (List.forall_mem_cons.mpr ⟨⟨m_n0 rfl, m_n0 rfl, m_n0 rfl, fun _ => ⟨M_108, rfl, m_n0 rfl, fun _ => ⟨(m_gi5 58 rfl rfl), (m_gi5 59 rfl rfl), (R_6, F_6, 19), rfl, rfl, (m_gi5 60 rfl rfl)⟩, m_n0 rfl, m_n0 rfl⟩⟩, (List.forall_mem_cons.mpr ⟨⟨m_n0 rfl, m_n0 rfl, m_n0 rfl, fun _ => ⟨M_109, rfl, m_n0 rfl, fun _ => ⟨(m_gi5 62 rfl rfl), (m_gi5 63 rfl rfl), (R_4, F_4, 11), rfl, rfl, (m_gi5 64 rfl rfl)⟩, m_n0 rfl, m_n0 rfl⟩⟩, (List.forall_mem_cons.mpr ⟨⟨m_n0 rfl, m_n0 rfl, m_n0 rfl, fun _ => ⟨M_110, rfl, fun _ => ⟨rfl, rfl, (m_gi5 71 rfl rfl), (m_gi5 72 rfl rfl)⟩, m_n0 rfl, m_n0 rfl, m_n0 rfl⟩⟩, (List.forall_mem_cons.mpr ⟨⟨m_n0 rfl, m_n0 rfl, m_n0 rfl, fun _ => ⟨M_118, rfl, m_n0 rfl, fun _ => ⟨(m_gi5 168 rfl rfl), (m_gi5 170 rfl rfl), (R_0, F_0, 15), rfl, rfl, (m_gp 13 rfl rfl)⟩, m_n0 rfl, m_n0 rfl⟩⟩, (fun _ h => absurd h List.not_mem_nil)⟩)⟩)⟩)⟩)⟩)⟩)⟩)⟩)⟩)⟩)⟩)⟩)⟩)
set_option maxRecDepth 4000 in
theorem vo_73 : ∀ q ∈ M_73.2.2.2.2.2.2.2.1, m_oOk M_73.1 q := (List.forall_mem_cons.mpr ⟨⟨fun _ => ⟨(R_10, F_10, 14), rfl, (m_gi5 69 rfl rfl), (m_gi5 70 rfl rfl), (m_gi1 30 rfl rfl)⟩, m_n0 rfl, m_n0 rfl, m_n0 rfl, m_n0 rfl, m_n0 rfl, m_n0 rfl, Nat.le_of_ble_eq_true rfl⟩, (fun _ h => absurd h List.not_mem_nil)⟩)
set_option maxRecDepth 4000 in
theorem vk_73 : ∀ q ∈ M_73.2.2.2.2.2.2.2.2, decode M_73.2.1 q.1 = .ok (q.2.1, q.2.2) := by decide +kernel
set_option maxRecDepth 4000 in
theorem v_73 : m_mOk M_73 := ⟨(m_gi4 63 rfl rfl), (m_gi1 1 rfl rfl), by decide +kernel, ⟨by decide +kernel, by decide +kernel⟩, by decide +kernel, vf_73, vc_73, vo_73, vk_73⟩
set_option maxRecDepth 4000 in
theorem vf_74 : ∀ q ∈ M_74.2.2.2.2.2.1, m_fOk M_74.1 q := (fun _ h => absurd h List.not_mem_nil)
set_option maxRecDepth 4000 in
theorem vc_74 : ∀ q ∈ M_74.2.2.2.2.2.2.1, m_cOk M_74.1 q := (List.forall_mem_cons.mpr ⟨⟨m_n0 rfl, m_n0 rfl, m_n0 rfl, fun _ => ⟨M_75, rfl, m_n0 rfl, fun _ => ⟨(m_gi4 68 rfl rfl), (m_gi4 69 rfl rfl), (R_5, F_5, 3), rfl, rfl, (m_gi4 70 rfl rfl)⟩, m_n0 rfl, m_n0 rfl⟩⟩, (List.forall_mem_cons.mpr ⟨⟨m_n0 rfl, m_n0 rfl, m_n0 rfl, fun _ => ⟨M_76, rfl, m_n0 rfl, fun _ => ⟨(m_gi4 73 rfl rfl), (m_gi4 74 rfl rfl), (R_5, F_5, 3), rfl, rfl, (m_gi4 75 rfl rfl)⟩, m_n0 rfl, m_n0 rfl⟩⟩, (List.forall_mem_cons.mpr ⟨⟨m_n0 rfl, m_n0 rfl, m_n0 rfl, fun _ => ⟨M_80, rfl, m_n0 rfl, fun _ => ⟨(m_gi4 90 rfl rfl), (m_gi4 91 rfl rfl), (R_11, F_11, 9), rfl, rfl, (m_gi4 92 rfl rfl)⟩, m_n0 rfl, m_n0 rfl⟩⟩, (fun _ h => absurd h List.not_mem_nil)⟩)⟩)⟩)
set_option maxRecDepth 4000 in
theorem vo_74 : ∀ q ∈ M_74.2.2.2.2.2.2.2.1, m_oOk M_74.1 q := (fun _ h => absurd h List.not_mem_nil)
set_option maxRecDepth 4000 in
theorem vk_74 : ∀ q ∈ M_74.2.2.2.2.2.2.2.2, decode M_74.2.1 q.1 = .ok (q.2.1, q.2.2) := by decide +kernel
set_option maxRecDepth 4000 in
theorem v_74 : m_mOk M_74 := ⟨(m_gi4 67 rfl rfl), (m_gi1 11 rfl rfl), by decide +kernel, ⟨by decide +kernel, by decide +kernel⟩, by decide +kernel, vf_74, vc_74, vo_74, vk_74⟩
set_option maxRecDepth 4000 in
theorem vf_75 : ∀ q ∈ M_75.2.2.2.2.2.1, m_fOk M_75.1 q := (List.forall_mem_cons.mpr ⟨⟨(R_5, F_5, 3), rfl, Nat.le_of_ble_eq_true rfl, ⟨"EdgeHouse$Store", (m_gi1 178 rfl rfl), Or.inl rfl⟩, m_n0 rfl, m_n0 rfl⟩, (List.forall_mem_cons.mpr ⟨⟨(R_5, F_5, 3), rfl, Nat.le_of_ble_eq_true rfl, ⟨"EdgeHouse$Store", (m_gi1 180 rfl rfl), Or.inl rfl⟩, m_n0 rfl, m_n0 rfl⟩, (fun _ h => absurd h List.not_mem_nil)⟩)⟩)
set_option maxRecDepth 4000 in
theorem vc_75 : ∀ q ∈ M_75.2.2.2.2.2.2.1, m_cOk M_75.1 q := (List.forall_mem_cons.mpr ⟨⟨m_n0 rfl, m_n0 rfl, m_n0 rfl, fun _ => ⟨M_17, rfl, m_n0 rfl, fun _ => ⟨(m_gi4 72 rfl rfl), (m_gi2 68 rfl rfl), (R_2, F_2, 3), rfl, rfl, (m_gi2 69 rfl rfl)⟩, m_n0 rfl, m_n0 rfl⟩⟩, (fun _ h => absurd h List.not_mem_nil)⟩)
set_option maxRecDepth 4000 in
theorem vo_75 : ∀ q ∈ M_75.2.2.2.2.2.2.2.1, m_oOk M_75.1 q := (fun _ h => absurd h List.not_mem_nil)
set_option maxRecDepth 4000 in
theorem vk_75 : ∀ q ∈ M_75.2.2.2.2.2.2.2.2, decode M_75.2.1 q.1 = .ok (q.2.1, q.2.2) := by decide +kernel
set_option maxRecDepth 4000 in
theorem v_75 : m_mOk M_75 := ⟨(m_gi4 71 rfl rfl), (m_gi1 11 rfl rfl), by decide +kernel, ⟨by decide +kernel, by decide +kernel⟩, by decide +kernel, vf_75, vc_75, vo_75, vk_75⟩
set_option maxRecDepth 4000 in
theorem vf_76 : ∀ q ∈ M_76.2.2.2.2.2.1, m_fOk M_76.1 q := (List.forall_mem_cons.mpr ⟨⟨(R_5, F_5, 3), rfl, Nat.le_of_ble_eq_true rfl, ⟨"EdgeHouse$Store", (m_gi1 178 rfl rfl), Or.inl rfl⟩, m_n0 rfl, m_n0 rfl⟩, (List.forall_mem_cons.mpr ⟨⟨(R_5, F_5, 3), rfl, Nat.le_of_ble_eq_true rfl, ⟨"EdgeHouse$Store", (m_gi1 180 rfl rfl), Or.inl rfl⟩, m_n0 rfl, m_n0 rfl⟩, (fun _ h => absurd h List.not_mem_nil)⟩)⟩)
set_option maxRecDepth 4000 in
theorem vc_76 : ∀ q ∈ M_76.2.2.2.2.2.2.1, m_cOk M_76.1 q := (List.forall_mem_cons.mpr ⟨⟨m_n0 rfl, m_n0 rfl, m_n0 rfl, fun _ => ⟨M_17, rfl, m_n0 rfl, fun _ => ⟨(m_gi4 72 rfl rfl), (m_gi2 68 rfl rfl), (R_2, F_2, 3), rfl, rfl, (m_gi2 69 rfl rfl)⟩, m_n0 rfl, m_n0 rfl⟩⟩, (List.forall_mem_cons.mpr ⟨⟨m_n0 rfl, m_n0 rfl, m_n0 rfl, fun _ => ⟨M_75, rfl, m_n0 rfl, fun _ => ⟨(m_gi4 68 rfl rfl), (m_gi4 69 rfl rfl), (R_5, F_5, 3), rfl, rfl, (m_gi4 70 rfl rfl)⟩, m_n0 rfl, m_n0 rfl⟩⟩, (List.forall_mem_cons.mpr ⟨⟨m_n0 rfl, m_n0 rfl, m_n0 rfl, fun _ => ⟨M_77, rfl, m_n0 rfl, fun _ => ⟨(m_gi4 77 rfl rfl), (m_gi4 78 rfl rfl), (R_2, F_2, 3), rfl, rfl, (m_gi4 79 rfl rfl)⟩, m_n0 rfl, m_n0 rfl⟩⟩, (fun _ h => absurd h List.not_mem_nil)⟩)⟩)⟩)
set_option maxRecDepth 4000 in
theorem vo_76 : ∀ q ∈ M_76.2.2.2.2.2.2.2.1, m_oOk M_76.1 q := (List.forall_mem_cons.mpr ⟨⟨m_n0 rfl, m_n0 rfl, m_n0 rfl, m_n0 rfl, m_n0 rfl, m_n0 rfl, fun _ => ⟨(R_11, F_11, 9), rfl, (m_gi4 89 rfl rfl), (List.mem_filter.mpr ⟨m_in12 (List.mem_of_getElem? (i := 50) rfl), rfl⟩)⟩, Nat.le_of_ble_eq_true rfl⟩, (fun _ h => absurd h List.not_mem_nil)⟩)
set_option maxRecDepth 4000 in
theorem vk_76 : ∀ q ∈ M_76.2.2.2.2.2.2.2.2, decode M_76.2.1 q.1 = .ok (q.2.1, q.2.2) := by decide +kernel
set_option maxRecDepth 4000 in
theorem v_76 : m_mOk M_76 := ⟨(m_gi4 76 rfl rfl), (m_gi1 11 rfl rfl), by decide +kernel, ⟨by decide +kernel, by decide +kernel⟩, by decide +kernel, vf_76, vc_76, vo_76, vk_76⟩
set_option maxRecDepth 4000 in
theorem vf_77 : ∀ q ∈ M_77.2.2.2.2.2.1, m_fOk M_77.1 q := (List.forall_mem_cons.mpr ⟨⟨(R_2, F_2, 3), rfl, Nat.le_of_ble_eq_true rfl, ⟨"java/util/ArrayList", (m_gi1 121 rfl rfl), Or.inl rfl⟩, fun _ => rfl, m_n0 rfl⟩, (fun _ h => absurd h List.not_mem_nil)⟩)
set_option maxRecDepth 4000 in
theorem vc_77 : ∀ q ∈ M_77.2.2.2.2.2.2.1, m_cOk M_77.1 q := (List.forall_mem_cons.mpr ⟨⟨m_n0 rfl, m_n0 rfl, m_n0 rfl, fun _ => ⟨M_78, rfl, m_n0 rfl, m_n0 rfl, fun _ => ⟨(m_gi4 81 rfl rfl), (m_gi4 82 rfl rfl)⟩, m_n0 rfl⟩⟩, (List.forall_mem_cons.mpr ⟨⟨m_n0 rfl, m_n0 rfl, m_n0 rfl, fun _ => ⟨M_79, rfl, m_n0 rfl, fun _ => ⟨(m_gi4 85 rfl rfl), (m_gi4 86 rfl rfl), (R_2, F_2, 3), rfl, rfl, (m_gi4 87 rfl rfl)⟩, m_n0 rfl, m_n0 rfl⟩⟩, (fun _ h => absurd h List.not_mem_nil)⟩)⟩)
set_option maxRecDepth 4000 in
theorem vo_77 : ∀ q ∈ M_77.2.2.2.2.2.2.2.1, m_oOk M_77.1 q := (fun _ h => absurd h List.not_mem_nil)
set_option maxRecDepth 4000 in
theorem vk_77 : ∀ q ∈ M_77.2.2.2.2.2.2.2.2, decode M_77.2.1 q.1 = .ok (q.2.1, q.2.2) := by decide +kernel
set_option maxRecDepth 4000 in
theorem v_77 : m_mOk M_77 := ⟨(m_gi4 80 rfl rfl), (m_gi1 5 rfl rfl), by decide +kernel, ⟨by decide +kernel, by decide +kernel⟩, by decide +kernel, vf_77, vc_77, vo_77, vk_77⟩
set_option maxRecDepth 4000 in
theorem vf_78 : ∀ q ∈ M_78.2.2.2.2.2.1, m_fOk M_78.1 q := (fun _ h => absurd h List.not_mem_nil)
set_option maxRecDepth 4000 in
theorem vc_78 : ∀ q ∈ M_78.2.2.2.2.2.2.1, m_cOk M_78.1 q := (List.forall_mem_cons.mpr ⟨⟨m_n0 rfl, m_n0 rfl, m_n0 rfl, fun _ => ⟨M_30, rfl, m_n0 rfl, m_n0 rfl, fun _ => ⟨(m_gi4 84 rfl rfl), (m_gi3 16 rfl rfl)⟩, m_n0 rfl⟩⟩, (fun _ h => absurd h List.not_mem_nil)⟩)
set_option maxRecDepth 4000 in
theorem vo_78 : ∀ q ∈ M_78.2.2.2.2.2.2.2.1, m_oOk M_78.1 q := (fun _ h => absurd h List.not_mem_nil)
set_option maxRecDepth 4000 in
theorem vk_78 : ∀ q ∈ M_78.2.2.2.2.2.2.2.2, decode M_78.2.1 q.1 = .ok (q.2.1, q.2.2) := by decide +kernel
set_option maxRecDepth 4000 in
theorem v_78 : m_mOk M_78 := ⟨(m_gi4 83 rfl rfl), (m_gi1 27 rfl rfl), by decide +kernel, ⟨by decide +kernel, by decide +kernel⟩, by decide +kernel, vf_78, vc_78, vo_78, vk_78⟩
set_option maxRecDepth 4000 in
theorem vf_79 : ∀ q ∈ M_79.2.2.2.2.2.1, m_fOk M_79.1 q := (List.forall_mem_cons.mpr ⟨⟨(R_2, F_2, 3), rfl, Nat.le_of_ble_eq_true rfl, ⟨"java/util/ArrayList", (m_gi1 120 rfl rfl), Or.inl rfl⟩, fun _ => rfl, m_n0 rfl⟩, (fun _ h => absurd h List.not_mem_nil)⟩)
set_option maxRecDepth 4000 in
theorem vc_79 : ∀ q ∈ M_79.2.2.2.2.2.2.1, m_cOk M_79.1 q := (fun _ h => absurd h List.not_mem_nil)
set_option maxRecDepth 4000 in
theorem vo_79 : ∀ q ∈ M_79.2.2.2.2.2.2.2.1, m_oOk M_79.1 q := (fun _ h => absurd h List.not_mem_nil)
set_option maxRecDepth 4000 in
theorem vk_79 : ∀ q ∈ M_79.2.2.2.2.2.2.2.2, decode M_79.2.1 q.1 = .ok (q.2.1, q.2.2) := by decide +kernel
set_option maxRecDepth 4000 in
theorem v_79 : m_mOk M_79 := ⟨(m_gi4 88 rfl rfl), (m_gi1 5 rfl rfl), by decide +kernel, ⟨by decide +kernel, by decide +kernel⟩, by decide +kernel, vf_79, vc_79, vo_79, vk_79⟩
set_option maxRecDepth 4000 in
theorem vf_80 : ∀ q ∈ M_80.2.2.2.2.2.1, m_fOk M_80.1 q := (List.forall_mem_cons.mpr ⟨⟨(R_11, F_11, 9), rfl, Nat.le_of_ble_eq_true rfl, ⟨"EdgeHouse$Entry", (m_gi5 234 rfl rfl), Or.inl rfl⟩, m_n0 rfl, m_n0 rfl⟩, (List.forall_mem_cons.mpr ⟨⟨(R_11, F_11, 9), rfl, Nat.le_of_ble_eq_true rfl, ⟨"EdgeHouse$Entry", (m_gi6 0 rfl rfl), Or.inl rfl⟩, m_n0 rfl, m_n0 rfl⟩, (List.forall_mem_cons.mpr ⟨⟨(R_6, F_6, 19), rfl, Nat.le_of_ble_eq_true rfl, ⟨"EdgeHouse$Request", (m_gi2 87 rfl rfl), Or.inl rfl⟩, fun _ => rfl, m_n0 rfl⟩, (List.forall_mem_cons.mpr ⟨⟨(R_6, F_6, 19), rfl, Nat.le_of_ble_eq_true rfl, ⟨"EdgeHouse$Request", (m_gi2 92 rfl rfl), Or.inl rfl⟩, fun _ => rfl, m_n0 rfl⟩, (List.forall_mem_cons.mpr ⟨⟨(R_6, F_6, 19), rfl, Nat.le_of_ble_eq_true rfl, ⟨"EdgeHouse$Request", (m_gi2 97 rfl rfl), Or.inl rfl⟩, fun _ => rfl, m_n0 rfl⟩, (List.forall_mem_cons.mpr ⟨⟨(R_6, F_6, 19), rfl, Nat.le_of_ble_eq_true rfl, ⟨"EdgeHouse$Request", (m_gi2 102 rfl rfl), Or.inl rfl⟩, fun _ => rfl, m_n0 rfl⟩, (fun _ h => absurd h List.not_mem_nil)⟩)⟩)⟩)⟩)⟩)⟩)
set_option maxRecDepth 4000 in
theorem vc_80 : ∀ q ∈ M_80.2.2.2.2.2.2.1, m_cOk M_80.1 q := (List.forall_mem_cons.mpr ⟨⟨m_n0 rfl, m_n0 rfl, m_n0 rfl, fun _ => ⟨M_81, rfl, m_n0 rfl, fun _ => ⟨(m_gi4 94 rfl rfl), (m_gi4 95 rfl rfl), (R_11, F_11, 9), rfl, rfl, (m_gi4 96 rfl rfl)⟩, m_n0 rfl, m_n0 rfl⟩⟩, (List.forall_mem_cons.mpr ⟨⟨m_n0 rfl, m_n0 rfl, m_n0 rfl, fun _ => ⟨M_82, rfl, m_n0 rfl, fun _ => ⟨(m_gi4 98 rfl rfl), (m_gi4 99 rfl rfl), (R_13, F_13, 10), rfl, rfl, (m_gi4 100 rfl rfl)⟩, m_n0 rfl, m_n0 rfl⟩⟩, (fun _ h => absurd h List.not_mem_nil)⟩)⟩)
set_option maxRecDepth 4000 in
theorem vo_80 : ∀ q ∈ M_80.2.2.2.2.2.2.2.1, m_oOk M_80.1 q := (fun _ h => absurd h List.not_mem_nil)
set_option maxRecDepth 4000 in
theorem vk_80 : ∀ q ∈ M_80.2.2.2.2.2.2.2.2, decode M_80.2.1 q.1 = .ok (q.2.1, q.2.2) := by decide +kernel
set_option maxRecDepth 4000 in
theorem v_80 : m_mOk M_80 := ⟨(m_gi4 93 rfl rfl), (m_gi1 31 rfl rfl), by decide +kernel, ⟨by decide +kernel, by decide +kernel⟩, by decide +kernel, vf_80, vc_80, vo_80, vk_80⟩
set_option maxRecDepth 4000 in
theorem vf_81 : ∀ q ∈ M_81.2.2.2.2.2.1, m_fOk M_81.1 q := (List.forall_mem_cons.mpr ⟨⟨(R_11, F_11, 9), rfl, Nat.le_of_ble_eq_true rfl, ⟨"EdgeHouse$Entry", (m_gi5 226 rfl rfl), Or.inl rfl⟩, m_n0 rfl, m_n0 rfl⟩, (List.forall_mem_cons.mpr ⟨⟨(R_11, F_11, 9), rfl, Nat.le_of_ble_eq_true rfl, ⟨"EdgeHouse$Entry", (m_gi5 230 rfl rfl), Or.inl rfl⟩, m_n0 rfl, m_n0 rfl⟩, (fun _ h => absurd h List.not_mem_nil)⟩)⟩)
set_option maxRecDepth 4000 in
theorem vc_81 : ∀ q ∈ M_81.2.2.2.2.2.2.1, m_cOk M_81.1 q := (fun _ h => absurd h List.not_mem_nil)
set_option maxRecDepth 4000 in
theorem vo_81 : ∀ q ∈ M_81.2.2.2.2.2.2.2.1, m_oOk M_81.1 q := (fun _ h => absurd h List.not_mem_nil)
set_option maxRecDepth 4000 in
theorem vk_81 : ∀ q ∈ M_81.2.2.2.2.2.2.2.2, decode M_81.2.1 q.1 = .ok (q.2.1, q.2.2) := by decide +kernel
set_option maxRecDepth 4000 in
theorem v_81 : m_mOk M_81 := ⟨(m_gi4 97 rfl rfl), (m_gi1 31 rfl rfl), by decide +kernel, ⟨by decide +kernel, by decide +kernel⟩, by decide +kernel, vf_81, vc_81, vo_81, vk_81⟩
set_option maxRecDepth 4000 in
theorem vf_82 : ∀ q ∈ M_82.2.2.2.2.2.1, m_fOk M_82.1 q := (List.forall_mem_cons.mpr ⟨⟨(R_13, F_13, 10), rfl, Nat.le_of_ble_eq_true rfl, ⟨"EdgeHouse$Told", (m_gi8 123 rfl rfl), Or.inl rfl⟩, fun _ => rfl, m_n0 rfl⟩, (fun _ h => absurd h List.not_mem_nil)⟩)
set_option maxRecDepth 4000 in
theorem vc_82 : ∀ q ∈ M_82.2.2.2.2.2.2.1, m_cOk M_82.1 q := (fun _ h => absurd h List.not_mem_nil)
set_option maxRecDepth 4000 in
theorem vo_82 : ∀ q ∈ M_82.2.2.2.2.2.2.2.1, m_oOk M_82.1 q := (fun _ h => absurd h List.not_mem_nil)
set_option maxRecDepth 4000 in
theorem vk_82 : ∀ q ∈ M_82.2.2.2.2.2.2.2.2, decode M_82.2.1 q.1 = .ok (q.2.1, q.2.2) := by decide +kernel
set_option maxRecDepth 4000 in
theorem v_82 : m_mOk M_82 := ⟨(m_gi4 101 rfl rfl), (m_gi1 13 rfl rfl), by decide +kernel, ⟨by decide +kernel, by decide +kernel⟩, by decide +kernel, vf_82, vc_82, vo_82, vk_82⟩
set_option maxRecDepth 4000 in
theorem vf_83 : ∀ q ∈ M_83.2.2.2.2.2.1, m_fOk M_83.1 q := (List.forall_mem_cons.mpr ⟨⟨(R_11, F_11, 9), rfl, Nat.le_of_ble_eq_true rfl, ⟨"EdgeHouse$Entry", (m_gi6 8 rfl rfl), Or.inl rfl⟩, fun _ => rfl, m_n0 rfl⟩, (List.forall_mem_cons.mpr ⟨⟨(R_11, F_11, 9), rfl, Nat.le_of_ble_eq_true rfl, ⟨"EdgeHouse$Entry", (m_gi6 10 rfl rfl), Or.inl rfl⟩, fun _ => rfl, m_n0 rfl⟩, (fun _ h => absurd h List.not_mem_nil)⟩)⟩)
set_option maxRecDepth 4000 in
theorem vc_83 : ∀ q ∈ M_83.2.2.2.2.2.2.1, m_cOk M_83.1 q := (fun _ h => absurd h List.not_mem_nil)
set_option maxRecDepth 4000 in
theorem vo_83 : ∀ q ∈ M_83.2.2.2.2.2.2.2.1, m_oOk M_83.1 q := (fun _ h => absurd h List.not_mem_nil)
set_option maxRecDepth 4000 in
theorem vk_83 : ∀ q ∈ M_83.2.2.2.2.2.2.2.2, decode M_83.2.1 q.1 = .ok (q.2.1, q.2.2) := by decide +kernel
set_option maxRecDepth 4000 in
theorem v_83 : m_mOk M_83 := ⟨(m_gi4 105 rfl rfl), (m_gi1 31 rfl rfl), by decide +kernel, ⟨by decide +kernel, by decide +kernel⟩, by decide +kernel, vf_83, vc_83, vo_83, vk_83⟩
set_option maxRecDepth 4000 in
theorem vf_84 : ∀ q ∈ M_84.2.2.2.2.2.1, m_fOk M_84.1 q := (List.forall_mem_cons.mpr ⟨⟨(R_6, F_6, 19), rfl, Nat.le_of_ble_eq_true rfl, ⟨"EdgeHouse$Request", (m_gi2 108 rfl rfl), Or.inl rfl⟩, fun _ => rfl, m_n0 rfl⟩, (List.forall_mem_cons.mpr ⟨⟨(R_6, F_6, 19), rfl, Nat.le_of_ble_eq_true rfl, ⟨"EdgeHouse$Request", (m_gi2 106 rfl rfl), Or.inl rfl⟩, fun _ => rfl, m_n0 rfl⟩, (List.forall_mem_cons.mpr ⟨⟨(R_11, F_11, 9), rfl, Nat.le_of_ble_eq_true rfl, ⟨"EdgeHouse$Entry", (m_gi5 236 rfl rfl), Or.inl rfl⟩, m_n0 rfl, m_n0 rfl⟩, (List.forall_mem_cons.mpr ⟨⟨(R_6, F_6, 19), rfl, Nat.le_of_ble_eq_true rfl, ⟨"EdgeHouse$Request", (m_gi2 127 rfl rfl), Or.inl rfl⟩, fun _ => rfl, m_n0 rfl⟩, (List.forall_mem_cons.mpr ⟨⟨(R_11, F_11, 9), rfl, Nat.le_of_ble_eq_true rfl, ⟨"EdgeHouse$Entry", (m_gi6 12 rfl rfl), Or.inl rfl⟩, fun _ => rfl, m_n0 rfl⟩, (List.forall_mem_cons.mpr ⟨⟨(R_13, F_13, 10), rfl, Nat.le_of_ble_eq_true rfl, ⟨"EdgeHouse$Told", (m_gi8 107 rfl rfl), Or.inl rfl⟩, fun _ => rfl, m_n0 rfl⟩, (fun _ h => absurd h List.not_mem_nil)⟩)⟩)⟩)⟩)⟩)⟩)
set_option maxRecDepth 4000 in
theorem vc_84 : ∀ q ∈ M_84.2.2.2.2.2.2.1, m_cOk M_84.1 q := (List.forall_mem_cons.mpr ⟨⟨m_n0 rfl, m_n0 rfl, m_n0 rfl, fun _ => ⟨M_85, rfl, m_n0 rfl, fun _ => ⟨(m_gi4 110 rfl rfl), (m_gi4 111 rfl rfl), (R_13, F_13, 10), rfl, rfl, (m_gi4 112 rfl rfl)⟩, m_n0 rfl, m_n0 rfl⟩⟩, (List.forall_mem_cons.mpr ⟨⟨m_n0 rfl, m_n0 rfl, m_n0 rfl, fun _ => ⟨M_86, rfl, m_n0 rfl, fun _ => ⟨(m_gi4 115 rfl rfl), (m_gi4 116 rfl rfl), (R_11, F_11, 9), rfl, rfl, (m_gi4 117 rfl rfl)⟩, m_n0 rfl, m_n0 rfl⟩⟩, (List.forall_mem_cons.mpr ⟨⟨m_n0 rfl, m_n0 rfl, m_n0 rfl, fun _ => ⟨M_87, rfl, m_n0 rfl, fun _ => ⟨(m_gi4 119 rfl rfl), (m_gi4 120 rfl rfl), (R_7, F_7, 8), rfl, rfl, (m_gi4 121 rfl rfl)⟩, m_n0 rfl, m_n0 rfl⟩⟩, (List.forall_mem_cons.mpr ⟨⟨m_n0 rfl, m_n0 rfl, m_n0 rfl, fun _ => ⟨M_88, rfl, m_n0 rfl, fun _ => ⟨(m_gi4 123 rfl rfl), (m_gi4 124 rfl rfl), (R_7, F_7, 8), rfl, rfl, (m_gi4 125 rfl rfl)⟩, m_n0 rfl, m_n0 rfl⟩⟩, (List.forall_mem_cons.mpr ⟨⟨m_n0 rfl, m_n0 rfl, m_n0 rfl, fun _ => ⟨M_89, rfl, m_n0 rfl, fun _ => ⟨(m_gi4 128 rfl rfl), (m_gi4 129 rfl rfl), (R_7, F_7, 8), rfl, rfl, (m_gi4 130 rfl rfl)⟩, m_n0 rfl, m_n0 rfl⟩⟩, (fun _ h => absurd h List.not_mem_nil)⟩)⟩)⟩)⟩)⟩)
set_option maxRecDepth 4000 in
theorem vo_84 : ∀ q ∈ M_84.2.2.2.2.2.2.2.1, m_oOk M_84.1 q := (fun _ h => absurd h List.not_mem_nil)
set_option maxRecDepth 4000 in
theorem vk_84 : ∀ q ∈ M_84.2.2.2.2.2.2.2.2, decode M_84.2.1 q.1 = .ok (q.2.1, q.2.2) := by decide +kernel
set_option maxRecDepth 4000 in
theorem v_84 : m_mOk M_84 := ⟨(m_gi4 109 rfl rfl), (m_gi1 20 rfl rfl), by decide +kernel, ⟨by decide +kernel, by decide +kernel⟩, by decide +kernel, vf_84, vc_84, vo_84, vk_84⟩
set_option maxRecDepth 4000 in
theorem vf_85 : ∀ q ∈ M_85.2.2.2.2.2.1, m_fOk M_85.1 q := (List.forall_mem_cons.mpr ⟨⟨(R_13, F_13, 10), rfl, Nat.le_of_ble_eq_true rfl, ⟨"EdgeHouse$Told", (m_gi8 108 rfl rfl), Or.inl rfl⟩, fun _ => rfl, m_n0 rfl⟩, (fun _ h => absurd h List.not_mem_nil)⟩)
set_option maxRecDepth 4000 in
theorem vc_85 : ∀ q ∈ M_85.2.2.2.2.2.2.1, m_cOk M_85.1 q := (List.forall_mem_cons.mpr ⟨⟨m_n0 rfl, m_n0 rfl, fun _ => (m_gi4 114 rfl rfl), m_n1 rfl⟩, (fun _ h => absurd h List.not_mem_nil)⟩)
set_option maxRecDepth 4000 in
theorem vo_85 : ∀ q ∈ M_85.2.2.2.2.2.2.2.1, m_oOk M_85.1 q := (fun _ h => absurd h List.not_mem_nil)
set_option maxRecDepth 4000 in
theorem vk_85 : ∀ q ∈ M_85.2.2.2.2.2.2.2.2, decode M_85.2.1 q.1 = .ok (q.2.1, q.2.2) := by decide +kernel
set_option maxRecDepth 4000 in
theorem v_85 : m_mOk M_85 := ⟨(m_gi4 113 rfl rfl), (m_gi1 13 rfl rfl), by decide +kernel, ⟨by decide +kernel, by decide +kernel⟩, by decide +kernel, vf_85, vc_85, vo_85, vk_85⟩
set_option maxRecDepth 4000 in
theorem vf_86 : ∀ q ∈ M_86.2.2.2.2.2.1, m_fOk M_86.1 q := (List.forall_mem_cons.mpr ⟨⟨(R_11, F_11, 9), rfl, Nat.le_of_ble_eq_true rfl, ⟨"EdgeHouse$Entry", (m_gi5 234 rfl rfl), Or.inl rfl⟩, m_n0 rfl, m_n0 rfl⟩, (List.forall_mem_cons.mpr ⟨⟨(R_11, F_11, 9), rfl, Nat.le_of_ble_eq_true rfl, ⟨"EdgeHouse$Entry", (m_gi6 0 rfl rfl), Or.inl rfl⟩, m_n0 rfl, m_n0 rfl⟩, (List.forall_mem_cons.mpr ⟨⟨(R_13, F_13, 10), rfl, Nat.le_of_ble_eq_true rfl, ⟨"EdgeHouse$Told", (m_gi8 104 rfl rfl), Or.inl rfl⟩, fun _ => rfl, m_n0 rfl⟩, (fun _ h => absurd h List.not_mem_nil)⟩)⟩)⟩)
set_option maxRecDepth 4000 in
theorem vc_86 : ∀ q ∈ M_86.2.2.2.2.2.2.1, m_cOk M_86.1 q := (fun _ h => absurd h List.not_mem_nil)
set_option maxRecDepth 4000 in
theorem vo_86 : ∀ q ∈ M_86.2.2.2.2.2.2.2.1, m_oOk M_86.1 q := (fun _ h => absurd h List.not_mem_nil)
set_option maxRecDepth 4000 in
theorem vk_86 : ∀ q ∈ M_86.2.2.2.2.2.2.2.2, decode M_86.2.1 q.1 = .ok (q.2.1, q.2.2) := by decide +kernel
set_option maxRecDepth 4000 in
theorem v_86 : m_mOk M_86 := ⟨(m_gi4 118 rfl rfl), (m_gi1 31 rfl rfl), by decide +kernel, ⟨by decide +kernel, by decide +kernel⟩, by decide +kernel, vf_86, vc_86, vo_86, vk_86⟩
set_option maxRecDepth 4000 in
theorem vf_87 : ∀ q ∈ M_87.2.2.2.2.2.1, m_fOk M_87.1 q := (List.forall_mem_cons.mpr ⟨⟨(R_7, F_7, 8), rfl, Nat.le_of_ble_eq_true rfl, ⟨"EdgeHouse$Conditions", (m_gi2 186 rfl rfl), Or.inl rfl⟩, fun _ => rfl, m_n0 rfl⟩, (List.forall_mem_cons.mpr ⟨⟨(R_7, F_7, 8), rfl, Nat.le_of_ble_eq_true rfl, ⟨"EdgeHouse$Conditions", (m_gi2 200 rfl rfl), Or.inl rfl⟩, fun _ => rfl, m_n0 rfl⟩, (fun _ h => absurd h List.not_mem_nil)⟩)⟩)
set_option maxRecDepth 4000 in
theorem vc_87 : ∀ q ∈ M_87.2.2.2.2.2.2.1, m_cOk M_87.1 q := (fun _ h => absurd h List.not_mem_nil)
set_option maxRecDepth 4000 in
theorem vo_87 : ∀ q ∈ M_87.2.2.2.2.2.2.2.1, m_oOk M_87.1 q := (fun _ h => absurd h List.not_mem_nil)
set_option maxRecDepth 4000 in
theorem vk_87 : ∀ q ∈ M_87.2.2.2.2.2.2.2.2, decode M_87.2.1 q.1 = .ok (q.2.1, q.2.2) := by decide +kernel
set_option maxRecDepth 4000 in
theorem v_87 : m_mOk M_87 := ⟨(m_gi4 122 rfl rfl), (m_gi1 21 rfl rfl), by decide +kernel, ⟨by decide +kernel, by decide +kernel⟩, by decide +kernel, vf_87, vc_87, vo_87, vk_87⟩
set_option maxRecDepth 4000 in
theorem vf_88 : ∀ q ∈ M_88.2.2.2.2.2.1, m_fOk M_88.1 q := (List.forall_mem_cons.mpr ⟨⟨(R_7, F_7, 8), rfl, Nat.le_of_ble_eq_true rfl, ⟨"EdgeHouse$Conditions", (m_gi2 186 rfl rfl), Or.inl rfl⟩, fun _ => rfl, m_n0 rfl⟩, (List.forall_mem_cons.mpr ⟨⟨(R_7, F_7, 8), rfl, Nat.le_of_ble_eq_true rfl, ⟨"EdgeHouse$Conditions", (m_gi2 189 rfl rfl), Or.inl rfl⟩, fun _ => rfl, m_n0 rfl⟩, (fun _ h => absurd h List.not_mem_nil)⟩)⟩)
set_option maxRecDepth 4000 in
theorem vc_88 : ∀ q ∈ M_88.2.2.2.2.2.2.1, m_cOk M_88.1 q := (List.forall_mem_cons.mpr ⟨⟨m_n0 rfl, fun _ => (m_gi4 127 rfl rfl), m_n0 rfl, m_n1 rfl⟩, (fun _ h => absurd h List.not_mem_nil)⟩)
set_option maxRecDepth 4000 in
theorem vo_88 : ∀ q ∈ M_88.2.2.2.2.2.2.2.1, m_oOk M_88.1 q := (fun _ h => absurd h List.not_mem_nil)
set_option maxRecDepth 4000 in
theorem vk_88 : ∀ q ∈ M_88.2.2.2.2.2.2.2.2, decode M_88.2.1 q.1 = .ok (q.2.1, q.2.2) := by decide +kernel
set_option maxRecDepth 4000 in
theorem v_88 : m_mOk M_88 := ⟨(m_gi4 126 rfl rfl), (m_gi1 21 rfl rfl), by decide +kernel, ⟨by decide +kernel, by decide +kernel⟩, by decide +kernel, vf_88, vc_88, vo_88, vk_88⟩
set_option maxRecDepth 4000 in
theorem vf_89 : ∀ q ∈ M_89.2.2.2.2.2.1, m_fOk M_89.1 q := (List.forall_mem_cons.mpr ⟨⟨(R_7, F_7, 8), rfl, Nat.le_of_ble_eq_true rfl, ⟨"EdgeHouse$Conditions", (m_gi2 186 rfl rfl), Or.inl rfl⟩, fun _ => rfl, m_n0 rfl⟩, (List.forall_mem_cons.mpr ⟨⟨(R_7, F_7, 8), rfl, Nat.le_of_ble_eq_true rfl, ⟨"EdgeHouse$Conditions", (m_gi2 192 rfl rfl), Or.inl rfl⟩, fun _ => rfl, m_n0 rfl⟩, (fun _ h => absurd h List.not_mem_nil)⟩)⟩)
set_option maxRecDepth 4000 in
theorem vc_89 : ∀ q ∈ M_89.2.2.2.2.2.2.1, m_cOk M_89.1 q := (List.forall_mem_cons.mpr ⟨⟨m_n0 rfl, m_n0 rfl, fun _ => (m_gi4 132 rfl rfl), m_n1 rfl⟩, (fun _ h => absurd h List.not_mem_nil)⟩)
set_option maxRecDepth 4000 in
theorem vo_89 : ∀ q ∈ M_89.2.2.2.2.2.2.2.1, m_oOk M_89.1 q := (fun _ h => absurd h List.not_mem_nil)
set_option maxRecDepth 4000 in
theorem vk_89 : ∀ q ∈ M_89.2.2.2.2.2.2.2.2, decode M_89.2.1 q.1 = .ok (q.2.1, q.2.2) := by decide +kernel
set_option maxRecDepth 4000 in
theorem v_89 : m_mOk M_89 := ⟨(m_gi4 131 rfl rfl), (m_gi1 21 rfl rfl), by decide +kernel, ⟨by decide +kernel, by decide +kernel⟩, by decide +kernel, vf_89, vc_89, vo_89, vk_89⟩
set_option maxRecDepth 4000 in
theorem vf_90 : ∀ q ∈ M_90.2.2.2.2.2.1, m_fOk M_90.1 q := (List.forall_mem_cons.mpr ⟨⟨(R_6, F_6, 19), rfl, Nat.le_of_ble_eq_true rfl, ⟨"EdgeHouse$Request", (m_gi2 117 rfl rfl), Or.inl rfl⟩, fun _ => rfl, m_n0 rfl⟩, (List.forall_mem_cons.mpr ⟨⟨(R_6, F_6, 19), rfl, Nat.le_of_ble_eq_true rfl, ⟨"EdgeHouse$Request", (m_gi2 119 rfl rfl), Or.inl rfl⟩, fun _ => rfl, m_n0 rfl⟩, (fun _ h => absurd h List.not_mem_nil)⟩)⟩)
set_option maxRecDepth 4000 in
theorem vc_90 : ∀ q ∈ M_90.2.2.2.2.2.2.1, m_cOk M_90.1 q := (List.forall_mem_cons.mpr ⟨⟨m_n0 rfl, fun _ => (m_gi4 137 rfl rfl), m_n0 rfl, m_n1 rfl⟩, (List.forall_mem_cons.mpr ⟨⟨m_n0 rfl, m_n0 rfl, m_n0 rfl, fun _ => ⟨M_91, rfl, m_n0 rfl, fun _ => ⟨(m_gi4 138 rfl rfl), (m_gi4 139 rfl rfl), (R_13, F_13, 10), rfl, rfl, (m_gi4 140 rfl rfl)⟩, m_n0 rfl, m_n0 rfl⟩⟩, (fun _ h => absurd h List.not_mem_nil)⟩)⟩)
set_option maxRecDepth 4000 in
theorem vo_90 : ∀ q ∈ M_90.2.2.2.2.2.2.2.1, m_oOk M_90.1 q := (fun _ h => absurd h List.not_mem_nil)
set_option maxRecDepth 4000 in
theorem vk_90 : ∀ q ∈ M_90.2.2.2.2.2.2.2.2, decode M_90.2.1 q.1 = .ok (q.2.1, q.2.2) := by decide +kernel
set_option maxRecDepth 4000 in
theorem v_90 : m_mOk M_90 := ⟨(m_gi4 136 rfl rfl), (m_gi1 20 rfl rfl), by decide +kernel, ⟨by decide +kernel, by decide +kernel⟩, by decide +kernel, vf_90, vc_90, vo_90, vk_90⟩
set_option maxRecDepth 4000 in
theorem vf_91 : ∀ q ∈ M_91.2.2.2.2.2.1, m_fOk M_91.1 q := (List.forall_mem_cons.mpr ⟨⟨(R_13, F_13, 10), rfl, Nat.le_of_ble_eq_true rfl, ⟨"EdgeHouse$Told", (m_gi8 118 rfl rfl), Or.inl rfl⟩, fun _ => rfl, m_n0 rfl⟩, (List.forall_mem_cons.mpr ⟨⟨(R_13, F_13, 10), rfl, Nat.le_of_ble_eq_true rfl, ⟨"EdgeHouse$Told", (m_gi8 110 rfl rfl), Or.inl rfl⟩, fun _ => rfl, m_n0 rfl⟩, (fun _ h => absurd h List.not_mem_nil)⟩)⟩)
set_option maxRecDepth 4000 in
theorem vc_91 : ∀ q ∈ M_91.2.2.2.2.2.2.1, m_cOk M_91.1 q := (fun _ h => absurd h List.not_mem_nil)
set_option maxRecDepth 4000 in
theorem vo_91 : ∀ q ∈ M_91.2.2.2.2.2.2.2.1, m_oOk M_91.1 q := (fun _ h => absurd h List.not_mem_nil)
set_option maxRecDepth 4000 in
theorem vk_91 : ∀ q ∈ M_91.2.2.2.2.2.2.2.2, decode M_91.2.1 q.1 = .ok (q.2.1, q.2.2) := by decide +kernel
set_option maxRecDepth 4000 in
theorem v_91 : m_mOk M_91 := ⟨(m_gi4 141 rfl rfl), (m_gi1 13 rfl rfl), by decide +kernel, ⟨by decide +kernel, by decide +kernel⟩, by decide +kernel, vf_91, vc_91, vo_91, vk_91⟩
set_option maxRecDepth 4000 in
theorem vf_92 : ∀ q ∈ M_92.2.2.2.2.2.1, m_fOk M_92.1 q := (List.forall_mem_cons.mpr ⟨⟨(R_5, F_5, 3), rfl, Nat.le_of_ble_eq_true rfl, ⟨"EdgeHouse$Store", (m_gi1 180 rfl rfl), Or.inl rfl⟩, m_n0 rfl, m_n0 rfl⟩, (List.forall_mem_cons.mpr ⟨⟨(R_11, F_11, 9), rfl, Nat.le_of_ble_eq_true rfl, ⟨"EdgeHouse$Entry", (m_gi6 16 rfl rfl), Or.inl rfl⟩, fun _ => rfl, m_n0 rfl⟩, (fun _ h => absurd h List.not_mem_nil)⟩)⟩)
set_option maxRecDepth 4000 in
theorem vc_92 : ∀ q ∈ M_92.2.2.2.2.2.2.1, m_cOk M_92.1 q := (List.forall_mem_cons.mpr ⟨⟨m_n0 rfl, m_n0 rfl, m_n0 rfl, fun _ => ⟨M_62, rfl, m_n0 rfl, fun _ => ⟨(m_gi4 163 rfl rfl), (m_gi3 222 rfl rfl), (R_2, F_2, 3), rfl, rfl, (m_gi3 223 rfl rfl)⟩, m_n0 rfl, m_n0 rfl⟩⟩, (List.forall_mem_cons.mpr ⟨⟨m_n0 rfl, m_n0 rfl, m_n0 rfl, fun _ => ⟨M_97, rfl, m_n0 rfl, fun _ => ⟨(m_gi4 164 rfl rfl), (m_gi4 165 rfl rfl), (R_5, F_5, 3), rfl, rfl, (m_gi4 166 rfl rfl)⟩, m_n0 rfl, m_n0 rfl⟩⟩, (List.forall_mem_cons.mpr ⟨⟨m_n0 rfl, m_n0 rfl, m_n0 rfl, fun _ => ⟨M_93, rfl, m_n0 rfl, fun _ => ⟨(m_gi4 146 rfl rfl), (m_gi4 147 rfl rfl), (R_5, F_5, 3), rfl, rfl, (m_gi4 148 rfl rfl)⟩, m_n0 rfl, m_n0 rfl⟩⟩, (fun _ h => absurd h List.not_mem_nil)⟩)⟩)⟩)
set_option maxRecDepth 4000 in
theorem vo_92 : ∀ q ∈ M_92.2.2.2.2.2.2.2.1, m_oOk M_92.1 q := (fun _ h => absurd h List.not_mem_nil)
set_option maxRecDepth 4000 in
theorem vk_92 : ∀ q ∈ M_92.2.2.2.2.2.2.2.2, decode M_92.2.1 q.1 = .ok (q.2.1, q.2.2) := by decide +kernel
set_option maxRecDepth 4000 in
theorem v_92 : m_mOk M_92 := ⟨(m_gi4 145 rfl rfl), (m_gi1 11 rfl rfl), by decide +kernel, ⟨by decide +kernel, by decide +kernel⟩, by decide +kernel, vf_92, vc_92, vo_92, vk_92⟩
set_option maxRecDepth 4000 in
theorem vf_93 : ∀ q ∈ M_93.2.2.2.2.2.1, m_fOk M_93.1 q := (List.forall_mem_cons.mpr ⟨⟨(R_5, F_5, 3), rfl, Nat.le_of_ble_eq_true rfl, ⟨"EdgeHouse$Store", (m_gi1 178 rfl rfl), Or.inl rfl⟩, m_n0 rfl, m_n0 rfl⟩, (List.forall_mem_cons.mpr ⟨⟨(R_5, F_5, 3), rfl, Nat.le_of_ble_eq_true rfl, ⟨"EdgeHouse$Store", (m_gi1 180 rfl rfl), Or.inl rfl⟩, m_n0 rfl, m_n0 rfl⟩, (List.forall_mem_cons.mpr ⟨⟨(R_11, F_11, 9), rfl, Nat.le_of_ble_eq_true rfl, ⟨"EdgeHouse$Entry", (m_gi6 16 rfl rfl), Or.inl rfl⟩, fun _ => rfl, m_n0 rfl⟩, (fun _ h => absurd h List.not_mem_nil)⟩)⟩)⟩)
set_option maxRecDepth 4000 in
theorem vc_93 : ∀ q ∈ M_93.2.2.2.2.2.2.1, m_cOk M_93.1 q := (List.forall_mem_cons.mpr ⟨⟨m_n0 rfl, m_n0 rfl, m_n0 rfl, fun _ => ⟨M_95, rfl, m_n0 rfl, fun _ => ⟨(m_gi4 154 rfl rfl), (m_gi4 155 rfl rfl), (R_2, F_2, 3), rfl, rfl, (m_gi4 156 rfl rfl)⟩, m_n0 rfl, m_n0 rfl⟩⟩, (List.forall_mem_cons.mpr ⟨⟨m_n0 rfl, m_n0 rfl, m_n0 rfl, fun _ => ⟨M_94, rfl, m_n0 rfl, fun _ => ⟨(m_gi4 150 rfl rfl), (m_gi4 151 rfl rfl), (R_5, F_5, 3), rfl, rfl, (m_gi4 152 rfl rfl)⟩, m_n0 rfl, m_n0 rfl⟩⟩, (fun _ h => absurd h List.not_mem_nil)⟩)⟩)
set_option maxRecDepth 4000 in
theorem vo_93 : ∀ q ∈ M_93.2.2.2.2.2.2.2.1, m_oOk M_93.1 q := (fun _ h => absurd h List.not_mem_nil)
set_option maxRecDepth 4000 in
theorem vk_93 : ∀ q ∈ M_93.2.2.2.2.2.2.2.2, decode M_93.2.1 q.1 = .ok (q.2.1, q.2.2) := by decide +kernel
set_option maxRecDepth 4000 in
theorem v_93 : m_mOk M_93 := ⟨(m_gi4 149 rfl rfl), (m_gi1 11 rfl rfl), by decide +kernel, ⟨by decide +kernel, by decide +kernel⟩, by decide +kernel, vf_93, vc_93, vo_93, vk_93⟩
set_option maxRecDepth 4000 in
theorem vf_94 : ∀ q ∈ M_94.2.2.2.2.2.1, m_fOk M_94.1 q := (List.forall_mem_cons.mpr ⟨⟨(R_5, F_5, 3), rfl, Nat.le_of_ble_eq_true rfl, ⟨"EdgeHouse$Store", (m_gi1 178 rfl rfl), Or.inl rfl⟩, m_n0 rfl, m_n0 rfl⟩, (List.forall_mem_cons.mpr ⟨⟨(R_5, F_5, 3), rfl, Nat.le_of_ble_eq_true rfl, ⟨"EdgeHouse$Store", (m_gi1 180 rfl rfl), Or.inl rfl⟩, m_n0 rfl, m_n0 rfl⟩, (List.forall_mem_cons.mpr ⟨⟨(R_11, F_11, 9), rfl, Nat.le_of_ble_eq_true rfl, ⟨"EdgeHouse$Entry", (m_gi6 16 rfl rfl), Or.inl rfl⟩, fun _ => rfl, m_n0 rfl⟩, (fun _ h => absurd h List.not_mem_nil)⟩)⟩)⟩)
set_option maxRecDepth 4000 in
theorem vc_94 : ∀ q ∈ M_94.2.2.2.2.2.2.1, m_cOk M_94.1 q := (List.forall_mem_cons.mpr ⟨⟨m_n0 rfl, m_n0 rfl, m_n0 rfl, fun _ => ⟨M_17, rfl, m_n0 rfl, fun _ => ⟨(m_gi4 72 rfl rfl), (m_gi2 68 rfl rfl), (R_2, F_2, 3), rfl, rfl, (m_gi2 69 rfl rfl)⟩, m_n0 rfl, m_n0 rfl⟩⟩, (List.forall_mem_cons.mpr ⟨⟨m_n0 rfl, m_n0 rfl, m_n0 rfl, fun _ => ⟨M_77, rfl, m_n0 rfl, fun _ => ⟨(m_gi4 77 rfl rfl), (m_gi4 78 rfl rfl), (R_2, F_2, 3), rfl, rfl, (m_gi4 79 rfl rfl)⟩, m_n0 rfl, m_n0 rfl⟩⟩, (fun _ h => absurd h List.not_mem_nil)⟩)⟩)
set_option maxRecDepth 4000 in
theorem vo_94 : ∀ q ∈ M_94.2.2.2.2.2.2.2.1, m_oOk M_94.1 q := (fun _ h => absurd h List.not_mem_nil)
set_option maxRecDepth 4000 in
theorem vk_94 : ∀ q ∈ M_94.2.2.2.2.2.2.2.2, decode M_94.2.1 q.1 = .ok (q.2.1, q.2.2) := by decide +kernel
set_option maxRecDepth 4000 in
theorem v_94 : m_mOk M_94 := ⟨(m_gi4 153 rfl rfl), (m_gi1 11 rfl rfl), by decide +kernel, ⟨by decide +kernel, by decide +kernel⟩, by decide +kernel, vf_94, vc_94, vo_94, vk_94⟩
set_option maxRecDepth 4000 in
theorem vf_95 : ∀ q ∈ M_95.2.2.2.2.2.1, m_fOk M_95.1 q := (List.forall_mem_cons.mpr ⟨⟨(R_2, F_2, 3), rfl, Nat.le_of_ble_eq_true rfl, ⟨"java/util/ArrayList", (m_gi1 120 rfl rfl), Or.inl rfl⟩, fun _ => rfl, m_n0 rfl⟩, (List.forall_mem_cons.mpr ⟨⟨(R_2, F_2, 3), rfl, Nat.le_of_ble_eq_true rfl, ⟨"java/util/ArrayList", (m_gi1 121 rfl rfl), Or.inl rfl⟩, fun _ => rfl, m_n0 rfl⟩, (fun _ h => absurd h List.not_mem_nil)⟩)⟩)
set_option maxRecDepth 4000 in
theorem vc_95 : ∀ q ∈ M_95.2.2.2.2.2.2.1, m_cOk M_95.1 q := (List.forall_mem_cons.mpr ⟨⟨m_n0 rfl, m_n0 rfl, m_n0 rfl, fun _ => ⟨M_78, rfl, m_n0 rfl, m_n0 rfl, fun _ => ⟨(m_gi4 81 rfl rfl), (m_gi4 82 rfl rfl)⟩, m_n0 rfl⟩⟩, (List.forall_mem_cons.mpr ⟨⟨m_n0 rfl, m_n0 rfl, m_n0 rfl, fun _ => ⟨M_96, rfl, m_n0 rfl, fun _ => ⟨(m_gi4 158 rfl rfl), (m_gi4 160 rfl rfl), (R_2, F_2, 3), rfl, rfl, (m_gp 6 rfl rfl)⟩, m_n0 rfl, m_n0 rfl⟩⟩, (fun _ h => absurd h List.not_mem_nil)⟩)⟩)
set_option maxRecDepth 4000 in
theorem vo_95 : ∀ q ∈ M_95.2.2.2.2.2.2.2.1, m_oOk M_95.1 q := (fun _ h => absurd h List.not_mem_nil)
set_option maxRecDepth 4000 in
theorem vk_95 : ∀ q ∈ M_95.2.2.2.2.2.2.2.2, decode M_95.2.1 q.1 = .ok (q.2.1, q.2.2) := by decide +kernel
set_option maxRecDepth 4000 in
theorem v_95 : m_mOk M_95 := ⟨(m_gi4 157 rfl rfl), (m_gi1 5 rfl rfl), by decide +kernel, ⟨by decide +kernel, by decide +kernel⟩, by decide +kernel, vf_95, vc_95, vo_95, vk_95⟩
set_option maxRecDepth 4000 in
theorem vf_96 : ∀ q ∈ M_96.2.2.2.2.2.1, m_fOk M_96.1 q := (List.forall_mem_cons.mpr ⟨⟨(R_2, F_2, 3), rfl, Nat.le_of_ble_eq_true rfl, ⟨"java/util/ArrayList", (m_gi1 121 rfl rfl), Or.inl rfl⟩, fun _ => rfl, m_n0 rfl⟩, (List.forall_mem_cons.mpr ⟨⟨(R_2, F_2, 3), rfl, Nat.le_of_ble_eq_true rfl, ⟨"java/util/ArrayList", (m_gi1 123 rfl rfl), Or.inr (m_gi1 124 rfl rfl)⟩, fun _ => rfl, m_n0 rfl⟩, (fun _ h => absurd h List.not_mem_nil)⟩)⟩)
set_option maxRecDepth 4000 in
theorem vc_96 : ∀ q ∈ M_96.2.2.2.2.2.2.1, m_cOk M_96.1 q := (fun _ h => absurd h List.not_mem_nil)
set_option maxRecDepth 4000 in
theorem vo_96 : ∀ q ∈ M_96.2.2.2.2.2.2.2.1, m_oOk M_96.1 q := (fun _ h => absurd h List.not_mem_nil)
set_option maxRecDepth 4000 in
theorem vk_96 : ∀ q ∈ M_96.2.2.2.2.2.2.2.2, decode M_96.2.1 q.1 = .ok (q.2.1, q.2.2) := by decide +kernel
set_option maxRecDepth 4000 in
theorem v_96 : m_mOk M_96 := ⟨(m_gi4 161 rfl rfl), (m_gi1 5 rfl rfl), by decide +kernel, ⟨by decide +kernel, by decide +kernel⟩, by decide +kernel, vf_96, vc_96, vo_96, vk_96⟩
set_option maxRecDepth 4000 in
theorem vf_97 : ∀ q ∈ M_97.2.2.2.2.2.1, m_fOk M_97.1 q := (List.forall_mem_cons.mpr ⟨⟨(R_5, F_5, 3), rfl, Nat.le_of_ble_eq_true rfl, ⟨"EdgeHouse$Store", (m_gi1 178 rfl rfl), Or.inl rfl⟩, m_n0 rfl, m_n0 rfl⟩, (List.forall_mem_cons.mpr ⟨⟨(R_5, F_5, 3), rfl, Nat.le_of_ble_eq_true rfl, ⟨"EdgeHouse$Store", (m_gi1 180 rfl rfl), Or.inl rfl⟩, m_n0 rfl, m_n0 rfl⟩, (List.forall_mem_cons.mpr ⟨⟨(R_5, F_5, 3), rfl, Nat.le_of_ble_eq_true rfl, ⟨"EdgeHouse$Store", (m_gi1 182 rfl rfl), Or.inl rfl⟩, fun _ => rfl, m_n0 rfl⟩, (List.forall_mem_cons.mpr ⟨⟨(R_11, F_11, 9), rfl, Nat.le_of_ble_eq_true rfl, ⟨"EdgeHouse$Entry", (m_gi6 16 rfl rfl), Or.inl rfl⟩, fun _ => rfl, m_n0 rfl⟩, (fun _ h => absurd h List.not_mem_nil)⟩)⟩)⟩)⟩)
set_option maxRecDepth 4000 in
theorem vc_97 : ∀ q ∈ M_97.2.2.2.2.2.2.1, m_cOk M_97.1 q := (List.forall_mem_cons.mpr ⟨⟨m_n0 rfl, m_n0 rfl, m_n0 rfl, fun _ => ⟨M_75, rfl, m_n0 rfl, fun _ => ⟨(m_gi4 68 rfl rfl), (m_gi4 69 rfl rfl), (R_5, F_5, 3), rfl, rfl, (m_gi4 70 rfl rfl)⟩, m_n0 rfl, m_n0 rfl⟩⟩, (List.forall_mem_cons.mpr ⟨⟨m_n0 rfl, m_n0 rfl, m_n0 rfl, fun _ => ⟨M_95, rfl, m_n0 rfl, fun _ => ⟨(m_gi4 154 rfl rfl), (m_gi4 155 rfl rfl), (R_2, F_2, 3), rfl, rfl, (m_gi4 156 rfl rfl)⟩, m_n0 rfl, m_n0 rfl⟩⟩, (List.forall_mem_cons.mpr ⟨⟨m_n0 rfl, m_n0 rfl, m_n0 rfl, fun _ => ⟨M_62, rfl, m_n0 rfl, fun _ => ⟨(m_gi4 163 rfl rfl), (m_gi3 222 rfl rfl), (R_2, F_2, 3), rfl, rfl, (m_gi3 223 rfl rfl)⟩, m_n0 rfl, m_n0 rfl⟩⟩, (List.forall_mem_cons.mpr ⟨⟨m_n0 rfl, m_n0 rfl, m_n0 rfl, fun _ => ⟨M_99, rfl, m_n0 rfl, fun _ => ⟨(m_gi4 172 rfl rfl), (m_gi4 173 rfl rfl), (R_11, F_11, 9), rfl, rfl, (m_gi4 174 rfl rfl)⟩, m_n0 rfl, m_n0 rfl⟩⟩, (List.forall_mem_cons.mpr ⟨⟨m_n0 rfl, m_n0 rfl, m_n0 rfl, fun _ => ⟨M_98, rfl, m_n0 rfl, fun _ => ⟨(m_gi4 168 rfl rfl), (m_gi4 169 rfl rfl), (R_5, F_5, 3), rfl, rfl, (m_gi4 170 rfl rfl)⟩, m_n0 rfl, m_n0 rfl⟩⟩, (List.forall_mem_cons.mpr ⟨⟨m_n0 rfl, m_n0 rfl, m_n0 rfl, fun _ => ⟨M_101, rfl, m_n0 rfl, fun _ => ⟨(m_gi4 182 rfl rfl), (m_gi4 183 rfl rfl), (R_2, F_2, 3), rfl, rfl, (m_gi4 184 rfl rfl)⟩, m_n0 rfl, m_n0 rfl⟩⟩, (fun _ h => absurd h List.not_mem_nil)⟩)⟩)⟩)⟩)⟩)⟩)
set_option maxRecDepth 4000 in
theorem vo_97 : ∀ q ∈ M_97.2.2.2.2.2.2.2.1, m_oOk M_97.1 q := (List.forall_mem_cons.mpr ⟨⟨m_n0 rfl, m_n0 rfl, m_n0 rfl, m_n0 rfl, m_n0 rfl, m_n0 rfl, fun _ => ⟨(R_11, F_11, 9), rfl, (m_gi4 89 rfl rfl), (List.mem_filter.mpr ⟨m_in12 (List.mem_of_getElem? (i := 50) rfl), rfl⟩)⟩, Nat.le_of_ble_eq_true rfl⟩, (fun _ h => absurd h List.not_mem_nil)⟩)
set_option maxRecDepth 4000 in
theorem vk_97 : ∀ q ∈ M_97.2.2.2.2.2.2.2.2, decode M_97.2.1 q.1 = .ok (q.2.1, q.2.2) := by decide +kernel
set_option maxRecDepth 4000 in
theorem v_97 : m_mOk M_97 := ⟨(m_gi4 167 rfl rfl), (m_gi1 11 rfl rfl), by decide +kernel, ⟨by decide +kernel, by decide +kernel⟩, by decide +kernel, vf_97, vc_97, vo_97, vk_97⟩
set_option maxRecDepth 4000 in
theorem vf_98 : ∀ q ∈ M_98.2.2.2.2.2.1, m_fOk M_98.1 q := (fun _ h => absurd h List.not_mem_nil)
set_option maxRecDepth 4000 in
theorem vc_98 : ∀ q ∈ M_98.2.2.2.2.2.2.1, m_cOk M_98.1 q := (List.forall_mem_cons.mpr ⟨⟨m_n0 rfl, m_n0 rfl, m_n0 rfl, fun _ => ⟨M_17, rfl, m_n0 rfl, fun _ => ⟨(m_gi4 72 rfl rfl), (m_gi2 68 rfl rfl), (R_2, F_2, 3), rfl, rfl, (m_gi2 69 rfl rfl)⟩, m_n0 rfl, m_n0 rfl⟩⟩, (List.forall_mem_cons.mpr ⟨⟨m_n0 rfl, m_n0 rfl, m_n0 rfl, fun _ => ⟨M_77, rfl, m_n0 rfl, fun _ => ⟨(m_gi4 77 rfl rfl), (m_gi4 78 rfl rfl), (R_2, F_2, 3), rfl, rfl, (m_gi4 79 rfl rfl)⟩, m_n0 rfl, m_n0 rfl⟩⟩, (List.forall_mem_cons.mpr ⟨⟨m_n0 rfl, m_n0 rfl, m_n0 rfl, fun _ => ⟨M_99, rfl, m_n0 rfl, fun _ => ⟨(m_gi4 172 rfl rfl), (m_gi4 173 rfl rfl), (R_11, F_11, 9), rfl, rfl, (m_gi4 174 rfl rfl)⟩, m_n0 rfl, m_n0 rfl⟩⟩, (fun _ h => absurd h List.not_mem_nil)⟩)⟩)⟩)
set_option maxRecDepth 4000 in
theorem vo_98 : ∀ q ∈ M_98.2.2.2.2.2.2.2.1, m_oOk M_98.1 q := (List.forall_mem_cons.mpr ⟨⟨m_n0 rfl, m_n0 rfl, m_n0 rfl, m_n0 rfl, m_n0 rfl, m_n0 rfl, fun _ => ⟨(R_11, F_11, 9), rfl, (m_gi4 89 rfl rfl), (List.mem_filter.mpr ⟨m_in12 (List.mem_of_getElem? (i := 50) rfl), rfl⟩)⟩, Nat.le_of_ble_eq_true rfl⟩, (fun _ h => absurd h List.not_mem_nil)⟩)
set_option maxRecDepth 4000 in
theorem vk_98 : ∀ q ∈ M_98.2.2.2.2.2.2.2.2, decode M_98.2.1 q.1 = .ok (q.2.1, q.2.2) := by decide +kernel
set_option maxRecDepth 4000 in
theorem v_98 : m_mOk M_98 := ⟨(m_gi4 171 rfl rfl), (m_gi1 11 rfl rfl), by decide +kernel, ⟨by decide +kernel, by decide +kernel⟩, by decide +kernel, vf_98, vc_98, vo_98, vk_98⟩
set_option maxRecDepth 4000 in
theorem vf_99 : ∀ q ∈ M_99.2.2.2.2.2.1, m_fOk M_99.1 q := (List.forall_mem_cons.mpr ⟨⟨(R_11, F_11, 9), rfl, Nat.le_of_ble_eq_true rfl, ⟨"EdgeHouse$Entry", (m_gi6 14 rfl rfl), Or.inl rfl⟩, fun _ => rfl, m_n0 rfl⟩, (fun _ h => absurd h List.not_mem_nil)⟩)
set_option maxRecDepth 4000 in
theorem vc_99 : ∀ q ∈ M_99.2.2.2.2.2.2.1, m_cOk M_99.1 q := (List.forall_mem_cons.mpr ⟨⟨m_n0 rfl, m_n0 rfl, m_n0 rfl, fun _ => ⟨M_100, rfl, m_n0 rfl, m_n0 rfl, fun _ => ⟨(m_gi4 176 rfl rfl), (m_gi4 177 rfl rfl)⟩, m_n0 rfl⟩⟩, (fun _ h => absurd h List.not_mem_nil)⟩)
set_option maxRecDepth 4000 in
theorem vo_99 : ∀ q ∈ M_99.2.2.2.2.2.2.2.1, m_oOk M_99.1 q := (fun _ h => absurd h List.not_mem_nil)
set_option maxRecDepth 4000 in
theorem vk_99 : ∀ q ∈ M_99.2.2.2.2.2.2.2.2, decode M_99.2.1 q.1 = .ok (q.2.1, q.2.2) := by decide +kernel
set_option maxRecDepth 4000 in
theorem v_99 : m_mOk M_99 := ⟨(m_gi4 175 rfl rfl), (m_gi1 31 rfl rfl), by decide +kernel, ⟨by decide +kernel, by decide +kernel⟩, by decide +kernel, vf_99, vc_99, vo_99, vk_99⟩
set_option maxRecDepth 4000 in
theorem vf_100 : ∀ q ∈ M_100.2.2.2.2.2.1, m_fOk M_100.1 q := (fun _ h => absurd h List.not_mem_nil)
set_option maxRecDepth 4000 in
theorem vc_100 : ∀ q ∈ M_100.2.2.2.2.2.2.1, m_cOk M_100.1 q := (fun _ h => absurd h List.not_mem_nil)
set_option maxRecDepth 4000 in
theorem vo_100 : ∀ q ∈ M_100.2.2.2.2.2.2.2.1, m_oOk M_100.1 q := (List.forall_mem_cons.mpr ⟨⟨m_n0 rfl, m_n0 rfl, fun _ => ⟨_, rfl, (m_gi4 179 rfl rfl)⟩, m_n0 rfl, m_n0 rfl, m_n0 rfl, m_n0 rfl, Nat.le_of_ble_eq_true rfl⟩, (List.forall_mem_cons.mpr ⟨⟨m_n0 rfl, m_n0 rfl, fun _ => ⟨_, rfl, (m_gi4 180 rfl rfl)⟩, m_n0 rfl, m_n0 rfl, m_n0 rfl, m_n0 rfl, Nat.le_of_ble_eq_true rfl⟩, (List.forall_mem_cons.mpr ⟨⟨m_n0 rfl, m_n0 rfl, fun _ => ⟨_, rfl, (m_gi4 181 rfl rfl)⟩, m_n0 rfl, m_n0 rfl, m_n0 rfl, m_n0 rfl, Nat.le_of_ble_eq_true rfl⟩, (fun _ h => absurd h List.not_mem_nil)⟩)⟩)⟩)
set_option maxRecDepth 4000 in
theorem vk_100 : ∀ q ∈ M_100.2.2.2.2.2.2.2.2, decode M_100.2.1 q.1 = .ok (q.2.1, q.2.2) := by decide +kernel
set_option maxRecDepth 4000 in
theorem v_100 : m_mOk M_100 := ⟨(m_gi4 178 rfl rfl), (m_gi1 28 rfl rfl), by decide +kernel, ⟨by decide +kernel, by decide +kernel⟩, by decide +kernel, vf_100, vc_100, vo_100, vk_100⟩
set_option maxRecDepth 4000 in
theorem vf_101 : ∀ q ∈ M_101.2.2.2.2.2.1, m_fOk M_101.1 q := (List.forall_mem_cons.mpr ⟨⟨(R_2, F_2, 3), rfl, Nat.le_of_ble_eq_true rfl, ⟨"java/util/ArrayList", (m_gi1 121 rfl rfl), Or.inl rfl⟩, fun _ => rfl, m_n0 rfl⟩, (fun _ h => absurd h List.not_mem_nil)⟩)
set_option maxRecDepth 4000 in
theorem vc_101 : ∀ q ∈ M_101.2.2.2.2.2.2.1, m_cOk M_101.1 q := (fun _ h => absurd h List.not_mem_nil)
set_option maxRecDepth 4000 in
theorem vo_101 : ∀ q ∈ M_101.2.2.2.2.2.2.2.1, m_oOk M_101.1 q := (fun _ h => absurd h List.not_mem_nil)
set_option maxRecDepth 4000 in
theorem vk_101 : ∀ q ∈ M_101.2.2.2.2.2.2.2.2, decode M_101.2.1 q.1 = .ok (q.2.1, q.2.2) := by decide +kernel
set_option maxRecDepth 4000 in
theorem v_101 : m_mOk M_101 := ⟨(m_gi4 185 rfl rfl), (m_gi1 5 rfl rfl), by decide +kernel, ⟨by decide +kernel, by decide +kernel⟩, by decide +kernel, vf_101, vc_101, vo_101, vk_101⟩
set_option maxRecDepth 4000 in
theorem vf_102 : ∀ q ∈ M_102.2.2.2.2.2.1, m_fOk M_102.1 q := (List.forall_mem_cons.mpr ⟨⟨(R_6, F_6, 19), rfl, Nat.le_of_ble_eq_true rfl, ⟨"EdgeHouse$Request", (m_gi2 130 rfl rfl), Or.inl rfl⟩, fun _ => rfl, m_n0 rfl⟩, (List.forall_mem_cons.mpr ⟨⟨(R_0, F_0, 15), rfl, Nat.le_of_ble_eq_true rfl, ⟨"EdgeHouse", (m_gi2 15 rfl rfl), Or.inl rfl⟩, fun _ => rfl, m_n0 rfl⟩, (List.forall_mem_cons.mpr ⟨⟨(R_4, F_4, 11), rfl, Nat.le_of_ble_eq_true rfl, ⟨"EdgeHouse$Node", (m_gi1 194 rfl rfl), Or.inl rfl⟩, m_n0 rfl, m_n0 rfl⟩, (List.forall_mem_cons.mpr ⟨⟨(R_6, F_6, 19), rfl, Nat.le_of_ble_eq_true rfl, ⟨"EdgeHouse$Request", (m_gi2 129 rfl rfl), Or.inl rfl⟩, fun _ => rfl, m_n0 rfl⟩, (List.forall_mem_cons.mpr ⟨⟨(R_8, F_8, 14), rfl, Nat.le_of_ble_eq_true rfl, ⟨"EdgeHouse$Reply", (m_gi3 183 rfl rfl), Or.inl rfl⟩, fun _ => rfl, m_n0 rfl⟩, (List.forall_mem_cons.mpr ⟨⟨(R_8, F_8, 14), rfl, Nat.le_of_ble_eq_true rfl, ⟨"EdgeHouse$Reply", (m_gi3 181 rfl rfl), Or.inl rfl⟩, fun _ => rfl, m_n0 rfl⟩, (List.forall_mem_cons.mpr ⟨⟨(R_8, F_8, 14), rfl, Nat.le_of_ble_eq_true rfl, ⟨"EdgeHouse$Reply", (m_gi3 175 rfl rfl), Or.inl rfl⟩, fun _ => rfl, m_n0 rfl⟩, (fun _ h => absurd h List.not_mem_nil)⟩)⟩)⟩)⟩)⟩)⟩)⟩)
set_option maxRecDepth 4000 in
theorem vc_102 : ∀ q ∈ M_102.2.2.2.2.2.2.1, m_cOk M_102.1 q := (List.forall_mem_cons.mpr ⟨⟨m_n0 rfl, m_n0 rfl, m_n0 rfl, fun _ => ⟨M_70, rfl, m_n0 rfl, fun _ => ⟨(m_gi4 46 rfl rfl), (m_gi4 48 rfl rfl), (R_0, F_0, 15), rfl, rfl, (m_gp 3 rfl rfl)⟩, m_n0 rfl, m_n0 rfl⟩⟩, (List.forall_mem_cons.mpr ⟨⟨m_n0 rfl, m_n0 rfl, m_n0 rfl, fun _ => ⟨M_103, rfl, m_n0 rfl, fun _ => ⟨(m_gi4 190 rfl rfl), (m_gi4 192 rfl rfl), (R_0, F_0, 15), rfl, rfl, (m_gp 8 rfl rfl)⟩, m_n0 rfl, m_n0 rfl⟩⟩, (List.forall_mem_cons.mpr ⟨⟨m_n0 rfl, m_n0 rfl, m_n0 rfl, fun _ => ⟨M_83, rfl, m_n0 rfl, fun _ => ⟨(m_gi4 102 rfl rfl), (m_gi4 103 rfl rfl), (R_11, F_11, 9), rfl, rfl, (m_gi4 104 rfl rfl)⟩, m_n0 rfl, m_n0 rfl⟩⟩, (List.forall_mem_cons.mpr ⟨⟨m_n0 rfl, m_n0 rfl, m_n0 rfl, fun _ => ⟨M_106, rfl, m_n0 rfl, fun _ => ⟨(m_gi5 45 rfl rfl), (m_gi5 46 rfl rfl), (R_8, F_8, 14), rfl, rfl, (m_gi5 47 rfl rfl)⟩, m_n0 rfl, m_n0 rfl⟩⟩, (fun _ h => absurd h List.not_mem_nil)⟩)⟩)⟩)⟩)
set_option maxRecDepth 4000 in
theorem vo_102 : ∀ q ∈ M_102.2.2.2.2.2.2.2.1, m_oOk M_102.1 q := (fun _ h => absurd h List.not_mem_nil)
set_option maxRecDepth 4000 in
theorem vk_102 : ∀ q ∈ M_102.2.2.2.2.2.2.2.2, decode M_102.2.1 q.1 = .ok (q.2.1, q.2.2) := by decide +kernel
set_option maxRecDepth 4000 in
theorem v_102 : m_mOk M_102 := ⟨(m_gi4 189 rfl rfl), (m_gi1 1 rfl rfl), by decide +kernel, ⟨by decide +kernel, by decide +kernel⟩, by decide +kernel, vf_102, vc_102, vo_102, vk_102⟩
set_option maxRecDepth 4000 in
theorem vf_103 : ∀ q ∈ M_103.2.2.2.2.2.1, m_fOk M_103.1 q := (List.forall_mem_cons.mpr ⟨⟨(R_13, F_13, 10), rfl, Nat.le_of_ble_eq_true rfl, ⟨"EdgeHouse$Told", (m_gi8 103 rfl rfl), Or.inl rfl⟩, fun _ => rfl, m_n0 rfl⟩, (List.forall_mem_cons.mpr ⟨⟨(R_6, F_6, 19), rfl, Nat.le_of_ble_eq_true rfl, ⟨"EdgeHouse$Request", (m_gi2 88 rfl rfl), Or.inl rfl⟩, fun _ => rfl, m_n0 rfl⟩, (List.forall_mem_cons.mpr ⟨⟨(R_6, F_6, 19), rfl, Nat.le_of_ble_eq_true rfl, ⟨"EdgeHouse$Request", (m_gi2 93 rfl rfl), Or.inl rfl⟩, fun _ => rfl, m_n0 rfl⟩, (List.forall_mem_cons.mpr ⟨⟨(R_9, F_9, 19), rfl, Nat.le_of_ble_eq_true rfl, ⟨"EdgeHouse$Message", (m_gi4 212 rfl rfl), Or.inl rfl⟩, fun _ => rfl, m_n0 rfl⟩, (List.forall_mem_cons.mpr ⟨⟨(R_9, F_9, 19), rfl, Nat.le_of_ble_eq_true rfl, ⟨"EdgeHouse$Message", (m_gi4 215 rfl rfl), Or.inl rfl⟩, fun _ => rfl, m_n0 rfl⟩, (List.forall_mem_cons.mpr ⟨⟨(R_0, F_0, 15), rfl, Nat.le_of_ble_eq_true rfl, ⟨"EdgeHouse", (m_gi2 15 rfl rfl), Or.inl rfl⟩, fun _ => rfl, m_n0 rfl⟩, (List.forall_mem_cons.mpr ⟨⟨(R_11, F_11, 9), rfl, Nat.le_of_ble_eq_true rfl, ⟨"EdgeHouse$Entry", (m_gi6 7 rfl rfl), Or.inl rfl⟩, fun _ => rfl, m_n0 rfl⟩, (List.forall_mem_cons.mpr ⟨⟨(R_11, F_11, 9), rfl, Nat.le_of_ble_eq_true rfl, ⟨"EdgeHouse$Entry", (m_gi6 15 rfl rfl), Or.inl rfl⟩, fun _ => rfl, m_n0 rfl⟩, (List.forall_mem_cons.mpr ⟨⟨(R_9, F_9, 19), rfl, Nat.le_of_ble_eq_true rfl, ⟨"EdgeHouse$Message", (m_gi4 230 rfl rfl), Or.inl rfl⟩, fun _ => rfl, m_n0 rfl⟩, (List.forall_mem_cons.mpr ⟨⟨(R_9, F_9, 19), rfl, Nat.le_of_ble_eq_true rfl, ⟨"EdgeHouse$Message", (m_gi4 237 rfl rfl), Or.inl rfl⟩, fun _ => rfl, m_n0 rfl⟩, (List.forall_mem_cons.mpr ⟨⟨(R_9, F_9, 19), rfl, Nat.le_of_ble_eq_true rfl, ⟨"EdgeHouse$Message", (m_gi4 233 rfl rfl), Or.inl rfl⟩, fun _ => rfl, m_n0 rfl⟩, (List.forall_mem_cons.mpr ⟨⟨(R_11, F_11, 9), rfl, Nat.le_of_ble_eq_true rfl, ⟨"EdgeHouse$Entry", (m_gi5 239 rfl rfl), Or.inl rfl⟩, m_n0 rfl, m_n0 rfl⟩, (List.forall_mem_cons.mpr ⟨⟨(R_9, F_9, 19), rfl, Nat.le_of_ble_eq_true rfl, ⟨"EdgeHouse$Message", (m_gi4 238 rfl rfl), Or.inl rfl⟩, fun _ => rfl, m_n0 rfl⟩, (List.forall_mem_cons.mpr ⟨⟨(R_9, F_9, 19), rfl, Nat.le_of_ble_eq_true rfl, ⟨"EdgeHouse$Message", (m_gi4 239 rfl rfl), Or.inl rfl⟩, fun _ => rfl, m_n0 rfl⟩, (List.forall_mem_cons.mpr ⟨⟨(R_11, F_11, 9), rfl, Nat.le_of_ble_eq_true rfl, ⟨"EdgeHouse$Entry", (m_gi6 4 rfl rfl), Or.inl rfl⟩, m_n0 rfl, m_n0 rfl⟩, (List.forall_mem_cons.mpr ⟨⟨(R_6, F_6, 19), rfl, Nat.le_of_ble_eq_true rfl, ⟨"EdgeHouse$Request", (m_gi2 136 rfl rfl), Or.inl rfl⟩, fun _ => rfl, m_n0 rfl⟩, (List.forall_mem_cons.mpr ⟨⟨(R_6, F_6, 19), rfl, Nat.le_of_ble_eq_true rfl, ⟨"EdgeHouse$Request", (m_gi2 132 rfl rfl), Or.inl rfl⟩, fun _ => rfl, m_n0 rfl⟩, (List.forall_mem_cons.mpr ⟨⟨(R_6, F_6, 19), rfl, Nat.le_of_ble_eq_true rfl, ⟨"EdgeHouse$Request", (m_gi2 134 rfl rfl), Or.inl rfl⟩, fun _ => rfl, m_n0 rfl⟩, (List.forall_mem_cons.mpr ⟨⟨(R_9, F_9, 19), rfl, Nat.le_of_ble_eq_true rfl, ⟨"EdgeHouse$Message", (m_gi4 235 rfl rfl), Or.inl rfl⟩, fun _ => rfl, m_n0 rfl⟩, (List.forall_mem_cons.mpr ⟨⟨(R_6, F_6, 19), rfl, Nat.le_of_ble_eq_true rfl, ⟨"EdgeHouse$Request", (m_gi2 107 rfl rfl), Or.inl rfl⟩, fun _ => rfl, m_n0 rfl⟩, (List.forall_mem_cons.mpr ⟨⟨(R_6, F_6, 19), rfl, Nat.le_of_ble_eq_true rfl, ⟨"EdgeHouse$Request", (m_gi2 110 rfl rfl), Or.inl rfl⟩, fun _ => rfl, m_n0 rfl⟩, (fun _ h => absurd h List.not_mem_nil)⟩)⟩)⟩)⟩)⟩)⟩)⟩)⟩)⟩)⟩)⟩)⟩)⟩)⟩)⟩)⟩)⟩)⟩)⟩)⟩)⟩)
set_option maxRecDepth 4000 in
theorem vc_103 : ∀ q ∈ M_103.2.2.2.2.2.2.1, m_cOk M_103.1 q := (List.forall_mem_cons.mpr ⟨⟨m_n0 rfl, m_n0 rfl, m_n0 rfl, fun _ => ⟨M_104, rfl, fun _ => ⟨rfl, rfl, (m_gi4 196 rfl rfl), (m_gi4 197 rfl rfl)⟩, m_n0 rfl, m_n0 rfl, m_n0 rfl⟩⟩, (List.forall_mem_cons.mpr ⟨⟨m_n0 rfl, m_n0 rfl, m_n0 rfl, fun _ => ⟨M_105, rfl, m_n0 rfl, fun _ => ⟨(m_gi5 41 rfl rfl), (m_gi5 43 rfl rfl), (R_0, F_0, 15), rfl, rfl, (m_gp 9 rfl rfl)⟩, m_n0 rfl, m_n0 rfl⟩⟩, (List.forall_mem_cons.mpr ⟨⟨m_n0 rfl, m_n0 rfl, m_n0 rfl, fun _ => ⟨M_85, rfl, m_n0 rfl, fun _ => ⟨(m_gi5 40 rfl rfl), (m_gi4 111 rfl rfl), (R_13, F_13, 10), rfl, rfl, (m_gi4 112 rfl rfl)⟩, m_n0 rfl, m_n0 rfl⟩⟩, (List.forall_mem_cons.mpr ⟨⟨m_n0 rfl, m_n0 rfl, m_n0 rfl, fun _ => ⟨M_83, rfl, m_n0 rfl, fun _ => ⟨(m_gi4 102 rfl rfl), (m_gi4 103 rfl rfl), (R_11, F_11, 9), rfl, rfl, (m_gi4 104 rfl rfl)⟩, m_n0 rfl, m_n0 rfl⟩⟩, (fun _ h => absurd h List.not_mem_nil)⟩)⟩)⟩)⟩)
set_option maxRecDepth 4000 in
theorem vo_103 : ∀ q ∈ M_103.2.2.2.2.2.2.2.1, m_oOk M_103.1 q := (List.forall_mem_cons.mpr ⟨⟨fun _ => ⟨(R_9, F_9, 19), rfl, (m_gi4 194 rfl rfl), (m_gi4 195 rfl rfl), (m_gi1 29 rfl rfl)⟩, m_n0 rfl, m_n0 rfl, m_n0 rfl, m_n0 rfl, m_n0 rfl, m_n0 rfl, Nat.le_of_ble_eq_true rfl⟩, (fun _ h => absurd h List.not_mem_nil)⟩)
set_option maxRecDepth 4000 in
theorem vk_103 : ∀ q ∈ M_103.2.2.2.2.2.2.2.2, decode M_103.2.1 q.1 = .ok (q.2.1, q.2.2) := by decide +kernel
set_option maxRecDepth 4000 in
theorem v_103 : m_mOk M_103 := ⟨(m_gi4 193 rfl rfl), (m_gi1 1 rfl rfl), by decide +kernel, ⟨by decide +kernel, by decide +kernel⟩, by decide +kernel, vf_103, vc_103, vo_103, vk_103⟩
set_option maxRecDepth 4000 in
theorem vf_104 : ∀ q ∈ M_104.2.2.2.2.2.1, m_fOk M_104.1 q := (List.forall_mem_cons.mpr ⟨⟨(R_9, F_9, 19), rfl, Nat.le_of_ble_eq_true rfl, ⟨"EdgeHouse$Message", (m_gi4 200 rfl rfl), Or.inl rfl⟩, m_n0 rfl, fun _ => ⟨rfl, rfl, rfl⟩⟩, (List.forall_mem_cons.mpr ⟨⟨(R_9, F_9, 19), rfl, Nat.le_of_ble_eq_true rfl, ⟨"EdgeHouse$Message", (m_gi4 202 rfl rfl), Or.inl rfl⟩, m_n0 rfl, fun _ => ⟨rfl, rfl, rfl⟩⟩, (List.forall_mem_cons.mpr ⟨⟨(R_9, F_9, 19), rfl, Nat.le_of_ble_eq_true rfl, ⟨"EdgeHouse$Message", (m_gi4 205 rfl rfl), Or.inl rfl⟩, m_n0 rfl, fun _ => ⟨rfl, rfl, rfl⟩⟩, (List.forall_mem_cons.mpr ⟨⟨(R_9, F_9, 19), rfl, Nat.le_of_ble_eq_true rfl, ⟨"EdgeHouse$Message", (m_gi4 207 rfl rfl), Or.inl rfl⟩, m_n0 rfl, fun _ => ⟨rfl, rfl, rfl⟩⟩, (fun _ h => absurd h List.not_mem_nil)⟩)⟩)⟩)⟩)
set_option maxRecDepth 4000 in
theorem vc_104 : ∀ q ∈ M_104.2.2.2.2.2.2.1, m_cOk M_104.1 q := (List.forall_mem_cons.mpr ⟨⟨fun _ => (m_gi4 199 rfl rfl), m_n0 rfl, m_n0 rfl, m_n1 rfl⟩, (fun _ h => absurd h List.not_mem_nil)⟩)
set_option maxRecDepth 4000 in
theorem vo_104 : ∀ q ∈ M_104.2.2.2.2.2.2.2.1, m_oOk M_104.1 q := (fun _ h => absurd h List.not_mem_nil)
set_option maxRecDepth 4000 in
theorem vk_104 : ∀ q ∈ M_104.2.2.2.2.2.2.2.2, decode M_104.2.1 q.1 = .ok (q.2.1, q.2.2) := by decide +kernel
set_option maxRecDepth 4000 in
theorem v_104 : m_mOk M_104 := ⟨(m_gi4 198 rfl rfl), (m_gi1 29 rfl rfl), by decide +kernel, ⟨by decide +kernel, by decide +kernel⟩, by decide +kernel, vf_104, vc_104, vo_104, vk_104⟩
set_option maxRecDepth 4000 in
theorem vf_105 : ∀ q ∈ M_105.2.2.2.2.2.1, m_fOk M_105.1 q := (List.forall_mem_cons.mpr ⟨⟨(R_0, F_0, 15), rfl, Nat.le_of_ble_eq_true rfl, ⟨"EdgeHouse", (m_gi2 8 rfl rfl), Or.inl rfl⟩, m_n0 rfl, m_n0 rfl⟩, (List.forall_mem_cons.mpr ⟨⟨(R_0, F_0, 15), rfl, Nat.le_of_ble_eq_true rfl, ⟨"EdgeHouse", (m_gi2 12 rfl rfl), Or.inl rfl⟩, fun _ => rfl, m_n0 rfl⟩, (List.forall_mem_cons.mpr ⟨⟨(R_0, F_0, 15), rfl, Nat.le_of_ble_eq_true rfl, ⟨"EdgeHouse", (m_gi2 15 rfl rfl), Or.inl rfl⟩, fun _ => rfl, m_n0 rfl⟩, (List.forall_mem_cons.mpr ⟨⟨(R_9, F_9, 19), rfl, Nat.le_of_ble_eq_true rfl, ⟨"EdgeHouse$Message", (m_gi5 0 rfl rfl), Or.inl rfl⟩, fun _ => rfl, m_n0 rfl⟩, (fun _ h => absurd h List.not_mem_nil)⟩)⟩)⟩)⟩)
set_option maxRecDepth 4000 in
theorem vc_105 : ∀ q ∈ M_105.2.2.2.2.2.2.1, m_cOk M_105.1 q := (List.forall_mem_cons.mpr ⟨⟨m_n0 rfl, m_n0 rfl, m_n0 rfl, fun _ => ⟨M_17, rfl, m_n0 rfl, fun _ => ⟨(m_gi2 67 rfl rfl), (m_gi2 68 rfl rfl), (R_2, F_2, 3), rfl, rfl, (m_gi2 69 rfl rfl)⟩, m_n0 rfl, m_n0 rfl⟩⟩, (List.forall_mem_cons.mpr ⟨⟨m_n0 rfl, m_n0 rfl, m_n0 rfl, fun _ => ⟨M_62, rfl, m_n0 rfl, fun _ => ⟨(m_gi3 221 rfl rfl), (m_gi3 222 rfl rfl), (R_2, F_2, 3), rfl, rfl, (m_gi3 223 rfl rfl)⟩, m_n0 rfl, m_n0 rfl⟩⟩, (fun _ h => absurd h List.not_mem_nil)⟩)⟩)
set_option maxRecDepth 4000 in
theorem vo_105 : ∀ q ∈ M_105.2.2.2.2.2.2.2.1, m_oOk M_105.1 q := (fun _ h => absurd h List.not_mem_nil)
set_option maxRecDepth 4000 in
theorem vk_105 : ∀ q ∈ M_105.2.2.2.2.2.2.2.2, decode M_105.2.1 q.1 = .ok (q.2.1, q.2.2) := by decide +kernel
set_option maxRecDepth 4000 in
theorem v_105 : m_mOk M_105 := ⟨(m_gi5 44 rfl rfl), (m_gi1 1 rfl rfl), by decide +kernel, ⟨by decide +kernel, by decide +kernel⟩, by decide +kernel, vf_105, vc_105, vo_105, vk_105⟩
set_option maxRecDepth 4000 in
theorem vf_106 : ∀ q ∈ M_106.2.2.2.2.2.1, m_fOk M_106.1 q := (List.forall_mem_cons.mpr ⟨⟨(R_7, F_7, 8), rfl, Nat.le_of_ble_eq_true rfl, ⟨"EdgeHouse$Conditions", (m_gi2 184 rfl rfl), Or.inl rfl⟩, fun _ => rfl, m_n0 rfl⟩, (List.forall_mem_cons.mpr ⟨⟨(R_8, F_8, 14), rfl, Nat.le_of_ble_eq_true rfl, ⟨"EdgeHouse$Reply", (m_gi3 176 rfl rfl), Or.inl rfl⟩, fun _ => rfl, m_n0 rfl⟩, (List.forall_mem_cons.mpr ⟨⟨(R_11, F_11, 9), rfl, Nat.le_of_ble_eq_true rfl, ⟨"EdgeHouse$Entry", (m_gi5 235 rfl rfl), Or.inl rfl⟩, m_n0 rfl, m_n0 rfl⟩, (List.forall_mem_cons.mpr ⟨⟨(R_13, F_13, 10), rfl, Nat.le_of_ble_eq_true rfl, ⟨"EdgeHouse$Told", (m_gi8 101 rfl rfl), Or.inl rfl⟩, fun _ => rfl, m_n0 rfl⟩, (List.forall_mem_cons.mpr ⟨⟨(R_8, F_8, 14), rfl, Nat.le_of_ble_eq_true rfl, ⟨"EdgeHouse$Reply", (m_gi3 177 rfl rfl), Or.inl rfl⟩, fun _ => rfl, m_n0 rfl⟩, (List.forall_mem_cons.mpr ⟨⟨(R_11, F_11, 9), rfl, Nat.le_of_ble_eq_true rfl, ⟨"EdgeHouse$Entry", (m_gi6 1 rfl rfl), Or.inl rfl⟩, m_n0 rfl, m_n0 rfl⟩, (List.forall_mem_cons.mpr ⟨⟨(R_8, F_8, 14), rfl, Nat.le_of_ble_eq_true rfl, ⟨"EdgeHouse$Reply", (m_gi3 178 rfl rfl), Or.inl rfl⟩, fun _ => rfl, m_n0 rfl⟩, (List.forall_mem_cons.mpr ⟨⟨(R_13, F_13, 10), rfl, Nat.le_of_ble_eq_true rfl, ⟨"EdgeHouse$Told", (m_gi8 122 rfl rfl), Or.inl rfl⟩, fun _ => rfl, m_n0 rfl⟩, (List.forall_mem_cons.mpr ⟨⟨(R_8, F_8, 14), rfl, Nat.le_of_ble_eq_true rfl, ⟨"EdgeHouse$Reply", (m_gi3 179 rfl rfl), Or.inl rfl⟩, fun _ => rfl, m_n0 rfl⟩, (List.forall_mem_cons.mpr ⟨⟨(R_13, F_13, 10), rfl, Nat.le_of_ble_eq_true rfl, ⟨"EdgeHouse$Told", (m_gi8 106 rfl rfl), Or.inl rfl⟩, fun _ => rfl, m_n0 rfl⟩, (List.forall_mem_cons.mpr ⟨⟨(R_8, F_8, 14), rfl, Nat.le_of_ble_eq_true rfl, ⟨"EdgeHouse$Reply", (m_gi3 184 rfl rfl), Or.inl rfl⟩, fun _ => rfl, m_n0 rfl⟩, (List.forall_mem_cons.mpr ⟨⟨(R_11, F_11, 9), rfl, Nat.le_of_ble_eq_true rfl, ⟨"EdgeHouse$Entry", (m_gi5 227 rfl rfl), Or.inl rfl⟩, m_n0 rfl, m_n0 rfl⟩, (List.forall_mem_cons.mpr ⟨⟨(R_11, F_11, 9), rfl, Nat.le_of_ble_eq_true rfl, ⟨"EdgeHouse$Entry", (m_gi5 231 rfl rfl), Or.inl rfl⟩, m_n0 rfl, m_n0 rfl⟩, (List.forall_mem_cons.mpr ⟨⟨(R_8, F_8, 14), rfl, Nat.le_of_ble_eq_true rfl, ⟨"EdgeHouse$Reply", (m_gi3 187 rfl rfl), Or.inl rfl⟩, fun _ => rfl, m_n0 rfl⟩, (List.forall_mem_cons.mpr ⟨⟨(R_8, F_8, 14), rfl, Nat.le_of_ble_eq_true rfl, ⟨"EdgeHouse$Reply", (m_gi3 185 rfl rfl), Or.inl rfl⟩, fun _ => rfl, m_n0 rfl⟩, (List.forall_mem_cons.mpr ⟨⟨(R_8, F_8, 14), rfl, Nat.le_of_ble_eq_true rfl, ⟨"EdgeHouse$Reply", (m_gi3 174 rfl rfl), Or.inl rfl⟩, fun _ => rfl, m_n0 rfl⟩, (List.forall_mem_cons.mpr ⟨⟨(R_8, F_8, 14), rfl, Nat.le_of_ble_eq_true rfl, ⟨"EdgeHouse$Reply", (m_gi3 186 rfl rfl), Or.inl rfl⟩, fun _ => rfl, m_n0 rfl⟩, (fun _ h => absurd h List.not_mem_nil)⟩)⟩)⟩)⟩)⟩)⟩)⟩)⟩)⟩)⟩)⟩)⟩)⟩)⟩)⟩)⟩)⟩)
set_option maxRecDepth 4000 in
theorem vc_106 : ∀ q ∈ M_106.2.2.2.2.2.2.1, m_cOk M_106.1 q := (List.forall_mem_cons.mpr ⟨⟨m_n0 rfl, m_n0 rfl, m_n0 rfl, fun _ => ⟨M_86, rfl, m_n0 rfl, fun _ => ⟨(m_gi5 49 rfl rfl), (m_gi4 116 rfl rfl), (R_11, F_11, 9), rfl, rfl, (m_gi4 117 rfl rfl)⟩, m_n0 rfl, m_n0 rfl⟩⟩, (List.forall_mem_cons.mpr ⟨⟨m_n0 rfl, m_n0 rfl, m_n0 rfl, fun _ => ⟨M_87, rfl, m_n0 rfl, fun _ => ⟨(m_gi5 50 rfl rfl), (m_gi4 120 rfl rfl), (R_7, F_7, 8), rfl, rfl, (m_gi4 121 rfl rfl)⟩, m_n0 rfl, m_n0 rfl⟩⟩, (List.forall_mem_cons.mpr ⟨⟨m_n0 rfl, m_n0 rfl, m_n0 rfl, fun _ => ⟨M_88, rfl, m_n0 rfl, fun _ => ⟨(m_gi5 51 rfl rfl), (m_gi4 124 rfl rfl), (R_7, F_7, 8), rfl, rfl, (m_gi4 125 rfl rfl)⟩, m_n0 rfl, m_n0 rfl⟩⟩, (List.forall_mem_cons.mpr ⟨⟨m_n0 rfl, m_n0 rfl, m_n0 rfl, fun _ => ⟨M_89, rfl, m_n0 rfl, fun _ => ⟨(m_gi5 52 rfl rfl), (m_gi4 129 rfl rfl), (R_7, F_7, 8), rfl, rfl, (m_gi4 130 rfl rfl)⟩, m_n0 rfl, m_n0 rfl⟩⟩, (List.forall_mem_cons.mpr ⟨⟨m_n0 rfl, fun _ => (m_gi5 53 rfl rfl), m_n0 rfl, m_n1 rfl⟩, (List.forall_mem_cons.mpr ⟨⟨m_n0 rfl, m_n0 rfl, m_n0 rfl, fun _ => ⟨M_107, rfl, m_n0 rfl, fun _ => ⟨(m_gi5 54 rfl rfl), (m_gi5 55 rfl rfl), (R_7, F_7, 8), rfl, rfl, (m_gi5 56 rfl rfl)⟩, m_n0 rfl, m_n0 rfl⟩⟩, (fun _ h => absurd h List.not_mem_nil)⟩)⟩)⟩)⟩)⟩)⟩)
set_option maxRecDepth 4000 in
theorem vo_106 : ∀ q ∈ M_106.2.2.2.2.2.2.2.1, m_oOk M_106.1 q := (fun _ h => absurd h List.not_mem_nil)
set_option maxRecDepth 4000 in
theorem vk_106 : ∀ q ∈ M_106.2.2.2.2.2.2.2.2, decode M_106.2.1 q.1 = .ok (q.2.1, q.2.2) := by decide +kernel
set_option maxRecDepth 4000 in
theorem v_106 : m_mOk M_106 := ⟨(m_gi5 48 rfl rfl), (m_gi1 23 rfl rfl), by decide +kernel, ⟨by decide +kernel, by decide +kernel⟩, by decide +kernel, vf_106, vc_106, vo_106, vk_106⟩
set_option maxRecDepth 4000 in
theorem vf_107 : ∀ q ∈ M_107.2.2.2.2.2.1, m_fOk M_107.1 q := (List.forall_mem_cons.mpr ⟨⟨(R_7, F_7, 8), rfl, Nat.le_of_ble_eq_true rfl, ⟨"EdgeHouse$Conditions", (m_gi2 197 rfl rfl), Or.inl rfl⟩, m_n0 rfl, m_n0 rfl⟩, (List.forall_mem_cons.mpr ⟨⟨(R_7, F_7, 8), rfl, Nat.le_of_ble_eq_true rfl, ⟨"EdgeHouse$Conditions", (m_gi2 199 rfl rfl), Or.inl rfl⟩, fun _ => rfl, m_n0 rfl⟩, (List.forall_mem_cons.mpr ⟨⟨(R_7, F_7, 8), rfl, Nat.le_of_ble_eq_true rfl, ⟨"EdgeHouse$Conditions", (m_gi2 195 rfl rfl), Or.inl rfl⟩, fun _ => rfl, m_n0 rfl⟩, (fun _ h => absurd h List.not_mem_nil)⟩)⟩)⟩)
set_option maxRecDepth 4000 in
theorem vc_107 : ∀ q ∈ M_107.2.2.2.2.2.2.1, m_cOk M_107.1 q := (fun _ h => absurd h List.not_mem_nil)
set_option maxRecDepth 4000 in
theorem vo_107 : ∀ q ∈ M_107.2.2.2.2.2.2.2.1, m_oOk M_107.1 q := (fun _ h => absurd h List.not_mem_nil)
set_option maxRecDepth 4000 in
theorem vk_107 : ∀ q ∈ M_107.2.2.2.2.2.2.2.2, decode M_107.2.1 q.1 = .ok (q.2.1, q.2.2) := by decide +kernel
set_option maxRecDepth 4000 in
theorem v_107 : m_mOk M_107 := ⟨(m_gi5 57 rfl rfl), (m_gi1 21 rfl rfl), by decide +kernel, ⟨by decide +kernel, by decide +kernel⟩, by decide +kernel, vf_107, vc_107, vo_107, vk_107⟩
set_option maxRecDepth 4000 in
theorem vf_108 : ∀ q ∈ M_108.2.2.2.2.2.1, m_fOk M_108.1 q := (List.forall_mem_cons.mpr ⟨⟨(R_6, F_6, 19), rfl, Nat.le_of_ble_eq_true rfl, ⟨"EdgeHouse$Request", (m_gi2 117 rfl rfl), Or.inl rfl⟩, fun _ => rfl, m_n0 rfl⟩, (List.forall_mem_cons.mpr ⟨⟨(R_6, F_6, 19), rfl, Nat.le_of_ble_eq_true rfl, ⟨"EdgeHouse$Request", (m_gi2 119 rfl rfl), Or.inl rfl⟩, fun _ => rfl, m_n0 rfl⟩, (List.forall_mem_cons.mpr ⟨⟨(R_6, F_6, 19), rfl, Nat.le_of_ble_eq_true rfl, ⟨"EdgeHouse$Request", (m_gi2 121 rfl rfl), Or.inl rfl⟩, fun _ => rfl, m_n0 rfl⟩, (List.forall_mem_cons.mpr ⟨⟨(R_13, F_13, 10), rfl, Nat.le_of_ble_eq_true rfl, ⟨"EdgeHouse$Told", (m_gi8 114 rfl rfl), Or.inl rfl⟩, fun _ => rfl, m_n0 rfl⟩, (fun _ h => absurd h List.not_mem_nil)⟩)⟩)⟩)⟩)
set_option maxRecDepth 4000 in
theorem vc_108 : ∀ q ∈ M_108.2.2.2.2.2.2.1, m_cOk M_108.1 q := (List.forall_mem_cons.mpr ⟨⟨m_n0 rfl, m_n0 rfl, m_n0 rfl, fun _ => ⟨M_91, rfl, m_n0 rfl, fun _ => ⟨(m_gi4 138 rfl rfl), (m_gi4 139 rfl rfl), (R_13, F_13, 10), rfl, rfl, (m_gi4 140 rfl rfl)⟩, m_n0 rfl, m_n0 rfl⟩⟩, (fun _ h => absurd h List.not_mem_nil)⟩)
set_option maxRecDepth 4000 in
theorem vo_108 : ∀ q ∈ M_108.2.2.2.2.2.2.2.1, m_oOk M_108.1 q := (fun _ h => absurd h List.not_mem_nil)
set_option maxRecDepth 4000 in
theorem vk_108 : ∀ q ∈ M_108.2.2.2.2.2.2.2.2, decode M_108.2.1 q.1 = .ok (q.2.1, q.2.2) := by decide +kernel
set_option maxRecDepth 4000 in
theorem v_108 : m_mOk M_108 := ⟨(m_gi5 61 rfl rfl), (m_gi1 20 rfl rfl), by decide +kernel, ⟨by decide +kernel, by decide +kernel⟩, by decide +kernel, vf_108, vc_108, vo_108, vk_108⟩
set_option maxRecDepth 4000 in
theorem vf_109 : ∀ q ∈ M_109.2.2.2.2.2.1, m_fOk M_109.1 q := (List.forall_mem_cons.mpr ⟨⟨(R_4, F_4, 11), rfl, Nat.le_of_ble_eq_true rfl, ⟨"EdgeHouse$Node", (m_gi1 197 rfl rfl), Or.inl rfl⟩, m_n0 rfl, m_n0 rfl⟩, (List.forall_mem_cons.mpr ⟨⟨(R_10, F_10, 14), rfl, Nat.le_of_ble_eq_true rfl, ⟨"EdgeHouse$Fetch", (m_gi5 77 rfl rfl), Or.inl rfl⟩, m_n0 rfl, m_n0 rfl⟩, (List.forall_mem_cons.mpr ⟨⟨(R_10, F_10, 14), rfl, Nat.le_of_ble_eq_true rfl, ⟨"EdgeHouse$Fetch", (m_gi5 81 rfl rfl), Or.inl rfl⟩, m_n0 rfl, m_n0 rfl⟩, (fun _ h => absurd h List.not_mem_nil)⟩)⟩)⟩)
set_option maxRecDepth 4000 in
theorem vc_109 : ∀ q ∈ M_109.2.2.2.2.2.2.1, m_cOk M_109.1 q := (List.forall_mem_cons.mpr ⟨⟨m_n0 rfl, m_n0 rfl, m_n0 rfl, fun _ => ⟨M_17, rfl, m_n0 rfl, fun _ => ⟨(m_gi5 66 rfl rfl), (m_gi2 68 rfl rfl), (R_2, F_2, 3), rfl, rfl, (m_gi2 69 rfl rfl)⟩, m_n0 rfl, m_n0 rfl⟩⟩, (List.forall_mem_cons.mpr ⟨⟨m_n0 rfl, m_n0 rfl, m_n0 rfl, fun _ => ⟨M_77, rfl, m_n0 rfl, fun _ => ⟨(m_gi5 67 rfl rfl), (m_gi4 78 rfl rfl), (R_2, F_2, 3), rfl, rfl, (m_gi4 79 rfl rfl)⟩, m_n0 rfl, m_n0 rfl⟩⟩, (fun _ h => absurd h List.not_mem_nil)⟩)⟩)
set_option maxRecDepth 4000 in
theorem vo_109 : ∀ q ∈ M_109.2.2.2.2.2.2.2.1, m_oOk M_109.1 q := (List.forall_mem_cons.mpr ⟨⟨m_n0 rfl, m_n0 rfl, m_n0 rfl, m_n0 rfl, m_n0 rfl, m_n0 rfl, fun _ => ⟨(R_10, F_10, 14), rfl, (m_gi5 68 rfl rfl), (List.mem_filter.mpr ⟨m_in12 (List.mem_of_getElem? (i := 51) rfl), rfl⟩)⟩, Nat.le_of_ble_eq_true rfl⟩, (fun _ h => absurd h List.not_mem_nil)⟩)
set_option maxRecDepth 4000 in
theorem vk_109 : ∀ q ∈ M_109.2.2.2.2.2.2.2.2, decode M_109.2.1 q.1 = .ok (q.2.1, q.2.2) := by decide +kernel
set_option maxRecDepth 4000 in
theorem v_109 : m_mOk M_109 := ⟨(m_gi5 65 rfl rfl), (m_gi1 10 rfl rfl), by decide +kernel, ⟨by decide +kernel, by decide +kernel⟩, by decide +kernel, vf_109, vc_109, vo_109, vk_109⟩
set_option maxRecDepth 4000 in
theorem vf_110 : ∀ q ∈ M_110.2.2.2.2.2.1, m_fOk M_110.1 q := (List.forall_mem_cons.mpr ⟨⟨(R_6, F_6, 19), rfl, Nat.le_of_ble_eq_true rfl, ⟨"EdgeHouse$Request", (m_gi2 85 rfl rfl), Or.inl rfl⟩, fun _ => rfl, m_n0 rfl⟩, (List.forall_mem_cons.mpr ⟨⟨(R_10, F_10, 14), rfl, Nat.le_of_ble_eq_true rfl, ⟨"EdgeHouse$Fetch", (m_gi5 75 rfl rfl), Or.inl rfl⟩, m_n0 rfl, fun _ => ⟨rfl, rfl, rfl⟩⟩, (List.forall_mem_cons.mpr ⟨⟨(R_6, F_6, 19), rfl, Nat.le_of_ble_eq_true rfl, ⟨"EdgeHouse$Request", (m_gi2 90 rfl rfl), Or.inl rfl⟩, fun _ => rfl, m_n0 rfl⟩, (List.forall_mem_cons.mpr ⟨⟨(R_10, F_10, 14), rfl, Nat.le_of_ble_eq_true rfl, ⟨"EdgeHouse$Fetch", (m_gi5 79 rfl rfl), Or.inl rfl⟩, m_n0 rfl, fun _ => ⟨rfl, rfl, rfl⟩⟩, (List.forall_mem_cons.mpr ⟨⟨(R_6, F_6, 19), rfl, Nat.le_of_ble_eq_true rfl, ⟨"EdgeHouse$Request", (m_gi2 95 rfl rfl), Or.inl rfl⟩, fun _ => rfl, m_n0 rfl⟩, (List.forall_mem_cons.mpr ⟨⟨(R_10, F_10, 14), rfl, Nat.le_of_ble_eq_true rfl, ⟨"EdgeHouse$Fetch", (m_gi5 83 rfl rfl), Or.inl rfl⟩, m_n0 rfl, fun _ => ⟨rfl, rfl, rfl⟩⟩, (List.forall_mem_cons.mpr ⟨⟨(R_6, F_6, 19), rfl, Nat.le_of_ble_eq_true rfl, ⟨"EdgeHouse$Request", (m_gi2 100 rfl rfl), Or.inl rfl⟩, fun _ => rfl, m_n0 rfl⟩, (List.forall_mem_cons.mpr ⟨⟨(R_10, F_10, 14), rfl, Nat.le_of_ble_eq_true rfl, ⟨"EdgeHouse$Fetch", (m_gi5 86 rfl rfl), Or.inl rfl⟩, m_n0 rfl, fun _ => ⟨rfl, rfl, rfl⟩⟩, (List.forall_mem_cons.mpr ⟨⟨(R_6, F_6, 19), rfl, Nat.le_of_ble_eq_true rfl, ⟨"EdgeHouse$Request", (m_gi2 111 rfl rfl), Or.inl rfl⟩, fun _ => rfl, m_n0 rfl⟩, (List.forall_mem_cons.mpr ⟨⟨(R_10, F_10, 14), rfl, Nat.le_of_ble_eq_true rfl, ⟨"EdgeHouse$Fetch", (m_gi5 89 rfl rfl), Or.inl rfl⟩, m_n0 rfl, fun _ => ⟨rfl, rfl, rfl⟩⟩, (List.forall_mem_cons.mpr ⟨⟨(R_6, F_6, 19), rfl, Nat.le_of_ble_eq_true rfl, ⟨"EdgeHouse$Request", (m_gi2 105 rfl rfl), Or.inl rfl⟩, fun _ => rfl, m_n0 rfl⟩, (List.forall_mem_cons.mpr ⟨⟨(R_10, F_10, 14), rfl, Nat.le_of_ble_eq_true rfl, ⟨"EdgeHouse$Fetch", (m_gi5 91 rfl rfl), Or.inl rfl⟩, fun _ => rfl, m_n0 rfl⟩, (List.forall_mem_cons.mpr ⟨⟨(R_6, F_6, 19), rfl, Nat.le_of_ble_eq_true rfl, ⟨"EdgeHouse$Request", (m_gi2 109 rfl rfl), Or.inl rfl⟩, fun _ => rfl, m_n0 rfl⟩, (List.forall_mem_cons.mpr ⟨⟨(R_10, F_10, 14), rfl, Nat.le_of_ble_eq_true rfl, ⟨"EdgeHouse$Fetch", (m_gi5 94 rfl rfl), Or.inl rfl⟩, fun _ => rfl, m_n0 rfl⟩, (fun _ h => absurd h List.not_mem_nil)⟩)⟩)⟩)⟩)⟩)⟩)⟩)⟩)⟩)⟩)⟩)⟩)⟩)⟩)
set_option maxRecDepth 4000 in
theorem vc_110 : ∀ q ∈ M_110.2.2.2.2.2.2.1, m_cOk M_110.1 q := (List.forall_mem_cons.mpr ⟨⟨fun _ => (m_gi5 74 rfl rfl), m_n0 rfl, m_n0 rfl, m_n1 rfl⟩, (fun _ h => absurd h List.not_mem_nil)⟩)
set_option maxRecDepth 4000 in
theorem vo_110 : ∀ q ∈ M_110.2.2.2.2.2.2.2.1, m_oOk M_110.1 q := (fun _ h => absurd h List.not_mem_nil)
set_option maxRecDepth 4000 in
theorem vk_110 : ∀ q ∈ M_110.2.2.2.2.2.2.2.2, decode M_110.2.1 q.1 = .ok (q.2.1, q.2.2) := by decide +kernel
set_option maxRecDepth 4000 in
theorem v_110 : m_mOk M_110 := ⟨(m_gi5 73 rfl rfl), (m_gi1 30 rfl rfl), by decide +kernel, ⟨by decide +kernel, by decide +kernel⟩, by decide +kernel, vf_110, vc_110, vo_110, vk_110⟩
set_option maxRecDepth 4000 in
theorem vf_111 : ∀ q ∈ M_111.2.2.2.2.2.1, m_fOk M_111.1 q := (List.forall_mem_cons.mpr ⟨⟨(R_0, F_0, 15), rfl, Nat.le_of_ble_eq_true rfl, ⟨"EdgeHouse", (m_gi2 15 rfl rfl), Or.inl rfl⟩, fun _ => rfl, m_n0 rfl⟩, (List.forall_mem_cons.mpr ⟨⟨(R_4, F_4, 11), rfl, Nat.le_of_ble_eq_true rfl, ⟨"EdgeHouse$Node", (m_gi1 198 rfl rfl), Or.inl rfl⟩, m_n0 rfl, m_n0 rfl⟩, (List.forall_mem_cons.mpr ⟨⟨(R_4, F_4, 11), rfl, Nat.le_of_ble_eq_true rfl, ⟨"EdgeHouse$Node", (m_gi1 205 rfl rfl), Or.inl rfl⟩, fun _ => rfl, m_n0 rfl⟩, (List.forall_mem_cons.mpr ⟨⟨(R_4, F_4, 11), rfl, Nat.le_of_ble_eq_true rfl, ⟨"EdgeHouse$Node", (m_gi1 196 rfl rfl), Or.inl rfl⟩, m_n0 rfl, m_n0 rfl⟩, (List.forall_mem_cons.mpr ⟨⟨(R_4, F_4, 11), rfl, Nat.le_of_ble_eq_true rfl, ⟨"EdgeHouse$Node", (m_gi1 194 rfl rfl), Or.inl rfl⟩, m_n0 rfl, m_n0 rfl⟩, (List.forall_mem_cons.mpr ⟨⟨(R_10, F_10, 14), rfl, Nat.le_of_ble_eq_true rfl, ⟨"EdgeHouse$Fetch", (m_gi5 78 rfl rfl), Or.inl rfl⟩, m_n0 rfl, m_n0 rfl⟩, (List.forall_mem_cons.mpr ⟨⟨(R_10, F_10, 14), rfl, Nat.le_of_ble_eq_true rfl, ⟨"EdgeHouse$Fetch", (m_gi5 82 rfl rfl), Or.inl rfl⟩, m_n0 rfl, m_n0 rfl⟩, (List.forall_mem_cons.mpr ⟨⟨(R_10, F_10, 14), rfl, Nat.le_of_ble_eq_true rfl, ⟨"EdgeHouse$Fetch", (m_gi5 102 rfl rfl), Or.inl rfl⟩, fun _ => rfl, m_n0 rfl⟩, (List.forall_mem_cons.mpr ⟨⟨(R_4, F_4, 11), rfl, Nat.le_of_ble_eq_true rfl, ⟨"EdgeHouse$Node", (m_gi1 210 rfl rfl), Or.inl rfl⟩, fun _ => rfl, m_n0 rfl⟩, (List.forall_mem_cons.mpr ⟨⟨(R_10, F_10, 14), rfl, Nat.le_of_ble_eq_true rfl, ⟨"EdgeHouse$Fetch", (m_gi5 98 rfl rfl), Or.inl rfl⟩, fun _ => rfl, m_n0 rfl⟩, (List.forall_mem_cons.mpr ⟨⟨(R_10, F_10, 14), rfl, Nat.le_of_ble_eq_true rfl, ⟨"EdgeHouse$Fetch", (m_gi5 99 rfl rfl), Or.inl rfl⟩, fun _ => rfl, m_n0 rfl⟩, (List.forall_mem_cons.mpr ⟨⟨(R_10, F_10, 14), rfl, Nat.le_of_ble_eq_true rfl, ⟨"EdgeHouse$Fetch", (m_gi5 103 rfl rfl), Or.inl rfl⟩, fun _ => rfl, m_n0 rfl⟩, (List.forall_mem_cons.mpr ⟨⟨(R_9, F_9, 19), rfl, Nat.le_of_ble_eq_true rfl, ⟨"EdgeHouse$Message", (m_gi4 228 rfl rfl), Or.inl rfl⟩, fun _ => rfl, m_n0 rfl⟩, (fun _ h => absurd h List.not_mem_nil)⟩)⟩)⟩)⟩)⟩)⟩)⟩)⟩)⟩)⟩)⟩)⟩)⟩)
set_option maxRecDepth 4000 in
theorem vc_111 : ∀ q ∈ M_111.2.2.2.2.2.2.1, m_cOk M_111.1 q := (List.forall_mem_cons.mpr ⟨⟨m_n0 rfl, m_n0 rfl, m_n0 rfl, fun _ => ⟨M_62, rfl, m_n0 rfl, fun _ => ⟨(m_gi3 221 rfl rfl), (m_gi3 222 rfl rfl), (R_2, F_2, 3), rfl, rfl, (m_gi3 223 rfl rfl)⟩, m_n0 rfl, m_n0 rfl⟩⟩, (List.forall_mem_cons.mpr ⟨⟨m_n0 rfl, m_n0 rfl, m_n0 rfl, fun _ => ⟨M_71, rfl, m_n0 rfl, fun _ => ⟨(m_gi4 50 rfl rfl), (m_gi4 52 rfl rfl), (R_0, F_0, 15), rfl, rfl, (m_gp 4 rfl rfl)⟩, m_n0 rfl, m_n0 rfl⟩⟩, (List.forall_mem_cons.mpr ⟨⟨m_n0 rfl, m_n0 rfl, m_n0 rfl, fun _ => ⟨M_104, rfl, fun _ => ⟨rfl, rfl, (m_gi4 196 rfl rfl), (m_gi4 197 rfl rfl)⟩, m_n0 rfl, m_n0 rfl, m_n0 rfl⟩⟩, (List.forall_mem_cons.mpr ⟨⟨m_n0 rfl, m_n0 rfl, m_n0 rfl, fun _ => ⟨M_105, rfl, m_n0 rfl, fun _ => ⟨(m_gi5 41 rfl rfl), (m_gi5 43 rfl rfl), (R_0, F_0, 15), rfl, rfl, (m_gp 9 rfl rfl)⟩, m_n0 rfl, m_n0 rfl⟩⟩, (List.forall_mem_cons.mpr ⟨⟨m_n0 rfl, m_n0 rfl, m_n0 rfl, fun _ => ⟨M_112, rfl, m_n0 rfl, m_n0 rfl, fun _ => ⟨(m_gi5 142 rfl rfl), (m_gi5 143 rfl rfl)⟩, m_n0 rfl⟩⟩, (List.forall_mem_cons.mpr ⟨⟨m_n0 rfl, m_n0 rfl, m_n0 rfl, fun _ => ⟨M_113, rfl, m_n0 rfl, fun _ => ⟨(m_gi5 145 rfl rfl), (m_gi5 146 rfl rfl), (R_9, F_9, 19), rfl, rfl, (m_gi5 147 rfl rfl)⟩, m_n0 rfl, m_n0 rfl⟩⟩, (List.forall_mem_cons.mpr ⟨⟨m_n0 rfl, m_n0 rfl, m_n0 rfl, fun _ => ⟨M_114, rfl, m_n0 rfl, fun _ => ⟨(m_gi5 149 rfl rfl), (m_gi5 150 rfl rfl), (R_5, F_5, 3), rfl, rfl, (m_gi5 151 rfl rfl)⟩, m_n0 rfl, m_n0 rfl⟩⟩, (fun _ h => absurd h List.not_mem_nil)⟩)⟩)⟩)⟩)⟩)⟩)⟩)
set_option maxRecDepth 4000 in
theorem vo_111 : ∀ q ∈ M_111.2.2.2.2.2.2.2.1, m_oOk M_111.1 q := (List.forall_mem_cons.mpr ⟨⟨fun _ => ⟨(R_9, F_9, 19), rfl, (m_gi4 194 rfl rfl), (m_gi4 195 rfl rfl), (m_gi1 29 rfl rfl)⟩, m_n0 rfl, m_n0 rfl, m_n0 rfl, m_n0 rfl, m_n0 rfl, m_n0 rfl, Nat.le_of_ble_eq_true rfl⟩, (fun _ h => absurd h List.not_mem_nil)⟩)
set_option maxRecDepth 4000 in
theorem vk_111 : ∀ q ∈ M_111.2.2.2.2.2.2.2.2, decode M_111.2.1 q.1 = .ok (q.2.1, q.2.2) := by decide +kernel
set_option maxRecDepth 4000 in
theorem v_111 : m_mOk M_111 := ⟨(m_gi5 141 rfl rfl), (m_gi1 1 rfl rfl), by decide +kernel, ⟨by decide +kernel, by decide +kernel⟩, by decide +kernel, vf_111, vc_111, vo_111, vk_111⟩
set_option maxRecDepth 4000 in
theorem vf_112 : ∀ q ∈ M_112.2.2.2.2.2.1, m_fOk M_112.1 q := (fun _ h => absurd h List.not_mem_nil)
set_option maxRecDepth 4000 in
theorem vc_112 : ∀ q ∈ M_112.2.2.2.2.2.2.1, m_cOk M_112.1 q := (fun _ h => absurd h List.not_mem_nil)
set_option maxRecDepth 4000 in
theorem vo_112 : ∀ q ∈ M_112.2.2.2.2.2.2.2.1, m_oOk M_112.1 q := (fun _ h => absurd h List.not_mem_nil)
set_option maxRecDepth 4000 in
theorem vk_112 : ∀ q ∈ M_112.2.2.2.2.2.2.2.2, decode M_112.2.1 q.1 = .ok (q.2.1, q.2.2) := by decide +kernel
set_option maxRecDepth 4000 in
theorem v_112 : m_mOk M_112 := ⟨(m_gi5 144 rfl rfl), (m_gi1 1 rfl rfl), by decide +kernel, ⟨by decide +kernel, by decide +kernel⟩, by decide +kernel, vf_112, vc_112, vo_112, vk_112⟩
set_option maxRecDepth 4000 in
theorem vf_113 : ∀ q ∈ M_113.2.2.2.2.2.1, m_fOk M_113.1 q := (List.forall_mem_cons.mpr ⟨⟨(R_10, F_10, 14), rfl, Nat.le_of_ble_eq_true rfl, ⟨"EdgeHouse$Fetch", (m_gi5 76 rfl rfl), Or.inl rfl⟩, m_n0 rfl, m_n0 rfl⟩, (List.forall_mem_cons.mpr ⟨⟨(R_9, F_9, 19), rfl, Nat.le_of_ble_eq_true rfl, ⟨"EdgeHouse$Message", (m_gi4 210 rfl rfl), Or.inl rfl⟩, fun _ => rfl, m_n0 rfl⟩, (List.forall_mem_cons.mpr ⟨⟨(R_10, F_10, 14), rfl, Nat.le_of_ble_eq_true rfl, ⟨"EdgeHouse$Fetch", (m_gi5 80 rfl rfl), Or.inl rfl⟩, m_n0 rfl, m_n0 rfl⟩, (List.forall_mem_cons.mpr ⟨⟨(R_9, F_9, 19), rfl, Nat.le_of_ble_eq_true rfl, ⟨"EdgeHouse$Message", (m_gi4 213 rfl rfl), Or.inl rfl⟩, fun _ => rfl, m_n0 rfl⟩, (List.forall_mem_cons.mpr ⟨⟨(R_10, F_10, 14), rfl, Nat.le_of_ble_eq_true rfl, ⟨"EdgeHouse$Fetch", (m_gi5 84 rfl rfl), Or.inl rfl⟩, m_n0 rfl, m_n0 rfl⟩, (List.forall_mem_cons.mpr ⟨⟨(R_9, F_9, 19), rfl, Nat.le_of_ble_eq_true rfl, ⟨"EdgeHouse$Message", (m_gi4 216 rfl rfl), Or.inl rfl⟩, fun _ => rfl, m_n0 rfl⟩, (List.forall_mem_cons.mpr ⟨⟨(R_10, F_10, 14), rfl, Nat.le_of_ble_eq_true rfl, ⟨"EdgeHouse$Fetch", (m_gi5 87 rfl rfl), Or.inl rfl⟩, m_n0 rfl, m_n0 rfl⟩, (List.forall_mem_cons.mpr ⟨⟨(R_9, F_9, 19), rfl, Nat.le_of_ble_eq_true rfl, ⟨"EdgeHouse$Message", (m_gi4 218 rfl rfl), Or.inl rfl⟩, fun _ => rfl, m_n0 rfl⟩, (List.forall_mem_cons.mpr ⟨⟨(R_10, F_10, 14), rfl, Nat.le_of_ble_eq_true rfl, ⟨"EdgeHouse$Fetch", (m_gi5 92 rfl rfl), Or.inl rfl⟩, fun _ => rfl, m_n0 rfl⟩, (List.forall_mem_cons.mpr ⟨⟨(R_9, F_9, 19), rfl, Nat.le_of_ble_eq_true rfl, ⟨"EdgeHouse$Message", (m_gi4 220 rfl rfl), Or.inl rfl⟩, fun _ => rfl, m_n0 rfl⟩, (List.forall_mem_cons.mpr ⟨⟨(R_10, F_10, 14), rfl, Nat.le_of_ble_eq_true rfl, ⟨"EdgeHouse$Fetch", (m_gi5 95 rfl rfl), Or.inl rfl⟩, fun _ => rfl, m_n0 rfl⟩, (List.forall_mem_cons.mpr ⟨⟨(R_9, F_9, 19), rfl, Nat.le_of_ble_eq_true rfl, ⟨"EdgeHouse$Message", (m_gi4 222 rfl rfl), Or.inl rfl⟩, fun _ => rfl, m_n0 rfl⟩, (List.forall_mem_cons.mpr ⟨⟨(R_10, F_10, 14), rfl, Nat.le_of_ble_eq_true rfl, ⟨"EdgeHouse$Fetch", (m_gi5 90 rfl rfl), Or.inl rfl⟩, m_n0 rfl, m_n0 rfl⟩, (List.forall_mem_cons.mpr ⟨⟨(R_9, F_9, 19), rfl, Nat.le_of_ble_eq_true rfl, ⟨"EdgeHouse$Message", (m_gi4 224 rfl rfl), Or.inl rfl⟩, fun _ => rfl, m_n0 rfl⟩, (List.forall_mem_cons.mpr ⟨⟨(R_10, F_10, 14), rfl, Nat.le_of_ble_eq_true rfl, ⟨"EdgeHouse$Fetch", (m_gi5 100 rfl rfl), Or.inl rfl⟩, fun _ => rfl, m_n0 rfl⟩, (List.forall_mem_cons.mpr ⟨⟨(R_9, F_9, 19), rfl, Nat.le_of_ble_eq_true rfl, ⟨"EdgeHouse$Message", (m_gi4 231 rfl rfl), Or.inl rfl⟩, fun _ => rfl, m_n0 rfl⟩, (fun _ h => absurd h List.not_mem_nil)⟩)⟩)⟩)⟩)⟩)⟩)⟩)⟩)⟩)⟩)⟩)⟩)⟩)⟩)⟩)⟩)
set_option maxRecDepth 4000 in
theorem vc_113 : ∀ q ∈ M_113.2.2.2.2.2.2.1, m_cOk M_113.1 q := (fun _ h => absurd h List.not_mem_nil)
set_option maxRecDepth 4000 in
theorem vo_113 : ∀ q ∈ M_113.2.2.2.2.2.2.2.1, m_oOk M_113.1 q := (fun _ h => absurd h List.not_mem_nil)
set_option maxRecDepth 4000 in
theorem vk_113 : ∀ q ∈ M_113.2.2.2.2.2.2.2.2, decode M_113.2.1 q.1 = .ok (q.2.1, q.2.2) := by decide +kernel
set_option maxRecDepth 4000 in
theorem v_113 : m_mOk M_113 := ⟨(m_gi5 148 rfl rfl), (m_gi1 29 rfl rfl), by decide +kernel, ⟨by decide +kernel, by decide +kernel⟩, by decide +kernel, vf_113, vc_113, vo_113, vk_113⟩
set_option maxRecDepth 4000 in
theorem vf_114 : ∀ q ∈ M_114.2.2.2.2.2.1, m_fOk M_114.1 q := (List.forall_mem_cons.mpr ⟨⟨(R_11, F_11, 9), rfl, Nat.le_of_ble_eq_true rfl, ⟨"EdgeHouse$Entry", (m_gi5 238 rfl rfl), Or.inl rfl⟩, m_n0 rfl, m_n0 rfl⟩, (List.forall_mem_cons.mpr ⟨⟨(R_13, F_13, 10), rfl, Nat.le_of_ble_eq_true rfl, ⟨"EdgeHouse$Told", (m_gi8 105 rfl rfl), Or.inl rfl⟩, fun _ => rfl, m_n0 rfl⟩, (fun _ h => absurd h List.not_mem_nil)⟩)⟩)
set_option maxRecDepth 4000 in
theorem vc_114 : ∀ q ∈ M_114.2.2.2.2.2.2.1, m_cOk M_114.1 q := (List.forall_mem_cons.mpr ⟨⟨m_n0 rfl, m_n0 rfl, m_n0 rfl, fun _ => ⟨M_75, rfl, m_n0 rfl, fun _ => ⟨(m_gi4 68 rfl rfl), (m_gi4 69 rfl rfl), (R_5, F_5, 3), rfl, rfl, (m_gi4 70 rfl rfl)⟩, m_n0 rfl, m_n0 rfl⟩⟩, (List.forall_mem_cons.mpr ⟨⟨m_n0 rfl, m_n0 rfl, m_n0 rfl, fun _ => ⟨M_76, rfl, m_n0 rfl, fun _ => ⟨(m_gi4 73 rfl rfl), (m_gi4 74 rfl rfl), (R_5, F_5, 3), rfl, rfl, (m_gi4 75 rfl rfl)⟩, m_n0 rfl, m_n0 rfl⟩⟩, (List.forall_mem_cons.mpr ⟨⟨m_n0 rfl, m_n0 rfl, m_n0 rfl, fun _ => ⟨M_115, rfl, m_n0 rfl, fun _ => ⟨(m_gi5 153 rfl rfl), (m_gi5 154 rfl rfl), (R_10, F_10, 14), rfl, rfl, (m_gi5 155 rfl rfl)⟩, m_n0 rfl, m_n0 rfl⟩⟩, (fun _ h => absurd h List.not_mem_nil)⟩)⟩)⟩)
set_option maxRecDepth 4000 in
theorem vo_114 : ∀ q ∈ M_114.2.2.2.2.2.2.2.1, m_oOk M_114.1 q := (fun _ h => absurd h List.not_mem_nil)
set_option maxRecDepth 4000 in
theorem vk_114 : ∀ q ∈ M_114.2.2.2.2.2.2.2.2, decode M_114.2.1 q.1 = .ok (q.2.1, q.2.2) := by decide +kernel
set_option maxRecDepth 4000 in
theorem v_114 : m_mOk M_114 := ⟨(m_gi5 152 rfl rfl), (m_gi1 11 rfl rfl), by decide +kernel, ⟨by decide +kernel, by decide +kernel⟩, by decide +kernel, vf_114, vc_114, vo_114, vk_114⟩
set_option maxRecDepth 4000 in
theorem vf_115 : ∀ q ∈ M_115.2.2.2.2.2.1, m_fOk M_115.1 q := (List.forall_mem_cons.mpr ⟨⟨(R_10, F_10, 14), rfl, Nat.le_of_ble_eq_true rfl, ⟨"EdgeHouse$Fetch", (m_gi5 75 rfl rfl), Or.inl rfl⟩, m_n0 rfl, m_n0 rfl⟩, (List.forall_mem_cons.mpr ⟨⟨(R_10, F_10, 14), rfl, Nat.le_of_ble_eq_true rfl, ⟨"EdgeHouse$Fetch", (m_gi5 79 rfl rfl), Or.inl rfl⟩, m_n0 rfl, m_n0 rfl⟩, (List.forall_mem_cons.mpr ⟨⟨(R_10, F_10, 14), rfl, Nat.le_of_ble_eq_true rfl, ⟨"EdgeHouse$Fetch", (m_gi5 83 rfl rfl), Or.inl rfl⟩, m_n0 rfl, m_n0 rfl⟩, (List.forall_mem_cons.mpr ⟨⟨(R_10, F_10, 14), rfl, Nat.le_of_ble_eq_true rfl, ⟨"EdgeHouse$Fetch", (m_gi5 86 rfl rfl), Or.inl rfl⟩, m_n0 rfl, m_n0 rfl⟩, (List.forall_mem_cons.mpr ⟨⟨(R_10, F_10, 14), rfl, Nat.le_of_ble_eq_true rfl, ⟨"EdgeHouse$Fetch", (m_gi5 91 rfl rfl), Or.inl rfl⟩, fun _ => rfl, m_n0 rfl⟩, (List.forall_mem_cons.mpr ⟨⟨(R_10, F_10, 14), rfl, Nat.le_of_ble_eq_true rfl, ⟨"EdgeHouse$Fetch", (m_gi5 94 rfl rfl), Or.inl rfl⟩, fun _ => rfl, m_n0 rfl⟩, (List.forall_mem_cons.mpr ⟨⟨(R_11, F_11, 9), rfl, Nat.le_of_ble_eq_true rfl, ⟨"EdgeHouse$Entry", (m_gi6 2 rfl rfl), Or.inl rfl⟩, m_n0 rfl, m_n0 rfl⟩, (List.forall_mem_cons.mpr ⟨⟨(R_11, F_11, 9), rfl, Nat.le_of_ble_eq_true rfl, ⟨"EdgeHouse$Entry", (m_gi5 237 rfl rfl), Or.inl rfl⟩, m_n0 rfl, m_n0 rfl⟩, (List.forall_mem_cons.mpr ⟨⟨(R_11, F_11, 9), rfl, Nat.le_of_ble_eq_true rfl, ⟨"EdgeHouse$Entry", (m_gi6 5 rfl rfl), Or.inl rfl⟩, fun _ => rfl, m_n0 rfl⟩, (List.forall_mem_cons.mpr ⟨⟨(R_10, F_10, 14), rfl, Nat.le_of_ble_eq_true rfl, ⟨"EdgeHouse$Fetch", (m_gi5 101 rfl rfl), Or.inl rfl⟩, fun _ => rfl, m_n0 rfl⟩, (List.forall_mem_cons.mpr ⟨⟨(R_11, F_11, 9), rfl, Nat.le_of_ble_eq_true rfl, ⟨"EdgeHouse$Entry", (m_gi6 13 rfl rfl), Or.inl rfl⟩, fun _ => rfl, m_n0 rfl⟩, (fun _ h => absurd h List.not_mem_nil)⟩)⟩)⟩)⟩)⟩)⟩)⟩)⟩)⟩)⟩)⟩)
set_option maxRecDepth 4000 in
theorem vc_115 : ∀ q ∈ M_115.2.2.2.2.2.2.1, m_cOk M_115.1 q := (List.forall_mem_cons.mpr ⟨⟨m_n0 rfl, m_n0 rfl, m_n0 rfl, fun _ => ⟨M_81, rfl, m_n0 rfl, fun _ => ⟨(m_gi5 157 rfl rfl), (m_gi4 95 rfl rfl), (R_11, F_11, 9), rfl, rfl, (m_gi4 96 rfl rfl)⟩, m_n0 rfl, m_n0 rfl⟩⟩, (List.forall_mem_cons.mpr ⟨⟨m_n0 rfl, m_n0 rfl, m_n0 rfl, fun _ => ⟨M_82, rfl, m_n0 rfl, fun _ => ⟨(m_gi5 158 rfl rfl), (m_gi4 99 rfl rfl), (R_13, F_13, 10), rfl, rfl, (m_gi4 100 rfl rfl)⟩, m_n0 rfl, m_n0 rfl⟩⟩, (List.forall_mem_cons.mpr ⟨⟨m_n0 rfl, m_n0 rfl, m_n0 rfl, fun _ => ⟨M_85, rfl, m_n0 rfl, fun _ => ⟨(m_gi5 159 rfl rfl), (m_gi4 111 rfl rfl), (R_13, F_13, 10), rfl, rfl, (m_gi4 112 rfl rfl)⟩, m_n0 rfl, m_n0 rfl⟩⟩, (fun _ h => absurd h List.not_mem_nil)⟩)⟩)⟩)
set_option maxRecDepth 4000 in
theorem vo_115 : ∀ q ∈ M_115.2.2.2.2.2.2.2.1, m_oOk M_115.1 q := (fun _ h => absurd h List.not_mem_nil)
set_option maxRecDepth 4000 in
theorem vk_115 : ∀ q ∈ M_115.2.2.2.2.2.2.2.2, decode M_115.2.1 q.1 = .ok (q.2.1, q.2.2) := by decide +kernel
set_option maxRecDepth 4000 in
theorem v_115 : m_mOk M_115 := ⟨(m_gi5 156 rfl rfl), (m_gi1 30 rfl rfl), by decide +kernel, ⟨by decide +kernel, by decide +kernel⟩, by decide +kernel, vf_115, vc_115, vo_115, vk_115⟩
set_option maxRecDepth 4000 in
theorem vf_116 : ∀ q ∈ M_116.2.2.2.2.2.1, m_fOk M_116.1 q := (List.forall_mem_cons.mpr ⟨⟨(R_6, F_6, 19), rfl, Nat.le_of_ble_eq_true rfl, ⟨"EdgeHouse$Request", (m_gi2 130 rfl rfl), Or.inl rfl⟩, fun _ => rfl, m_n0 rfl⟩, (List.forall_mem_cons.mpr ⟨⟨(R_6, F_6, 19), rfl, Nat.le_of_ble_eq_true rfl, ⟨"EdgeHouse$Request", (m_gi2 138 rfl rfl), Or.inl rfl⟩, fun _ => rfl, m_n0 rfl⟩, (List.forall_mem_cons.mpr ⟨⟨(R_4, F_4, 11), rfl, Nat.le_of_ble_eq_true rfl, ⟨"EdgeHouse$Node", (m_gi1 194 rfl rfl), Or.inl rfl⟩, m_n0 rfl, m_n0 rfl⟩, (fun _ h => absurd h List.not_mem_nil)⟩)⟩)⟩)
set_option maxRecDepth 4000 in
theorem vc_116 : ∀ q ∈ M_116.2.2.2.2.2.2.1, m_cOk M_116.1 q := (List.forall_mem_cons.mpr ⟨⟨m_n0 rfl, m_n0 rfl, m_n0 rfl, fun _ => ⟨M_70, rfl, m_n0 rfl, fun _ => ⟨(m_gi4 46 rfl rfl), (m_gi4 48 rfl rfl), (R_0, F_0, 15), rfl, rfl, (m_gp 3 rfl rfl)⟩, m_n0 rfl, m_n0 rfl⟩⟩, (List.forall_mem_cons.mpr ⟨⟨m_n0 rfl, m_n0 rfl, m_n0 rfl, fun _ => ⟨M_117, rfl, m_n0 rfl, fun _ => ⟨(m_gi5 164 rfl rfl), (m_gi5 166 rfl rfl), (R_0, F_0, 15), rfl, rfl, (m_gp 12 rfl rfl)⟩, m_n0 rfl, m_n0 rfl⟩⟩, (fun _ h => absurd h List.not_mem_nil)⟩)⟩)
set_option maxRecDepth 4000 in
theorem vo_116 : ∀ q ∈ M_116.2.2.2.2.2.2.2.1, m_oOk M_116.1 q := (fun _ h => absurd h List.not_mem_nil)
set_option maxRecDepth 4000 in
theorem vk_116 : ∀ q ∈ M_116.2.2.2.2.2.2.2.2, decode M_116.2.1 q.1 = .ok (q.2.1, q.2.2) := by decide +kernel
set_option maxRecDepth 4000 in
theorem v_116 : m_mOk M_116 := ⟨(m_gi5 163 rfl rfl), (m_gi1 1 rfl rfl), by decide +kernel, ⟨by decide +kernel, by decide +kernel⟩, by decide +kernel, vf_116, vc_116, vo_116, vk_116⟩
set_option maxRecDepth 4000 in
theorem vf_117 : ∀ q ∈ M_117.2.2.2.2.2.1, m_fOk M_117.1 q := (List.forall_mem_cons.mpr ⟨⟨(R_6, F_6, 19), rfl, Nat.le_of_ble_eq_true rfl, ⟨"EdgeHouse$Request", (m_gi2 88 rfl rfl), Or.inl rfl⟩, fun _ => rfl, m_n0 rfl⟩, (List.forall_mem_cons.mpr ⟨⟨(R_6, F_6, 19), rfl, Nat.le_of_ble_eq_true rfl, ⟨"EdgeHouse$Request", (m_gi2 93 rfl rfl), Or.inl rfl⟩, fun _ => rfl, m_n0 rfl⟩, (List.forall_mem_cons.mpr ⟨⟨(R_9, F_9, 19), rfl, Nat.le_of_ble_eq_true rfl, ⟨"EdgeHouse$Message", (m_gi4 212 rfl rfl), Or.inl rfl⟩, fun _ => rfl, m_n0 rfl⟩, (List.forall_mem_cons.mpr ⟨⟨(R_9, F_9, 19), rfl, Nat.le_of_ble_eq_true rfl, ⟨"EdgeHouse$Message", (m_gi4 215 rfl rfl), Or.inl rfl⟩, fun _ => rfl, m_n0 rfl⟩, (List.forall_mem_cons.mpr ⟨⟨(R_9, F_9, 19), rfl, Nat.le_of_ble_eq_true rfl, ⟨"EdgeHouse$Message", (m_gi4 230 rfl rfl), Or.inl rfl⟩, fun _ => rfl, m_n0 rfl⟩, (List.forall_mem_cons.mpr ⟨⟨(R_6, F_6, 19), rfl, Nat.le_of_ble_eq_true rfl, ⟨"EdgeHouse$Request", (m_gi2 132 rfl rfl), Or.inl rfl⟩, fun _ => rfl, m_n0 rfl⟩, (List.forall_mem_cons.mpr ⟨⟨(R_6, F_6, 19), rfl, Nat.le_of_ble_eq_true rfl, ⟨"EdgeHouse$Request", (m_gi2 134 rfl rfl), Or.inl rfl⟩, fun _ => rfl, m_n0 rfl⟩, (fun _ h => absurd h List.not_mem_nil)⟩)⟩)⟩)⟩)⟩)⟩)⟩)
set_option maxRecDepth 4000 in
theorem vc_117 : ∀ q ∈ M_117.2.2.2.2.2.2.1, m_cOk M_117.1 q := (List.forall_mem_cons.mpr ⟨⟨m_n0 rfl, m_n0 rfl, m_n0 rfl, fun _ => ⟨M_104, rfl, fun _ => ⟨rfl, rfl, (m_gi4 196 rfl rfl), (m_gi4 197 rfl rfl)⟩, m_n0 rfl, m_n0 rfl, m_n0 rfl⟩⟩, (List.forall_mem_cons.mpr ⟨⟨m_n0 rfl, m_n0 rfl, m_n0 rfl, fun _ => ⟨M_105, rfl, m_n0 rfl, fun _ => ⟨(m_gi5 41 rfl rfl), (m_gi5 43 rfl rfl), (R_0, F_0, 15), rfl, rfl, (m_gp 9 rfl rfl)⟩, m_n0 rfl, m_n0 rfl⟩⟩, (fun _ h => absurd h List.not_mem_nil)⟩)⟩)
set_option maxRecDepth 4000 in
theorem vo_117 : ∀ q ∈ M_117.2.2.2.2.2.2.2.1, m_oOk M_117.1 q := (List.forall_mem_cons.mpr ⟨⟨fun _ => ⟨(R_9, F_9, 19), rfl, (m_gi4 194 rfl rfl), (m_gi4 195 rfl rfl), (m_gi1 29 rfl rfl)⟩, m_n0 rfl, m_n0 rfl, m_n0 rfl, m_n0 rfl, m_n0 rfl, m_n0 rfl, Nat.le_of_ble_eq_true rfl⟩, (fun _ h => absurd h List.not_mem_nil)⟩)
set_option maxRecDepth 4000 in
theorem vk_117 : ∀ q ∈ M_117.2.2.2.2.2.2.2.2, decode M_117.2.1 q.1 = .ok (q.2.1, q.2.2) := by decide +kernel
set_option maxRecDepth 4000 in
theorem v_117 : m_mOk M_117 := ⟨(m_gi5 167 rfl rfl), (m_gi1 1 rfl rfl), by decide +kernel, ⟨by decide +kernel, by decide +kernel⟩, by decide +kernel, vf_117, vc_117, vo_117, vk_117⟩
set_option maxRecDepth 4000 in
theorem vf_118 : ∀ q ∈ M_118.2.2.2.2.2.1, m_fOk M_118.1 q := (List.forall_mem_cons.mpr ⟨⟨(R_6, F_6, 19), rfl, Nat.le_of_ble_eq_true rfl, ⟨"EdgeHouse$Request", (m_gi2 88 rfl rfl), Or.inl rfl⟩, fun _ => rfl, m_n0 rfl⟩, (List.forall_mem_cons.mpr ⟨⟨(R_6, F_6, 19), rfl, Nat.le_of_ble_eq_true rfl, ⟨"EdgeHouse$Request", (m_gi2 93 rfl rfl), Or.inl rfl⟩, fun _ => rfl, m_n0 rfl⟩, (List.forall_mem_cons.mpr ⟨⟨(R_4, F_4, 11), rfl, Nat.le_of_ble_eq_true rfl, ⟨"EdgeHouse$Node", (m_gi1 209 rfl rfl), Or.inl rfl⟩, fun _ => rfl, m_n0 rfl⟩, (List.forall_mem_cons.mpr ⟨⟨(R_10, F_10, 14), rfl, Nat.le_of_ble_eq_true rfl, ⟨"EdgeHouse$Fetch", (m_gi5 93 rfl rfl), Or.inl rfl⟩, fun _ => rfl, m_n0 rfl⟩, (List.forall_mem_cons.mpr ⟨⟨(R_10, F_10, 14), rfl, Nat.le_of_ble_eq_true rfl, ⟨"EdgeHouse$Fetch", (m_gi5 96 rfl rfl), Or.inl rfl⟩, fun _ => rfl, m_n0 rfl⟩, (fun _ h => absurd h List.not_mem_nil)⟩)⟩)⟩)⟩)⟩)
set_option maxRecDepth 4000 in
theorem vc_118 : ∀ q ∈ M_118.2.2.2.2.2.2.1, m_cOk M_118.1 q := (List.forall_mem_cons.mpr ⟨⟨m_n0 rfl, m_n0 rfl, m_n0 rfl, fun _ => ⟨M_109, rfl, m_n0 rfl, fun _ => ⟨(m_gi5 62 rfl rfl), (m_gi5 63 rfl rfl), (R_4, F_4, 11), rfl, rfl, (m_gi5 64 rfl rfl)⟩, m_n0 rfl, m_n0 rfl⟩⟩, (List.forall_mem_cons.mpr ⟨⟨m_n0 rfl, m_n0 rfl, m_n0 rfl, fun _ => ⟨M_110, rfl, fun _ => ⟨rfl, rfl, (m_gi5 71 rfl rfl), (m_gi5 72 rfl rfl)⟩, m_n0 rfl, m_n0 rfl, m_n0 rfl⟩⟩, (List.forall_mem_cons.mpr ⟨⟨m_n0 rfl, m_n0 rfl, m_n0 rfl, fun _ => ⟨M_119, rfl, m_n0 rfl, fun _ => ⟨(m_gi5 172 rfl rfl), (m_gi5 173 rfl rfl), (R_10, F_10, 14), rfl, rfl, (m_gi5 174 rfl rfl)⟩, m_n0 rfl, m_n0 rfl⟩⟩, (List.forall_mem_cons.mpr ⟨⟨m_n0 rfl, m_n0 rfl, m_n0 rfl, fun _ => ⟨M_120, rfl, m_n0 rfl, m_n0 rfl, fun _ => ⟨(m_gi5 176 rfl rfl), (m_gi5 177 rfl rfl)⟩, m_n0 rfl⟩⟩, (List.forall_mem_cons.mpr ⟨⟨m_n0 rfl, m_n0 rfl, m_n0 rfl, fun _ => ⟨M_121, rfl, m_n0 rfl, m_n0 rfl, fun _ => ⟨(m_gi5 180 rfl rfl), (m_gi5 181 rfl rfl)⟩, m_n0 rfl⟩⟩, (fun _ h => absurd h List.not_mem_nil)⟩)⟩)⟩)⟩)⟩)
set_option maxRecDepth 4000 in
theorem vo_118 : ∀ q ∈ M_118.2.2.2.2.2.2.2.1, m_oOk M_118.1 q := (List.forall_mem_cons.mpr ⟨⟨fun _ => ⟨(R_10, F_10, 14), rfl, (m_gi5 69 rfl rfl), (m_gi5 70 rfl rfl), (m_gi1 30 rfl rfl)⟩, m_n0 rfl, m_n0 rfl, m_n0 rfl, m_n0 rfl, m_n0 rfl, m_n0 rfl, Nat.le_of_ble_eq_true rfl⟩, (fun _ h => absurd h List.not_mem_nil)⟩)
set_option maxRecDepth 4000 in
theorem vk_118 : ∀ q ∈ M_118.2.2.2.2.2.2.2.2, decode M_118.2.1 q.1 = .ok (q.2.1, q.2.2) := by decide +kernel
set_option maxRecDepth 4000 in
theorem v_118 : m_mOk M_118 := ⟨(m_gi5 171 rfl rfl), (m_gi1 1 rfl rfl), by decide +kernel, ⟨by decide +kernel, by decide +kernel⟩, by decide +kernel, vf_118, vc_118, vo_118, vk_118⟩
set_option maxRecDepth 4000 in
theorem vf_119 : ∀ q ∈ M_119.2.2.2.2.2.1, m_fOk M_119.1 q := (List.forall_mem_cons.mpr ⟨⟨(R_6, F_6, 19), rfl, Nat.le_of_ble_eq_true rfl, ⟨"EdgeHouse$Request", (m_gi2 137 rfl rfl), Or.inl rfl⟩, fun _ => rfl, m_n0 rfl⟩, (List.forall_mem_cons.mpr ⟨⟨(R_10, F_10, 14), rfl, Nat.le_of_ble_eq_true rfl, ⟨"EdgeHouse$Fetch", (m_gi5 108 rfl rfl), Or.inl rfl⟩, fun _ => rfl, m_n0 rfl⟩, (List.forall_mem_cons.mpr ⟨⟨(R_10, F_10, 14), rfl, Nat.le_of_ble_eq_true rfl, ⟨"EdgeHouse$Fetch", (m_gi5 106 rfl rfl), Or.inl rfl⟩, fun _ => rfl, m_n0 rfl⟩, (List.forall_mem_cons.mpr ⟨⟨(R_10, F_10, 14), rfl, Nat.le_of_ble_eq_true rfl, ⟨"EdgeHouse$Fetch", (m_gi5 104 rfl rfl), Or.inl rfl⟩, fun _ => rfl, m_n0 rfl⟩, (fun _ h => absurd h List.not_mem_nil)⟩)⟩)⟩)⟩)
set_option maxRecDepth 4000 in
theorem vc_119 : ∀ q ∈ M_119.2.2.2.2.2.2.1, m_cOk M_119.1 q := (fun _ h => absurd h List.not_mem_nil)
set_option maxRecDepth 4000 in
theorem vo_119 : ∀ q ∈ M_119.2.2.2.2.2.2.2.1, m_oOk M_119.1 q := (fun _ h => absurd h List.not_mem_nil)
set_option maxRecDepth 4000 in
theorem vk_119 : ∀ q ∈ M_119.2.2.2.2.2.2.2.2, decode M_119.2.1 q.1 = .ok (q.2.1, q.2.2) := by decide +kernel
set_option maxRecDepth 4000 in
theorem v_119 : m_mOk M_119 := ⟨(m_gi5 175 rfl rfl), (m_gi1 30 rfl rfl), by decide +kernel, ⟨by decide +kernel, by decide +kernel⟩, by decide +kernel, vf_119, vc_119, vo_119, vk_119⟩
