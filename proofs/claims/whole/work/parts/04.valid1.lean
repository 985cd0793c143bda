set_option maxRecDepth 4000 in
theorem vf_0 : ∀ q ∈ M_0.2.2.2.2.2.1, m_fOk M_0.1 q := (List.forall_mem_cons.mpr ⟨⟨(R_0, F_0, 15), rfl, Nat.le_of_ble_eq_true rfl, ⟨"EdgeHouse", (m_gi2 1 rfl rfl), Or.inl rfl⟩, m_n0 rfl, fun _ => ⟨rfl, rfl, rfl⟩⟩, (List.forall_mem_cons.mpr ⟨⟨(R_0, F_0, 15), rfl, Nat.le_of_ble_eq_true rfl, ⟨"EdgeHouse", (m_gi2 2 rfl rfl), Or.inl rfl⟩, m_n0 rfl, fun _ => ⟨rfl, rfl, rfl⟩⟩, (List.forall_mem_cons.mpr ⟨⟨(R_0, F_0, 15), rfl, Nat.le_of_ble_eq_true rfl, ⟨"EdgeHouse", (m_gi2 3 rfl rfl), Or.inl rfl⟩, m_n0 rfl, fun _ => ⟨rfl, rfl, rfl⟩⟩, (List.forall_mem_cons.mpr ⟨⟨(R_0, F_0, 15), rfl, Nat.le_of_ble_eq_true rfl, ⟨"EdgeHouse", (m_gi2 4 rfl rfl), Or.inl rfl⟩, m_n0 rfl, fun _ => ⟨rfl, rfl, rfl⟩⟩, (List.forall_mem_cons.mpr ⟨⟨(R_0, F_0, 15), rfl, Nat.le_of_ble_eq_true rfl, ⟨"EdgeHouse", (m_gi2 5 rfl rfl), Or.inl rfl⟩, m_n0 rfl, fun _ => ⟨rfl, rfl, rfl⟩⟩, (List.forall_mem_cons.mpr ⟨⟨(R_0, F_0, 15), rfl, Nat.le_of_ble_eq_true rfl, ⟨"EdgeHouse", (m_gi2 6 rfl rfl), Or.inl rfl⟩, m_n0 rfl, fun _ => ⟨rfl, rfl, rfl⟩⟩, (List.forall_mem_cons.mpr ⟨⟨(R_0, F_0, 15), rfl, Nat.le_of_ble_eq_true rfl, ⟨"EdgeHouse", (m_gi2 7 rfl rfl), Or.inl rfl⟩, m_n0 rfl, fun _ => ⟨rfl, rfl, rfl⟩⟩, (List.forall_mem_cons.mpr ⟨⟨(R_0, F_0, 15), rfl, Nat.le_of_ble_eq_true rfl, ⟨"EdgeHouse", (m_gi2 8 rfl rfl), Or.inl rfl⟩, m_n0 rfl, fun _ => ⟨rfl, rfl, rfl⟩⟩, (List.forall_mem_cons.mpr ⟨⟨(R_0, F_0, 15), rfl, Nat.le_of_ble_eq_true rfl, ⟨"EdgeHouse", (m_gi2 9 rfl rfl), Or.inl rfl⟩, m_n0 rfl, fun _ => ⟨rfl, rfl, rfl⟩⟩, (List.forall_mem_cons.mpr ⟨⟨(R_0, F_0, 15), rfl, Nat.le_of_ble_eq_true rfl, ⟨"EdgeHouse", (m_gi2 10 rfl rfl), Or.inl rfl⟩, m_n0 rfl, fun _ => ⟨rfl, rfl, rfl⟩⟩, (fun _ h => absurd h List.not_mem_nil)⟩)⟩)⟩)⟩)⟩)⟩)⟩)⟩)⟩)⟩)
set_option maxRecDepth 4000 in
theorem vc_0 : ∀ q ∈ M_0.2.2.2.2.2.2.1, m_cOk M_0.1 q := (List.forall_mem_cons.mpr ⟨⟨fun _ => (m_gi1 41 rfl rfl), m_n0 rfl, m_n0 rfl, m_n1 rfl⟩, (List.forall_mem_cons.mpr ⟨⟨m_n0 rfl, m_n0 rfl, m_n0 rfl, fun _ => ⟨M_1, rfl, m_n0 rfl, m_n0 rfl, m_n0 rfl, fun _ => ⟨rfl, rfl, (m_gi1 47 rfl rfl), "EdgeHouse", (List.mem_filter.mpr ⟨m_in1 (List.mem_of_getElem? (i := 46) rfl), rfl⟩)⟩⟩⟩, (List.forall_mem_cons.mpr ⟨⟨m_n0 rfl, m_n0 rfl, m_n0 rfl, fun _ => ⟨M_2, rfl, fun _ => ⟨rfl, rfl, (m_gi1 108 rfl rfl), (m_gi1 109 rfl rfl)⟩, m_n0 rfl, m_n0 rfl, m_n0 rfl⟩⟩, (List.forall_mem_cons.mpr ⟨⟨m_n0 rfl, m_n0 rfl, m_n0 rfl, fun _ => ⟨M_5, rfl, fun _ => ⟨rfl, rfl, (m_gi1 134 rfl rfl), (m_gi1 135 rfl rfl)⟩, m_n0 rfl, m_n0 rfl, m_n0 rfl⟩⟩, (List.forall_mem_cons.mpr ⟨⟨m_n0 rfl, m_n0 rfl, m_n0 rfl, fun _ => ⟨M_9, rfl, fun _ => ⟨rfl, rfl, (m_gi1 166 rfl rfl), (m_gi1 167 rfl rfl)⟩, m_n0 rfl, m_n0 rfl, m_n0 rfl⟩⟩, (List.forall_mem_cons.mpr ⟨⟨m_n0 rfl, m_n0 rfl, m_n0 rfl, fun _ => ⟨M_11, rfl, m_n0 rfl, m_n0 rfl, fun _ => ⟨(m_gi1 235 rfl rfl), (m_gi1 236 rfl rfl)⟩, m_n0 rfl⟩⟩, (fun _ h => absurd h List.not_mem_nil)⟩)⟩)⟩)⟩)⟩)⟩)
set_option maxRecDepth 4000 in
theorem vo_0 : ∀ q ∈ M_0.2.2.2.2.2.2.2.1, m_oOk M_0.1 q := (List.forall_mem_cons.mpr ⟨⟨fun _ => ⟨(R_1, F_1, 16), rfl, (m_gi1 44 rfl rfl), (m_gi1 45 rfl rfl), (m_gi1 2 rfl rfl)⟩, m_n0 rfl, m_n0 rfl, m_n0 rfl, m_n0 rfl, m_n0 rfl, m_n0 rfl, Nat.le_of_ble_eq_true rfl⟩, (List.forall_mem_cons.mpr ⟨⟨m_n0 rfl, fun _ => ⟨by decide, "EdgeHouse$Told", by decide, rfl, (m_gi1 102 rfl rfl)⟩, m_n0 rfl, m_n0 rfl, m_n0 rfl, m_n0 rfl, m_n0 rfl, Nat.le_of_ble_eq_true rfl⟩, (List.forall_mem_cons.mpr ⟨⟨fun _ => ⟨(R_4, F_4, 11), rfl, (m_gi1 104 rfl rfl), (m_gi1 165 rfl rfl), (m_gi1 10 rfl rfl)⟩, m_n0 rfl, m_n0 rfl, m_n0 rfl, m_n0 rfl, m_n0 rfl, m_n0 rfl, Nat.le_of_ble_eq_true rfl⟩, (List.forall_mem_cons.mpr ⟨⟨m_n0 rfl, fun _ => ⟨by decide, "EdgeHouse$Node", by decide, rfl, (m_gi1 104 rfl rfl)⟩, m_n0 rfl, m_n0 rfl, m_n0 rfl, m_n0 rfl, m_n0 rfl, Nat.le_of_ble_eq_true rfl⟩, (List.forall_mem_cons.mpr ⟨⟨fun _ => ⟨(R_2, F_2, 3), rfl, (m_gi1 106 rfl rfl), (m_gi1 107 rfl rfl), (m_gi1 5 rfl rfl)⟩, m_n0 rfl, m_n0 rfl, m_n0 rfl, m_n0 rfl, m_n0 rfl, m_n0 rfl, Nat.le_of_ble_eq_true rfl⟩, (List.forall_mem_cons.mpr ⟨⟨fun _ => ⟨(R_3, F_3, 4), rfl, (m_gi1 132 rfl rfl), (m_gi1 133 rfl rfl), (m_gi1 7 rfl rfl)⟩, m_n0 rfl, m_n0 rfl, m_n0 rfl, m_n0 rfl, m_n0 rfl, m_n0 rfl, Nat.le_of_ble_eq_true rfl⟩, (fun _ h => absurd h List.not_mem_nil)⟩)⟩)⟩)⟩)⟩)⟩)
set_option maxRecDepth 4000 in
theorem vk_0 : ∀ q ∈ M_0.2.2.2.2.2.2.2.2, decode M_0.2.1 q.1 = .ok (q.2.1, q.2.2) := by decide +kernel
set_option maxRecDepth 4000 in
theorem v_0 : m_mOk M_0 := ⟨(m_gi1 40 rfl rfl), (m_gi1 1 rfl rfl), by decide +kernel, ⟨by decide +kernel, by decide +kernel⟩, by decide +kernel, vf_0, vc_0, vo_0, vk_0⟩
set_option maxRecDepth 4000 in
theorem vf_1 : ∀ q ∈ M_1.2.2.2.2.2.1, m_fOk M_1.1 q := (List.forall_mem_cons.mpr ⟨⟨(R_1, F_1, 16), rfl, Nat.le_of_ble_eq_true rfl, ⟨"EdgeHouse$Reader", (m_gi1 50 rfl rfl), Or.inl rfl⟩, m_n0 rfl, fun _ => ⟨rfl, rfl, rfl⟩⟩, (List.forall_mem_cons.mpr ⟨⟨(R_1, F_1, 16), rfl, Nat.le_of_ble_eq_true rfl, ⟨"EdgeHouse$Reader", (m_gi1 53 rfl rfl), Or.inl rfl⟩, fun _ => rfl, m_n0 rfl⟩, (List.forall_mem_cons.mpr ⟨⟨(R_1, F_1, 16), rfl, Nat.le_of_ble_eq_true rfl, ⟨"EdgeHouse$Reader", (m_gi1 55 rfl rfl), Or.inl rfl⟩, m_n0 rfl, fun _ => ⟨rfl, rfl, rfl⟩⟩, (List.forall_mem_cons.mpr ⟨⟨(R_1, F_1, 16), rfl, Nat.le_of_ble_eq_true rfl, ⟨"EdgeHouse$Reader", (m_gi1 63 rfl rfl), Or.inl rfl⟩, m_n0 rfl, fun _ => ⟨rfl, rfl, rfl⟩⟩, (fun _ h => absurd h List.not_mem_nil)⟩)⟩)⟩)⟩)
set_option maxRecDepth 4000 in
theorem vc_1 : ∀ q ∈ M_1.2.2.2.2.2.2.1, m_cOk M_1.1 q := (List.forall_mem_cons.mpr ⟨⟨fun _ => (m_gi1 49 rfl rfl), m_n0 rfl, m_n0 rfl, m_n1 rfl⟩, (fun _ h => absurd h List.not_mem_nil)⟩)
set_option maxRecDepth 4000 in
theorem vo_1 : ∀ q ∈ M_1.2.2.2.2.2.2.2.1, m_oOk M_1.1 q := (fun _ h => absurd h List.not_mem_nil)
set_option maxRecDepth 4000 in
theorem vk_1 : ∀ q ∈ M_1.2.2.2.2.2.2.2.2, decode M_1.2.1 q.1 = .ok (q.2.1, q.2.2) := by decide +kernel
set_option maxRecDepth 4000 in
theorem v_1 : m_mOk M_1 := ⟨(m_gi1 48 rfl rfl), (m_gi1 2 rfl rfl), by decide +kernel, ⟨by decide +kernel, by decide +kernel⟩, by decide +kernel, vf_1, vc_1, vo_1, vk_1⟩
set_option maxRecDepth 4000 in
theorem vf_2 : ∀ q ∈ M_2.2.2.2.2.2.1, m_fOk M_2.1 q := (List.forall_mem_cons.mpr ⟨⟨(R_2, F_2, 3), rfl, Nat.le_of_ble_eq_true rfl, ⟨"java/util/ArrayList", (m_gi1 120 rfl rfl), Or.inl rfl⟩, fun _ => rfl, m_n0 rfl⟩, (fun _ h => absurd h List.not_mem_nil)⟩)
set_option maxRecDepth 4000 in
theorem vc_2 : ∀ q ∈ M_2.2.2.2.2.2.2.1, m_cOk M_2.1 q := (List.forall_mem_cons.mpr ⟨⟨m_n0 rfl, m_n0 rfl, m_n0 rfl, fun _ => ⟨M_3, rfl, fun _ => ⟨rfl, rfl, (m_gi1 111 rfl rfl), (m_gi1 112 rfl rfl)⟩, m_n0 rfl, m_n0 rfl, m_n0 rfl⟩⟩, (fun _ h => absurd h List.not_mem_nil)⟩)
set_option maxRecDepth 4000 in
theorem vo_2 : ∀ q ∈ M_2.2.2.2.2.2.2.2.1, m_oOk M_2.1 q := (List.forall_mem_cons.mpr ⟨⟨m_n0 rfl, m_n0 rfl, m_n0 rfl, m_n0 rfl, fun _ => ⟨"java/util/ArrayList", "DEFAULTCAPACITY_EMPTY_ELEMENTDATA", "[Ljava/lang/Object;", by decide, (m_gi1 118 rfl rfl)⟩, m_n0 rfl, m_n0 rfl, Nat.le_of_ble_eq_true rfl⟩, (fun _ h => absurd h List.not_mem_nil)⟩)
set_option maxRecDepth 4000 in
theorem vk_2 : ∀ q ∈ M_2.2.2.2.2.2.2.2.2, decode M_2.2.1 q.1 = .ok (q.2.1, q.2.2) := by decide +kernel
set_option maxRecDepth 4000 in
theorem v_2 : m_mOk M_2 := ⟨(m_gi1 110 rfl rfl), (m_gi1 5 rfl rfl), by decide +kernel, ⟨by decide +kernel, by decide +kernel⟩, by decide +kernel, vf_2, vc_2, vo_2, vk_2⟩
set_option maxRecDepth 4000 in
theorem vf_3 : ∀ q ∈ M_3.2.2.2.2.2.1, m_fOk M_3.1 q := (List.forall_mem_cons.mpr ⟨⟨(R_2, F_2, 3), rfl, Nat.le_of_ble_eq_true rfl, ⟨"java/util/AbstractList", (m_gi1 122 rfl rfl), Or.inl rfl⟩, fun _ => rfl, m_n0 rfl⟩, (fun _ h => absurd h List.not_mem_nil)⟩)
set_option maxRecDepth 4000 in
theorem vc_3 : ∀ q ∈ M_3.2.2.2.2.2.2.1, m_cOk M_3.1 q := (List.forall_mem_cons.mpr ⟨⟨m_n0 rfl, m_n0 rfl, m_n0 rfl, fun _ => ⟨M_4, rfl, fun _ => ⟨rfl, rfl, (m_gi1 114 rfl rfl), (m_gi1 115 rfl rfl)⟩, m_n0 rfl, m_n0 rfl, m_n0 rfl⟩⟩, (fun _ h => absurd h List.not_mem_nil)⟩)
set_option maxRecDepth 4000 in
theorem vo_3 : ∀ q ∈ M_3.2.2.2.2.2.2.2.1, m_oOk M_3.1 q := (fun _ h => absurd h List.not_mem_nil)
set_option maxRecDepth 4000 in
theorem vk_3 : ∀ q ∈ M_3.2.2.2.2.2.2.2.2, decode M_3.2.1 q.1 = .ok (q.2.1, q.2.2) := by decide +kernel
set_option maxRecDepth 4000 in
theorem v_3 : m_mOk M_3 := ⟨(m_gi1 113 rfl rfl), (m_gi1 4 rfl rfl), by decide +kernel, ⟨by decide +kernel, by decide +kernel⟩, by decide +kernel, vf_3, vc_3, vo_3, vk_3⟩
set_option maxRecDepth 4000 in
theorem vf_4 : ∀ q ∈ M_4.2.2.2.2.2.1, m_fOk M_4.1 q := (fun _ h => absurd h List.not_mem_nil)
set_option maxRecDepth 4000 in
theorem vc_4 : ∀ q ∈ M_4.2.2.2.2.2.2.1, m_cOk M_4.1 q := (List.forall_mem_cons.mpr ⟨⟨fun _ => (m_gi1 117 rfl rfl), m_n0 rfl, m_n0 rfl, m_n1 rfl⟩, (fun _ h => absurd h List.not_mem_nil)⟩)
set_option maxRecDepth 4000 in
theorem vo_4 : ∀ q ∈ M_4.2.2.2.2.2.2.2.1, m_oOk M_4.1 q := (fun _ h => absurd h List.not_mem_nil)
set_option maxRecDepth 4000 in
theorem vk_4 : ∀ q ∈ M_4.2.2.2.2.2.2.2.2, decode M_4.2.1 q.1 = .ok (q.2.1, q.2.2) := by decide +kernel
set_option maxRecDepth 4000 in
theorem v_4 : m_mOk M_4 := ⟨(m_gi1 116 rfl rfl), (m_gi1 3 rfl rfl), by decide +kernel, ⟨by decide +kernel, by decide +kernel⟩, by decide +kernel, vf_4, vc_4, vo_4, vk_4⟩
set_option maxRecDepth 4000 in
theorem vf_5 : ∀ q ∈ M_5.2.2.2.2.2.1, m_fOk M_5.1 q := (fun _ h => absurd h List.not_mem_nil)
set_option maxRecDepth 4000 in
theorem vc_5 : ∀ q ∈ M_5.2.2.2.2.2.2.1, m_cOk M_5.1 q := (List.forall_mem_cons.mpr ⟨⟨m_n0 rfl, m_n0 rfl, m_n0 rfl, fun _ => ⟨M_6, rfl, fun _ => ⟨rfl, rfl, (m_gi1 137 rfl rfl), (m_gi1 138 rfl rfl)⟩, m_n0 rfl, m_n0 rfl, m_n0 rfl⟩⟩, (fun _ h => absurd h List.not_mem_nil)⟩)
set_option maxRecDepth 4000 in
theorem vo_5 : ∀ q ∈ M_5.2.2.2.2.2.2.2.1, m_oOk M_5.1 q := (fun _ h => absurd h List.not_mem_nil)
set_option maxRecDepth 4000 in
theorem vk_5 : ∀ q ∈ M_5.2.2.2.2.2.2.2.2, decode M_5.2.1 q.1 = .ok (q.2.1, q.2.2) := by decide +kernel
set_option maxRecDepth 4000 in
theorem v_5 : m_mOk M_5 := ⟨(m_gi1 136 rfl rfl), (m_gi1 7 rfl rfl), by decide +kernel, ⟨by decide +kernel, by decide +kernel⟩, by decide +kernel, vf_5, vc_5, vo_5, vk_5⟩
set_option maxRecDepth 4000 in
theorem vf_6 : ∀ q ∈ M_6.2.2.2.2.2.1, m_fOk M_6.1 q := (List.forall_mem_cons.mpr ⟨⟨(R_3, F_3, 4), rfl, Nat.le_of_ble_eq_true rfl, ⟨"java/lang/AbstractStringBuilder", (m_gi1 150 rfl rfl), Or.inl rfl⟩, fun _ => rfl, m_n0 rfl⟩, (List.forall_mem_cons.mpr ⟨⟨(R_3, F_3, 4), rfl, Nat.le_of_ble_eq_true rfl, ⟨"java/lang/AbstractStringBuilder", (m_gi1 151 rfl rfl), Or.inl rfl⟩, fun _ => rfl, m_n0 rfl⟩, (fun _ h => absurd h List.not_mem_nil)⟩)⟩)
set_option maxRecDepth 4000 in
theorem vc_6 : ∀ q ∈ M_6.2.2.2.2.2.2.1, m_cOk M_6.1 q := (List.forall_mem_cons.mpr ⟨⟨fun _ => (m_gi1 140 rfl rfl), m_n0 rfl, m_n0 rfl, m_n1 rfl⟩, (List.forall_mem_cons.mpr ⟨⟨m_n0 rfl, m_n0 rfl, m_n0 rfl, fun _ => ⟨M_7, rfl, m_n0 rfl, m_n0 rfl, fun _ => ⟨(m_gi1 143 rfl rfl), (m_gi1 144 rfl rfl)⟩, m_n0 rfl⟩⟩, (fun _ h => absurd h List.not_mem_nil)⟩)⟩)
set_option maxRecDepth 4000 in
theorem vo_6 : ∀ q ∈ M_6.2.2.2.2.2.2.2.1, m_oOk M_6.1 q := (List.forall_mem_cons.mpr ⟨⟨m_n0 rfl, m_n0 rfl, m_n0 rfl, m_n0 rfl, fun _ => ⟨"java/lang/String", "COMPACT_STRINGS", "Z", by decide, (m_gi1 141 rfl rfl)⟩, m_n0 rfl, m_n0 rfl, Nat.le_of_ble_eq_true rfl⟩, (fun _ h => absurd h List.not_mem_nil)⟩)
set_option maxRecDepth 4000 in
theorem vk_6 : ∀ q ∈ M_6.2.2.2.2.2.2.2.2, decode M_6.2.1 q.1 = .ok (q.2.1, q.2.2) := by decide +kernel
set_option maxRecDepth 4000 in
theorem v_6 : m_mOk M_6 := ⟨(m_gi1 139 rfl rfl), (m_gi1 6 rfl rfl), by decide +kernel, ⟨by decide +kernel, by decide +kernel⟩, by decide +kernel, vf_6, vc_6, vo_6, vk_6⟩
set_option maxRecDepth 4000 in
theorem vf_7 : ∀ q ∈ M_7.2.2.2.2.2.1, m_fOk M_7.1 q := (fun _ h => absurd h List.not_mem_nil)
set_option maxRecDepth 4000 in
theorem vc_7 : ∀ q ∈ M_7.2.2.2.2.2.2.1, m_cOk M_7.1 q := (List.forall_mem_cons.mpr ⟨⟨m_n0 rfl, m_n0 rfl, m_n0 rfl, fun _ => ⟨M_8, rfl, m_n0 rfl, m_n0 rfl, fun _ => ⟨(m_gi1 146 rfl rfl), (m_gi1 147 rfl rfl)⟩, m_n0 rfl⟩⟩, (fun _ h => absurd h List.not_mem_nil)⟩)
set_option maxRecDepth 4000 in
theorem vo_7 : ∀ q ∈ M_7.2.2.2.2.2.2.2.1, m_oOk M_7.1 q := (fun _ h => absurd h List.not_mem_nil)
set_option maxRecDepth 4000 in
theorem vk_7 : ∀ q ∈ M_7.2.2.2.2.2.2.2.2, decode M_7.2.1 q.1 = .ok (q.2.1, q.2.2) := by decide +kernel
set_option maxRecDepth 4000 in
theorem v_7 : m_mOk M_7 := ⟨(m_gi1 145 rfl rfl), (m_gi1 9 rfl rfl), by decide +kernel, ⟨by decide +kernel, by decide +kernel⟩, by decide +kernel, vf_7, vc_7, vo_7, vk_7⟩
set_option maxRecDepth 4000 in
theorem vf_8 : ∀ q ∈ M_8.2.2.2.2.2.1, m_fOk M_8.1 q := (fun _ h => absurd h List.not_mem_nil)
set_option maxRecDepth 4000 in
theorem vc_8 : ∀ q ∈ M_8.2.2.2.2.2.2.1, m_cOk M_8.1 q := (fun _ h => absurd h List.not_mem_nil)
set_option maxRecDepth 4000 in
theorem vo_8 : ∀ q ∈ M_8.2.2.2.2.2.2.2.1, m_oOk M_8.1 q := (List.forall_mem_cons.mpr ⟨⟨m_n0 rfl, m_n0 rfl, fun _ => ⟨_, rfl, (m_gi1 149 rfl rfl)⟩, m_n0 rfl, m_n0 rfl, m_n0 rfl, m_n0 rfl, Nat.le_of_ble_eq_true rfl⟩, (fun _ h => absurd h List.not_mem_nil)⟩)
set_option maxRecDepth 4000 in
theorem vk_8 : ∀ q ∈ M_8.2.2.2.2.2.2.2.2, decode M_8.2.1 q.1 = .ok (q.2.1, q.2.2) := by decide +kernel
set_option maxRecDepth 4000 in
theorem v_8 : m_mOk M_8 := ⟨(m_gi1 148 rfl rfl), (m_gi1 9 rfl rfl), by decide +kernel, ⟨by decide +kernel, by decide +kernel⟩, by decide +kernel, vf_8, vc_8, vo_8, vk_8⟩
set_option maxRecDepth 4000 in
theorem vf_9 : ∀ q ∈ M_9.2.2.2.2.2.1, m_fOk M_9.1 q := (List.forall_mem_cons.mpr ⟨⟨(R_4, F_4, 11), rfl, Nat.le_of_ble_eq_true rfl, ⟨"EdgeHouse$Node", (m_gi1 195 rfl rfl), Or.inl rfl⟩, m_n0 rfl, fun _ => ⟨rfl, rfl, rfl⟩⟩, (List.forall_mem_cons.mpr ⟨⟨(R_4, F_4, 11), rfl, Nat.le_of_ble_eq_true rfl, ⟨"EdgeHouse$Node", (m_gi1 197 rfl rfl), Or.inl rfl⟩, m_n0 rfl, fun _ => ⟨rfl, rfl, rfl⟩⟩, (List.forall_mem_cons.mpr ⟨⟨(R_4, F_4, 11), rfl, Nat.le_of_ble_eq_true rfl, ⟨"EdgeHouse$Node", (m_gi1 199 rfl rfl), Or.inl rfl⟩, m_n0 rfl, fun _ => ⟨rfl, rfl, rfl⟩⟩, (List.forall_mem_cons.mpr ⟨⟨(R_4, F_4, 11), rfl, Nat.le_of_ble_eq_true rfl, ⟨"EdgeHouse$Node", (m_gi1 200 rfl rfl), Or.inl rfl⟩, m_n0 rfl, fun _ => ⟨rfl, rfl, rfl⟩⟩, (List.forall_mem_cons.mpr ⟨⟨(R_4, F_4, 11), rfl, Nat.le_of_ble_eq_true rfl, ⟨"EdgeHouse$Node", (m_gi1 201 rfl rfl), Or.inl rfl⟩, m_n0 rfl, fun _ => ⟨rfl, rfl, rfl⟩⟩, (List.forall_mem_cons.mpr ⟨⟨(R_4, F_4, 11), rfl, Nat.le_of_ble_eq_true rfl, ⟨"EdgeHouse$Node", (m_gi1 202 rfl rfl), Or.inl rfl⟩, fun _ => rfl, m_n0 rfl⟩, (List.forall_mem_cons.mpr ⟨⟨(R_4, F_4, 11), rfl, Nat.le_of_ble_eq_true rfl, ⟨"EdgeHouse$Node", (m_gi1 193 rfl rfl), Or.inl rfl⟩, m_n0 rfl, fun _ => ⟨rfl, rfl, rfl⟩⟩, (fun _ h => absurd h List.not_mem_nil)⟩)⟩)⟩)⟩)⟩)⟩)⟩)
set_option maxRecDepth 4000 in
theorem vc_9 : ∀ q ∈ M_9.2.2.2.2.2.2.1, m_cOk M_9.1 q := (List.forall_mem_cons.mpr ⟨⟨fun _ => (m_gi1 169 rfl rfl), m_n0 rfl, m_n0 rfl, m_n1 rfl⟩, (List.forall_mem_cons.mpr ⟨⟨m_n0 rfl, m_n0 rfl, m_n0 rfl, fun _ => ⟨M_10, rfl, m_n0 rfl, m_n0 rfl, m_n0 rfl, fun _ => ⟨rfl, rfl, (m_gi1 173 rfl rfl), "EdgeHouse", (List.mem_filter.mpr ⟨m_in1 (List.mem_of_getElem? (i := 172) rfl), rfl⟩)⟩⟩⟩, (List.forall_mem_cons.mpr ⟨⟨m_n0 rfl, m_n0 rfl, m_n0 rfl, fun _ => ⟨M_2, rfl, fun _ => ⟨rfl, rfl, (m_gi1 192 rfl rfl), (m_gi1 109 rfl rfl)⟩, m_n0 rfl, m_n0 rfl, m_n0 rfl⟩⟩, (fun _ h => absurd h List.not_mem_nil)⟩)⟩)⟩)
set_option maxRecDepth 4000 in
theorem vo_9 : ∀ q ∈ M_9.2.2.2.2.2.2.2.1, m_oOk M_9.1 q := (List.forall_mem_cons.mpr ⟨⟨fun _ => ⟨(R_5, F_5, 3), rfl, (m_gi1 170 rfl rfl), (m_gi1 171 rfl rfl), (m_gi1 11 rfl rfl)⟩, m_n0 rfl, m_n0 rfl, m_n0 rfl, m_n0 rfl, m_n0 rfl, m_n0 rfl, Nat.le_of_ble_eq_true rfl⟩, (List.forall_mem_cons.mpr ⟨⟨fun _ => ⟨(R_2, F_2, 3), rfl, (m_gi1 191 rfl rfl), (m_gi1 107 rfl rfl), (m_gi1 5 rfl rfl)⟩, m_n0 rfl, m_n0 rfl, m_n0 rfl, m_n0 rfl, m_n0 rfl, m_n0 rfl, Nat.le_of_ble_eq_true rfl⟩, (fun _ h => absurd h List.not_mem_nil)⟩)⟩)
set_option maxRecDepth 4000 in
theorem vk_9 : ∀ q ∈ M_9.2.2.2.2.2.2.2.2, decode M_9.2.1 q.1 = .ok (q.2.1, q.2.2) := by decide +kernel
set_option maxRecDepth 4000 in
theorem v_9 : m_mOk M_9 := ⟨(m_gi1 168 rfl rfl), (m_gi1 10 rfl rfl), by decide +kernel, ⟨by decide +kernel, by decide +kernel⟩, by decide +kernel, vf_9, vc_9, vo_9, vk_9⟩
set_option maxRecDepth 4000 in
theorem vf_10 : ∀ q ∈ M_10.2.2.2.2.2.1, m_fOk M_10.1 q := (List.forall_mem_cons.mpr ⟨⟨(R_5, F_5, 3), rfl, Nat.le_of_ble_eq_true rfl, ⟨"EdgeHouse$Store", (m_gi1 178 rfl rfl), Or.inl rfl⟩, m_n0 rfl, fun _ => ⟨rfl, rfl, rfl⟩⟩, (List.forall_mem_cons.mpr ⟨⟨(R_5, F_5, 3), rfl, Nat.le_of_ble_eq_true rfl, ⟨"EdgeHouse$Store", (m_gi1 180 rfl rfl), Or.inl rfl⟩, m_n0 rfl, fun _ => ⟨rfl, rfl, rfl⟩⟩, (List.forall_mem_cons.mpr ⟨⟨(R_5, F_5, 3), rfl, Nat.le_of_ble_eq_true rfl, ⟨"EdgeHouse$Store", (m_gi1 182 rfl rfl), Or.inl rfl⟩, fun _ => rfl, m_n0 rfl⟩, (fun _ h => absurd h List.not_mem_nil)⟩)⟩)⟩)
set_option maxRecDepth 4000 in
theorem vc_10 : ∀ q ∈ M_10.2.2.2.2.2.2.1, m_cOk M_10.1 q := (List.forall_mem_cons.mpr ⟨⟨fun _ => (m_gi1 175 rfl rfl), m_n0 rfl, m_n0 rfl, m_n1 rfl⟩, (List.forall_mem_cons.mpr ⟨⟨m_n0 rfl, m_n0 rfl, m_n0 rfl, fun _ => ⟨M_2, rfl, fun _ => ⟨rfl, rfl, (m_gi1 177 rfl rfl), (m_gi1 109 rfl rfl)⟩, m_n0 rfl, m_n0 rfl, m_n0 rfl⟩⟩, (fun _ h => absurd h List.not_mem_nil)⟩)⟩)
set_option maxRecDepth 4000 in
theorem vo_10 : ∀ q ∈ M_10.2.2.2.2.2.2.2.1, m_oOk M_10.1 q := (List.forall_mem_cons.mpr ⟨⟨fun _ => ⟨(R_2, F_2, 3), rfl, (m_gi1 176 rfl rfl), (m_gi1 107 rfl rfl), (m_gi1 5 rfl rfl)⟩, m_n0 rfl, m_n0 rfl, m_n0 rfl, m_n0 rfl, m_n0 rfl, m_n0 rfl, Nat.le_of_ble_eq_true rfl⟩, (fun _ h => absurd h List.not_mem_nil)⟩)
set_option maxRecDepth 4000 in
theorem vk_10 : ∀ q ∈ M_10.2.2.2.2.2.2.2.2, decode M_10.2.1 q.1 = .ok (q.2.1, q.2.2) := by decide +kernel
set_option maxRecDepth 4000 in
theorem v_10 : m_mOk M_10 := ⟨(m_gi1 174 rfl rfl), (m_gi1 11 rfl rfl), by decide +kernel, ⟨by decide +kernel, by decide +kernel⟩, by decide +kernel, vf_10, vc_10, vo_10, vk_10⟩
set_option maxRecDepth 4000 in
theorem vf_11 : ∀ q ∈ M_11.2.2.2.2.2.1, m_fOk M_11.1 q := (fun _ h => absurd h List.not_mem_nil)
set_option maxRecDepth 4000 in
theorem vc_11 : ∀ q ∈ M_11.2.2.2.2.2.2.1, m_cOk M_11.1 q := (fun _ h => absurd h List.not_mem_nil)
set_option maxRecDepth 4000 in
theorem vo_11 : ∀ q ∈ M_11.2.2.2.2.2.2.2.1, m_oOk M_11.1 q := (List.forall_mem_cons.mpr ⟨⟨m_n0 rfl, m_n0 rfl, fun _ => ⟨_, rfl, (m_gi1 238 rfl rfl)⟩, m_n0 rfl, m_n0 rfl, m_n0 rfl, m_n0 rfl, Nat.le_of_ble_eq_true rfl⟩, (List.forall_mem_cons.mpr ⟨⟨m_n0 rfl, m_n0 rfl, fun _ => ⟨_, rfl, (m_gi1 239 rfl rfl)⟩, m_n0 rfl, m_n0 rfl, m_n0 rfl, m_n0 rfl, Nat.le_of_ble_eq_true rfl⟩, (List.forall_mem_cons.mpr ⟨⟨m_n0 rfl, m_n0 rfl, fun _ => ⟨_, rfl, (m_gi2 0 rfl rfl)⟩, m_n0 rfl, m_n0 rfl, m_n0 rfl, m_n0 rfl, Nat.le_of_ble_eq_true rfl⟩, (fun _ h => absurd h List.not_mem_nil)⟩)⟩)⟩)
set_option maxRecDepth 4000 in
theorem vk_11 : ∀ q ∈ M_11.2.2.2.2.2.2.2.2, decode M_11.2.1 q.1 = .ok (q.2.1, q.2.2) := by decide +kernel
set_option maxRecDepth 4000 in
theorem v_11 : m_mOk M_11 := ⟨(m_gi1 237 rfl rfl), (m_gi1 1 rfl rfl), by decide +kernel, ⟨by decide +kernel, by decide +kernel⟩, by decide +kernel, vf_11, vc_11, vo_11, vk_11⟩
set_option maxRecDepth 4000 in
theorem vf_12 : ∀ q ∈ M_12.2.2.2.2.2.1, m_fOk M_12.1 q := (List.forall_mem_cons.mpr ⟨⟨(R_0, F_0, 15), rfl, Nat.le_of_ble_eq_true rfl, ⟨"EdgeHouse", (m_gi2 1 rfl rfl), Or.inl rfl⟩, m_n0 rfl, m_n0 rfl⟩, (fun _ h => absurd h List.not_mem_nil)⟩)
set_option maxRecDepth 4000 in
theorem vc_12 : ∀ q ∈ M_12.2.2.2.2.2.2.1, m_cOk M_12.1 q := (List.forall_mem_cons.mpr ⟨⟨m_n0 rfl, m_n0 rfl, m_n0 rfl, fun _ => ⟨M_13, rfl, m_n0 rfl, fun _ => ⟨(m_gi2 51 rfl rfl), (m_gi2 52 rfl rfl), (R_1, F_1, 16), rfl, rfl, (m_gi2 53 rfl rfl)⟩, m_n0 rfl, m_n0 rfl⟩⟩, (fun _ h => absurd h List.not_mem_nil)⟩)
set_option maxRecDepth 4000 in
theorem vo_12 : ∀ q ∈ M_12.2.2.2.2.2.2.2.1, m_oOk M_12.1 q := (fun _ h => absurd h List.not_mem_nil)
set_option maxRecDepth 4000 in
theorem vk_12 : ∀ q ∈ M_12.2.2.2.2.2.2.2.2, decode M_12.2.1 q.1 = .ok (q.2.1, q.2.2) := by decide +kernel
set_option maxRecDepth 4000 in
theorem v_12 : m_mOk M_12 := ⟨(m_gi2 50 rfl rfl), (m_gi1 1 rfl rfl), by decide +kernel, ⟨by decide +kernel, by decide +kernel⟩, by decide +kernel, vf_12, vc_12, vo_12, vk_12⟩
set_option maxRecDepth 4000 in
theorem vf_13 : ∀ q ∈ M_13.2.2.2.2.2.1, m_fOk M_13.1 q := (List.forall_mem_cons.mpr ⟨⟨(R_1, F_1, 16), rfl, Nat.le_of_ble_eq_true rfl, ⟨"EdgeHouse$Reader", (m_gi1 50 rfl rfl), Or.inl rfl⟩, m_n0 rfl, m_n0 rfl⟩, (List.forall_mem_cons.mpr ⟨⟨(R_1, F_1, 16), rfl, Nat.le_of_ble_eq_true rfl, ⟨"EdgeHouse$Reader", (m_gi1 51 rfl rfl), Or.inl rfl⟩, fun _ => rfl, m_n0 rfl⟩, (fun _ h => absurd h List.not_mem_nil)⟩)⟩)
set_option maxRecDepth 4000 in
theorem vc_13 : ∀ q ∈ M_13.2.2.2.2.2.2.1, m_cOk M_13.1 q := (fun _ h => absurd h List.not_mem_nil)
set_option maxRecDepth 4000 in
theorem vo_13 : ∀ q ∈ M_13.2.2.2.2.2.2.2.1, m_oOk M_13.1 q := (List.forall_mem_cons.mpr ⟨⟨m_n0 rfl, m_n0 rfl, m_n0 rfl, fun _ => ⟨_, rfl, (m_gi2 55 rfl rfl)⟩, m_n0 rfl, m_n0 rfl, m_n0 rfl, Nat.le_of_ble_eq_true rfl⟩, (fun _ h => absurd h List.not_mem_nil)⟩)
set_option maxRecDepth 4000 in
theorem vk_13 : ∀ q ∈ M_13.2.2.2.2.2.2.2.2, decode M_13.2.1 q.1 = .ok (q.2.1, q.2.2) := by decide +kernel
set_option maxRecDepth 4000 in
theorem v_13 : m_mOk M_13 := ⟨(m_gi2 54 rfl rfl), (m_gi1 2 rfl rfl), by decide +kernel, ⟨by decide +kernel, by decide +kernel⟩, by decide +kernel, vf_13, vc_13, vo_13, vk_13⟩
set_option maxRecDepth 4000 in
theorem vf_14 : ∀ q ∈ M_14.2.2.2.2.2.1, m_fOk M_14.1 q := (List.forall_mem_cons.mpr ⟨⟨(R_0, F_0, 15), rfl, Nat.le_of_ble_eq_true rfl, ⟨"EdgeHouse", (m_gi2 2 rfl rfl), Or.inl rfl⟩, m_n0 rfl, m_n0 rfl⟩, (fun _ h => absurd h List.not_mem_nil)⟩)
set_option maxRecDepth 4000 in
theorem vc_14 : ∀ q ∈ M_14.2.2.2.2.2.2.1, m_cOk M_14.1 q := (List.forall_mem_cons.mpr ⟨⟨m_n0 rfl, m_n0 rfl, m_n0 rfl, fun _ => ⟨M_15, rfl, m_n0 rfl, m_n0 rfl, fun _ => ⟨(m_gi2 60 rfl rfl), (m_gi2 61 rfl rfl)⟩, m_n0 rfl⟩⟩, (fun _ h => absurd h List.not_mem_nil)⟩)
set_option maxRecDepth 4000 in
theorem vo_14 : ∀ q ∈ M_14.2.2.2.2.2.2.2.1, m_oOk M_14.1 q := (fun _ h => absurd h List.not_mem_nil)
set_option maxRecDepth 4000 in
theorem vk_14 : ∀ q ∈ M_14.2.2.2.2.2.2.2.2, decode M_14.2.1 q.1 = .ok (q.2.1, q.2.2) := by decide +kernel
set_option maxRecDepth 4000 in
theorem v_14 : m_mOk M_14 := ⟨(m_gi2 59 rfl rfl), (m_gi1 1 rfl rfl), by decide +kernel, ⟨by decide +kernel, by decide +kernel⟩, by decide +kernel, vf_14, vc_14, vo_14, vk_14⟩
set_option maxRecDepth 4000 in
theorem vf_15 : ∀ q ∈ M_15.2.2.2.2.2.1, m_fOk M_15.1 q := (fun _ h => absurd h List.not_mem_nil)
set_option maxRecDepth 4000 in
theorem vc_15 : ∀ q ∈ M_15.2.2.2.2.2.2.1, m_cOk M_15.1 q := (fun _ h => absurd h List.not_mem_nil)
set_option maxRecDepth 4000 in
theorem vo_15 : ∀ q ∈ M_15.2.2.2.2.2.2.2.1, m_oOk M_15.1 q := (fun _ h => absurd h List.not_mem_nil)
set_option maxRecDepth 4000 in
theorem vk_15 : ∀ q ∈ M_15.2.2.2.2.2.2.2.2, decode M_15.2.1 q.1 = .ok (q.2.1, q.2.2) := by decide +kernel
set_option maxRecDepth 4000 in
theorem v_15 : m_mOk M_15 := ⟨(m_gi2 62 rfl rfl), (m_gi1 1 rfl rfl), by decide +kernel, ⟨by decide +kernel, by decide +kernel⟩, by decide +kernel, vf_15, vc_15, vo_15, vk_15⟩
set_option maxRecDepth 4000 in
theorem vf_16 : ∀ q ∈ M_16.2.2.2.2.2.1, m_fOk M_16.1 q := (List.forall_mem_cons.mpr ⟨⟨(R_0, F_0, 15), rfl, Nat.le_of_ble_eq_true rfl, ⟨"EdgeHouse", (m_gi2 1 rfl rfl), Or.inl rfl⟩, m_n0 rfl, m_n0 rfl⟩, (List.forall_mem_cons.mpr ⟨⟨(R_0, F_0, 15), rfl, Nat.le_of_ble_eq_true rfl, ⟨"EdgeHouse", (m_gi2 4 rfl rfl), Or.inl rfl⟩, m_n0 rfl, m_n0 rfl⟩, (List.forall_mem_cons.mpr ⟨⟨(R_0, F_0, 15), rfl, Nat.le_of_ble_eq_true rfl, ⟨"EdgeHouse", (m_gi2 9 rfl rfl), Or.inl rfl⟩, m_n0 rfl, m_n0 rfl⟩, (List.forall_mem_cons.mpr ⟨⟨(R_6, F_6, 19), rfl, Nat.le_of_ble_eq_true rfl, ⟨"EdgeHouse$Request", (m_gi2 130 rfl rfl), Or.inl rfl⟩, fun _ => rfl, m_n0 rfl⟩, (List.forall_mem_cons.mpr ⟨⟨(R_6, F_6, 19), rfl, Nat.le_of_ble_eq_true rfl, ⟨"EdgeHouse$Request", (m_gi2 88 rfl rfl), Or.inl rfl⟩, fun _ => rfl, m_n0 rfl⟩, (List.forall_mem_cons.mpr ⟨⟨(R_6, F_6, 19), rfl, Nat.le_of_ble_eq_true rfl, ⟨"EdgeHouse$Request", (m_gi2 93 rfl rfl), Or.inl rfl⟩, fun _ => rfl, m_n0 rfl⟩, (List.forall_mem_cons.mpr ⟨⟨(R_8, F_8, 14), rfl, Nat.le_of_ble_eq_true rfl, ⟨"EdgeHouse$Reply", (m_gi3 173 rfl rfl), Or.inl rfl⟩, fun _ => rfl, m_n0 rfl⟩, (fun _ h => absurd h List.not_mem_nil)⟩)⟩)⟩)⟩)⟩)⟩)⟩)
set_option maxRecDepth 4000 in
theorem vc_16 : ∀ q ∈ M_16.2.2.2.2.2.2.1, m_cOk M_16.1 q := (List.forall_mem_cons.mpr ⟨⟨m_n0 rfl, m_n0 rfl, m_n0 rfl, fun _ => ⟨M_60, rfl, m_n0 rfl, fun _ => ⟨(m_gi3 161 rfl rfl), (m_gi3 162 rfl rfl), (R_1, F_1, 16), rfl, rfl, (m_gi3 163 rfl rfl)⟩, m_n0 rfl, m_n0 rfl⟩⟩, (List.forall_mem_cons.mpr ⟨⟨m_n0 rfl, m_n0 rfl, m_n0 rfl, fun _ => ⟨M_17, rfl, m_n0 rfl, fun _ => ⟨(m_gi2 67 rfl rfl), (m_gi2 68 rfl rfl), (R_2, F_2, 3), rfl, rfl, (m_gi2 69 rfl rfl)⟩, m_n0 rfl, m_n0 rfl⟩⟩, (List.forall_mem_cons.mpr ⟨⟨m_n0 rfl, m_n0 rfl, m_n0 rfl, fun _ => ⟨M_18, rfl, m_n0 rfl, fun _ => ⟨(m_gi2 71 rfl rfl), (m_gi2 72 rfl rfl), (R_1, F_1, 16), rfl, rfl, (m_gi2 73 rfl rfl)⟩, m_n0 rfl, m_n0 rfl⟩⟩, (List.forall_mem_cons.mpr ⟨⟨m_n0 rfl, m_n0 rfl, m_n0 rfl, fun _ => ⟨M_61, rfl, m_n0 rfl, m_n0 rfl, m_n0 rfl, fun _ => ⟨rfl, rfl, (m_gi3 168 rfl rfl), "EdgeHouse", (List.mem_filter.mpr ⟨m_in3 (List.mem_of_getElem? (i := 167) rfl), rfl⟩)⟩⟩⟩, (List.forall_mem_cons.mpr ⟨⟨m_n0 rfl, m_n0 rfl, m_n0 rfl, fun _ => ⟨M_62, rfl, m_n0 rfl, fun _ => ⟨(m_gi3 221 rfl rfl), (m_gi3 222 rfl rfl), (R_2, F_2, 3), rfl, rfl, (m_gi3 223 rfl rfl)⟩, m_n0 rfl, m_n0 rfl⟩⟩, (List.forall_mem_cons.mpr ⟨⟨m_n0 rfl, m_n0 rfl, m_n0 rfl, fun _ => ⟨M_70, rfl, m_n0 rfl, fun _ => ⟨(m_gi4 46 rfl rfl), (m_gi4 48 rfl rfl), (R_0, F_0, 15), rfl, rfl, (m_gp 3 rfl rfl)⟩, m_n0 rfl, m_n0 rfl⟩⟩, (List.forall_mem_cons.mpr ⟨⟨m_n0 rfl, m_n0 rfl, m_n0 rfl, fun _ => ⟨M_71, rfl, m_n0 rfl, fun _ => ⟨(m_gi4 50 rfl rfl), (m_gi4 52 rfl rfl), (R_0, F_0, 15), rfl, rfl, (m_gp 4 rfl rfl)⟩, m_n0 rfl, m_n0 rfl⟩⟩, (List.forall_mem_cons.mpr ⟨⟨m_n0 rfl, m_n0 rfl, m_n0 rfl, fun _ => ⟨M_73, rfl, m_n0 rfl, fun _ => ⟨(m_gi4 60 rfl rfl), (m_gi4 62 rfl rfl), (R_0, F_0, 15), rfl, rfl, (m_gp 5 rfl rfl)⟩, m_n0 rfl, m_n0 rfl⟩⟩, (fun _ h => absurd h List.not_mem_nil)⟩)⟩)⟩)⟩)⟩)⟩)⟩)⟩)
set_option maxRecDepth 4000 in
theorem vo_16 : ∀ q ∈ M_16.2.2.2.2.2.2.2.1, m_oOk M_16.1 q := (List.forall_mem_cons.mpr ⟨⟨fun _ => ⟨(R_8, F_8, 14), rfl, (m_gi3 165 rfl rfl), (m_gi3 166 rfl rfl), (m_gi1 23 rfl rfl)⟩, m_n0 rfl, m_n0 rfl, m_n0 rfl, m_n0 rfl, m_n0 rfl, m_n0 rfl, Nat.le_of_ble_eq_true rfl⟩, (fun _ h => absurd h List.not_mem_nil)⟩)
set_option maxRecDepth 4000 in
theorem vk_16 : ∀ q ∈ M_16.2.2.2.2.2.2.2.2, decode M_16.2.1 q.1 = .ok (q.2.1, q.2.2) := by decide +kernel
set_option maxRecDepth 4000 in
theorem v_16 : m_mOk M_16 := ⟨(m_gi2 66 rfl rfl), (m_gi1 1 rfl rfl), by decide +kernel, ⟨by decide +kernel, by decide +kernel⟩, by decide +kernel, vf_16, vc_16, vo_16, vk_16⟩
set_option maxRecDepth 4000 in
theorem vf_17 : ∀ q ∈ M_17.2.2.2.2.2.1, m_fOk M_17.1 q := (List.forall_mem_cons.mpr ⟨⟨(R_2, F_2, 3), rfl, Nat.le_of_ble_eq_true rfl, ⟨"java/util/ArrayList", (m_gi1 121 rfl rfl), Or.inl rfl⟩, fun _ => rfl, m_n0 rfl⟩, (fun _ h => absurd h List.not_mem_nil)⟩)
set_option maxRecDepth 4000 in
theorem vc_17 : ∀ q ∈ M_17.2.2.2.2.2.2.1, m_cOk M_17.1 q := (fun _ h => absurd h List.not_mem_nil)
set_option maxRecDepth 4000 in
theorem vo_17 : ∀ q ∈ M_17.2.2.2.2.2.2.2.1, m_oOk M_17.1 q := (fun _ h => absurd h List.not_mem_nil)
set_option maxRecDepth 4000 in
theorem vk_17 : ∀ q ∈ M_17.2.2.2.2.2.2.2.2, decode M_17.2.1 q.1 = .ok (q.2.1, q.2.2) := by decide +kernel
set_option maxRecDepth 4000 in
theorem v_17 : m_mOk M_17 := ⟨(m_gi2 70 rfl rfl), (m_gi1 5 rfl rfl), by decide +kernel, ⟨by decide +kernel, by decide +kernel⟩, by decide +kernel, vf_17, vc_17, vo_17, vk_17⟩
set_option maxRecDepth 4000 in
theorem vf_18 : ∀ q ∈ M_18.2.2.2.2.2.1, m_fOk M_18.1 q := (List.forall_mem_cons.mpr ⟨⟨(R_1, F_1, 16), rfl, Nat.le_of_ble_eq_true rfl, ⟨"EdgeHouse$Reader", (m_gi1 61 rfl rfl), Or.inl rfl⟩, fun _ => rfl, m_n0 rfl⟩, (List.forall_mem_cons.mpr ⟨⟨(R_1, F_1, 16), rfl, Nat.le_of_ble_eq_true rfl, ⟨"EdgeHouse$Reader", (m_gi1 64 rfl rfl), Or.inl rfl⟩, fun _ => rfl, m_n0 rfl⟩, (List.forall_mem_cons.mpr ⟨⟨(R_1, F_1, 16), rfl, Nat.le_of_ble_eq_true rfl, ⟨"EdgeHouse$Reader", (m_gi1 65 rfl rfl), Or.inl rfl⟩, fun _ => rfl, m_n0 rfl⟩, (List.forall_mem_cons.mpr ⟨⟨(R_7, F_7, 8), rfl, Nat.le_of_ble_eq_true rfl, ⟨"EdgeHouse$Conditions", (m_gi2 185 rfl rfl), Or.inl rfl⟩, fun _ => rfl, m_n0 rfl⟩, (List.forall_mem_cons.mpr ⟨⟨(R_6, F_6, 19), rfl, Nat.le_of_ble_eq_true rfl, ⟨"EdgeHouse$Request", (m_gi2 89 rfl rfl), Or.inl rfl⟩, fun _ => rfl, m_n0 rfl⟩, (List.forall_mem_cons.mpr ⟨⟨(R_1, F_1, 16), rfl, Nat.le_of_ble_eq_true rfl, ⟨"EdgeHouse$Reader", (m_gi1 62 rfl rfl), Or.inl rfl⟩, fun _ => rfl, m_n0 rfl⟩, (List.forall_mem_cons.mpr ⟨⟨(R_6, F_6, 19), rfl, Nat.le_of_ble_eq_true rfl, ⟨"EdgeHouse$Request", (m_gi2 94 rfl rfl), Or.inl rfl⟩, fun _ => rfl, m_n0 rfl⟩, (List.forall_mem_cons.mpr ⟨⟨(R_6, F_6, 19), rfl, Nat.le_of_ble_eq_true rfl, ⟨"EdgeHouse$Request", (m_gi2 98 rfl rfl), Or.inl rfl⟩, fun _ => rfl, m_n0 rfl⟩, (List.forall_mem_cons.mpr ⟨⟨(R_6, F_6, 19), rfl, Nat.le_of_ble_eq_true rfl, ⟨"EdgeHouse$Request", (m_gi2 128 rfl rfl), Or.inl rfl⟩, fun _ => rfl, m_n0 rfl⟩, (fun _ h => absurd h List.not_mem_nil)⟩)⟩)⟩)⟩)⟩)⟩)⟩)⟩)⟩)
set_option maxRecDepth 4000 in
theorem vc_18 : ∀ q ∈ M_18.2.2.2.2.2.2.1, m_cOk M_18.1 q := (List.forall_mem_cons.mpr ⟨⟨m_n0 rfl, m_n0 rfl, m_n0 rfl, fun _ => ⟨M_19, rfl, m_n0 rfl, fun _ => ⟨(m_gi2 75 rfl rfl), (m_gi2 76 rfl rfl), (R_1, F_1, 16), rfl, rfl, (m_gi2 77 rfl rfl)⟩, m_n0 rfl, m_n0 rfl⟩⟩, (List.forall_mem_cons.mpr ⟨⟨m_n0 rfl, m_n0 rfl, m_n0 rfl, fun _ => ⟨M_23, rfl, m_n0 rfl, fun _ => ⟨(m_gi2 226 rfl rfl), (m_gi2 227 rfl rfl), (R_1, F_1, 16), rfl, rfl, (m_gi2 228 rfl rfl)⟩, m_n0 rfl, m_n0 rfl⟩⟩, (List.forall_mem_cons.mpr ⟨⟨m_n0 rfl, m_n0 rfl, m_n0 rfl, fun _ => ⟨M_37, rfl, m_n0 rfl, fun _ => ⟨(m_gi3 45 rfl rfl), (m_gi3 46 rfl rfl), (R_1, F_1, 16), rfl, rfl, (m_gi3 47 rfl rfl)⟩, m_n0 rfl, m_n0 rfl⟩⟩, (List.forall_mem_cons.mpr ⟨⟨m_n0 rfl, m_n0 rfl, m_n0 rfl, fun _ => ⟨M_22, rfl, m_n0 rfl, fun _ => ⟨(m_gi2 220 rfl rfl), (m_gi2 221 rfl rfl), (R_1, F_1, 16), rfl, rfl, (m_gi2 222 rfl rfl)⟩, m_n0 rfl, m_n0 rfl⟩⟩, (List.forall_mem_cons.mpr ⟨⟨m_n0 rfl, m_n0 rfl, m_n0 rfl, fun _ => ⟨M_40, rfl, m_n0 rfl, fun _ => ⟨(m_gi3 56 rfl rfl), (m_gi3 57 rfl rfl), (R_1, F_1, 16), rfl, rfl, (m_gi3 58 rfl rfl)⟩, m_n0 rfl, m_n0 rfl⟩⟩, (List.forall_mem_cons.mpr ⟨⟨m_n0 rfl, m_n0 rfl, m_n0 rfl, fun _ => ⟨M_35, rfl, m_n0 rfl, fun _ => ⟨(m_gi3 37 rfl rfl), (m_gi3 38 rfl rfl), (R_1, F_1, 16), rfl, rfl, (m_gi3 39 rfl rfl)⟩, m_n0 rfl, m_n0 rfl⟩⟩, (List.forall_mem_cons.mpr ⟨⟨m_n0 rfl, m_n0 rfl, m_n0 rfl, fun _ => ⟨M_57, rfl, m_n0 rfl, fun _ => ⟨(m_gi3 146 rfl rfl), (m_gi3 147 rfl rfl), (R_1, F_1, 16), rfl, rfl, (m_gi3 148 rfl rfl)⟩, m_n0 rfl, m_n0 rfl⟩⟩, (List.forall_mem_cons.mpr ⟨⟨m_n0 rfl, m_n0 rfl, m_n0 rfl, fun _ => ⟨M_20, rfl, fun _ => ⟨rfl, rfl, (m_gi2 81 rfl rfl), (m_gi2 82 rfl rfl)⟩, m_n0 rfl, m_n0 rfl, m_n0 rfl⟩⟩, (List.forall_mem_cons.mpr ⟨⟨m_n0 rfl, m_n0 rfl, m_n0 rfl, fun _ => ⟨M_21, rfl, m_n0 rfl, m_n0 rfl, m_n0 rfl, fun _ => ⟨rfl, rfl, (m_gi2 181 rfl rfl), "EdgeHouse", (List.mem_filter.mpr ⟨m_in2 (List.mem_of_getElem? (i := 180) rfl), rfl⟩)⟩⟩⟩, (List.forall_mem_cons.mpr ⟨⟨m_n0 rfl, m_n0 rfl, m_n0 rfl, fun _ => ⟨M_44, rfl, m_n0 rfl, fun _ => ⟨(m_gi3 72 rfl rfl), (m_gi3 73 rfl rfl), (R_1, F_1, 16), rfl, rfl, (m_gi3 74 rfl rfl)⟩, m_n0 rfl, m_n0 rfl⟩⟩, (List.forall_mem_cons.mpr ⟨⟨m_n0 rfl, m_n0 rfl, m_n0 rfl, fun _ => ⟨M_58, rfl, m_n0 rfl, fun _ => ⟨(m_gi3 150 rfl rfl), (m_gi3 151 rfl rfl), (R_1, F_1, 16), rfl, rfl, (m_gi3 152 rfl rfl)⟩, m_n0 rfl, m_n0 rfl⟩⟩, (List.forall_mem_cons.mpr ⟨⟨m_n0 rfl, m_n0 rfl, m_n0 rfl, fun _ => ⟨M_59, rfl, m_n0 rfl, fun _ => ⟨(m_gi3 154 rfl rfl), (m_gi3 155 rfl rfl), (R_6, F_6, 19), rfl, rfl, (m_gi3 156 rfl rfl)⟩, m_n0 rfl, m_n0 rfl⟩⟩, (fun _ h => absurd h List.not_mem_nil)⟩)⟩)⟩)⟩)⟩)⟩)⟩)⟩)⟩)⟩)⟩)⟩)
set_option maxRecDepth 4000 in
theorem vo_18 : ∀ q ∈ M_18.2.2.2.2.2.2.2.1, m_oOk M_18.1 q := (List.forall_mem_cons.mpr ⟨⟨fun _ => ⟨(R_6, F_6, 19), rfl, (m_gi2 79 rfl rfl), (m_gi2 80 rfl rfl), (m_gi1 20 rfl rfl)⟩, m_n0 rfl, m_n0 rfl, m_n0 rfl, m_n0 rfl, m_n0 rfl, m_n0 rfl, Nat.le_of_ble_eq_true rfl⟩, (List.forall_mem_cons.mpr ⟨⟨fun _ => ⟨(R_7, F_7, 8), rfl, (m_gi2 178 rfl rfl), (m_gi2 179 rfl rfl), (m_gi1 21 rfl rfl)⟩, m_n0 rfl, m_n0 rfl, m_n0 rfl, m_n0 rfl, m_n0 rfl, m_n0 rfl, Nat.le_of_ble_eq_true rfl⟩, (List.forall_mem_cons.mpr ⟨⟨m_n0 rfl, m_n0 rfl, m_n0 rfl, m_n0 rfl, m_n0 rfl, fun _ => ⟨_, List.mem_of_getElem? (i := 5) rfl⟩, m_n0 rfl, Nat.le_of_ble_eq_true rfl⟩, (List.forall_mem_cons.mpr ⟨⟨m_n0 rfl, m_n0 rfl, m_n0 rfl, m_n0 rfl, m_n0 rfl, fun _ => ⟨_, List.mem_of_getElem? (i := 6) rfl⟩, m_n0 rfl, Nat.le_of_ble_eq_true rfl⟩, (fun _ h => absurd h List.not_mem_nil)⟩)⟩)⟩)⟩)
set_option maxRecDepth 4000 in
theorem vk_18 : ∀ q ∈ M_18.2.2.2.2.2.2.2.2, decode M_18.2.1 q.1 = .ok (q.2.1, q.2.2) := by decide +kernel
set_option maxRecDepth 4000 in
theorem v_18 : m_mOk M_18 := ⟨(m_gi2 74 rfl rfl), (m_gi1 2 rfl rfl), by decide +kernel, ⟨by decide +kernel, by decide +kernel⟩, by decide +kernel, vf_18, vc_18, vo_18, vk_18⟩
set_option maxRecDepth 4000 in
theorem vf_19 : ∀ q ∈ M_19.2.2.2.2.2.1, m_fOk M_19.1 q := (List.forall_mem_cons.mpr ⟨⟨(R_1, F_1, 16), rfl, Nat.le_of_ble_eq_true rfl, ⟨"EdgeHouse$Reader", (m_gi1 53 rfl rfl), Or.inl rfl⟩, fun _ => rfl, m_n0 rfl⟩, (List.forall_mem_cons.mpr ⟨⟨(R_1, F_1, 16), rfl, Nat.le_of_ble_eq_true rfl, ⟨"EdgeHouse$Reader", (m_gi1 63 rfl rfl), Or.inl rfl⟩, m_n0 rfl, m_n0 rfl⟩, (List.forall_mem_cons.mpr ⟨⟨(R_1, F_1, 16), rfl, Nat.le_of_ble_eq_true rfl, ⟨"EdgeHouse$Reader", (m_gi1 52 rfl rfl), Or.inl rfl⟩, fun _ => rfl, m_n0 rfl⟩, (List.forall_mem_cons.mpr ⟨⟨(R_1, F_1, 16), rfl, Nat.le_of_ble_eq_true rfl, ⟨"EdgeHouse$Reader", (m_gi1 56 rfl rfl), Or.inl rfl⟩, fun _ => rfl, m_n0 rfl⟩, (fun _ h => absurd h List.not_mem_nil)⟩)⟩)⟩)⟩)
set_option maxRecDepth 4000 in
theorem vc_19 : ∀ q ∈ M_19.2.2.2.2.2.2.1, m_cOk M_19.1 q := (fun _ h => absurd h List.not_mem_nil)
set_option maxRecDepth 4000 in
theorem vo_19 : ∀ q ∈ M_19.2.2.2.2.2.2.2.1, m_oOk M_19.1 q := (fun _ h => absurd h List.not_mem_nil)
set_option maxRecDepth 4000 in
theorem vk_19 : ∀ q ∈ M_19.2.2.2.2.2.2.2.2, decode M_19.2.1 q.1 = .ok (q.2.1, q.2.2) := by decide +kernel
set_option maxRecDepth 4000 in
theorem v_19 : m_mOk M_19 := ⟨(m_gi2 78 rfl rfl), (m_gi1 2 rfl rfl), by decide +kernel, ⟨by decide +kernel, by decide +kernel⟩, by decide +kernel, vf_19, vc_19, vo_19, vk_19⟩
set_option maxRecDepth 4000 in
theorem vf_20 : ∀ q ∈ M_20.2.2.2.2.2.1, m_fOk M_20.1 q := (List.forall_mem_cons.mpr ⟨⟨(R_6, F_6, 19), rfl, Nat.le_of_ble_eq_true rfl, ⟨"EdgeHouse$Request", (m_gi2 108 rfl rfl), Or.inl rfl⟩, fun _ => rfl, m_n0 rfl⟩, (List.forall_mem_cons.mpr ⟨⟨(R_6, F_6, 19), rfl, Nat.le_of_ble_eq_true rfl, ⟨"EdgeHouse$Request", (m_gi2 117 rfl rfl), Or.inl rfl⟩, fun _ => rfl, m_n0 rfl⟩, (List.forall_mem_cons.mpr ⟨⟨(R_6, F_6, 19), rfl, Nat.le_of_ble_eq_true rfl, ⟨"EdgeHouse$Request", (m_gi2 119 rfl rfl), Or.inl rfl⟩, fun _ => rfl, m_n0 rfl⟩, (List.forall_mem_cons.mpr ⟨⟨(R_6, F_6, 19), rfl, Nat.le_of_ble_eq_true rfl, ⟨"EdgeHouse$Request", (m_gi2 121 rfl rfl), Or.inl rfl⟩, fun _ => rfl, m_n0 rfl⟩, (fun _ h => absurd h List.not_mem_nil)⟩)⟩)⟩)⟩)
set_option maxRecDepth 4000 in
theorem vc_20 : ∀ q ∈ M_20.2.2.2.2.2.2.1, m_cOk M_20.1 q := (List.forall_mem_cons.mpr ⟨⟨fun _ => (m_gi2 84 rfl rfl), m_n0 rfl, m_n0 rfl, m_n1 rfl⟩, (fun _ h => absurd h List.not_mem_nil)⟩)
set_option maxRecDepth 4000 in
theorem vo_20 : ∀ q ∈ M_20.2.2.2.2.2.2.2.1, m_oOk M_20.1 q := (fun _ h => absurd h List.not_mem_nil)
set_option maxRecDepth 4000 in
theorem vk_20 : ∀ q ∈ M_20.2.2.2.2.2.2.2.2, decode M_20.2.1 q.1 = .ok (q.2.1, q.2.2) := by decide +kernel
set_option maxRecDepth 4000 in
theorem v_20 : m_mOk M_20 := ⟨(m_gi2 83 rfl rfl), (m_gi1 20 rfl rfl), by decide +kernel, ⟨by decide +kernel, by decide +kernel⟩, by decide +kernel, vf_20, vc_20, vo_20, vk_20⟩
set_option maxRecDepth 4000 in
theorem vf_21 : ∀ q ∈ M_21.2.2.2.2.2.1, m_fOk M_21.1 q := (List.forall_mem_cons.mpr ⟨⟨(R_7, F_7, 8), rfl, Nat.le_of_ble_eq_true rfl, ⟨"EdgeHouse$Conditions", (m_gi2 186 rfl rfl), Or.inl rfl⟩, fun _ => rfl, m_n0 rfl⟩, (List.forall_mem_cons.mpr ⟨⟨(R_7, F_7, 8), rfl, Nat.le_of_ble_eq_true rfl, ⟨"EdgeHouse$Conditions", (m_gi2 197 rfl rfl), Or.inl rfl⟩, m_n0 rfl, fun _ => ⟨rfl, rfl, rfl⟩⟩, (List.forall_mem_cons.mpr ⟨⟨(R_7, F_7, 8), rfl, Nat.le_of_ble_eq_true rfl, ⟨"EdgeHouse$Conditions", (m_gi2 200 rfl rfl), Or.inl rfl⟩, fun _ => rfl, m_n0 rfl⟩, (fun _ h => absurd h List.not_mem_nil)⟩)⟩)⟩)
set_option maxRecDepth 4000 in
theorem vc_21 : ∀ q ∈ M_21.2.2.2.2.2.2.1, m_cOk M_21.1 q := (List.forall_mem_cons.mpr ⟨⟨fun _ => (m_gi2 183 rfl rfl), m_n0 rfl, m_n0 rfl, m_n1 rfl⟩, (fun _ h => absurd h List.not_mem_nil)⟩)
set_option maxRecDepth 4000 in
theorem vo_21 : ∀ q ∈ M_21.2.2.2.2.2.2.2.1, m_oOk M_21.1 q := (fun _ h => absurd h List.not_mem_nil)
set_option maxRecDepth 4000 in
theorem vk_21 : ∀ q ∈ M_21.2.2.2.2.2.2.2.2, decode M_21.2.1 q.1 = .ok (q.2.1, q.2.2) := by decide +kernel
set_option maxRecDepth 4000 in
theorem v_21 : m_mOk M_21 := ⟨(m_gi2 182 rfl rfl), (m_gi1 21 rfl rfl), by decide +kernel, ⟨by decide +kernel, by decide +kernel⟩, by decide +kernel, vf_21, vc_21, vo_21, vk_21⟩
set_option maxRecDepth 4000 in
theorem vf_22 : ∀ q ∈ M_22.2.2.2.2.2.1, m_fOk M_22.1 q := (List.forall_mem_cons.mpr ⟨⟨(R_1, F_1, 16), rfl, Nat.le_of_ble_eq_true rfl, ⟨"EdgeHouse$Reader", (m_gi1 50 rfl rfl), Or.inl rfl⟩, m_n0 rfl, m_n0 rfl⟩, (List.forall_mem_cons.mpr ⟨⟨(R_1, F_1, 16), rfl, Nat.le_of_ble_eq_true rfl, ⟨"EdgeHouse$Reader", (m_gi1 51 rfl rfl), Or.inl rfl⟩, fun _ => rfl, m_n0 rfl⟩, (List.forall_mem_cons.mpr ⟨⟨(R_1, F_1, 16), rfl, Nat.le_of_ble_eq_true rfl, ⟨"EdgeHouse$Reader", (m_gi1 52 rfl rfl), Or.inl rfl⟩, fun _ => rfl, m_n0 rfl⟩, (fun _ h => absurd h List.not_mem_nil)⟩)⟩)⟩)
set_option maxRecDepth 4000 in
theorem vc_22 : ∀ q ∈ M_22.2.2.2.2.2.2.1, m_cOk M_22.1 q := (fun _ h => absurd h List.not_mem_nil)
set_option maxRecDepth 4000 in
theorem vo_22 : ∀ q ∈ M_22.2.2.2.2.2.2.2.1, m_oOk M_22.1 q := (fun _ h => absurd h List.not_mem_nil)
set_option maxRecDepth 4000 in
theorem vk_22 : ∀ q ∈ M_22.2.2.2.2.2.2.2.2, decode M_22.2.1 q.1 = .ok (q.2.1, q.2.2) := by decide +kernel
set_option maxRecDepth 4000 in
theorem v_22 : m_mOk M_22 := ⟨(m_gi2 223 rfl rfl), (m_gi1 2 rfl rfl), by decide +kernel, ⟨by decide +kernel, by decide +kernel⟩, by decide +kernel, vf_22, vc_22, vo_22, vk_22⟩
set_option maxRecDepth 4000 in
theorem vf_23 : ∀ q ∈ M_23.2.2.2.2.2.1, m_fOk M_23.1 q := (fun _ h => absurd h List.not_mem_nil)
set_option maxRecDepth 4000 in
theorem vc_23 : ∀ q ∈ M_23.2.2.2.2.2.2.1, m_cOk M_23.1 q := (List.forall_mem_cons.mpr ⟨⟨m_n0 rfl, m_n0 rfl, m_n0 rfl, fun _ => ⟨M_35, rfl, m_n0 rfl, fun _ => ⟨(m_gi3 37 rfl rfl), (m_gi3 38 rfl rfl), (R_1, F_1, 16), rfl, rfl, (m_gi3 39 rfl rfl)⟩, m_n0 rfl, m_n0 rfl⟩⟩, (List.forall_mem_cons.mpr ⟨⟨m_n0 rfl, m_n0 rfl, m_n0 rfl, fun _ => ⟨M_24, rfl, m_n0 rfl, fun _ => ⟨(m_gi2 230 rfl rfl), (m_gi2 231 rfl rfl), (R_12, F_12, 4), rfl, rfl, (m_gi2 232 rfl rfl)⟩, m_n0 rfl, m_n0 rfl⟩⟩, (List.forall_mem_cons.mpr ⟨⟨m_n0 rfl, m_n0 rfl, m_n0 rfl, fun _ => ⟨M_26, rfl, m_n0 rfl, fun _ => ⟨(m_gi2 239 rfl rfl), (m_gi3 0 rfl rfl), (R_12, F_12, 4), rfl, rfl, (m_gi3 1 rfl rfl)⟩, m_n0 rfl, m_n0 rfl⟩⟩, (fun _ h => absurd h List.not_mem_nil)⟩)⟩)⟩)
set_option maxRecDepth 4000 in
theorem vo_23 : ∀ q ∈ M_23.2.2.2.2.2.2.2.1, m_oOk M_23.1 q := (fun _ h => absurd h List.not_mem_nil)
set_option maxRecDepth 4000 in
theorem vk_23 : ∀ q ∈ M_23.2.2.2.2.2.2.2.2, decode M_23.2.1 q.1 = .ok (q.2.1, q.2.2) := by decide +kernel
set_option maxRecDepth 4000 in
theorem v_23 : m_mOk M_23 := ⟨(m_gi2 229 rfl rfl), (m_gi1 2 rfl rfl), by decide +kernel, ⟨by decide +kernel, by decide +kernel⟩, by decide +kernel, vf_23, vc_23, vo_23, vk_23⟩
set_option maxRecDepth 4000 in
theorem vf_24 : ∀ q ∈ M_24.2.2.2.2.2.1, m_fOk M_24.1 q := (List.forall_mem_cons.mpr ⟨⟨(R_12, F_12, 4), rfl, Nat.le_of_ble_eq_true rfl, ⟨"java/lang/String", (m_gi7 169 rfl rfl), Or.inl rfl⟩, m_n0 rfl, m_n0 rfl⟩, (fun _ h => absurd h List.not_mem_nil)⟩)
set_option maxRecDepth 4000 in
theorem vc_24 : ∀ q ∈ M_24.2.2.2.2.2.2.1, m_cOk M_24.1 q := (List.forall_mem_cons.mpr ⟨⟨m_n0 rfl, m_n0 rfl, m_n0 rfl, fun _ => ⟨M_25, rfl, m_n0 rfl, fun _ => ⟨(m_gi2 234 rfl rfl), (m_gi2 235 rfl rfl), (R_12, F_12, 4), rfl, rfl, (m_gi2 236 rfl rfl)⟩, m_n0 rfl, m_n0 rfl⟩⟩, (fun _ h => absurd h List.not_mem_nil)⟩)
set_option maxRecDepth 4000 in
theorem vo_24 : ∀ q ∈ M_24.2.2.2.2.2.2.2.1, m_oOk M_24.1 q := (fun _ h => absurd h List.not_mem_nil)
set_option maxRecDepth 4000 in
theorem vk_24 : ∀ q ∈ M_24.2.2.2.2.2.2.2.2, decode M_24.2.1 q.1 = .ok (q.2.1, q.2.2) := by decide +kernel
set_option maxRecDepth 4000 in
theorem v_24 : m_mOk M_24 := ⟨(m_gi2 233 rfl rfl), (m_gi1 8 rfl rfl), by decide +kernel, ⟨by decide +kernel, by decide +kernel⟩, by decide +kernel, vf_24, vc_24, vo_24, vk_24⟩
set_option maxRecDepth 4000 in
theorem vf_25 : ∀ q ∈ M_25.2.2.2.2.2.1, m_fOk M_25.1 q := (List.forall_mem_cons.mpr ⟨⟨(R_12, F_12, 4), rfl, Nat.le_of_ble_eq_true rfl, ⟨"java/lang/String", (m_gi7 170 rfl rfl), Or.inl rfl⟩, m_n0 rfl, m_n0 rfl⟩, (fun _ h => absurd h List.not_mem_nil)⟩)
set_option maxRecDepth 4000 in
theorem vc_25 : ∀ q ∈ M_25.2.2.2.2.2.2.1, m_cOk M_25.1 q := (fun _ h => absurd h List.not_mem_nil)
set_option maxRecDepth 4000 in
theorem vo_25 : ∀ q ∈ M_25.2.2.2.2.2.2.2.1, m_oOk M_25.1 q := (List.forall_mem_cons.mpr ⟨⟨m_n0 rfl, m_n0 rfl, m_n0 rfl, m_n0 rfl, fun _ => ⟨"java/lang/String", "COMPACT_STRINGS", "Z", by decide, (m_gi2 238 rfl rfl)⟩, m_n0 rfl, m_n0 rfl, Nat.le_of_ble_eq_true rfl⟩, (fun _ h => absurd h List.not_mem_nil)⟩)
set_option maxRecDepth 4000 in
theorem vk_25 : ∀ q ∈ M_25.2.2.2.2.2.2.2.2, decode M_25.2.1 q.1 = .ok (q.2.1, q.2.2) := by decide +kernel
set_option maxRecDepth 4000 in
theorem v_25 : m_mOk M_25 := ⟨(m_gi2 237 rfl rfl), (m_gi1 8 rfl rfl), by decide +kernel, ⟨by decide +kernel, by decide +kernel⟩, by decide +kernel, vf_25, vc_25, vo_25, vk_25⟩
set_option maxRecDepth 4000 in
theorem vf_26 : ∀ q ∈ M_26.2.2.2.2.2.1, m_fOk M_26.1 q := (List.forall_mem_cons.mpr ⟨⟨(R_12, F_12, 4), rfl, Nat.le_of_ble_eq_true rfl, ⟨"java/lang/String", (m_gi7 169 rfl rfl), Or.inl rfl⟩, m_n0 rfl, m_n0 rfl⟩, (fun _ h => absurd h List.not_mem_nil)⟩)
set_option maxRecDepth 4000 in
theorem vc_26 : ∀ q ∈ M_26.2.2.2.2.2.2.1, m_cOk M_26.1 q := (List.forall_mem_cons.mpr ⟨⟨m_n0 rfl, m_n0 rfl, m_n0 rfl, fun _ => ⟨M_27, rfl, m_n0 rfl, fun _ => ⟨(m_gi3 3 rfl rfl), (m_gi3 4 rfl rfl), (R_12, F_12, 4), rfl, rfl, (m_gi3 5 rfl rfl)⟩, m_n0 rfl, m_n0 rfl⟩⟩, (List.forall_mem_cons.mpr ⟨⟨m_n0 rfl, m_n0 rfl, m_n0 rfl, fun _ => ⟨M_28, rfl, m_n0 rfl, m_n0 rfl, fun _ => ⟨(m_gi3 7 rfl rfl), (m_gi3 8 rfl rfl)⟩, m_n0 rfl⟩⟩, (List.forall_mem_cons.mpr ⟨⟨m_n0 rfl, m_n0 rfl, m_n0 rfl, fun _ => ⟨M_31, rfl, m_n0 rfl, m_n0 rfl, fun _ => ⟨(m_gi3 18 rfl rfl), (m_gi3 19 rfl rfl)⟩, m_n0 rfl⟩⟩, (fun _ h => absurd h List.not_mem_nil)⟩)⟩)⟩)
set_option maxRecDepth 4000 in
theorem vo_26 : ∀ q ∈ M_26.2.2.2.2.2.2.2.1, m_oOk M_26.1 q := (fun _ h => absurd h List.not_mem_nil)
set_option maxRecDepth 4000 in
theorem vk_26 : ∀ q ∈ M_26.2.2.2.2.2.2.2.2, decode M_26.2.1 q.1 = .ok (q.2.1, q.2.2) := by decide +kernel
set_option maxRecDepth 4000 in
theorem v_26 : m_mOk M_26 := ⟨(m_gi3 2 rfl rfl), (m_gi1 8 rfl rfl), by decide +kernel, ⟨by decide +kernel, by decide +kernel⟩, by decide +kernel, vf_26, vc_26, vo_26, vk_26⟩
set_option maxRecDepth 4000 in
theorem vf_27 : ∀ q ∈ M_27.2.2.2.2.2.1, m_fOk M_27.1 q := (List.forall_mem_cons.mpr ⟨⟨(R_12, F_12, 4), rfl, Nat.le_of_ble_eq_true rfl, ⟨"java/lang/String", (m_gi7 170 rfl rfl), Or.inl rfl⟩, m_n0 rfl, m_n0 rfl⟩, (fun _ h => absurd h List.not_mem_nil)⟩)
set_option maxRecDepth 4000 in
theorem vc_27 : ∀ q ∈ M_27.2.2.2.2.2.2.1, m_cOk M_27.1 q := (fun _ h => absurd h List.not_mem_nil)
set_option maxRecDepth 4000 in
theorem vo_27 : ∀ q ∈ M_27.2.2.2.2.2.2.2.1, m_oOk M_27.1 q := (List.forall_mem_cons.mpr ⟨⟨m_n0 rfl, m_n0 rfl, m_n0 rfl, m_n0 rfl, fun _ => ⟨"java/lang/String", "COMPACT_STRINGS", "Z", by decide, (m_gi2 238 rfl rfl)⟩, m_n0 rfl, m_n0 rfl, Nat.le_of_ble_eq_true rfl⟩, (fun _ h => absurd h List.not_mem_nil)⟩)
set_option maxRecDepth 4000 in
theorem vk_27 : ∀ q ∈ M_27.2.2.2.2.2.2.2.2, decode M_27.2.1 q.1 = .ok (q.2.1, q.2.2) := by decide +kernel
set_option maxRecDepth 4000 in
theorem v_27 : m_mOk M_27 := ⟨(m_gi3 6 rfl rfl), (m_gi1 8 rfl rfl), by decide +kernel, ⟨by decide +kernel, by decide +kernel⟩, by decide +kernel, vf_27, vc_27, vo_27, vk_27⟩
set_option maxRecDepth 4000 in
theorem vf_28 : ∀ q ∈ M_28.2.2.2.2.2.1, m_fOk M_28.1 q := (fun _ h => absurd h List.not_mem_nil)
set_option maxRecDepth 4000 in
theorem vc_28 : ∀ q ∈ M_28.2.2.2.2.2.2.1, m_cOk M_28.1 q := (List.forall_mem_cons.mpr ⟨⟨m_n0 rfl, m_n0 rfl, m_n0 rfl, fun _ => ⟨M_29, rfl, m_n0 rfl, m_n0 rfl, fun _ => ⟨(m_gi3 10 rfl rfl), (m_gi3 11 rfl rfl)⟩, m_n0 rfl⟩⟩, (fun _ h => absurd h List.not_mem_nil)⟩)
set_option maxRecDepth 4000 in
theorem vo_28 : ∀ q ∈ M_28.2.2.2.2.2.2.2.1, m_oOk M_28.1 q := (fun _ h => absurd h List.not_mem_nil)
set_option maxRecDepth 4000 in
theorem vk_28 : ∀ q ∈ M_28.2.2.2.2.2.2.2.2, decode M_28.2.1 q.1 = .ok (q.2.1, q.2.2) := by decide +kernel
set_option maxRecDepth 4000 in
theorem v_28 : m_mOk M_28 := ⟨(m_gi3 9 rfl rfl), (m_gi1 14 rfl rfl), by decide +kernel, ⟨by decide +kernel, by decide +kernel⟩, by decide +kernel, vf_28, vc_28, vo_28, vk_28⟩
set_option maxRecDepth 4000 in
theorem vf_29 : ∀ q ∈ M_29.2.2.2.2.2.1, m_fOk M_29.1 q := (fun _ h => absurd h List.not_mem_nil)
set_option maxRecDepth 4000 in
theorem vc_29 : ∀ q ∈ M_29.2.2.2.2.2.2.1, m_cOk M_29.1 q := (List.forall_mem_cons.mpr ⟨⟨m_n0 rfl, m_n0 rfl, m_n0 rfl, fun _ => ⟨M_30, rfl, m_n0 rfl, m_n0 rfl, fun _ => ⟨(m_gi3 15 rfl rfl), (m_gi3 16 rfl rfl)⟩, m_n0 rfl⟩⟩, (fun _ h => absurd h List.not_mem_nil)⟩)
set_option maxRecDepth 4000 in
theorem vo_29 : ∀ q ∈ M_29.2.2.2.2.2.2.2.1, m_oOk M_29.1 q := (List.forall_mem_cons.mpr ⟨⟨m_n0 rfl, m_n0 rfl, m_n0 rfl, m_n0 rfl, fun _ => ⟨"jdk/internal/util/Preconditions", "SIOOBE_FORMATTER", "Ljava/util/function/BiFunction;", by decide, (m_gi3 13 rfl rfl)⟩, m_n0 rfl, m_n0 rfl, Nat.le_of_ble_eq_true rfl⟩, (fun _ h => absurd h List.not_mem_nil)⟩)
set_option maxRecDepth 4000 in
theorem vk_29 : ∀ q ∈ M_29.2.2.2.2.2.2.2.2, decode M_29.2.1 q.1 = .ok (q.2.1, q.2.2) := by decide +kernel
set_option maxRecDepth 4000 in
theorem v_29 : m_mOk M_29 := ⟨(m_gi3 12 rfl rfl), (m_gi1 8 rfl rfl), by decide +kernel, ⟨by decide +kernel, by decide +kernel⟩, by decide +kernel, vf_29, vc_29, vo_29, vk_29⟩
set_option maxRecDepth 4000 in
theorem vf_30 : ∀ q ∈ M_30.2.2.2.2.2.1, m_fOk M_30.1 q := (fun _ h => absurd h List.not_mem_nil)
set_option maxRecDepth 4000 in
theorem vc_30 : ∀ q ∈ M_30.2.2.2.2.2.2.1, m_cOk M_30.1 q := (fun _ h => absurd h List.not_mem_nil)
set_option maxRecDepth 4000 in
theorem vo_30 : ∀ q ∈ M_30.2.2.2.2.2.2.2.1, m_oOk M_30.1 q := (fun _ h => absurd h List.not_mem_nil)
set_option maxRecDepth 4000 in
theorem vk_30 : ∀ q ∈ M_30.2.2.2.2.2.2.2.2, decode M_30.2.1 q.1 = .ok (q.2.1, q.2.2) := by decide +kernel
set_option maxRecDepth 4000 in
theorem v_30 : m_mOk M_30 := ⟨(m_gi3 17 rfl rfl), (m_gi1 15 rfl rfl), by decide +kernel, ⟨by decide +kernel, by decide +kernel⟩, by decide +kernel, vf_30, vc_30, vo_30, vk_30⟩
set_option maxRecDepth 4000 in
theorem vf_31 : ∀ q ∈ M_31.2.2.2.2.2.1, m_fOk M_31.1 q := (fun _ h => absurd h List.not_mem_nil)
set_option maxRecDepth 4000 in
theorem vc_31 : ∀ q ∈ M_31.2.2.2.2.2.2.1, m_cOk M_31.1 q := (List.forall_mem_cons.mpr ⟨⟨m_n0 rfl, m_n0 rfl, m_n0 rfl, fun _ => ⟨M_32, rfl, m_n0 rfl, m_n0 rfl, fun _ => ⟨(m_gi3 21 rfl rfl), (m_gi3 22 rfl rfl)⟩, m_n0 rfl⟩⟩, (List.forall_mem_cons.mpr ⟨⟨m_n0 rfl, m_n0 rfl, m_n0 rfl, fun _ => ⟨M_34, rfl, m_n0 rfl, m_n0 rfl, fun _ => ⟨(m_gi3 28 rfl rfl), (m_gi3 29 rfl rfl)⟩, m_n0 rfl⟩⟩, (fun _ h => absurd h List.not_mem_nil)⟩)⟩)
set_option maxRecDepth 4000 in
theorem vo_31 : ∀ q ∈ M_31.2.2.2.2.2.2.2.1, m_oOk M_31.1 q := (fun _ h => absurd h List.not_mem_nil)
set_option maxRecDepth 4000 in
theorem vk_31 : ∀ q ∈ M_31.2.2.2.2.2.2.2.2, decode M_31.2.1 q.1 = .ok (q.2.1, q.2.2) := by decide +kernel
set_option maxRecDepth 4000 in
theorem v_31 : m_mOk M_31 := ⟨(m_gi3 20 rfl rfl), (m_gi1 9 rfl rfl), by decide +kernel, ⟨by decide +kernel, by decide +kernel⟩, by decide +kernel, vf_31, vc_31, vo_31, vk_31⟩
set_option maxRecDepth 4000 in
theorem vf_32 : ∀ q ∈ M_32.2.2.2.2.2.1, m_fOk M_32.1 q := (fun _ h => absurd h List.not_mem_nil)
set_option maxRecDepth 4000 in
theorem vc_32 : ∀ q ∈ M_32.2.2.2.2.2.2.1, m_cOk M_32.1 q := (List.forall_mem_cons.mpr ⟨⟨m_n0 rfl, m_n0 rfl, m_n0 rfl, fun _ => ⟨M_33, rfl, m_n0 rfl, m_n0 rfl, fun _ => ⟨(m_gi3 24 rfl rfl), (m_gi3 25 rfl rfl)⟩, m_n0 rfl⟩⟩, (List.forall_mem_cons.mpr ⟨⟨m_n0 rfl, m_n0 rfl, m_n0 rfl, fun _ => ⟨M_29, rfl, m_n0 rfl, m_n0 rfl, fun _ => ⟨(m_gi3 27 rfl rfl), (m_gi3 11 rfl rfl)⟩, m_n0 rfl⟩⟩, (fun _ h => absurd h List.not_mem_nil)⟩)⟩)
set_option maxRecDepth 4000 in
theorem vo_32 : ∀ q ∈ M_32.2.2.2.2.2.2.2.1, m_oOk M_32.1 q := (fun _ h => absurd h List.not_mem_nil)
set_option maxRecDepth 4000 in
theorem vk_32 : ∀ q ∈ M_32.2.2.2.2.2.2.2.2, decode M_32.2.1 q.1 = .ok (q.2.1, q.2.2) := by decide +kernel
set_option maxRecDepth 4000 in
theorem v_32 : m_mOk M_32 := ⟨(m_gi3 23 rfl rfl), (m_gi1 9 rfl rfl), by decide +kernel, ⟨by decide +kernel, by decide +kernel⟩, by decide +kernel, vf_32, vc_32, vo_32, vk_32⟩
set_option maxRecDepth 4000 in
theorem vf_33 : ∀ q ∈ M_33.2.2.2.2.2.1, m_fOk M_33.1 q := (fun _ h => absurd h List.not_mem_nil)
set_option maxRecDepth 4000 in
theorem vc_33 : ∀ q ∈ M_33.2.2.2.2.2.2.1, m_cOk M_33.1 q := (fun _ h => absurd h List.not_mem_nil)
set_option maxRecDepth 4000 in
theorem vo_33 : ∀ q ∈ M_33.2.2.2.2.2.2.2.1, m_oOk M_33.1 q := (fun _ h => absurd h List.not_mem_nil)
set_option maxRecDepth 4000 in
theorem vk_33 : ∀ q ∈ M_33.2.2.2.2.2.2.2.2, decode M_33.2.1 q.1 = .ok (q.2.1, q.2.2) := by decide +kernel
set_option maxRecDepth 4000 in
theorem v_33 : m_mOk M_33 := ⟨(m_gi3 26 rfl rfl), (m_gi1 9 rfl rfl), by decide +kernel, ⟨by decide +kernel, by decide +kernel⟩, by decide +kernel, vf_33, vc_33, vo_33, vk_33⟩
set_option maxRecDepth 4000 in
theorem vf_34 : ∀ q ∈ M_34.2.2.2.2.2.1, m_fOk M_34.1 q := (fun _ h => absurd h List.not_mem_nil)
set_option maxRecDepth 4000 in
theorem vc_34 : ∀ q ∈ M_34.2.2.2.2.2.2.1, m_cOk M_34.1 q := (List.forall_mem_cons.mpr ⟨⟨m_n0 rfl, m_n0 rfl, m_n0 rfl, fun _ => ⟨M_33, rfl, m_n0 rfl, m_n0 rfl, fun _ => ⟨(m_gi3 24 rfl rfl), (m_gi3 25 rfl rfl)⟩, m_n0 rfl⟩⟩, (fun _ h => absurd h List.not_mem_nil)⟩)
set_option maxRecDepth 4000 in
theorem vo_34 : ∀ q ∈ M_34.2.2.2.2.2.2.2.1, m_oOk M_34.1 q := (List.forall_mem_cons.mpr ⟨⟨m_n0 rfl, m_n0 rfl, m_n0 rfl, m_n0 rfl, fun _ => ⟨"java/lang/StringUTF16", "$assertionsDisabled", "Z", by decide, (m_gi3 31 rfl rfl)⟩, m_n0 rfl, m_n0 rfl, Nat.le_of_ble_eq_true rfl⟩, (List.forall_mem_cons.mpr ⟨⟨m_n0 rfl, m_n0 rfl, m_n0 rfl, m_n0 rfl, fun _ => ⟨"java/lang/StringUTF16", "HI_BYTE_SHIFT", "I", by decide, (m_gi3 33 rfl rfl)⟩, m_n0 rfl, m_n0 rfl, Nat.le_of_ble_eq_true rfl⟩, (List.forall_mem_cons.mpr ⟨⟨m_n0 rfl, m_n0 rfl, m_n0 rfl, m_n0 rfl, fun _ => ⟨"java/lang/StringUTF16", "LO_BYTE_SHIFT", "I", by decide, (m_gi3 35 rfl rfl)⟩, m_n0 rfl, m_n0 rfl, Nat.le_of_ble_eq_true rfl⟩, (fun _ h => absurd h List.not_mem_nil)⟩)⟩)⟩)
set_option maxRecDepth 4000 in
theorem vk_34 : ∀ q ∈ M_34.2.2.2.2.2.2.2.2, decode M_34.2.1 q.1 = .ok (q.2.1, q.2.2) := by decide +kernel
set_option maxRecDepth 4000 in
theorem v_34 : m_mOk M_34 := ⟨(m_gi3 30 rfl rfl), (m_gi1 9 rfl rfl), by decide +kernel, ⟨by decide +kernel, by decide +kernel⟩, by decide +kernel, vf_34, vc_34, vo_34, vk_34⟩
set_option maxRecDepth 4000 in
theorem vf_35 : ∀ q ∈ M_35.2.2.2.2.2.1, m_fOk M_35.1 q := (List.forall_mem_cons.mpr ⟨⟨(R_1, F_1, 16), rfl, Nat.le_of_ble_eq_true rfl, ⟨"EdgeHouse$Reader", (m_gi1 52 rfl rfl), Or.inl rfl⟩, fun _ => rfl, m_n0 rfl⟩, (fun _ h => absurd h List.not_mem_nil)⟩)
set_option maxRecDepth 4000 in
theorem vc_35 : ∀ q ∈ M_35.2.2.2.2.2.2.1, m_cOk M_35.1 q := (List.forall_mem_cons.mpr ⟨⟨m_n0 rfl, m_n0 rfl, m_n0 rfl, fun _ => ⟨M_22, rfl, m_n0 rfl, fun _ => ⟨(m_gi2 220 rfl rfl), (m_gi2 221 rfl rfl), (R_1, F_1, 16), rfl, rfl, (m_gi2 222 rfl rfl)⟩, m_n0 rfl, m_n0 rfl⟩⟩, (List.forall_mem_cons.mpr ⟨⟨m_n0 rfl, m_n0 rfl, m_n0 rfl, fun _ => ⟨M_36, rfl, m_n0 rfl, fun _ => ⟨(m_gi3 41 rfl rfl), (m_gi3 42 rfl rfl), (R_1, F_1, 16), rfl, rfl, (m_gi3 43 rfl rfl)⟩, m_n0 rfl, m_n0 rfl⟩⟩, (fun _ h => absurd h List.not_mem_nil)⟩)⟩)
set_option maxRecDepth 4000 in
theorem vo_35 : ∀ q ∈ M_35.2.2.2.2.2.2.2.1, m_oOk M_35.1 q := (fun _ h => absurd h List.not_mem_nil)
set_option maxRecDepth 4000 in
theorem vk_35 : ∀ q ∈ M_35.2.2.2.2.2.2.2.2, decode M_35.2.1 q.1 = .ok (q.2.1, q.2.2) := by decide +kernel
set_option maxRecDepth 4000 in
theorem v_35 : m_mOk M_35 := ⟨(m_gi3 40 rfl rfl), (m_gi1 2 rfl rfl), by decide +kernel, ⟨by decide +kernel, by decide +kernel⟩, by decide +kernel, vf_35, vc_35, vo_35, vk_35⟩
set_option maxRecDepth 4000 in
theorem vf_36 : ∀ q ∈ M_36.2.2.2.2.2.1, m_fOk M_36.1 q := (List.forall_mem_cons.mpr ⟨⟨(R_1, F_1, 16), rfl, Nat.le_of_ble_eq_true rfl, ⟨"EdgeHouse$Reader", (m_gi1 53 rfl rfl), Or.inl rfl⟩, fun _ => rfl, m_n0 rfl⟩, (fun _ h => absurd h List.not_mem_nil)⟩)
set_option maxRecDepth 4000 in
theorem vc_36 : ∀ q ∈ M_36.2.2.2.2.2.2.1, m_cOk M_36.1 q := (fun _ h => absurd h List.not_mem_nil)
set_option maxRecDepth 4000 in
theorem vo_36 : ∀ q ∈ M_36.2.2.2.2.2.2.2.1, m_oOk M_36.1 q := (fun _ h => absurd h List.not_mem_nil)
set_option maxRecDepth 4000 in
theorem vk_36 : ∀ q ∈ M_36.2.2.2.2.2.2.2.2, decode M_36.2.1 q.1 = .ok (q.2.1, q.2.2) := by decide +kernel
set_option maxRecDepth 4000 in
theorem v_36 : m_mOk M_36 := ⟨(m_gi3 44 rfl rfl), (m_gi1 2 rfl rfl), by decide +kernel, ⟨by decide +kernel, by decide +kernel⟩, by decide +kernel, vf_36, vc_36, vo_36, vk_36⟩
set_option maxRecDepth 4000 in
theorem vf_37 : ∀ q ∈ M_37.2.2.2.2.2.1, m_fOk M_37.1 q := (List.forall_mem_cons.mpr ⟨⟨(R_1, F_1, 16), rfl, Nat.le_of_ble_eq_true rfl, ⟨"EdgeHouse$Reader", (m_gi1 61 rfl rfl), Or.inl rfl⟩, fun _ => rfl, m_n0 rfl⟩, (List.forall_mem_cons.mpr ⟨⟨(R_1, F_1, 16), rfl, Nat.le_of_ble_eq_true rfl, ⟨"EdgeHouse$Reader", (m_gi1 62 rfl rfl), Or.inl rfl⟩, fun _ => rfl, m_n0 rfl⟩, (List.forall_mem_cons.mpr ⟨⟨(R_1, F_1, 16), rfl, Nat.le_of_ble_eq_true rfl, ⟨"EdgeHouse$Reader", (m_gi1 52 rfl rfl), Or.inl rfl⟩, fun _ => rfl, m_n0 rfl⟩, (List.forall_mem_cons.mpr ⟨⟨(R_1, F_1, 16), rfl, Nat.le_of_ble_eq_true rfl, ⟨"EdgeHouse$Reader", (m_gi1 60 rfl rfl), Or.inl rfl⟩, fun _ => rfl, m_n0 rfl⟩, (fun _ h => absurd h List.not_mem_nil)⟩)⟩)⟩)⟩)
set_option maxRecDepth 4000 in
theorem vc_37 : ∀ q ∈ M_37.2.2.2.2.2.2.1, m_cOk M_37.1 q := (List.forall_mem_cons.mpr ⟨⟨m_n0 rfl, m_n0 rfl, m_n0 rfl, fun _ => ⟨M_22, rfl, m_n0 rfl, fun _ => ⟨(m_gi2 220 rfl rfl), (m_gi2 221 rfl rfl), (R_1, F_1, 16), rfl, rfl, (m_gi2 222 rfl rfl)⟩, m_n0 rfl, m_n0 rfl⟩⟩, (List.forall_mem_cons.mpr ⟨⟨m_n0 rfl, m_n0 rfl, m_n0 rfl, fun _ => ⟨M_35, rfl, m_n0 rfl, fun _ => ⟨(m_gi3 37 rfl rfl), (m_gi3 38 rfl rfl), (R_1, F_1, 16), rfl, rfl, (m_gi3 39 rfl rfl)⟩, m_n0 rfl, m_n0 rfl⟩⟩, (List.forall_mem_cons.mpr ⟨⟨m_n0 rfl, m_n0 rfl, m_n0 rfl, fun _ => ⟨M_38, rfl, m_n0 rfl, fun _ => ⟨(m_gi3 49 rfl rfl), (m_gi3 50 rfl rfl), (R_1, F_1, 16), rfl, rfl, (m_gi3 51 rfl rfl)⟩, m_n0 rfl, m_n0 rfl⟩⟩, (fun _ h => absurd h List.not_mem_nil)⟩)⟩)⟩)
set_option maxRecDepth 4000 in
theorem vo_37 : ∀ q ∈ M_37.2.2.2.2.2.2.2.1, m_oOk M_37.1 q := (fun _ h => absurd h List.not_mem_nil)
set_option maxRecDepth 4000 in
theorem vk_37 : ∀ q ∈ M_37.2.2.2.2.2.2.2.2, decode M_37.2.1 q.1 = .ok (q.2.1, q.2.2) := by decide +kernel
set_option maxRecDepth 4000 in
theorem v_37 : m_mOk M_37 := ⟨(m_gi3 48 rfl rfl), (m_gi1 2 rfl rfl), by decide +kernel, ⟨by decide +kernel, by decide +kernel⟩, by decide +kernel, vf_37, vc_37, vo_37, vk_37⟩
set_option maxRecDepth 4000 in
theorem vf_38 : ∀ q ∈ M_38.2.2.2.2.2.1, m_fOk M_38.1 q := (List.forall_mem_cons.mpr ⟨⟨(R_1, F_1, 16), rfl, Nat.le_of_ble_eq_true rfl, ⟨"EdgeHouse$Reader", (m_gi1 52 rfl rfl), Or.inl rfl⟩, fun _ => rfl, m_n0 rfl⟩, (List.forall_mem_cons.mpr ⟨⟨(R_1, F_1, 16), rfl, Nat.le_of_ble_eq_true rfl, ⟨"EdgeHouse$Reader", (m_gi1 60 rfl rfl), Or.inl rfl⟩, fun _ => rfl, m_n0 rfl⟩, (fun _ h => absurd h List.not_mem_nil)⟩)⟩)
set_option maxRecDepth 4000 in
theorem vc_38 : ∀ q ∈ M_38.2.2.2.2.2.2.1, m_cOk M_38.1 q := (List.forall_mem_cons.mpr ⟨⟨m_n0 rfl, m_n0 rfl, m_n0 rfl, fun _ => ⟨M_22, rfl, m_n0 rfl, fun _ => ⟨(m_gi2 220 rfl rfl), (m_gi2 221 rfl rfl), (R_1, F_1, 16), rfl, rfl, (m_gi2 222 rfl rfl)⟩, m_n0 rfl, m_n0 rfl⟩⟩, (List.forall_mem_cons.mpr ⟨⟨m_n0 rfl, m_n0 rfl, m_n0 rfl, fun _ => ⟨M_36, rfl, m_n0 rfl, fun _ => ⟨(m_gi3 41 rfl rfl), (m_gi3 42 rfl rfl), (R_1, F_1, 16), rfl, rfl, (m_gi3 43 rfl rfl)⟩, m_n0 rfl, m_n0 rfl⟩⟩, (List.forall_mem_cons.mpr ⟨⟨m_n0 rfl, m_n0 rfl, m_n0 rfl, fun _ => ⟨M_39, rfl, m_n0 rfl, m_n0 rfl, fun _ => ⟨(m_gi3 53 rfl rfl), (m_gi3 54 rfl rfl)⟩, m_n0 rfl⟩⟩, (fun _ h => absurd h List.not_mem_nil)⟩)⟩)⟩)
set_option maxRecDepth 4000 in
theorem vo_38 : ∀ q ∈ M_38.2.2.2.2.2.2.2.1, m_oOk M_38.1 q := (fun _ h => absurd h List.not_mem_nil)
set_option maxRecDepth 4000 in
theorem vk_38 : ∀ q ∈ M_38.2.2.2.2.2.2.2.2, decode M_38.2.1 q.1 = .ok (q.2.1, q.2.2) := by decide +kernel
set_option maxRecDepth 4000 in
theorem v_38 : m_mOk M_38 := ⟨(m_gi3 52 rfl rfl), (m_gi1 2 rfl rfl), by decide +kernel, ⟨by decide +kernel, by decide +kernel⟩, by decide +kernel, vf_38, vc_38, vo_38, vk_38⟩
set_option maxRecDepth 4000 in
theorem vf_39 : ∀ q ∈ M_39.2.2.2.2.2.1, m_fOk M_39.1 q := (fun _ h => absurd h List.not_mem_nil)
set_option maxRecDepth 4000 in
theorem vc_39 : ∀ q ∈ M_39.2.2.2.2.2.2.1, m_cOk M_39.1 q := (fun _ h => absurd h List.not_mem_nil)
set_option maxRecDepth 4000 in
theorem vo_39 : ∀ q ∈ M_39.2.2.2.2.2.2.2.1, m_oOk M_39.1 q := (fun _ h => absurd h List.not_mem_nil)
set_option maxRecDepth 4000 in
theorem vk_39 : ∀ q ∈ M_39.2.2.2.2.2.2.2.2, decode M_39.2.1 q.1 = .ok (q.2.1, q.2.2) := by decide +kernel
set_option maxRecDepth 4000 in
theorem v_39 : m_mOk M_39 := ⟨(m_gi3 55 rfl rfl), (m_gi1 2 rfl rfl), by decide +kernel, ⟨by decide +kernel, by decide +kernel⟩, by decide +kernel, vf_39, vc_39, vo_39, vk_39⟩
set_option maxRecDepth 4000 in
theorem vf_40 : ∀ q ∈ M_40.2.2.2.2.2.1, m_fOk M_40.1 q := (List.forall_mem_cons.mpr ⟨⟨(R_1, F_1, 16), rfl, Nat.le_of_ble_eq_true rfl, ⟨"EdgeHouse$Reader", (m_gi1 55 rfl rfl), Or.inl rfl⟩, m_n0 rfl, m_n0 rfl⟩, (List.forall_mem_cons.mpr ⟨⟨(R_1, F_1, 16), rfl, Nat.le_of_ble_eq_true rfl, ⟨"EdgeHouse$Reader", (m_gi1 52 rfl rfl), Or.inl rfl⟩, fun _ => rfl, m_n0 rfl⟩, (List.forall_mem_cons.mpr ⟨⟨(R_1, F_1, 16), rfl, Nat.le_of_ble_eq_true rfl, ⟨"EdgeHouse$Reader", (m_gi1 56 rfl rfl), Or.inl rfl⟩, fun _ => rfl, m_n0 rfl⟩, (List.forall_mem_cons.mpr ⟨⟨(R_1, F_1, 16), rfl, Nat.le_of_ble_eq_true rfl, ⟨"EdgeHouse$Reader", (m_gi1 57 rfl rfl), Or.inl rfl⟩, fun _ => rfl, m_n0 rfl⟩, (List.forall_mem_cons.mpr ⟨⟨(R_1, F_1, 16), rfl, Nat.le_of_ble_eq_true rfl, ⟨"EdgeHouse$Reader", (m_gi1 58 rfl rfl), Or.inl rfl⟩, fun _ => rfl, m_n0 rfl⟩, (fun _ h => absurd h List.not_mem_nil)⟩)⟩)⟩)⟩)⟩)
set_option maxRecDepth 4000 in
theorem vc_40 : ∀ q ∈ M_40.2.2.2.2.2.2.1, m_cOk M_40.1 q := (List.forall_mem_cons.mpr ⟨⟨m_n0 rfl, m_n0 rfl, m_n0 rfl, fun _ => ⟨M_22, rfl, m_n0 rfl, fun _ => ⟨(m_gi2 220 rfl rfl), (m_gi2 221 rfl rfl), (R_1, F_1, 16), rfl, rfl, (m_gi2 222 rfl rfl)⟩, m_n0 rfl, m_n0 rfl⟩⟩, (List.forall_mem_cons.mpr ⟨⟨m_n0 rfl, m_n0 rfl, m_n0 rfl, fun _ => ⟨M_36, rfl, m_n0 rfl, fun _ => ⟨(m_gi3 41 rfl rfl), (m_gi3 42 rfl rfl), (R_1, F_1, 16), rfl, rfl, (m_gi3 43 rfl rfl)⟩, m_n0 rfl, m_n0 rfl⟩⟩, (List.forall_mem_cons.mpr ⟨⟨m_n0 rfl, m_n0 rfl, m_n0 rfl, fun _ => ⟨M_41, rfl, m_n0 rfl, fun _ => ⟨(m_gi3 60 rfl rfl), (m_gi3 61 rfl rfl), (R_1, F_1, 16), rfl, rfl, (m_gi3 62 rfl rfl)⟩, m_n0 rfl, m_n0 rfl⟩⟩, (List.forall_mem_cons.mpr ⟨⟨m_n0 rfl, m_n0 rfl, m_n0 rfl, fun _ => ⟨M_42, rfl, m_n0 rfl, fun _ => ⟨(m_gi3 64 rfl rfl), (m_gi3 65 rfl rfl), (R_1, F_1, 16), rfl, rfl, (m_gi3 66 rfl rfl)⟩, m_n0 rfl, m_n0 rfl⟩⟩, (fun _ h => absurd h List.not_mem_nil)⟩)⟩)⟩)⟩)
set_option maxRecDepth 4000 in
theorem vo_40 : ∀ q ∈ M_40.2.2.2.2.2.2.2.1, m_oOk M_40.1 q := (fun _ h => absurd h List.not_mem_nil)
set_option maxRecDepth 4000 in
theorem vk_40 : ∀ q ∈ M_40.2.2.2.2.2.2.2.2, decode M_40.2.1 q.1 = .ok (q.2.1, q.2.2) := by decide +kernel
set_option maxRecDepth 4000 in
theorem v_40 : m_mOk M_40 := ⟨(m_gi3 59 rfl rfl), (m_gi1 2 rfl rfl), by decide +kernel, ⟨by decide +kernel, by decide +kernel⟩, by decide +kernel, vf_40, vc_40, vo_40, vk_40⟩
set_option maxRecDepth 4000 in
theorem vf_41 : ∀ q ∈ M_41.2.2.2.2.2.1, m_fOk M_41.1 q := (List.forall_mem_cons.mpr ⟨⟨(R_1, F_1, 16), rfl, Nat.le_of_ble_eq_true rfl, ⟨"EdgeHouse$Reader", (m_gi1 51 rfl rfl), Or.inl rfl⟩, fun _ => rfl, m_n0 rfl⟩, (List.forall_mem_cons.mpr ⟨⟨(R_1, F_1, 16), rfl, Nat.le_of_ble_eq_true rfl, ⟨"EdgeHouse$Reader", (m_gi1 52 rfl rfl), Or.inl rfl⟩, fun _ => rfl, m_n0 rfl⟩, (fun _ h => absurd h List.not_mem_nil)⟩)⟩)
set_option maxRecDepth 4000 in
theorem vc_41 : ∀ q ∈ M_41.2.2.2.2.2.2.1, m_cOk M_41.1 q := (List.forall_mem_cons.mpr ⟨⟨m_n0 rfl, m_n0 rfl, m_n0 rfl, fun _ => ⟨M_22, rfl, m_n0 rfl, fun _ => ⟨(m_gi2 220 rfl rfl), (m_gi2 221 rfl rfl), (R_1, F_1, 16), rfl, rfl, (m_gi2 222 rfl rfl)⟩, m_n0 rfl, m_n0 rfl⟩⟩, (fun _ h => absurd h List.not_mem_nil)⟩)
set_option maxRecDepth 4000 in
theorem vo_41 : ∀ q ∈ M_41.2.2.2.2.2.2.2.1, m_oOk M_41.1 q := (fun _ h => absurd h List.not_mem_nil)
set_option maxRecDepth 4000 in
theorem vk_41 : ∀ q ∈ M_41.2.2.2.2.2.2.2.2, decode M_41.2.1 q.1 = .ok (q.2.1, q.2.2) := by decide +kernel
set_option maxRecDepth 4000 in
theorem v_41 : m_mOk M_41 := ⟨(m_gi3 63 rfl rfl), (m_gi1 2 rfl rfl), by decide +kernel, ⟨by decide +kernel, by decide +kernel⟩, by decide +kernel, vf_41, vc_41, vo_41, vk_41⟩
set_option maxRecDepth 4000 in
theorem vf_42 : ∀ q ∈ M_42.2.2.2.2.2.1, m_fOk M_42.1 q := (List.forall_mem_cons.mpr ⟨⟨(R_1, F_1, 16), rfl, Nat.le_of_ble_eq_true rfl, ⟨"EdgeHouse$Reader", (m_gi1 55 rfl rfl), Or.inl rfl⟩, m_n0 rfl, m_n0 rfl⟩, (List.forall_mem_cons.mpr ⟨⟨(R_1, F_1, 16), rfl, Nat.le_of_ble_eq_true rfl, ⟨"EdgeHouse$Reader", (m_gi1 56 rfl rfl), Or.inl rfl⟩, fun _ => rfl, m_n0 rfl⟩, (List.forall_mem_cons.mpr ⟨⟨(R_1, F_1, 16), rfl, Nat.le_of_ble_eq_true rfl, ⟨"EdgeHouse$Reader", (m_gi1 57 rfl rfl), Or.inl rfl⟩, fun _ => rfl, m_n0 rfl⟩, (List.forall_mem_cons.mpr ⟨⟨(R_1, F_1, 16), rfl, Nat.le_of_ble_eq_true rfl, ⟨"EdgeHouse$Reader", (m_gi1 58 rfl rfl), Or.inl rfl⟩, fun _ => rfl, m_n0 rfl⟩, (fun _ h => absurd h List.not_mem_nil)⟩)⟩)⟩)⟩)
set_option maxRecDepth 4000 in
theorem vc_42 : ∀ q ∈ M_42.2.2.2.2.2.2.1, m_cOk M_42.1 q := (List.forall_mem_cons.mpr ⟨⟨m_n0 rfl, m_n0 rfl, m_n0 rfl, fun _ => ⟨M_43, rfl, m_n0 rfl, fun _ => ⟨(m_gi3 68 rfl rfl), (m_gi3 69 rfl rfl), (R_1, F_1, 16), rfl, rfl, (m_gi3 70 rfl rfl)⟩, m_n0 rfl, m_n0 rfl⟩⟩, (fun _ h => absurd h List.not_mem_nil)⟩)
set_option maxRecDepth 4000 in
theorem vo_42 : ∀ q ∈ M_42.2.2.2.2.2.2.2.1, m_oOk M_42.1 q := (fun _ h => absurd h List.not_mem_nil)
set_option maxRecDepth 4000 in
theorem vk_42 : ∀ q ∈ M_42.2.2.2.2.2.2.2.2, decode M_42.2.1 q.1 = .ok (q.2.1, q.2.2) := by decide +kernel
set_option maxRecDepth 4000 in
theorem v_42 : m_mOk M_42 := ⟨(m_gi3 67 rfl rfl), (m_gi1 2 rfl rfl), by decide +kernel, ⟨by decide +kernel, by decide +kernel⟩, by decide +kernel, vf_42, vc_42, vo_42, vk_42⟩
set_option maxRecDepth 4000 in
theorem vf_43 : ∀ q ∈ M_43.2.2.2.2.2.1, m_fOk M_43.1 q := (List.forall_mem_cons.mpr ⟨⟨(R_1, F_1, 16), rfl, Nat.le_of_ble_eq_true rfl, ⟨"EdgeHouse$Reader", (m_gi1 50 rfl rfl), Or.inl rfl⟩, m_n0 rfl, m_n0 rfl⟩, (List.forall_mem_cons.mpr ⟨⟨(R_1, F_1, 16), rfl, Nat.le_of_ble_eq_true rfl, ⟨"EdgeHouse$Reader", (m_gi1 51 rfl rfl), Or.inl rfl⟩, fun _ => rfl, m_n0 rfl⟩, (fun _ h => absurd h List.not_mem_nil)⟩)⟩)
set_option maxRecDepth 4000 in
theorem vc_43 : ∀ q ∈ M_43.2.2.2.2.2.2.1, m_cOk M_43.1 q := (fun _ h => absurd h List.not_mem_nil)
set_option maxRecDepth 4000 in
theorem vo_43 : ∀ q ∈ M_43.2.2.2.2.2.2.2.1, m_oOk M_43.1 q := (fun _ h => absurd h List.not_mem_nil)
set_option maxRecDepth 4000 in
theorem vk_43 : ∀ q ∈ M_43.2.2.2.2.2.2.2.2, decode M_43.2.1 q.1 = .ok (q.2.1, q.2.2) := by decide +kernel
set_option maxRecDepth 4000 in
theorem v_43 : m_mOk M_43 := ⟨(m_gi3 71 rfl rfl), (m_gi1 2 rfl rfl), by decide +kernel, ⟨by decide +kernel, by decide +kernel⟩, by decide +kernel, vf_43, vc_43, vo_43, vk_43⟩
set_option maxRecDepth 4000 in
theorem vf_44 : ∀ q ∈ M_44.2.2.2.2.2.1, m_fOk M_44.1 q := (List.forall_mem_cons.mpr ⟨⟨(R_1, F_1, 16), rfl, Nat.le_of_ble_eq_true rfl, ⟨"EdgeHouse$Reader", (m_gi1 65 rfl rfl), Or.inl rfl⟩, fun _ => rfl, m_n0 rfl⟩, (List.forall_mem_cons.mpr ⟨⟨(R_1, F_1, 16), rfl, Nat.le_of_ble_eq_true rfl, ⟨"EdgeHouse$Reader", (m_gi1 60 rfl rfl), Or.inl rfl⟩, fun _ => rfl, m_n0 rfl⟩, (List.forall_mem_cons.mpr ⟨⟨(R_7, F_7, 8), rfl, Nat.le_of_ble_eq_true rfl, ⟨"EdgeHouse$Conditions", (m_gi2 202 rfl rfl), Or.inl rfl⟩, fun _ => rfl, m_n0 rfl⟩, (fun _ h => absurd h List.not_mem_nil)⟩)⟩)⟩)
set_option maxRecDepth 4000 in
theorem vc_44 : ∀ q ∈ M_44.2.2.2.2.2.2.1, m_cOk M_44.1 q := (List.forall_mem_cons.mpr ⟨⟨m_n0 rfl, m_n0 rfl, m_n0 rfl, fun _ => ⟨M_35, rfl, m_n0 rfl, fun _ => ⟨(m_gi3 37 rfl rfl), (m_gi3 38 rfl rfl), (R_1, F_1, 16), rfl, rfl, (m_gi3 39 rfl rfl)⟩, m_n0 rfl, m_n0 rfl⟩⟩, (List.forall_mem_cons.mpr ⟨⟨m_n0 rfl, m_n0 rfl, m_n0 rfl, fun _ => ⟨M_38, rfl, m_n0 rfl, fun _ => ⟨(m_gi3 49 rfl rfl), (m_gi3 50 rfl rfl), (R_1, F_1, 16), rfl, rfl, (m_gi3 51 rfl rfl)⟩, m_n0 rfl, m_n0 rfl⟩⟩, (List.forall_mem_cons.mpr ⟨⟨m_n0 rfl, m_n0 rfl, m_n0 rfl, fun _ => ⟨M_45, rfl, m_n0 rfl, fun _ => ⟨(m_gi3 77 rfl rfl), (m_gi3 78 rfl rfl), (R_1, F_1, 16), rfl, rfl, (m_gi3 79 rfl rfl)⟩, m_n0 rfl, m_n0 rfl⟩⟩, (List.forall_mem_cons.mpr ⟨⟨m_n0 rfl, m_n0 rfl, m_n0 rfl, fun _ => ⟨M_49, rfl, m_n0 rfl, fun _ => ⟨(m_gi3 98 rfl rfl), (m_gi3 99 rfl rfl), (R_1, F_1, 16), rfl, rfl, (m_gi3 100 rfl rfl)⟩, m_n0 rfl, m_n0 rfl⟩⟩, (List.forall_mem_cons.mpr ⟨⟨m_n0 rfl, m_n0 rfl, m_n0 rfl, fun _ => ⟨M_56, rfl, m_n0 rfl, fun _ => ⟨(m_gi3 142 rfl rfl), (m_gi3 143 rfl rfl), (R_1, F_1, 16), rfl, rfl, (m_gi3 144 rfl rfl)⟩, m_n0 rfl, m_n0 rfl⟩⟩, (List.forall_mem_cons.mpr ⟨⟨m_n0 rfl, m_n0 rfl, m_n0 rfl, fun _ => ⟨M_46, rfl, m_n0 rfl, fun _ => ⟨(m_gi3 81 rfl rfl), (m_gi3 82 rfl rfl), (R_1, F_1, 16), rfl, rfl, (m_gi3 83 rfl rfl)⟩, m_n0 rfl, m_n0 rfl⟩⟩, (List.forall_mem_cons.mpr ⟨⟨m_n0 rfl, m_n0 rfl, m_n0 rfl, fun _ => ⟨M_47, rfl, m_n0 rfl, fun _ => ⟨(m_gi3 88 rfl rfl), (m_gi3 89 rfl rfl), (R_1, F_1, 16), rfl, rfl, (m_gi3 90 rfl rfl)⟩, m_n0 rfl, m_n0 rfl⟩⟩, (fun _ h => absurd h List.not_mem_nil)⟩)⟩)⟩)⟩)⟩)⟩)⟩)
set_option maxRecDepth 4000 in
theorem vo_44 : ∀ q ∈ M_44.2.2.2.2.2.2.2.1, m_oOk M_44.1 q := (List.forall_mem_cons.mpr ⟨⟨m_n0 rfl, m_n0 rfl, m_n0 rfl, m_n0 rfl, m_n0 rfl, fun _ => ⟨_, List.mem_of_getElem? (i := 8) rfl⟩, m_n0 rfl, Nat.le_of_ble_eq_true rfl⟩, (List.forall_mem_cons.mpr ⟨⟨m_n0 rfl, m_n0 rfl, m_n0 rfl, m_n0 rfl, m_n0 rfl, fun _ => ⟨_, List.mem_of_getElem? (i := 11) rfl⟩, m_n0 rfl, Nat.le_of_ble_eq_true rfl⟩, (List.forall_mem_cons.mpr ⟨⟨m_n0 rfl, m_n0 rfl, m_n0 rfl, m_n0 rfl, m_n0 rfl, fun _ => ⟨_, List.mem_of_getElem? (i := 12) rfl⟩, m_n0 rfl, Nat.le_of_ble_eq_true rfl⟩, (List.forall_mem_cons.mpr ⟨⟨m_n0 rfl, m_n0 rfl, m_n0 rfl, m_n0 rfl, m_n0 rfl, fun _ => ⟨_, List.mem_of_getElem? (i := 13) rfl⟩, m_n0 rfl, Nat.le_of_ble_eq_true rfl⟩, (List.forall_mem_cons.mpr ⟨⟨m_n0 rfl, m_n0 rfl, fun _ => ⟨_, rfl, (m_gi3 86 rfl rfl)⟩, m_n0 rfl, m_n0 rfl, m_n0 rfl, m_n0 rfl, Nat.le_of_ble_eq_true rfl⟩, (List.forall_mem_cons.mpr ⟨⟨m_n0 rfl, m_n0 rfl, m_n0 rfl, m_n0 rfl, m_n0 rfl, fun _ => ⟨_, List.mem_of_getElem? (i := 14) rfl⟩, m_n0 rfl, Nat.le_of_ble_eq_true rfl⟩, (List.forall_mem_cons.mpr ⟨⟨m_n0 rfl, m_n0 rfl, m_n0 rfl, m_n0 rfl, m_n0 rfl, fun _ => ⟨_, List.mem_of_getElem? (i := 15) rfl⟩, m_n0 rfl, Nat.le_of_ble_eq_true rfl⟩, (fun _ h => absurd h List.not_mem_nil)⟩)⟩)⟩)⟩)⟩)⟩)⟩)
set_option maxRecDepth 4000 in
theorem vk_44 : ∀ q ∈ M_44.2.2.2.2.2.2.2.2, decode M_44.2.1 q.1 = .ok (q.2.1, q.2.2) := by decide +kernel
set_option maxRecDepth 4000 in
theorem v_44 : m_mOk M_44 := ⟨(m_gi3 75 rfl rfl), (m_gi1 2 rfl rfl), by decide +kernel, ⟨by decide +kernel, by decide +kernel⟩, by decide +kernel, vf_44, vc_44, vo_44, vk_44⟩
set_option maxRecDepth 4000 in
theorem vf_45 : ∀ q ∈ M_45.2.2.2.2.2.1, m_fOk M_45.1 q := (List.forall_mem_cons.mpr ⟨⟨(R_1, F_1, 16), rfl, Nat.le_of_ble_eq_true rfl, ⟨"EdgeHouse$Reader", (m_gi1 50 rfl rfl), Or.inl rfl⟩, m_n0 rfl, m_n0 rfl⟩, (List.forall_mem_cons.mpr ⟨⟨(R_1, F_1, 16), rfl, Nat.le_of_ble_eq_true rfl, ⟨"EdgeHouse$Reader", (m_gi1 57 rfl rfl), Or.inl rfl⟩, fun _ => rfl, m_n0 rfl⟩, (List.forall_mem_cons.mpr ⟨⟨(R_1, F_1, 16), rfl, Nat.le_of_ble_eq_true rfl, ⟨"EdgeHouse$Reader", (m_gi1 58 rfl rfl), Or.inl rfl⟩, fun _ => rfl, m_n0 rfl⟩, (fun _ h => absurd h List.not_mem_nil)⟩)⟩)⟩)
set_option maxRecDepth 4000 in
theorem vc_45 : ∀ q ∈ M_45.2.2.2.2.2.2.1, m_cOk M_45.1 q := (List.forall_mem_cons.mpr ⟨⟨m_n0 rfl, m_n0 rfl, m_n0 rfl, fun _ => ⟨M_24, rfl, m_n0 rfl, fun _ => ⟨(m_gi2 230 rfl rfl), (m_gi2 231 rfl rfl), (R_12, F_12, 4), rfl, rfl, (m_gi2 232 rfl rfl)⟩, m_n0 rfl, m_n0 rfl⟩⟩, (List.forall_mem_cons.mpr ⟨⟨m_n0 rfl, m_n0 rfl, m_n0 rfl, fun _ => ⟨M_26, rfl, m_n0 rfl, fun _ => ⟨(m_gi2 239 rfl rfl), (m_gi3 0 rfl rfl), (R_12, F_12, 4), rfl, rfl, (m_gi3 1 rfl rfl)⟩, m_n0 rfl, m_n0 rfl⟩⟩, (fun _ h => absurd h List.not_mem_nil)⟩)⟩)
set_option maxRecDepth 4000 in
theorem vo_45 : ∀ q ∈ M_45.2.2.2.2.2.2.2.1, m_oOk M_45.1 q := (fun _ h => absurd h List.not_mem_nil)
set_option maxRecDepth 4000 in
theorem vk_45 : ∀ q ∈ M_45.2.2.2.2.2.2.2.2, decode M_45.2.1 q.1 = .ok (q.2.1, q.2.2) := by decide +kernel
set_option maxRecDepth 4000 in
theorem v_45 : m_mOk M_45 := ⟨(m_gi3 80 rfl rfl), (m_gi1 2 rfl rfl), by decide +kernel, ⟨by decide +kernel, by decide +kernel⟩, by decide +kernel, vf_45, vc_45, vo_45, vk_45⟩
set_option maxRecDepth 4000 in
theorem vf_46 : ∀ q ∈ M_46.2.2.2.2.2.1, m_fOk M_46.1 q := (List.forall_mem_cons.mpr ⟨⟨(R_1, F_1, 16), rfl, Nat.le_of_ble_eq_true rfl, ⟨"EdgeHouse$Reader", (m_gi1 65 rfl rfl), Or.inl rfl⟩, fun _ => rfl, m_n0 rfl⟩, (List.forall_mem_cons.mpr ⟨⟨(R_1, F_1, 16), rfl, Nat.le_of_ble_eq_true rfl, ⟨"EdgeHouse$Reader", (m_gi1 52 rfl rfl), Or.inl rfl⟩, fun _ => rfl, m_n0 rfl⟩, (List.forall_mem_cons.mpr ⟨⟨(R_1, F_1, 16), rfl, Nat.le_of_ble_eq_true rfl, ⟨"EdgeHouse$Reader", (m_gi1 60 rfl rfl), Or.inl rfl⟩, fun _ => rfl, m_n0 rfl⟩, (List.forall_mem_cons.mpr ⟨⟨(R_7, F_7, 8), rfl, Nat.le_of_ble_eq_true rfl, ⟨"EdgeHouse$Conditions", (m_gi2 188 rfl rfl), Or.inl rfl⟩, fun _ => rfl, m_n0 rfl⟩, (List.forall_mem_cons.mpr ⟨⟨(R_7, F_7, 8), rfl, Nat.le_of_ble_eq_true rfl, ⟨"EdgeHouse$Conditions", (m_gi2 191 rfl rfl), Or.inl rfl⟩, fun _ => rfl, m_n0 rfl⟩, (List.forall_mem_cons.mpr ⟨⟨(R_7, F_7, 8), rfl, Nat.le_of_ble_eq_true rfl, ⟨"EdgeHouse$Conditions", (m_gi2 194 rfl rfl), Or.inl rfl⟩, fun _ => rfl, m_n0 rfl⟩, (fun _ h => absurd h List.not_mem_nil)⟩)⟩)⟩)⟩)⟩)⟩)
set_option maxRecDepth 4000 in
theorem vc_46 : ∀ q ∈ M_46.2.2.2.2.2.2.1, m_cOk M_46.1 q := (List.forall_mem_cons.mpr ⟨⟨m_n0 rfl, m_n0 rfl, m_n0 rfl, fun _ => ⟨M_23, rfl, m_n0 rfl, fun _ => ⟨(m_gi2 226 rfl rfl), (m_gi2 227 rfl rfl), (R_1, F_1, 16), rfl, rfl, (m_gi2 228 rfl rfl)⟩, m_n0 rfl, m_n0 rfl⟩⟩, (List.forall_mem_cons.mpr ⟨⟨m_n0 rfl, m_n0 rfl, m_n0 rfl, fun _ => ⟨M_22, rfl, m_n0 rfl, fun _ => ⟨(m_gi2 220 rfl rfl), (m_gi2 221 rfl rfl), (R_1, F_1, 16), rfl, rfl, (m_gi2 222 rfl rfl)⟩, m_n0 rfl, m_n0 rfl⟩⟩, (List.forall_mem_cons.mpr ⟨⟨m_n0 rfl, m_n0 rfl, m_n0 rfl, fun _ => ⟨M_35, rfl, m_n0 rfl, fun _ => ⟨(m_gi3 37 rfl rfl), (m_gi3 38 rfl rfl), (R_1, F_1, 16), rfl, rfl, (m_gi3 39 rfl rfl)⟩, m_n0 rfl, m_n0 rfl⟩⟩, (List.forall_mem_cons.mpr ⟨⟨m_n0 rfl, m_n0 rfl, m_n0 rfl, fun _ => ⟨M_39, rfl, m_n0 rfl, m_n0 rfl, fun _ => ⟨(m_gi3 53 rfl rfl), (m_gi3 54 rfl rfl)⟩, m_n0 rfl⟩⟩, (List.forall_mem_cons.mpr ⟨⟨m_n0 rfl, m_n0 rfl, m_n0 rfl, fun _ => ⟨M_38, rfl, m_n0 rfl, fun _ => ⟨(m_gi3 49 rfl rfl), (m_gi3 50 rfl rfl), (R_1, F_1, 16), rfl, rfl, (m_gi3 51 rfl rfl)⟩, m_n0 rfl, m_n0 rfl⟩⟩, (fun _ h => absurd h List.not_mem_nil)⟩)⟩)⟩)⟩)⟩)
set_option maxRecDepth 4000 in
theorem vo_46 : ∀ q ∈ M_46.2.2.2.2.2.2.2.1, m_oOk M_46.1 q := (List.forall_mem_cons.mpr ⟨⟨m_n0 rfl, m_n0 rfl, fun _ => ⟨_, rfl, (m_gi3 86 rfl rfl)⟩, m_n0 rfl, m_n0 rfl, m_n0 rfl, m_n0 rfl, Nat.le_of_ble_eq_true rfl⟩, (List.forall_mem_cons.mpr ⟨⟨m_n0 rfl, m_n0 rfl, m_n0 rfl, m_n0 rfl, m_n0 rfl, fun _ => ⟨_, List.mem_of_getElem? (i := 16) rfl⟩, m_n0 rfl, Nat.le_of_ble_eq_true rfl⟩, (fun _ h => absurd h List.not_mem_nil)⟩)⟩)
set_option maxRecDepth 4000 in
theorem vk_46 : ∀ q ∈ M_46.2.2.2.2.2.2.2.2, decode M_46.2.1 q.1 = .ok (q.2.1, q.2.2) := by decide +kernel
set_option maxRecDepth 4000 in
theorem v_46 : m_mOk M_46 := ⟨(m_gi3 84 rfl rfl), (m_gi1 2 rfl rfl), by decide +kernel, ⟨by decide +kernel, by decide +kernel⟩, by decide +kernel, vf_46, vc_46, vo_46, vk_46⟩
set_option maxRecDepth 4000 in
theorem vf_47 : ∀ q ∈ M_47.2.2.2.2.2.1, m_fOk M_47.1 q := (List.forall_mem_cons.mpr ⟨⟨(R_1, F_1, 16), rfl, Nat.le_of_ble_eq_true rfl, ⟨"EdgeHouse$Reader", (m_gi1 65 rfl rfl), Or.inl rfl⟩, fun _ => rfl, m_n0 rfl⟩, (List.forall_mem_cons.mpr ⟨⟨(R_1, F_1, 16), rfl, Nat.le_of_ble_eq_true rfl, ⟨"EdgeHouse$Reader", (m_gi1 52 rfl rfl), Or.inl rfl⟩, fun _ => rfl, m_n0 rfl⟩, (List.forall_mem_cons.mpr ⟨⟨(R_1, F_1, 16), rfl, Nat.le_of_ble_eq_true rfl, ⟨"EdgeHouse$Reader", (m_gi1 60 rfl rfl), Or.inl rfl⟩, fun _ => rfl, m_n0 rfl⟩, (List.forall_mem_cons.mpr ⟨⟨(R_7, F_7, 8), rfl, Nat.le_of_ble_eq_true rfl, ⟨"EdgeHouse$Conditions", (m_gi2 196 rfl rfl), Or.inl rfl⟩, fun _ => rfl, m_n0 rfl⟩, (List.forall_mem_cons.mpr ⟨⟨(R_7, F_7, 8), rfl, Nat.le_of_ble_eq_true rfl, ⟨"EdgeHouse$Conditions", (m_gi2 198 rfl rfl), Or.inl rfl⟩, m_n0 rfl, m_n0 rfl⟩, (fun _ h => absurd h List.not_mem_nil)⟩)⟩)⟩)⟩)⟩)
set_option maxRecDepth 4000 in
theorem vc_47 : ∀ q ∈ M_47.2.2.2.2.2.2.1, m_cOk M_47.1 q := (List.forall_mem_cons.mpr ⟨⟨m_n0 rfl, m_n0 rfl, m_n0 rfl, fun _ => ⟨M_22, rfl, m_n0 rfl, fun _ => ⟨(m_gi2 220 rfl rfl), (m_gi2 221 rfl rfl), (R_1, F_1, 16), rfl, rfl, (m_gi2 222 rfl rfl)⟩, m_n0 rfl, m_n0 rfl⟩⟩, (List.forall_mem_cons.mpr ⟨⟨m_n0 rfl, m_n0 rfl, m_n0 rfl, fun _ => ⟨M_35, rfl, m_n0 rfl, fun _ => ⟨(m_gi3 37 rfl rfl), (m_gi3 38 rfl rfl), (R_1, F_1, 16), rfl, rfl, (m_gi3 39 rfl rfl)⟩, m_n0 rfl, m_n0 rfl⟩⟩, (List.forall_mem_cons.mpr ⟨⟨m_n0 rfl, m_n0 rfl, m_n0 rfl, fun _ => ⟨M_38, rfl, m_n0 rfl, fun _ => ⟨(m_gi3 49 rfl rfl), (m_gi3 50 rfl rfl), (R_1, F_1, 16), rfl, rfl, (m_gi3 51 rfl rfl)⟩, m_n0 rfl, m_n0 rfl⟩⟩, (List.forall_mem_cons.mpr ⟨⟨m_n0 rfl, m_n0 rfl, m_n0 rfl, fun _ => ⟨M_48, rfl, m_n0 rfl, fun _ => ⟨(m_gi3 92 rfl rfl), (m_gi3 93 rfl rfl), (R_7, F_7, 8), rfl, rfl, (m_gi3 94 rfl rfl)⟩, m_n0 rfl, m_n0 rfl⟩⟩, (fun _ h => absurd h List.not_mem_nil)⟩)⟩)⟩)⟩)
set_option maxRecDepth 4000 in
theorem vo_47 : ∀ q ∈ M_47.2.2.2.2.2.2.2.1, m_oOk M_47.1 q := (List.forall_mem_cons.mpr ⟨⟨m_n0 rfl, m_n0 rfl, fun _ => ⟨_, rfl, (m_gi3 86 rfl rfl)⟩, m_n0 rfl, m_n0 rfl, m_n0 rfl, m_n0 rfl, Nat.le_of_ble_eq_true rfl⟩, (fun _ h => absurd h List.not_mem_nil)⟩)
set_option maxRecDepth 4000 in
theorem vk_47 : ∀ q ∈ M_47.2.2.2.2.2.2.2.2, decode M_47.2.1 q.1 = .ok (q.2.1, q.2.2) := by decide +kernel
set_option maxRecDepth 4000 in
theorem v_47 : m_mOk M_47 := ⟨(m_gi3 91 rfl rfl), (m_gi1 2 rfl rfl), by decide +kernel, ⟨by decide +kernel, by decide +kernel⟩, by decide +kernel, vf_47, vc_47, vo_47, vk_47⟩
set_option maxRecDepth 4000 in
theorem vf_48 : ∀ q ∈ M_48.2.2.2.2.2.1, m_fOk M_48.1 q := (List.forall_mem_cons.mpr ⟨⟨(R_7, F_7, 8), rfl, Nat.le_of_ble_eq_true rfl, ⟨"EdgeHouse$Conditions", (m_gi2 197 rfl rfl), Or.inl rfl⟩, m_n0 rfl, m_n0 rfl⟩, (List.forall_mem_cons.mpr ⟨⟨(R_7, F_7, 8), rfl, Nat.le_of_ble_eq_true rfl, ⟨"EdgeHouse$Conditions", (m_gi2 199 rfl rfl), Or.inl rfl⟩, fun _ => rfl, m_n0 rfl⟩, (fun _ h => absurd h List.not_mem_nil)⟩)⟩)
set_option maxRecDepth 4000 in
theorem vc_48 : ∀ q ∈ M_48.2.2.2.2.2.2.1, m_cOk M_48.1 q := (fun _ h => absurd h List.not_mem_nil)
set_option maxRecDepth 4000 in
theorem vo_48 : ∀ q ∈ M_48.2.2.2.2.2.2.2.1, m_oOk M_48.1 q := (fun _ h => absurd h List.not_mem_nil)
set_option maxRecDepth 4000 in
theorem vk_48 : ∀ q ∈ M_48.2.2.2.2.2.2.2.2, decode M_48.2.1 q.1 = .ok (q.2.1, q.2.2) := by decide +kernel
set_option maxRecDepth 4000 in
theorem v_48 : m_mOk M_48 := ⟨(m_gi3 95 rfl rfl), (m_gi1 21 rfl rfl), by decide +kernel, ⟨by decide +kernel, by decide +kernel⟩, by decide +kernel, vf_48, vc_48, vo_48, vk_48⟩
set_option maxRecDepth 4000 in
theorem vf_49 : ∀ q ∈ M_49.2.2.2.2.2.1, m_fOk M_49.1 q := (List.forall_mem_cons.mpr ⟨⟨(R_1, F_1, 16), rfl, Nat.le_of_ble_eq_true rfl, ⟨"EdgeHouse$Reader", (m_gi1 52 rfl rfl), Or.inl rfl⟩, fun _ => rfl, m_n0 rfl⟩, (fun _ h => absurd h List.not_mem_nil)⟩)
set_option maxRecDepth 4000 in
theorem vc_49 : ∀ q ∈ M_49.2.2.2.2.2.2.1, m_cOk M_49.1 q := (List.forall_mem_cons.mpr ⟨⟨m_n0 rfl, m_n0 rfl, m_n0 rfl, fun _ => ⟨M_22, rfl, m_n0 rfl, fun _ => ⟨(m_gi2 220 rfl rfl), (m_gi2 221 rfl rfl), (R_1, F_1, 16), rfl, rfl, (m_gi2 222 rfl rfl)⟩, m_n0 rfl, m_n0 rfl⟩⟩, (List.forall_mem_cons.mpr ⟨⟨m_n0 rfl, m_n0 rfl, m_n0 rfl, fun _ => ⟨M_35, rfl, m_n0 rfl, fun _ => ⟨(m_gi3 37 rfl rfl), (m_gi3 38 rfl rfl), (R_1, F_1, 16), rfl, rfl, (m_gi3 39 rfl rfl)⟩, m_n0 rfl, m_n0 rfl⟩⟩, (List.forall_mem_cons.mpr ⟨⟨m_n0 rfl, m_n0 rfl, m_n0 rfl, fun _ => ⟨M_36, rfl, m_n0 rfl, fun _ => ⟨(m_gi3 41 rfl rfl), (m_gi3 42 rfl rfl), (R_1, F_1, 16), rfl, rfl, (m_gi3 43 rfl rfl)⟩, m_n0 rfl, m_n0 rfl⟩⟩, (List.forall_mem_cons.mpr ⟨⟨m_n0 rfl, m_n0 rfl, m_n0 rfl, fun _ => ⟨M_50, rfl, m_n0 rfl, fun _ => ⟨(m_gi3 102 rfl rfl), (m_gi3 103 rfl rfl), (R_1, F_1, 16), rfl, rfl, (m_gi3 104 rfl rfl)⟩, m_n0 rfl, m_n0 rfl⟩⟩, (List.forall_mem_cons.mpr ⟨⟨m_n0 rfl, m_n0 rfl, m_n0 rfl, fun _ => ⟨M_51, rfl, m_n0 rfl, fun _ => ⟨(m_gi3 106 rfl rfl), (m_gi3 107 rfl rfl), (R_1, F_1, 16), rfl, rfl, (m_gi3 108 rfl rfl)⟩, m_n0 rfl, m_n0 rfl⟩⟩, (List.forall_mem_cons.mpr ⟨⟨m_n0 rfl, m_n0 rfl, m_n0 rfl, fun _ => ⟨M_52, rfl, m_n0 rfl, fun _ => ⟨(m_gi3 114 rfl rfl), (m_gi3 115 rfl rfl), (R_1, F_1, 16), rfl, rfl, (m_gi3 116 rfl rfl)⟩, m_n0 rfl, m_n0 rfl⟩⟩, (List.forall_mem_cons.mpr ⟨⟨m_n0 rfl, m_n0 rfl, m_n0 rfl, fun _ => ⟨M_53, rfl, m_n0 rfl, fun _ => ⟨(m_gi3 119 rfl rfl), (m_gi3 120 rfl rfl), (R_1, F_1, 16), rfl, rfl, (m_gi3 121 rfl rfl)⟩, m_n0 rfl, m_n0 rfl⟩⟩, (List.forall_mem_cons.mpr ⟨⟨m_n0 rfl, m_n0 rfl, m_n0 rfl, fun _ => ⟨M_54, rfl, m_n0 rfl, fun _ => ⟨(m_gi3 129 rfl rfl), (m_gi3 130 rfl rfl), (R_1, F_1, 16), rfl, rfl, (m_gi3 131 rfl rfl)⟩, m_n0 rfl, m_n0 rfl⟩⟩, (List.forall_mem_cons.mpr ⟨⟨m_n0 rfl, m_n0 rfl, m_n0 rfl, fun _ => ⟨M_55, rfl, m_n0 rfl, fun _ => ⟨(m_gi3 136 rfl rfl), (m_gi3 137 rfl rfl), (R_1, F_1, 16), rfl, rfl, (m_gi3 138 rfl rfl)⟩, m_n0 rfl, m_n0 rfl⟩⟩, (fun _ h => absurd h List.not_mem_nil)⟩)⟩)⟩)⟩)⟩)⟩)⟩)⟩)⟩)
set_option maxRecDepth 4000 in
theorem vo_49 : ∀ q ∈ M_49.2.2.2.2.2.2.2.1, m_oOk M_49.1 q := (fun _ h => absurd h List.not_mem_nil)
set_option maxRecDepth 4000 in
theorem vk_49 : ∀ q ∈ M_49.2.2.2.2.2.2.2.2, decode M_49.2.1 q.1 = .ok (q.2.1, q.2.2) := by decide +kernel
set_option maxRecDepth 4000 in
theorem v_49 : m_mOk M_49 := ⟨(m_gi3 101 rfl rfl), (m_gi1 2 rfl rfl), by decide +kernel, ⟨by decide +kernel, by decide +kernel⟩, by decide +kernel, vf_49, vc_49, vo_49, vk_49⟩
set_option maxRecDepth 4000 in
theorem vf_50 : ∀ q ∈ M_50.2.2.2.2.2.1, m_fOk M_50.1 q := (List.forall_mem_cons.mpr ⟨⟨(R_1, F_1, 16), rfl, Nat.le_of_ble_eq_true rfl, ⟨"EdgeHouse$Reader", (m_gi1 52 rfl rfl), Or.inl rfl⟩, fun _ => rfl, m_n0 rfl⟩, (List.forall_mem_cons.mpr ⟨⟨(R_1, F_1, 16), rfl, Nat.le_of_ble_eq_true rfl, ⟨"EdgeHouse$Reader", (m_gi1 57 rfl rfl), Or.inl rfl⟩, fun _ => rfl, m_n0 rfl⟩, (List.forall_mem_cons.mpr ⟨⟨(R_1, F_1, 16), rfl, Nat.le_of_ble_eq_true rfl, ⟨"EdgeHouse$Reader", (m_gi1 58 rfl rfl), Or.inl rfl⟩, fun _ => rfl, m_n0 rfl⟩, (List.forall_mem_cons.mpr ⟨⟨(R_1, F_1, 16), rfl, Nat.le_of_ble_eq_true rfl, ⟨"EdgeHouse$Reader", (m_gi1 59 rfl rfl), Or.inl rfl⟩, fun _ => rfl, m_n0 rfl⟩, (fun _ h => absurd h List.not_mem_nil)⟩)⟩)⟩)⟩)
set_option maxRecDepth 4000 in
theorem vc_50 : ∀ q ∈ M_50.2.2.2.2.2.2.1, m_cOk M_50.1 q := (List.forall_mem_cons.mpr ⟨⟨m_n0 rfl, m_n0 rfl, m_n0 rfl, fun _ => ⟨M_22, rfl, m_n0 rfl, fun _ => ⟨(m_gi2 220 rfl rfl), (m_gi2 221 rfl rfl), (R_1, F_1, 16), rfl, rfl, (m_gi2 222 rfl rfl)⟩, m_n0 rfl, m_n0 rfl⟩⟩, (List.forall_mem_cons.mpr ⟨⟨m_n0 rfl, m_n0 rfl, m_n0 rfl, fun _ => ⟨M_36, rfl, m_n0 rfl, fun _ => ⟨(m_gi3 41 rfl rfl), (m_gi3 42 rfl rfl), (R_1, F_1, 16), rfl, rfl, (m_gi3 43 rfl rfl)⟩, m_n0 rfl, m_n0 rfl⟩⟩, (List.forall_mem_cons.mpr ⟨⟨m_n0 rfl, m_n0 rfl, m_n0 rfl, fun _ => ⟨M_38, rfl, m_n0 rfl, fun _ => ⟨(m_gi3 49 rfl rfl), (m_gi3 50 rfl rfl), (R_1, F_1, 16), rfl, rfl, (m_gi3 51 rfl rfl)⟩, m_n0 rfl, m_n0 rfl⟩⟩, (List.forall_mem_cons.mpr ⟨⟨m_n0 rfl, m_n0 rfl, m_n0 rfl, fun _ => ⟨M_41, rfl, m_n0 rfl, fun _ => ⟨(m_gi3 60 rfl rfl), (m_gi3 61 rfl rfl), (R_1, F_1, 16), rfl, rfl, (m_gi3 62 rfl rfl)⟩, m_n0 rfl, m_n0 rfl⟩⟩, (fun _ h => absurd h List.not_mem_nil)⟩)⟩)⟩)⟩)
set_option maxRecDepth 4000 in
theorem vo_50 : ∀ q ∈ M_50.2.2.2.2.2.2.2.1, m_oOk M_50.1 q := (List.forall_mem_cons.mpr ⟨⟨m_n0 rfl, m_n0 rfl, fun _ => ⟨_, rfl, (m_gi3 86 rfl rfl)⟩, m_n0 rfl, m_n0 rfl, m_n0 rfl, m_n0 rfl, Nat.le_of_ble_eq_true rfl⟩, (fun _ h => absurd h List.not_mem_nil)⟩)
set_option maxRecDepth 4000 in
theorem vk_50 : ∀ q ∈ M_50.2.2.2.2.2.2.2.2, decode M_50.2.1 q.1 = .ok (q.2.1, q.2.2) := by decide +kernel
set_option maxRecDepth 4000 in
theorem v_50 : m_mOk M_50 := ⟨(m_gi3 105 rfl rfl), (m_gi1 2 rfl rfl), by decide +kernel, ⟨by decide +kernel, by decide +kernel⟩, by decide +kernel, vf_50, vc_50, vo_50, vk_50⟩
set_option maxRecDepth 4000 in
theorem vf_51 : ∀ q ∈ M_51.2.2.2.2.2.1, m_fOk M_51.1 q := (List.forall_mem_cons.mpr ⟨⟨(R_1, F_1, 16), rfl, Nat.le_of_ble_eq_true rfl, ⟨"EdgeHouse$Reader", (m_gi1 63 rfl rfl), Or.inl rfl⟩, m_n0 rfl, m_n0 rfl⟩, (List.forall_mem_cons.mpr ⟨⟨(R_1, F_1, 16), rfl, Nat.le_of_ble_eq_true rfl, ⟨"EdgeHouse$Reader", (m_gi1 60 rfl rfl), Or.inl rfl⟩, fun _ => rfl, m_n0 rfl⟩, (List.forall_mem_cons.mpr ⟨⟨(R_1, F_1, 16), rfl, Nat.le_of_ble_eq_true rfl, ⟨"EdgeHouse$Reader", (m_gi1 59 rfl rfl), Or.inl rfl⟩, fun _ => rfl, m_n0 rfl⟩, (fun _ h => absurd h List.not_mem_nil)⟩)⟩)⟩)
set_option maxRecDepth 4000 in
theorem vc_51 : ∀ q ∈ M_51.2.2.2.2.2.2.1, m_cOk M_51.1 q := (List.forall_mem_cons.mpr ⟨⟨m_n0 rfl, m_n0 rfl, m_n0 rfl, fun _ => ⟨M_45, rfl, m_n0 rfl, fun _ => ⟨(m_gi3 77 rfl rfl), (m_gi3 78 rfl rfl), (R_1, F_1, 16), rfl, rfl, (m_gi3 79 rfl rfl)⟩, m_n0 rfl, m_n0 rfl⟩⟩, (fun _ h => absurd h List.not_mem_nil)⟩)
set_option maxRecDepth 4000 in
theorem vo_51 : ∀ q ∈ M_51.2.2.2.2.2.2.2.1, m_oOk M_51.1 q := (List.forall_mem_cons.mpr ⟨⟨m_n0 rfl, m_n0 rfl, m_n0 rfl, m_n0 rfl, m_n0 rfl, fun _ => ⟨_, List.mem_of_getElem? (i := 17) rfl⟩, m_n0 rfl, Nat.le_of_ble_eq_true rfl⟩, (List.forall_mem_cons.mpr ⟨⟨m_n0 rfl, m_n0 rfl, m_n0 rfl, m_n0 rfl, m_n0 rfl, fun _ => ⟨_, List.mem_of_getElem? (i := 18) rfl⟩, m_n0 rfl, Nat.le_of_ble_eq_true rfl⟩, (List.forall_mem_cons.mpr ⟨⟨m_n0 rfl, m_n0 rfl, m_n0 rfl, m_n0 rfl, m_n0 rfl, fun _ => ⟨_, List.mem_of_getElem? (i := 19) rfl⟩, m_n0 rfl, Nat.le_of_ble_eq_true rfl⟩, (List.forall_mem_cons.mpr ⟨⟨m_n0 rfl, m_n0 rfl, m_n0 rfl, m_n0 rfl, m_n0 rfl, fun _ => ⟨_, List.mem_of_getElem? (i := 20) rfl⟩, m_n0 rfl, Nat.le_of_ble_eq_true rfl⟩, (fun _ h => absurd h List.not_mem_nil)⟩)⟩)⟩)⟩)
set_option maxRecDepth 4000 in
theorem vk_51 : ∀ q ∈ M_51.2.2.2.2.2.2.2.2, decode M_51.2.1 q.1 = .ok (q.2.1, q.2.2) := by decide +kernel
set_option maxRecDepth 4000 in
theorem v_51 : m_mOk M_51 := ⟨(m_gi3 109 rfl rfl), (m_gi1 2 rfl rfl), by decide +kernel, ⟨by decide +kernel, by decide +kernel⟩, by decide +kernel, vf_51, vc_51, vo_51, vk_51⟩
set_option maxRecDepth 4000 in
theorem vf_52 : ∀ q ∈ M_52.2.2.2.2.2.1, m_fOk M_52.1 q := (List.forall_mem_cons.mpr ⟨⟨(R_1, F_1, 16), rfl, Nat.le_of_ble_eq_true rfl, ⟨"EdgeHouse$Reader", (m_gi1 64 rfl rfl), Or.inl rfl⟩, fun _ => rfl, m_n0 rfl⟩, (List.forall_mem_cons.mpr ⟨⟨(R_1, F_1, 16), rfl, Nat.le_of_ble_eq_true rfl, ⟨"EdgeHouse$Reader", (m_gi1 60 rfl rfl), Or.inl rfl⟩, fun _ => rfl, m_n0 rfl⟩, (List.forall_mem_cons.mpr ⟨⟨(R_1, F_1, 16), rfl, Nat.le_of_ble_eq_true rfl, ⟨"EdgeHouse$Reader", (m_gi1 59 rfl rfl), Or.inl rfl⟩, fun _ => rfl, m_n0 rfl⟩, (List.forall_mem_cons.mpr ⟨⟨(R_6, F_6, 19), rfl, Nat.le_of_ble_eq_true rfl, ⟨"EdgeHouse$Request", (m_gi2 104 rfl rfl), Or.inl rfl⟩, fun _ => rfl, m_n0 rfl⟩, (fun _ h => absurd h List.not_mem_nil)⟩)⟩)⟩)⟩)
set_option maxRecDepth 4000 in
theorem vc_52 : ∀ q ∈ M_52.2.2.2.2.2.2.1, m_cOk M_52.1 q := (List.forall_mem_cons.mpr ⟨⟨m_n0 rfl, m_n0 rfl, m_n0 rfl, fun _ => ⟨M_45, rfl, m_n0 rfl, fun _ => ⟨(m_gi3 77 rfl rfl), (m_gi3 78 rfl rfl), (R_1, F_1, 16), rfl, rfl, (m_gi3 79 rfl rfl)⟩, m_n0 rfl, m_n0 rfl⟩⟩, (fun _ h => absurd h List.not_mem_nil)⟩)
set_option maxRecDepth 4000 in
theorem vo_52 : ∀ q ∈ M_52.2.2.2.2.2.2.2.1, m_oOk M_52.1 q := (List.forall_mem_cons.mpr ⟨⟨m_n0 rfl, m_n0 rfl, m_n0 rfl, m_n0 rfl, m_n0 rfl, fun _ => ⟨_, List.mem_of_getElem? (i := 21) rfl⟩, m_n0 rfl, Nat.le_of_ble_eq_true rfl⟩, (fun _ h => absurd h List.not_mem_nil)⟩)
set_option maxRecDepth 4000 in
theorem vk_52 : ∀ q ∈ M_52.2.2.2.2.2.2.2.2, decode M_52.2.1 q.1 = .ok (q.2.1, q.2.2) := by decide +kernel
set_option maxRecDepth 4000 in
theorem v_52 : m_mOk M_52 := ⟨(m_gi3 117 rfl rfl), (m_gi1 2 rfl rfl), by decide +kernel, ⟨by decide +kernel, by decide +kernel⟩, by decide +kernel, vf_52, vc_52, vo_52, vk_52⟩
set_option maxRecDepth 4000 in
theorem vf_53 : ∀ q ∈ M_53.2.2.2.2.2.1, m_fOk M_53.1 q := (List.forall_mem_cons.mpr ⟨⟨(R_1, F_1, 16), rfl, Nat.le_of_ble_eq_true rfl, ⟨"EdgeHouse$Reader", (m_gi1 64 rfl rfl), Or.inl rfl⟩, fun _ => rfl, m_n0 rfl⟩, (List.forall_mem_cons.mpr ⟨⟨(R_1, F_1, 16), rfl, Nat.le_of_ble_eq_true rfl, ⟨"EdgeHouse$Reader", (m_gi1 60 rfl rfl), Or.inl rfl⟩, fun _ => rfl, m_n0 rfl⟩, (List.forall_mem_cons.mpr ⟨⟨(R_1, F_1, 16), rfl, Nat.le_of_ble_eq_true rfl, ⟨"EdgeHouse$Reader", (m_gi1 59 rfl rfl), Or.inl rfl⟩, fun _ => rfl, m_n0 rfl⟩, (List.forall_mem_cons.mpr ⟨⟨(R_6, F_6, 19), rfl, Nat.le_of_ble_eq_true rfl, ⟨"EdgeHouse$Request", (m_gi2 122 rfl rfl), Or.inl rfl⟩, fun _ => rfl, m_n0 rfl⟩, (List.forall_mem_cons.mpr ⟨⟨(R_6, F_6, 19), rfl, Nat.le_of_ble_eq_true rfl, ⟨"EdgeHouse$Request", (m_gi2 113 rfl rfl), Or.inl rfl⟩, fun _ => rfl, m_n0 rfl⟩, (List.forall_mem_cons.mpr ⟨⟨(R_6, F_6, 19), rfl, Nat.le_of_ble_eq_true rfl, ⟨"EdgeHouse$Request", (m_gi2 115 rfl rfl), Or.inl rfl⟩, fun _ => rfl, m_n0 rfl⟩, (List.forall_mem_cons.mpr ⟨⟨(R_6, F_6, 19), rfl, Nat.le_of_ble_eq_true rfl, ⟨"EdgeHouse$Request", (m_gi2 118 rfl rfl), Or.inl rfl⟩, fun _ => rfl, m_n0 rfl⟩, (List.forall_mem_cons.mpr ⟨⟨(R_6, F_6, 19), rfl, Nat.le_of_ble_eq_true rfl, ⟨"EdgeHouse$Request", (m_gi2 120 rfl rfl), Or.inl rfl⟩, fun _ => rfl, m_n0 rfl⟩, (fun _ h => absurd h List.not_mem_nil)⟩)⟩)⟩)⟩)⟩)⟩)⟩)⟩)
set_option maxRecDepth 4000 in
theorem vc_53 : ∀ q ∈ M_53.2.2.2.2.2.2.1, m_cOk M_53.1 q := (List.forall_mem_cons.mpr ⟨⟨m_n0 rfl, m_n0 rfl, m_n0 rfl, fun _ => ⟨M_45, rfl, m_n0 rfl, fun _ => ⟨(m_gi3 77 rfl rfl), (m_gi3 78 rfl rfl), (R_1, F_1, 16), rfl, rfl, (m_gi3 79 rfl rfl)⟩, m_n0 rfl, m_n0 rfl⟩⟩, (fun _ h => absurd h List.not_mem_nil)⟩)
set_option maxRecDepth 4000 in
theorem vo_53 : ∀ q ∈ M_53.2.2.2.2.2.2.2.1, m_oOk M_53.1 q := (List.forall_mem_cons.mpr ⟨⟨m_n0 rfl, m_n0 rfl, m_n0 rfl, m_n0 rfl, m_n0 rfl, fun _ => ⟨_, List.mem_of_getElem? (i := 22) rfl⟩, m_n0 rfl, Nat.le_of_ble_eq_true rfl⟩, (List.forall_mem_cons.mpr ⟨⟨m_n0 rfl, m_n0 rfl, fun _ => ⟨_, rfl, (m_gi3 124 rfl rfl)⟩, m_n0 rfl, m_n0 rfl, m_n0 rfl, m_n0 rfl, Nat.le_of_ble_eq_true rfl⟩, (List.forall_mem_cons.mpr ⟨⟨m_n0 rfl, m_n0 rfl, m_n0 rfl, m_n0 rfl, m_n0 rfl, fun _ => ⟨_, List.mem_of_getElem? (i := 23) rfl⟩, m_n0 rfl, Nat.le_of_ble_eq_true rfl⟩, (List.forall_mem_cons.mpr ⟨⟨m_n0 rfl, m_n0 rfl, m_n0 rfl, m_n0 rfl, m_n0 rfl, fun _ => ⟨_, List.mem_of_getElem? (i := 24) rfl⟩, m_n0 rfl, Nat.le_of_ble_eq_true rfl⟩, (List.forall_mem_cons.mpr ⟨⟨m_n0 rfl, m_n0 rfl, m_n0 rfl, m_n0 rfl, m_n0 rfl, fun _ => ⟨_, List.mem_of_getElem? (i := 25) rfl⟩, m_n0 rfl, Nat.le_of_ble_eq_true rfl⟩, (List.forall_mem_cons.mpr ⟨⟨m_n0 rfl, m_n0 rfl, m_n0 rfl, m_n0 rfl, m_n0 rfl, fun _ => ⟨_, List.mem_of_getElem? (i := 26) rfl⟩, m_n0 rfl, Nat.le_of_ble_eq_true rfl⟩, (fun _ h => absurd h List.not_mem_nil)⟩)⟩)⟩)⟩)⟩)⟩)
set_option maxRecDepth 4000 in
theorem vk_53 : ∀ q ∈ M_53.2.2.2.2.2.2.2.2, decode M_53.2.1 q.1 = .ok (q.2.1, q.2.2) := by decide +kernel
set_option maxRecDepth 4000 in
theorem v_53 : m_mOk M_53 := ⟨(m_gi3 122 rfl rfl), (m_gi1 2 rfl rfl), by decide +kernel, ⟨by decide +kernel, by decide +kernel⟩, by decide +kernel, vf_53, vc_53, vo_53, vk_53⟩
set_option maxRecDepth 4000 in
theorem vf_54 : ∀ q ∈ M_54.2.2.2.2.2.1, m_fOk M_54.1 q := (List.forall_mem_cons.mpr ⟨⟨(R_1, F_1, 16), rfl, Nat.le_of_ble_eq_true rfl, ⟨"EdgeHouse$Reader", (m_gi1 66 rfl rfl), Or.inl rfl⟩, fun _ => rfl, m_n0 rfl⟩, (List.forall_mem_cons.mpr ⟨⟨(R_1, F_1, 16), rfl, Nat.le_of_ble_eq_true rfl, ⟨"EdgeHouse$Reader", (m_gi1 60 rfl rfl), Or.inl rfl⟩, fun _ => rfl, m_n0 rfl⟩, (List.forall_mem_cons.mpr ⟨⟨(R_1, F_1, 16), rfl, Nat.le_of_ble_eq_true rfl, ⟨"EdgeHouse$Reader", (m_gi1 59 rfl rfl), Or.inl rfl⟩, fun _ => rfl, m_n0 rfl⟩, (List.forall_mem_cons.mpr ⟨⟨(R_13, F_13, 10), rfl, Nat.le_of_ble_eq_true rfl, ⟨"EdgeHouse$Told", (m_gi8 117 rfl rfl), Or.inl rfl⟩, fun _ => rfl, m_n0 rfl⟩, (List.forall_mem_cons.mpr ⟨⟨(R_13, F_13, 10), rfl, Nat.le_of_ble_eq_true rfl, ⟨"EdgeHouse$Told", (m_gi8 119 rfl rfl), Or.inl rfl⟩, fun _ => rfl, m_n0 rfl⟩, (List.forall_mem_cons.mpr ⟨⟨(R_13, F_13, 10), rfl, Nat.le_of_ble_eq_true rfl, ⟨"EdgeHouse$Told", (m_gi8 111 rfl rfl), Or.inl rfl⟩, fun _ => rfl, m_n0 rfl⟩, (List.forall_mem_cons.mpr ⟨⟨(R_13, F_13, 10), rfl, Nat.le_of_ble_eq_true rfl, ⟨"EdgeHouse$Told", (m_gi8 113 rfl rfl), Or.inl rfl⟩, fun _ => rfl, m_n0 rfl⟩, (List.forall_mem_cons.mpr ⟨⟨(R_13, F_13, 10), rfl, Nat.le_of_ble_eq_true rfl, ⟨"EdgeHouse$Told", (m_gi8 115 rfl rfl), Or.inl rfl⟩, fun _ => rfl, m_n0 rfl⟩, (fun _ h => absurd h List.not_mem_nil)⟩)⟩)⟩)⟩)⟩)⟩)⟩)⟩)
set_option maxRecDepth 4000 in
theorem vc_54 : ∀ q ∈ M_54.2.2.2.2.2.2.1, m_cOk M_54.1 q := (List.forall_mem_cons.mpr ⟨⟨m_n0 rfl, m_n0 rfl, m_n0 rfl, fun _ => ⟨M_45, rfl, m_n0 rfl, fun _ => ⟨(m_gi3 77 rfl rfl), (m_gi3 78 rfl rfl), (R_1, F_1, 16), rfl, rfl, (m_gi3 79 rfl rfl)⟩, m_n0 rfl, m_n0 rfl⟩⟩, (fun _ h => absurd h List.not_mem_nil)⟩)
set_option maxRecDepth 4000 in
theorem vo_54 : ∀ q ∈ M_54.2.2.2.2.2.2.2.1, m_oOk M_54.1 q := (List.forall_mem_cons.mpr ⟨⟨m_n0 rfl, m_n0 rfl, m_n0 rfl, m_n0 rfl, m_n0 rfl, fun _ => ⟨_, List.mem_of_getElem? (i := 23) rfl⟩, m_n0 rfl, Nat.le_of_ble_eq_true rfl⟩, (List.forall_mem_cons.mpr ⟨⟨m_n0 rfl, m_n0 rfl, m_n0 rfl, m_n0 rfl, m_n0 rfl, fun _ => ⟨_, List.mem_of_getElem? (i := 25) rfl⟩, m_n0 rfl, Nat.le_of_ble_eq_true rfl⟩, (List.forall_mem_cons.mpr ⟨⟨m_n0 rfl, m_n0 rfl, m_n0 rfl, m_n0 rfl, m_n0 rfl, fun _ => ⟨_, List.mem_of_getElem? (i := 27) rfl⟩, m_n0 rfl, Nat.le_of_ble_eq_true rfl⟩, (List.forall_mem_cons.mpr ⟨⟨m_n0 rfl, m_n0 rfl, m_n0 rfl, m_n0 rfl, m_n0 rfl, fun _ => ⟨_, List.mem_of_getElem? (i := 28) rfl⟩, m_n0 rfl, Nat.le_of_ble_eq_true rfl⟩, (List.forall_mem_cons.mpr ⟨⟨m_n0 rfl, m_n0 rfl, m_n0 rfl, m_n0 rfl, m_n0 rfl, fun _ => ⟨_, List.mem_of_getElem? (i := 29) rfl⟩, m_n0 rfl, Nat.le_of_ble_eq_true rfl⟩, (fun _ h => absurd h List.not_mem_nil)⟩)⟩)⟩)⟩)⟩)
set_option maxRecDepth 4000 in
theorem vk_54 : ∀ q ∈ M_54.2.2.2.2.2.2.2.2, decode M_54.2.1 q.1 = .ok (q.2.1, q.2.2) := by decide +kernel
set_option maxRecDepth 4000 in
theorem v_54 : m_mOk M_54 := ⟨(m_gi3 132 rfl rfl), (m_gi1 2 rfl rfl), by decide +kernel, ⟨by decide +kernel, by decide +kernel⟩, by decide +kernel, vf_54, vc_54, vo_54, vk_54⟩
set_option maxRecDepth 4000 in
theorem vf_55 : ∀ q ∈ M_55.2.2.2.2.2.1, m_fOk M_55.1 q := (List.forall_mem_cons.mpr ⟨⟨(R_1, F_1, 16), rfl, Nat.le_of_ble_eq_true rfl, ⟨"EdgeHouse$Reader", (m_gi1 66 rfl rfl), Or.inl rfl⟩, fun _ => rfl, m_n0 rfl⟩, (List.forall_mem_cons.mpr ⟨⟨(R_1, F_1, 16), rfl, Nat.le_of_ble_eq_true rfl, ⟨"EdgeHouse$Reader", (m_gi1 59 rfl rfl), Or.inl rfl⟩, fun _ => rfl, m_n0 rfl⟩, (List.forall_mem_cons.mpr ⟨⟨(R_13, F_13, 10), rfl, Nat.le_of_ble_eq_true rfl, ⟨"EdgeHouse$Told", (m_gi8 126 rfl rfl), Or.inl rfl⟩, fun _ => rfl, m_n0 rfl⟩, (fun _ h => absurd h List.not_mem_nil)⟩)⟩)⟩)
set_option maxRecDepth 4000 in
theorem vc_55 : ∀ q ∈ M_55.2.2.2.2.2.2.1, m_cOk M_55.1 q := (List.forall_mem_cons.mpr ⟨⟨m_n0 rfl, m_n0 rfl, m_n0 rfl, fun _ => ⟨M_45, rfl, m_n0 rfl, fun _ => ⟨(m_gi3 77 rfl rfl), (m_gi3 78 rfl rfl), (R_1, F_1, 16), rfl, rfl, (m_gi3 79 rfl rfl)⟩, m_n0 rfl, m_n0 rfl⟩⟩, (fun _ h => absurd h List.not_mem_nil)⟩)
set_option maxRecDepth 4000 in
theorem vo_55 : ∀ q ∈ M_55.2.2.2.2.2.2.2.1, m_oOk M_55.1 q := (List.forall_mem_cons.mpr ⟨⟨m_n0 rfl, m_n0 rfl, m_n0 rfl, m_n0 rfl, m_n0 rfl, fun _ => ⟨_, List.mem_of_getElem? (i := 14) rfl⟩, m_n0 rfl, Nat.le_of_ble_eq_true rfl⟩, (List.forall_mem_cons.mpr ⟨⟨m_n0 rfl, m_n0 rfl, m_n0 rfl, m_n0 rfl, m_n0 rfl, fun _ => ⟨_, List.mem_of_getElem? (i := 15) rfl⟩, m_n0 rfl, Nat.le_of_ble_eq_true rfl⟩, (fun _ h => absurd h List.not_mem_nil)⟩)⟩)
set_option maxRecDepth 4000 in
theorem vk_55 : ∀ q ∈ M_55.2.2.2.2.2.2.2.2, decode M_55.2.1 q.1 = .ok (q.2.1, q.2.2) := by decide +kernel
set_option maxRecDepth 4000 in
theorem v_55 : m_mOk M_55 := ⟨(m_gi3 139 rfl rfl), (m_gi1 2 rfl rfl), by decide +kernel, ⟨by decide +kernel, by decide +kernel⟩, by decide +kernel, vf_55, vc_55, vo_55, vk_55⟩
set_option maxRecDepth 4000 in
theorem vf_56 : ∀ q ∈ M_56.2.2.2.2.2.1, m_fOk M_56.1 q := (List.forall_mem_cons.mpr ⟨⟨(R_1, F_1, 16), rfl, Nat.le_of_ble_eq_true rfl, ⟨"EdgeHouse$Reader", (m_gi1 51 rfl rfl), Or.inl rfl⟩, fun _ => rfl, m_n0 rfl⟩, (List.forall_mem_cons.mpr ⟨⟨(R_1, F_1, 16), rfl, Nat.le_of_ble_eq_true rfl, ⟨"EdgeHouse$Reader", (m_gi1 52 rfl rfl), Or.inl rfl⟩, fun _ => rfl, m_n0 rfl⟩, (fun _ h => absurd h List.not_mem_nil)⟩)⟩)
set_option maxRecDepth 4000 in
theorem vc_56 : ∀ q ∈ M_56.2.2.2.2.2.2.1, m_cOk M_56.1 q := (List.forall_mem_cons.mpr ⟨⟨m_n0 rfl, m_n0 rfl, m_n0 rfl, fun _ => ⟨M_22, rfl, m_n0 rfl, fun _ => ⟨(m_gi2 220 rfl rfl), (m_gi2 221 rfl rfl), (R_1, F_1, 16), rfl, rfl, (m_gi2 222 rfl rfl)⟩, m_n0 rfl, m_n0 rfl⟩⟩, (fun _ h => absurd h List.not_mem_nil)⟩)
set_option maxRecDepth 4000 in
theorem vo_56 : ∀ q ∈ M_56.2.2.2.2.2.2.2.1, m_oOk M_56.1 q := (fun _ h => absurd h List.not_mem_nil)
set_option maxRecDepth 4000 in
theorem vk_56 : ∀ q ∈ M_56.2.2.2.2.2.2.2.2, decode M_56.2.1 q.1 = .ok (q.2.1, q.2.2) := by decide +kernel
set_option maxRecDepth 4000 in
theorem v_56 : m_mOk M_56 := ⟨(m_gi3 145 rfl rfl), (m_gi1 2 rfl rfl), by decide +kernel, ⟨by decide +kernel, by decide +kernel⟩, by decide +kernel, vf_56, vc_56, vo_56, vk_56⟩
set_option maxRecDepth 4000 in
theorem vf_57 : ∀ q ∈ M_57.2.2.2.2.2.1, m_fOk M_57.1 q := (List.forall_mem_cons.mpr ⟨⟨(R_1, F_1, 16), rfl, Nat.le_of_ble_eq_true rfl, ⟨"EdgeHouse$Reader", (m_gi1 51 rfl rfl), Or.inl rfl⟩, fun _ => rfl, m_n0 rfl⟩, (List.forall_mem_cons.mpr ⟨⟨(R_1, F_1, 16), rfl, Nat.le_of_ble_eq_true rfl, ⟨"EdgeHouse$Reader", (m_gi1 52 rfl rfl), Or.inl rfl⟩, fun _ => rfl, m_n0 rfl⟩, (fun _ h => absurd h List.not_mem_nil)⟩)⟩)
set_option maxRecDepth 4000 in
theorem vc_57 : ∀ q ∈ M_57.2.2.2.2.2.2.1, m_cOk M_57.1 q := (List.forall_mem_cons.mpr ⟨⟨m_n0 rfl, m_n0 rfl, m_n0 rfl, fun _ => ⟨M_35, rfl, m_n0 rfl, fun _ => ⟨(m_gi3 37 rfl rfl), (m_gi3 38 rfl rfl), (R_1, F_1, 16), rfl, rfl, (m_gi3 39 rfl rfl)⟩, m_n0 rfl, m_n0 rfl⟩⟩, (List.forall_mem_cons.mpr ⟨⟨m_n0 rfl, m_n0 rfl, m_n0 rfl, fun _ => ⟨M_36, rfl, m_n0 rfl, fun _ => ⟨(m_gi3 41 rfl rfl), (m_gi3 42 rfl rfl), (R_1, F_1, 16), rfl, rfl, (m_gi3 43 rfl rfl)⟩, m_n0 rfl, m_n0 rfl⟩⟩, (fun _ h => absurd h List.not_mem_nil)⟩)⟩)
set_option maxRecDepth 4000 in
theorem vo_57 : ∀ q ∈ M_57.2.2.2.2.2.2.2.1, m_oOk M_57.1 q := (fun _ h => absurd h List.not_mem_nil)
set_option maxRecDepth 4000 in
theorem vk_57 : ∀ q ∈ M_57.2.2.2.2.2.2.2.2, decode M_57.2.1 q.1 = .ok (q.2.1, q.2.2) := by decide +kernel
set_option maxRecDepth 4000 in
theorem v_57 : m_mOk M_57 := ⟨(m_gi3 149 rfl rfl), (m_gi1 2 rfl rfl), by decide +kernel, ⟨by decide +kernel, by decide +kernel⟩, by decide +kernel, vf_57, vc_57, vo_57, vk_57⟩
set_option maxRecDepth 4000 in
theorem vf_58 : ∀ q ∈ M_58.2.2.2.2.2.1, m_fOk M_58.1 q := (List.forall_mem_cons.mpr ⟨⟨(R_1, F_1, 16), rfl, Nat.le_of_ble_eq_true rfl, ⟨"EdgeHouse$Reader", (m_gi1 63 rfl rfl), Or.inl rfl⟩, m_n0 rfl, m_n0 rfl⟩, (fun _ h => absurd h List.not_mem_nil)⟩)
set_option maxRecDepth 4000 in
theorem vc_58 : ∀ q ∈ M_58.2.2.2.2.2.2.1, m_cOk M_58.1 q := (fun _ h => absurd h List.not_mem_nil)
set_option maxRecDepth 4000 in
theorem vo_58 : ∀ q ∈ M_58.2.2.2.2.2.2.2.1, m_oOk M_58.1 q := (fun _ h => absurd h List.not_mem_nil)
set_option maxRecDepth 4000 in
theorem vk_58 : ∀ q ∈ M_58.2.2.2.2.2.2.2.2, decode M_58.2.1 q.1 = .ok (q.2.1, q.2.2) := by decide +kernel
set_option maxRecDepth 4000 in
theorem v_58 : m_mOk M_58 := ⟨(m_gi3 153 rfl rfl), (m_gi1 2 rfl rfl), by decide +kernel, ⟨by decide +kernel, by decide +kernel⟩, by decide +kernel, vf_58, vc_58, vo_58, vk_58⟩
set_option maxRecDepth 4000 in
theorem vf_59 : ∀ q ∈ M_59.2.2.2.2.2.1, m_fOk M_59.1 q := (List.forall_mem_cons.mpr ⟨⟨(R_6, F_6, 19), rfl, Nat.le_of_ble_eq_true rfl, ⟨"EdgeHouse$Request", (m_gi2 108 rfl rfl), Or.inl rfl⟩, fun _ => rfl, m_n0 rfl⟩, (List.forall_mem_cons.mpr ⟨⟨(R_6, F_6, 19), rfl, Nat.le_of_ble_eq_true rfl, ⟨"EdgeHouse$Request", (m_gi2 106 rfl rfl), Or.inl rfl⟩, fun _ => rfl, m_n0 rfl⟩, (List.forall_mem_cons.mpr ⟨⟨(R_6, F_6, 19), rfl, Nat.le_of_ble_eq_true rfl, ⟨"EdgeHouse$Request", (m_gi2 127 rfl rfl), Or.inl rfl⟩, fun _ => rfl, m_n0 rfl⟩, (List.forall_mem_cons.mpr ⟨⟨(R_7, F_7, 8), rfl, Nat.le_of_ble_eq_true rfl, ⟨"EdgeHouse$Conditions", (m_gi2 187 rfl rfl), Or.inl rfl⟩, fun _ => rfl, m_n0 rfl⟩, (List.forall_mem_cons.mpr ⟨⟨(R_7, F_7, 8), rfl, Nat.le_of_ble_eq_true rfl, ⟨"EdgeHouse$Conditions", (m_gi2 201 rfl rfl), Or.inl rfl⟩, fun _ => rfl, m_n0 rfl⟩, (List.forall_mem_cons.mpr ⟨⟨(R_7, F_7, 8), rfl, Nat.le_of_ble_eq_true rfl, ⟨"EdgeHouse$Conditions", (m_gi2 190 rfl rfl), Or.inl rfl⟩, fun _ => rfl, m_n0 rfl⟩, (List.forall_mem_cons.mpr ⟨⟨(R_7, F_7, 8), rfl, Nat.le_of_ble_eq_true rfl, ⟨"EdgeHouse$Conditions", (m_gi2 193 rfl rfl), Or.inl rfl⟩, fun _ => rfl, m_n0 rfl⟩, (fun _ h => absurd h List.not_mem_nil)⟩)⟩)⟩)⟩)⟩)⟩)⟩)
set_option maxRecDepth 4000 in
theorem vc_59 : ∀ q ∈ M_59.2.2.2.2.2.2.1, m_cOk M_59.1 q := (List.forall_mem_cons.mpr ⟨⟨m_n0 rfl, m_n0 rfl, fun _ => (m_gi3 158 rfl rfl), m_n1 rfl⟩, (fun _ h => absurd h List.not_mem_nil)⟩)
set_option maxRecDepth 4000 in
theorem vo_59 : ∀ q ∈ M_59.2.2.2.2.2.2.2.1, m_oOk M_59.1 q := (fun _ h => absurd h List.not_mem_nil)
set_option maxRecDepth 4000 in
theorem vk_59 : ∀ q ∈ M_59.2.2.2.2.2.2.2.2, decode M_59.2.1 q.1 = .ok (q.2.1, q.2.2) := by decide +kernel
set_option maxRecDepth 4000 in
theorem v_59 : m_mOk M_59 := ⟨(m_gi3 157 rfl rfl), (m_gi1 20 rfl rfl), by decide +kernel, ⟨by decide +kernel, by decide +kernel⟩, by decide +kernel, vf_59, vc_59, vo_59, vk_59⟩
