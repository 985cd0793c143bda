theorem k_purge_0_24 : m_ck2 (m_exec 700 M_150 (m_ent M_150 [.ref 512, .int 0, .int 24] w_1)) 1 = true := by decide +kernel
theorem k_purge_0_25 : m_ck2 (m_exec 700 M_150 (m_ent M_150 [.ref 512, .int 0, .int 25] w_1)) 1 = true := by decide +kernel
theorem k_purge_0_26 : m_ck2 (m_exec 700 M_150 (m_ent M_150 [.ref 512, .int 0, .int 26] w_1)) 1 = true := by decide +kernel
theorem k_purge_0_27 : m_ck2 (m_exec 700 M_150 (m_ent M_150 [.ref 512, .int 0, .int 27] w_1)) 1 = true := by decide +kernel
theorem k_purge_0_28 : m_ck2 (m_exec 700 M_150 (m_ent M_150 [.ref 512, .int 0, .int 28] w_1)) 1 = true := by decide +kernel
theorem k_purge_0_29 : m_ck2 (m_exec 700 M_150 (m_ent M_150 [.ref 512, .int 0, .int 29] w_1)) 1 = true := by decide +kernel
theorem k_purge_0_30 : m_ck2 (m_exec 700 M_150 (m_ent M_150 [.ref 512, .int 0, .int 30] w_1)) 1 = true := by decide +kernel
theorem k_purge_0_31 : m_ck2 (m_exec 700 M_150 (m_ent M_150 [.ref 512, .int 0, .int 31] w_1)) 1 = true := by decide +kernel
