theorem k_purge_0_8 : m_ck2 (m_exec 700 M_150 (m_ent M_150 [.ref 512, .int 0, .int 8] w_1)) 1 = true := by decide +kernel
theorem k_purge_0_9 : m_ck2 (m_exec 700 M_150 (m_ent M_150 [.ref 512, .int 0, .int 9] w_1)) 1 = true := by decide +kernel
theorem k_purge_0_10 : m_ck2 (m_exec 700 M_150 (m_ent M_150 [.ref 512, .int 0, .int 10] w_1)) 1 = true := by decide +kernel
theorem k_purge_0_11 : m_ck2 (m_exec 700 M_150 (m_ent M_150 [.ref 512, .int 0, .int 11] w_1)) 1 = true := by decide +kernel
theorem k_purge_0_12 : m_ck2 (m_exec 700 M_150 (m_ent M_150 [.ref 512, .int 0, .int 12] w_1)) 1 = true := by decide +kernel
theorem k_purge_0_13 : m_ck2 (m_exec 700 M_150 (m_ent M_150 [.ref 512, .int 0, .int 13] w_1)) 1 = true := by decide +kernel
theorem k_purge_0_14 : m_ck2 (m_exec 700 M_150 (m_ent M_150 [.ref 512, .int 0, .int 14] w_1)) 1 = true := by decide +kernel
theorem k_purge_0_15 : m_ck2 (m_exec 700 M_150 (m_ent M_150 [.ref 512, .int 0, .int 15] w_1)) 1 = true := by decide +kernel
