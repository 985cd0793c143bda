theorem k_purge_0_16 : m_ck2 (m_exec 700 M_150 (m_ent M_150 [.ref 512, .int 0, .int 16] w_1)) 1 = true := by decide +kernel
theorem k_purge_0_17 : m_ck2 (m_exec 700 M_150 (m_ent M_150 [.ref 512, .int 0, .int 17] w_1)) 1 = true := by decide +kernel
theorem k_purge_0_18 : m_ck2 (m_exec 700 M_150 (m_ent M_150 [.ref 512, .int 0, .int 18] w_1)) 1 = true := by decide +kernel
theorem k_purge_0_19 : m_ck2 (m_exec 700 M_150 (m_ent M_150 [.ref 512, .int 0, .int 19] w_1)) 1 = true := by decide +kernel
theorem k_purge_0_20 : m_ck2 (m_exec 700 M_150 (m_ent M_150 [.ref 512, .int 0, .int 20] w_1)) 1 = true := by decide +kernel
theorem k_purge_0_21 : m_ck2 (m_exec 700 M_150 (m_ent M_150 [.ref 512, .int 0, .int 21] w_1)) 1 = true := by decide +kernel
theorem k_purge_0_22 : m_ck2 (m_exec 700 M_150 (m_ent M_150 [.ref 512, .int 0, .int 22] w_1)) 1 = true := by decide +kernel
theorem k_purge_0_23 : m_ck2 (m_exec 700 M_150 (m_ent M_150 [.ref 512, .int 0, .int 23] w_1)) 1 = true := by decide +kernel
