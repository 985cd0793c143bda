theorem k_purge_0_0 : m_ck2 (m_exec 700 M_150 (m_ent M_150 [.ref 512, .int 0, .int 0] w_1)) 1 = true := by decide +kernel
theorem k_purge_0_1 : m_ck2 (m_exec 700 M_150 (m_ent M_150 [.ref 512, .int 0, .int 1] w_1)) 1 = true := by decide +kernel
theorem k_purge_0_2 : m_ck2 (m_exec 700 M_150 (m_ent M_150 [.ref 512, .int 0, .int 2] w_1)) 1 = true := by decide +kernel
theorem k_purge_0_3 : m_ck2 (m_exec 700 M_150 (m_ent M_150 [.ref 512, .int 0, .int 3] w_1)) 1 = true := by decide +kernel
theorem k_purge_0_4 : m_ck2 (m_exec 700 M_150 (m_ent M_150 [.ref 512, .int 0, .int 4] w_1)) 1 = true := by decide +kernel
theorem k_purge_0_5 : m_ck2 (m_exec 700 M_150 (m_ent M_150 [.ref 512, .int 0, .int 5] w_1)) 1 = true := by decide +kernel
theorem k_purge_0_6 : m_ck2 (m_exec 700 M_150 (m_ent M_150 [.ref 512, .int 0, .int 6] w_1)) 1 = true := by decide +kernel
theorem k_purge_0_7 : m_ck2 (m_exec 700 M_150 (m_ent M_150 [.ref 512, .int 0, .int 7] w_1)) 1 = true := by decide +kernel
