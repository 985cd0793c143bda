theorem k_purge1_0 : m_2k 700 M_150 M_328 [.ref 512, .int 1, .int 0] [.ref 583, .int 1, .int 0] = true := by decide +kernel
theorem k_purge1_1 : m_2k 700 M_150 M_328 [.ref 512, .int 1, .int 1] [.ref 583, .int 1, .int 1] = true := by decide +kernel
theorem k_purge1_2 : m_2k 700 M_150 M_328 [.ref 512, .int 1, .int 2] [.ref 583, .int 1, .int 2] = true := by decide +kernel
theorem k_purge1_3 : m_2k 700 M_150 M_328 [.ref 512, .int 1, .int 3] [.ref 583, .int 1, .int 3] = true := by decide +kernel
theorem k_purge1_4 : m_2k 700 M_150 M_328 [.ref 512, .int 1, .int 4] [.ref 583, .int 1, .int 4] = true := by decide +kernel
theorem k_purge1_5 : m_2k 700 M_150 M_328 [.ref 512, .int 1, .int 5] [.ref 583, .int 1, .int 5] = true := by decide +kernel
theorem k_purge1_6 : m_2k 700 M_150 M_328 [.ref 512, .int 1, .int 6] [.ref 583, .int 1, .int 6] = true := by decide +kernel
theorem k_purge1_7 : m_2k 700 M_150 M_328 [.ref 512, .int 1, .int 7] [.ref 583, .int 1, .int 7] = true := by decide +kernel
