theorem m_mt_ok : ∀ I ∈ m_mt, m_mOk I := sorry
