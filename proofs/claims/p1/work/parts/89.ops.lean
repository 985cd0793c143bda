theorem m_ops (l : Launch) (hfl : l.flags = pinnedFlags ++ [noTraceFlag]) (sc : Nat → Int32) : m_Law l 6 sc m_F1 1000 1000000 := sorry
