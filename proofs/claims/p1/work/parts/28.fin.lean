/-! What is finite: both machines run it. -/
theorem m_rng {N j : Nat} {f : Nat → Bool} (h : (List.range N).all f = true) (hj : j < N) : f j = true := List.all_eq_true.mp h j (List.mem_range.mpr hj)
theorem k_drop : (List.range 32).all (fun j => m_2k 60 M_14 M_268 [.ref 512, .int (Int32.ofNat j)] [.ref 583, .int (Int32.ofNat j)]) = true := by decide +kernel
theorem k_fault : m_2k 60 M_125 M_313 [.ref 512] [.ref 583] = true := by decide +kernel
theorem k_settle : m_2k 60 M_149 M_327 [.ref 512] [.ref 583] = true := by decide +kernel
theorem k_back : (List.range 6).all (fun j => m_2k 60 M_155 M_334 [.ref 512, .int (Int32.ofNat (j + 1))] [.ref 583, .int (Int32.ofNat (j + 1))]) = true := by decide +kernel
theorem k_total : (List.range 7).all (fun j => m_2k 60 M_228 M_348 [.ref 512, .int (Int32.ofNat j)] [.ref 583, .int (Int32.ofNat j)]) = true := by decide +kernel
theorem k_node : (List.range 6).all (fun i => (List.range 13).all (fun j => m_1k 100 M_220 [.ref 512, .int (Int32.ofNat (i + 1)), .int (Int32.ofNat j)] (if j = 0 then 1 else 0))) = true := by decide +kernel
theorem k_ask : m_2k 3000 M_16 M_269 [.ref 512] [.ref 583] = true := by decide +kernel
