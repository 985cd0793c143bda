/-! The ops that may throw; the law's head. Written by wip/tool/thr.py. -/
theorem q_241 : m_mt[241]? = some M_241 := by rfl
theorem q_243 : m_mt[243]? = some M_243 := by rfl
theorem q_329 : m_mt[329]? = some M_329 := by rfl
theorem q_336 : m_mt[336]? = some M_336 := by rfl
theorem d_ht_15 : m_dn M_ht 15 (.iconst 0) 1 16 := by decide +kernel
theorem d_ht_16 : m_dn M_ht 16 (.ireturn) 1 17 := by decide +kernel
theorem d_ht_4 : m_dn M_ht 4 (.invokevirtual 15) 3 7 := by decide +kernel
theorem d_ht_7 : m_dn M_ht 7 (.i2l) 1 8 := by decide +kernel
theorem d_ht_8 : m_dn M_ht 8 (.lastore) 1 9 := by decide +kernel
theorem d_ht_9 : m_dn M_ht 9 (.goto 6) 3 12 := by decide +kernel
theorem d_law_201 : m_dn M_law 201 (.aload_n 1) 1 202 := by decide +kernel
theorem d_law_202 : m_dn M_law 202 (.aload_n 3) 1 203 := by decide +kernel
theorem d_law_203 : m_dn M_law 203 (.invokestatic 38) 3 206 := by decide +kernel
theorem d_law_206 : m_dn M_law 206 (.istore 5) 2 208 := by decide +kernel
theorem d_law_208 : m_dn M_law 208 (.aload_n 2) 1 209 := by decide +kernel
theorem d_law_209 : m_dn M_law 209 (.invokevirtual 43) 3 212 := by decide +kernel
theorem d_law_212 : m_dn M_law 212 (.istore 6) 2 214 := by decide +kernel
theorem d_law_214 : m_dn M_law 214 (.aload_n 2) 1 215 := by decide +kernel
theorem d_law_215 : m_dn M_law 215 (.invokevirtual 44) 3 218 := by decide +kernel
theorem d_law_218 : m_dn M_law 218 (.iload 5) 2 220 := by decide +kernel
theorem d_law_220 : m_dn M_law 220 (.if_icmp .eq 5) 3 223 := by decide +kernel
theorem d_law_225 : m_dn M_law 225 (.iload 5) 2 227 := by decide +kernel
theorem d_law_227 : m_dn M_law 227 (.ifCond .ne 15) 3 230 := by decide +kernel
theorem d_law_242 : m_dn M_law 242 (.goto 574) 3 245 := by decide +kernel
theorem d_law_33 : m_dn M_law 33 (.aload_n 0) 1 34 := by decide +kernel
theorem d_law_34 : m_dn M_law 34 (.iload 4) 2 36 := by decide +kernel
theorem d_law_36 : m_dn M_law 36 (.iaload) 1 37 := by decide +kernel
theorem d_law_37 : m_dn M_law 37 (.bipush 31) 2 39 := by decide +kernel
theorem d_law_39 : m_dn M_law 39 (.iand) 1 40 := by decide +kernel
theorem d_law_396 : m_dn M_law 396 (.aload_n 1) 1 397 := by decide +kernel
theorem d_law_397 : m_dn M_law 397 (.aload_n 0) 1 398 := by decide +kernel
theorem d_law_398 : m_dn M_law 398 (.iload 4) 2 400 := by decide +kernel
theorem d_law_40 : m_dn M_law 40 (.tableswitch 776 0 18 #[92, 161, 205, 230, 243, 256, 281, 306, 319, 356, 412, 437, 462, 499, 567, 604, 641, 714, 751]) 92 132 := by decide +kernel
theorem d_law_400 : m_dn M_law 400 (.iconst 1) 1 401 := by decide +kernel
theorem d_law_401 : m_dn M_law 401 (.iadd) 1 402 := by decide +kernel
theorem d_law_402 : m_dn M_law 402 (.iaload) 1 403 := by decide +kernel
theorem d_law_403 : m_dn M_law 403 (.aload_n 3) 1 404 := by decide +kernel
theorem d_law_404 : m_dn M_law 404 (.invokestatic 76) 3 407 := by decide +kernel
theorem d_law_407 : m_dn M_law 407 (.istore 5) 2 409 := by decide +kernel
theorem d_law_409 : m_dn M_law 409 (.aload_n 2) 1 410 := by decide +kernel
theorem d_law_410 : m_dn M_law 410 (.aload_n 0) 1 411 := by decide +kernel
theorem d_law_411 : m_dn M_law 411 (.iload 4) 2 413 := by decide +kernel
theorem d_law_413 : m_dn M_law 413 (.iconst 1) 1 414 := by decide +kernel
theorem d_law_414 : m_dn M_law 414 (.iadd) 1 415 := by decide +kernel
theorem d_law_415 : m_dn M_law 415 (.iaload) 1 416 := by decide +kernel
theorem d_law_416 : m_dn M_law 416 (.invokevirtual 79) 3 419 := by decide +kernel
theorem d_law_419 : m_dn M_law 419 (.istore 6) 2 421 := by decide +kernel
theorem d_law_421 : m_dn M_law 421 (.aload_n 2) 1 422 := by decide +kernel
theorem d_law_422 : m_dn M_law 422 (.invokevirtual 44) 3 425 := by decide +kernel
theorem d_law_425 : m_dn M_law 425 (.iload 5) 2 427 := by decide +kernel
theorem d_law_427 : m_dn M_law 427 (.if_icmp .eq 5) 3 430 := by decide +kernel
theorem d_law_432 : m_dn M_law 432 (.iload 5) 2 434 := by decide +kernel
theorem d_law_434 : m_dn M_law 434 (.ifCond .ne 15) 3 437 := by decide +kernel
theorem d_law_437 : m_dn M_law 437 (.aload_n 3) 1 438 := by decide +kernel
theorem d_law_438 : m_dn M_law 438 (.iconst 0) 1 439 := by decide +kernel
theorem d_law_439 : m_dn M_law 439 (.laload) 1 440 := by decide +kernel
theorem d_law_440 : m_dn M_law 440 (.iload 6) 2 442 := by decide +kernel
theorem d_law_442 : m_dn M_law 442 (.i2l) 1 443 := by decide +kernel
theorem d_law_443 : m_dn M_law 443 (.lcmp) 1 444 := by decide +kernel
theorem d_law_444 : m_dn M_law 444 (.ifCond .eq 5) 3 447 := by decide +kernel
theorem d_law_449 : m_dn M_law 449 (.goto 367) 3 452 := by decide +kernel
theorem d_law_539 : m_dn M_law 539 (.aload_n 1) 1 540 := by decide +kernel
theorem d_law_540 : m_dn M_law 540 (.aload_n 0) 1 541 := by decide +kernel
theorem d_law_541 : m_dn M_law 541 (.iload 4) 2 543 := by decide +kernel
theorem d_law_543 : m_dn M_law 543 (.iconst 1) 1 544 := by decide +kernel
theorem d_law_544 : m_dn M_law 544 (.iadd) 1 545 := by decide +kernel
theorem d_law_545 : m_dn M_law 545 (.iaload) 1 546 := by decide +kernel
theorem d_law_546 : m_dn M_law 546 (.aload_n 0) 1 547 := by decide +kernel
theorem d_law_547 : m_dn M_law 547 (.iload 4) 2 549 := by decide +kernel
theorem d_law_549 : m_dn M_law 549 (.iconst 2) 1 550 := by decide +kernel
theorem d_law_550 : m_dn M_law 550 (.iadd) 1 551 := by decide +kernel
theorem d_law_551 : m_dn M_law 551 (.iaload) 1 552 := by decide +kernel
theorem d_law_552 : m_dn M_law 552 (.aload_n 3) 1 553 := by decide +kernel
theorem d_law_553 : m_dn M_law 553 (.invokestatic 93) 3 556 := by decide +kernel
theorem d_law_556 : m_dn M_law 556 (.istore 5) 2 558 := by decide +kernel
theorem d_law_558 : m_dn M_law 558 (.aload_n 2) 1 559 := by decide +kernel
theorem d_law_559 : m_dn M_law 559 (.aload_n 0) 1 560 := by decide +kernel
theorem d_law_560 : m_dn M_law 560 (.iload 4) 2 562 := by decide +kernel
theorem d_law_562 : m_dn M_law 562 (.iconst 1) 1 563 := by decide +kernel
theorem d_law_563 : m_dn M_law 563 (.iadd) 1 564 := by decide +kernel
theorem d_law_564 : m_dn M_law 564 (.iaload) 1 565 := by decide +kernel
theorem d_law_565 : m_dn M_law 565 (.aload_n 0) 1 566 := by decide +kernel
theorem d_law_566 : m_dn M_law 566 (.iload 4) 2 568 := by decide +kernel
theorem d_law_568 : m_dn M_law 568 (.iconst 2) 1 569 := by decide +kernel
theorem d_law_569 : m_dn M_law 569 (.iadd) 1 570 := by decide +kernel
theorem d_law_570 : m_dn M_law 570 (.iaload) 1 571 := by decide +kernel
theorem d_law_571 : m_dn M_law 571 (.invokevirtual 96) 3 574 := by decide +kernel
theorem d_law_574 : m_dn M_law 574 (.istore 6) 2 576 := by decide +kernel
theorem d_law_576 : m_dn M_law 576 (.aload_n 2) 1 577 := by decide +kernel
theorem d_law_577 : m_dn M_law 577 (.invokevirtual 44) 3 580 := by decide +kernel
theorem d_law_580 : m_dn M_law 580 (.iload 5) 2 582 := by decide +kernel
theorem d_law_582 : m_dn M_law 582 (.if_icmp .eq 5) 3 585 := by decide +kernel
theorem d_law_587 : m_dn M_law 587 (.iload 5) 2 589 := by decide +kernel
theorem d_law_589 : m_dn M_law 589 (.ifCond .ne 15) 3 592 := by decide +kernel
theorem d_law_604 : m_dn M_law 604 (.goto 212) 3 607 := by decide +kernel
theorem m_cmp_self (z : Int64) : lg_cmp z z = 0 := by
  unfold lg_cmp
  simp
theorem o_update {l : Launch} (hfl : l.flags = pinnedFlags ++ [noTraceFlag]) {sc : Nat → Int32} : m_Law l 6 sc (201, [(4, .int 0), (3, .ref 630), (2, .ref 583), (1, .ref 512), (0, .ref 500)], [], w_1) 900 900000 := by
  obtain ⟨⟨pc, lv, st, w1⟩, dc, ds, fr, lo, hsg, hst, hm, b1, b2, b3, b4, b, w2, hm2, hr2, hr3⟩ := m_ku_of k_upd
  obtain ⟨hstep, hpc⟩ := m_seg_good l (m_mt_ok M_229 (List.mem_of_getElem? q_229)).body 100 _ _ dc ds fr lo hsg
  have hst : st = [] := hst
  have hpc : pc = 29 := hpc
  subst hst hpc
  obtain ⟨hlen, fs, hfs⟩ := m_mdl_at hm
  obtain ⟨hlen2, fs2, hfs2⟩ := m_mdl_at hm2
  refine m_Law.n0 (x_aload_n d_law_201 rfl) ?_
  refine m_Law.n0 (x_aload_n d_law_202 rfl) ?_
  refine m_Law.mono (m_Law.help (as := [.ref 512, .ref 630]) (rest := []) (hs := [(0, 8, 11, 13)]) (c0 := 700) (s0 := 700000) d_law_203.1 (m_okn_okf (n := 119) rfl m_hn1) (by decide) rfl (by decide +kernel) (m_gi8 80 rfl rfl) (m_gi8 81 rfl rfl) (m_gi1 0 rfl rfl) (m_gi8 82 rfl rfl) ⟨by decide, by decide⟩ (w_hu (y_upd hfl (Nat.le_of_ble_eq_true rfl) hstep b3 b4)) (Nat.le_of_ble_eq_true rfl) (Nat.le_of_ble_eq_true rfl) ?_) (by show 0 + (dc + 1) + 700 ≤ 900; omega) (by show 0 + (ds + 6) + 700000 ≤ 900000; omega)
  show m_Law l 6 sc (206, [(4, .int 0), (3, .ref 630), (2, .ref 583), (1, .ref 512), (0, .ref 500)], [.int 1], w1) 700 700000
  refine m_Law.n0 (x_istore d_law_206 rfl (show m_put1 _ _ _ = [(5, _), (4, _), (3, _), (2, _), (1, _), (0, _)] from rfl)) ?_
  refine m_Law.n0 (x_aload_n d_law_208 rfl) ?_
  refine m_Law.mono (m_Law.call (c0 := 200) (s0 := 200000) (x_cv (n := 119) d_law_209 rfl q_243 (m_isRecv_of rfl hfs) rfl rfl hlen rfl) hr2 (fun v w hv => ?_) (by decide) (by decide)) (by decide) (by decide)
  obtain ⟨rfl, rfl⟩ := hv
  show m_Law l 6 sc (212, [(5, .int 1), (4, .int 0), (3, .ref 630), (2, .ref 583), (1, .ref 512), (0, .ref 500)], [.int b], w) 200 200000
  refine m_Law.n0 (x_istore d_law_212 rfl (show m_put1 _ _ _ = [(6, _), (5, _), (4, _), (3, _), (2, _), (1, _), (0, _)] from rfl)) ?_
  refine m_Law.n0 (x_aload_n d_law_214 rfl) ?_
  refine m_Law.mono (m_Law.call (c0 := 0) (s0 := 0) (x_cv (n := 119) d_law_215 rfl q_241 (m_isRecv_of rfl hfs2) rfl rfl hlen2 rfl) hr3 (fun v w9 hv => ?_) (by decide) (by decide)) (by decide) (by decide)
  subst hv
  show m_Law l 6 sc (218, [(6, .int b), (5, .int 1), (4, .int 0), (3, .ref 630), (2, .ref 583), (1, .ref 512), (0, .ref 500)], [.int 1], w9) 0 0
  refine m_Law.n0 (x_iload d_law_218 rfl) ?_
  refine m_Law.n0 (x_ict d_law_220 rfl (by decide)) ?_
  refine m_Law.n0 (x_iload d_law_225 rfl) ?_
  refine m_Law.n0 (x_ift d_law_227 rfl (by decide)) ?_
  refine m_Law.n0 (x_goto d_law_242 rfl) ?_
  exact o_end2
theorem o_tick_a {l : Launch} (hfl : l.flags = pinnedFlags ++ [noTraceFlag]) {sc : Nat → Int32} (h0 : sc 1 < 1) : m_Law l 6 sc (396, [(4, .int 0), (3, .ref 630), (2, .ref 583), (1, .ref 512), (0, .ref 500)], [], w_1) 900 900000 := by
  refine m_Law.n0 (x_aload_n d_law_396 rfl) ?_
  refine m_Law.n0 (x_aload_n d_law_397 rfl) ?_
  refine m_Law.n0 (x_iload d_law_398 rfl) ?_
  refine m_Law.n0 (x_iconst (z := 1) d_law_400 (by decide)) ?_
  refine m_Law.n0 (x_iadd (z := 1) d_law_401 (by decide)) ?_
  refine m_Law.ld 1 d_law_402.1 (by decide) (by decide) (by decide) ?_
  refine m_Law.n0 (x_aload_n d_law_403 rfl) ?_
  refine m_Law.mono (m_Law.help (as := [.ref 512, .int (sc 1), .ref 630]) (rest := []) (hs := [(0, 9, 12, 13)]) (c0 := 700) (s0 := 700000) d_law_404.1 (m_okn_okf (n := 119) rfl m_hn1) (by decide) rfl (by decide +kernel) (m_gi8 163 rfl rfl) (m_gi8 164 rfl rfl) (m_gi1 0 rfl rfl) (m_gi8 165 rfl rfl) ⟨by decide, by decide⟩ (w_ht (y_tick hfl (Nat.le_of_ble_eq_true rfl) (z_tick_a h0) (by decide) (by decide))) (Nat.le_of_ble_eq_true rfl) (Nat.le_of_ble_eq_true rfl) ?_) (Nat.le_of_ble_eq_true rfl) (Nat.le_of_ble_eq_true rfl)
  show m_Law l 6 sc (407, [(4, .int 0), (3, .ref 630), (2, .ref 583), (1, .ref 512), (0, .ref 500)], [.int 1], w_1) 700 700000
  refine m_Law.n0 (x_istore d_law_407 rfl (show m_put1 _ _ _ = [(5, _), (4, _), (3, _), (2, _), (1, _), (0, _)] from rfl)) ?_
  refine m_Law.n0 (x_aload_n d_law_409 rfl) ?_
  refine m_Law.n0 (x_aload_n d_law_410 rfl) ?_
  refine m_Law.n0 (x_iload d_law_411 rfl) ?_
  refine m_Law.n0 (x_iconst (z := 1) d_law_413 (by decide)) ?_
  refine m_Law.n0 (x_iadd (z := 1) d_law_414 (by decide)) ?_
  refine m_Law.ld 1 d_law_415.1 (by decide) (by decide) (by decide) ?_
  refine m_Law.mono (m_Law.call (c0 := 200) (s0 := 200000) (x_cv (n := 119) d_law_416 rfl q_329 (m_isRecv_of rfl a_583) rfl rfl m_hn1 rfl) (e_tick_a h0 m_FW_H) (fun v w hv => ?_) (by decide) (by decide)) (by decide) (by decide)
  obtain ⟨rfl, h⟩ := hv
  show m_Law l 6 sc (419, [(5, .int 1), (4, .int 0), (3, .ref 630), (2, .ref 583), (1, .ref 512), (0, .ref 500)], [.int 0], w) 200 200000
  refine m_Law.n0 (x_istore d_law_419 rfl (show m_put1 _ _ _ = [(6, _), (5, _), (4, _), (3, _), (2, _), (1, _), (0, _)] from rfl)) ?_
  refine m_Law.n0 (x_aload_n d_law_421 rfl) ?_
  refine m_Law.mono (m_Law.call (c0 := 0) (s0 := 0) (x_cv (n := 119) d_law_422 rfl q_241 (m_isRecv_of rfl h.2.1) rfl rfl h.1 rfl) (s_thrown_h h.2.1) (fun v w9 hv => ?_) (by decide) (by decide)) (by decide) (by decide)
  obtain ⟨rfl, rfl⟩ := hv
  show m_Law l 6 sc (425, [(6, .int 0), (5, .int 1), (4, .int 0), (3, .ref 630), (2, .ref 583), (1, .ref 512), (0, .ref 500)], [.int 1], w9) 0 0
  refine m_Law.n0 (x_iload d_law_425 rfl) ?_
  refine m_Law.n0 (x_ict d_law_427 rfl (by decide)) ?_
  refine m_Law.n0 (x_iload d_law_432 rfl) ?_
  refine m_Law.n0 (x_ift d_law_434 rfl (by decide)) ?_
  refine m_Law.n0 (x_goto d_law_449 rfl) ?_
  exact o_end2
theorem o_tick_b {l : Launch} (hfl : l.flags = pinnedFlags ++ [noTraceFlag]) {sc : Nat → Int32} (h0 : ¬ sc 1 < 1) (h1 : ¬ sc 1 ≤ 100) : m_Law l 6 sc (396, [(4, .int 0), (3, .ref 630), (2, .ref 583), (1, .ref 512), (0, .ref 500)], [], w_1) 900 900000 := by
  refine m_Law.n0 (x_aload_n d_law_396 rfl) ?_
  refine m_Law.n0 (x_aload_n d_law_397 rfl) ?_
  refine m_Law.n0 (x_iload d_law_398 rfl) ?_
  refine m_Law.n0 (x_iconst (z := 1) d_law_400 (by decide)) ?_
  refine m_Law.n0 (x_iadd (z := 1) d_law_401 (by decide)) ?_
  refine m_Law.ld 1 d_law_402.1 (by decide) (by decide) (by decide) ?_
  refine m_Law.n0 (x_aload_n d_law_403 rfl) ?_
  refine m_Law.mono (m_Law.help (as := [.ref 512, .int (sc 1), .ref 630]) (rest := []) (hs := [(0, 9, 12, 13)]) (c0 := 700) (s0 := 700000) d_law_404.1 (m_okn_okf (n := 119) rfl m_hn1) (by decide) rfl (by decide +kernel) (m_gi8 163 rfl rfl) (m_gi8 164 rfl rfl) (m_gi1 0 rfl rfl) (m_gi8 165 rfl rfl) ⟨by decide, by decide⟩ (w_ht (y_tick hfl (Nat.le_of_ble_eq_true rfl) (z_tick_b h0 h1) (by decide) (by decide))) (Nat.le_of_ble_eq_true rfl) (Nat.le_of_ble_eq_true rfl) ?_) (Nat.le_of_ble_eq_true rfl) (Nat.le_of_ble_eq_true rfl)
  show m_Law l 6 sc (407, [(4, .int 0), (3, .ref 630), (2, .ref 583), (1, .ref 512), (0, .ref 500)], [.int 1], w_1) 700 700000
  refine m_Law.n0 (x_istore d_law_407 rfl (show m_put1 _ _ _ = [(5, _), (4, _), (3, _), (2, _), (1, _), (0, _)] from rfl)) ?_
  refine m_Law.n0 (x_aload_n d_law_409 rfl) ?_
  refine m_Law.n0 (x_aload_n d_law_410 rfl) ?_
  refine m_Law.n0 (x_iload d_law_411 rfl) ?_
  refine m_Law.n0 (x_iconst (z := 1) d_law_413 (by decide)) ?_
  refine m_Law.n0 (x_iadd (z := 1) d_law_414 (by decide)) ?_
  refine m_Law.ld 1 d_law_415.1 (by decide) (by decide) (by decide) ?_
  refine m_Law.mono (m_Law.call (c0 := 200) (s0 := 200000) (x_cv (n := 119) d_law_416 rfl q_329 (m_isRecv_of rfl a_583) rfl rfl m_hn1 rfl) (e_tick_b h0 h1 m_FW_H) (fun v w hv => ?_) (by decide) (by decide)) (by decide) (by decide)
  obtain ⟨rfl, h⟩ := hv
  show m_Law l 6 sc (419, [(5, .int 1), (4, .int 0), (3, .ref 630), (2, .ref 583), (1, .ref 512), (0, .ref 500)], [.int 0], w) 200 200000
  refine m_Law.n0 (x_istore d_law_419 rfl (show m_put1 _ _ _ = [(6, _), (5, _), (4, _), (3, _), (2, _), (1, _), (0, _)] from rfl)) ?_
  refine m_Law.n0 (x_aload_n d_law_421 rfl) ?_
  refine m_Law.mono (m_Law.call (c0 := 0) (s0 := 0) (x_cv (n := 119) d_law_422 rfl q_241 (m_isRecv_of rfl h.2.1) rfl rfl h.1 rfl) (s_thrown_h h.2.1) (fun v w9 hv => ?_) (by decide) (by decide)) (by decide) (by decide)
  obtain ⟨rfl, rfl⟩ := hv
  show m_Law l 6 sc (425, [(6, .int 0), (5, .int 1), (4, .int 0), (3, .ref 630), (2, .ref 583), (1, .ref 512), (0, .ref 500)], [.int 1], w9) 0 0
  refine m_Law.n0 (x_iload d_law_425 rfl) ?_
  refine m_Law.n0 (x_ict d_law_427 rfl (by decide)) ?_
  refine m_Law.n0 (x_iload d_law_432 rfl) ?_
  refine m_Law.n0 (x_ift d_law_434 rfl (by decide)) ?_
  refine m_Law.n0 (x_goto d_law_449 rfl) ?_
  exact o_end2
theorem o_answer_a {l : Launch} (hfl : l.flags = pinnedFlags ++ [noTraceFlag]) {sc : Nat → Int32} (h0 : sc 1 < 0) : m_Law l 6 sc (539, [(4, .int 0), (3, .ref 630), (2, .ref 583), (1, .ref 512), (0, .ref 500)], [], w_1) 900 900000 := by
  refine m_Law.n0 (x_aload_n d_law_539 rfl) ?_
  refine m_Law.n0 (x_aload_n d_law_540 rfl) ?_
  refine m_Law.n0 (x_iload d_law_541 rfl) ?_
  refine m_Law.n0 (x_iconst (z := 1) d_law_543 (by decide)) ?_
  refine m_Law.n0 (x_iadd (z := 1) d_law_544 (by decide)) ?_
  refine m_Law.ld 1 d_law_545.1 (by decide) (by decide) (by decide) ?_
  refine m_Law.n0 (x_aload_n d_law_546 rfl) ?_
  refine m_Law.n0 (x_iload d_law_547 rfl) ?_
  refine m_Law.n0 (x_iconst (z := 2) d_law_549 (by decide)) ?_
  refine m_Law.n0 (x_iadd (z := 2) d_law_550 (by decide)) ?_
  refine m_Law.ld 2 d_law_551.1 (by decide) (by decide) (by decide) ?_
  refine m_Law.n0 (x_aload_n d_law_552 rfl) ?_
  refine m_Law.mono (m_Law.help (as := [.ref 512, .int (sc 1), .int (sc 2), .ref 630]) (rest := []) (hs := [(0, 10, 13, 23), (0, 10, 17, 25)]) (c0 := 700) (s0 := 700000) d_law_553.1 (m_okn_okf (n := 119) rfl m_hn1) (by decide) rfl (by decide +kernel) (m_gi8 179 rfl rfl) (m_gi8 180 rfl rfl) (m_gi1 0 rfl rfl) (m_gi8 181 rfl rfl) ⟨by decide, by decide⟩ (w_ha (y_ans hfl (Nat.le_of_ble_eq_true rfl) (z_ans_a h0) (by decide) (by decide))) (Nat.le_of_ble_eq_true rfl) (Nat.le_of_ble_eq_true rfl) ?_) (Nat.le_of_ble_eq_true rfl) (Nat.le_of_ble_eq_true rfl)
  show m_Law l 6 sc (556, [(4, .int 0), (3, .ref 630), (2, .ref 583), (1, .ref 512), (0, .ref 500)], [.int 1], w_1) 700 700000
  refine m_Law.n0 (x_istore d_law_556 rfl (show m_put1 _ _ _ = [(5, _), (4, _), (3, _), (2, _), (1, _), (0, _)] from rfl)) ?_
  refine m_Law.n0 (x_aload_n d_law_558 rfl) ?_
  refine m_Law.n0 (x_aload_n d_law_559 rfl) ?_
  refine m_Law.n0 (x_iload d_law_560 rfl) ?_
  refine m_Law.n0 (x_iconst (z := 1) d_law_562 (by decide)) ?_
  refine m_Law.n0 (x_iadd (z := 1) d_law_563 (by decide)) ?_
  refine m_Law.ld 1 d_law_564.1 (by decide) (by decide) (by decide) ?_
  refine m_Law.n0 (x_aload_n d_law_565 rfl) ?_
  refine m_Law.n0 (x_iload d_law_566 rfl) ?_
  refine m_Law.n0 (x_iconst (z := 2) d_law_568 (by decide)) ?_
  refine m_Law.n0 (x_iadd (z := 2) d_law_569 (by decide)) ?_
  refine m_Law.ld 2 d_law_570.1 (by decide) (by decide) (by decide) ?_
  refine m_Law.mono (m_Law.call (c0 := 200) (s0 := 200000) (x_cv (n := 119) d_law_571 rfl q_336 (m_isRecv_of rfl a_583) rfl rfl m_hn1 rfl) (e_ans_a h0 m_FW_H) (fun v w hv => ?_) (by decide) (by decide)) (by decide) (by decide)
  obtain ⟨rfl, h⟩ := hv
  show m_Law l 6 sc (574, [(5, .int 1), (4, .int 0), (3, .ref 630), (2, .ref 583), (1, .ref 512), (0, .ref 500)], [.int 0], w) 200 200000
  refine m_Law.n0 (x_istore d_law_574 rfl (show m_put1 _ _ _ = [(6, _), (5, _), (4, _), (3, _), (2, _), (1, _), (0, _)] from rfl)) ?_
  refine m_Law.n0 (x_aload_n d_law_576 rfl) ?_
  refine m_Law.mono (m_Law.call (c0 := 0) (s0 := 0) (x_cv (n := 119) d_law_577 rfl q_241 (m_isRecv_of rfl h.2.1) rfl rfl h.1 rfl) (s_thrown_h h.2.1) (fun v w9 hv => ?_) (by decide) (by decide)) (by decide) (by decide)
  obtain ⟨rfl, rfl⟩ := hv
  show m_Law l 6 sc (580, [(6, .int 0), (5, .int 1), (4, .int 0), (3, .ref 630), (2, .ref 583), (1, .ref 512), (0, .ref 500)], [.int 1], w9) 0 0
  refine m_Law.n0 (x_iload d_law_580 rfl) ?_
  refine m_Law.n0 (x_ict d_law_582 rfl (by decide)) ?_
  refine m_Law.n0 (x_iload d_law_587 rfl) ?_
  refine m_Law.n0 (x_ift d_law_589 rfl (by decide)) ?_
  refine m_Law.n0 (x_goto d_law_604 rfl) ?_
  exact o_end2
theorem o_answer_b {l : Launch} (hfl : l.flags = pinnedFlags ++ [noTraceFlag]) {sc : Nat → Int32} (h0 : ¬ sc 1 < 0) : m_Law l 6 sc (539, [(4, .int 0), (3, .ref 630), (2, .ref 583), (1, .ref 512), (0, .ref 500)], [], w_1) 900 900000 := by
  refine m_Law.n0 (x_aload_n d_law_539 rfl) ?_
  refine m_Law.n0 (x_aload_n d_law_540 rfl) ?_
  refine m_Law.n0 (x_iload d_law_541 rfl) ?_
  refine m_Law.n0 (x_iconst (z := 1) d_law_543 (by decide)) ?_
  refine m_Law.n0 (x_iadd (z := 1) d_law_544 (by decide)) ?_
  refine m_Law.ld 1 d_law_545.1 (by decide) (by decide) (by decide) ?_
  refine m_Law.n0 (x_aload_n d_law_546 rfl) ?_
  refine m_Law.n0 (x_iload d_law_547 rfl) ?_
  refine m_Law.n0 (x_iconst (z := 2) d_law_549 (by decide)) ?_
  refine m_Law.n0 (x_iadd (z := 2) d_law_550 (by decide)) ?_
  refine m_Law.ld 2 d_law_551.1 (by decide) (by decide) (by decide) ?_
  refine m_Law.n0 (x_aload_n d_law_552 rfl) ?_
  refine m_Law.mono (m_Law.help (as := [.ref 512, .int (sc 1), .int (sc 2), .ref 630]) (rest := []) (hs := [(0, 10, 13, 23), (0, 10, 17, 25)]) (c0 := 700) (s0 := 700000) d_law_553.1 (m_okn_okf (n := 119) rfl m_hn1) (by decide) rfl (by decide +kernel) (m_gi8 179 rfl rfl) (m_gi8 180 rfl rfl) (m_gi1 0 rfl rfl) (m_gi8 181 rfl rfl) ⟨by decide, by decide⟩ (w_ha (y_ans hfl (Nat.le_of_ble_eq_true rfl) (z_ans_b h0) (by decide) (by decide))) (Nat.le_of_ble_eq_true rfl) (Nat.le_of_ble_eq_true rfl) ?_) (Nat.le_of_ble_eq_true rfl) (Nat.le_of_ble_eq_true rfl)
  show m_Law l 6 sc (556, [(4, .int 0), (3, .ref 630), (2, .ref 583), (1, .ref 512), (0, .ref 500)], [.int 1], w_1) 700 700000
  refine m_Law.n0 (x_istore d_law_556 rfl (show m_put1 _ _ _ = [(5, _), (4, _), (3, _), (2, _), (1, _), (0, _)] from rfl)) ?_
  refine m_Law.n0 (x_aload_n d_law_558 rfl) ?_
  refine m_Law.n0 (x_aload_n d_law_559 rfl) ?_
  refine m_Law.n0 (x_iload d_law_560 rfl) ?_
  refine m_Law.n0 (x_iconst (z := 1) d_law_562 (by decide)) ?_
  refine m_Law.n0 (x_iadd (z := 1) d_law_563 (by decide)) ?_
  refine m_Law.ld 1 d_law_564.1 (by decide) (by decide) (by decide) ?_
  refine m_Law.n0 (x_aload_n d_law_565 rfl) ?_
  refine m_Law.n0 (x_iload d_law_566 rfl) ?_
  refine m_Law.n0 (x_iconst (z := 2) d_law_568 (by decide)) ?_
  refine m_Law.n0 (x_iadd (z := 2) d_law_569 (by decide)) ?_
  refine m_Law.ld 2 d_law_570.1 (by decide) (by decide) (by decide) ?_
  refine m_Law.mono (m_Law.call (c0 := 200) (s0 := 200000) (x_cv (n := 119) d_law_571 rfl q_336 (m_isRecv_of rfl a_583) rfl rfl m_hn1 rfl) (e_ans_b h0 m_FW_H) (fun v w hv => ?_) (by decide) (by decide)) (by decide) (by decide)
  obtain ⟨rfl, h⟩ := hv
  show m_Law l 6 sc (574, [(5, .int 1), (4, .int 0), (3, .ref 630), (2, .ref 583), (1, .ref 512), (0, .ref 500)], [.int 0], w) 200 200000
  refine m_Law.n0 (x_istore d_law_574 rfl (show m_put1 _ _ _ = [(6, _), (5, _), (4, _), (3, _), (2, _), (1, _), (0, _)] from rfl)) ?_
  refine m_Law.n0 (x_aload_n d_law_576 rfl) ?_
  refine m_Law.mono (m_Law.call (c0 := 0) (s0 := 0) (x_cv (n := 119) d_law_577 rfl q_241 (m_isRecv_of rfl h.2.1) rfl rfl h.1 rfl) (s_thrown_h h.2.1) (fun v w9 hv => ?_) (by decide) (by decide)) (by decide) (by decide)
  obtain ⟨rfl, rfl⟩ := hv
  show m_Law l 6 sc (580, [(6, .int 0), (5, .int 1), (4, .int 0), (3, .ref 630), (2, .ref 583), (1, .ref 512), (0, .ref 500)], [.int 1], w9) 0 0
  refine m_Law.n0 (x_iload d_law_580 rfl) ?_
  refine m_Law.n0 (x_ict d_law_582 rfl (by decide)) ?_
  refine m_Law.n0 (x_iload d_law_587 rfl) ?_
  refine m_Law.n0 (x_ift d_law_589 rfl (by decide)) ?_
  refine m_Law.n0 (x_goto d_law_604 rfl) ?_
  exact o_end2
theorem c_ht {m : Nat} (h0 : 1 ≤ m) (hm : m < 101) : m_Rq M_ht (m_ent M_ht [.ref 512, .int (Int32.ofNat m), .ref 630] w_1) (fun v w => v = some (.int 0) ∧ m_FW 583 14 (f_m 0) [] (g_M (Int32.ofNat m).toInt64) w) 0 0 20 2000 := by
  show m_Rq M_ht (0, [(0, .ref 512), (1, .int (Int32.ofNat m)), (2, .ref 630)], [], w_1) _ 0 0 20 2000
  refine m_Rq.n0 (x_aload_n d_ht_0 rfl) ?_
  refine m_Rq.n0 (x_iconst (z := 0) d_ht_1 (by decide)) ?_
  refine m_Rq.n0 (x_aload_n d_ht_2 rfl) ?_
  refine m_Rq.n0 (x_iload_n d_ht_3 rfl) ?_
  refine m_Rq.callR (x_cv (n := 119) d_ht_4 rfl q_234 (m_isRecv_of rfl a_512) rfl rfl m_hn1 rfl) (c_tick h0 hm m_FW_C) rfl (fun w h => ?_) (by decide) (by decide)
  refine m_Rq.n0 (x_i2l d_ht_7 rfl) ?_
  refine m_Rq.n0 (x_lastore (j := 0) d_ht_8 (h.g 15 rfl) (by decide) (by decide) (by decide)) ?_
  refine m_Rq.n0 (x_goto d_ht_9 rfl) ?_
  refine m_Rq.n0 (x_iconst (z := 0) d_ht_15 (by decide)) ?_
  refine m_Rq.ir d_ht_16 rfl rfl ?_
  refine ⟨rfl, by rw [List.length_set]; exact h.1, m_at_ne (a := 630) (h.g 13 rfl) rfl, fun q hq => absurd hq List.not_mem_nil, ?_⟩
  unfold g_M
  simp only [List.forall_mem_cons]
  exact ⟨m_at_ne (a := 630) (h.g 14 rfl) rfl, m_at_eq (a := 630) (h.g 15 rfl), fun q hq => absurd hq List.not_mem_nil⟩
theorem o_tick_c {l : Launch} {sc : Nat → Int32} {m : Nat} (h0 : 1 ≤ m) (hm : m < 101) (hs : sc 1 = Int32.ofNat m) : m_Law l 6 sc (396, [(4, .int 0), (3, .ref 630), (2, .ref 583), (1, .ref 512), (0, .ref 500)], [], w_1) 900 900000 := by
  obtain ⟨v, w1, ⟨rfl, h⟩, hG⟩ := (c_ht h0 hm).good m_ht_ok l
  have hW := m_MetW_good (hs := [(0, 9, 12, 13)]) (by decide) (Nat.le_of_ble_eq_true rfl) hG
  rw [← hs] at hW
  refine m_Law.n0 (x_aload_n d_law_396 rfl) ?_
  refine m_Law.n0 (x_aload_n d_law_397 rfl) ?_
  refine m_Law.n0 (x_iload d_law_398 rfl) ?_
  refine m_Law.n0 (x_iconst (z := 1) d_law_400 (by decide)) ?_
  refine m_Law.n0 (x_iadd (z := 1) d_law_401 (by decide)) ?_
  refine m_Law.ld 1 d_law_402.1 (by decide) (by decide) (by decide) ?_
  refine m_Law.n0 (x_aload_n d_law_403 rfl) ?_
  refine m_Law.mono (m_Law.help (as := [.ref 512, .int (sc 1), .ref 630]) (rest := []) (hs := [(0, 9, 12, 13)]) (c0 := 700) (s0 := 700000) d_law_404.1 (m_okn_okf (n := 119) rfl m_hn1) (by decide) rfl (by decide +kernel) (m_gi8 163 rfl rfl) (m_gi8 164 rfl rfl) (m_gi1 0 rfl rfl) (m_gi8 165 rfl rfl) ⟨by decide, by decide⟩ hW (by show 20 + 1 ≤ 2048; decide) (by show 8 + (4 + 11) + 2000 ≤ 84000; decide) ?_) (by show 0 + 700 ≤ 900; decide) (by show 0 + 700000 ≤ 900000; decide)
  show m_Law l 6 sc (407, [(4, .int 0), (3, .ref 630), (2, .ref 583), (1, .ref 512), (0, .ref 500)], [.int 0], w1) 700 700000
  refine m_Law.n0 (x_istore d_law_407 rfl (show m_put1 _ _ _ = [(5, _), (4, _), (3, _), (2, _), (1, _), (0, _)] from rfl)) ?_
  refine m_Law.n0 (x_aload_n d_law_409 rfl) ?_
  refine m_Law.n0 (x_aload_n d_law_410 rfl) ?_
  refine m_Law.n0 (x_iload d_law_411 rfl) ?_
  refine m_Law.n0 (x_iconst (z := 1) d_law_413 (by decide)) ?_
  refine m_Law.n0 (x_iadd (z := 1) d_law_414 (by decide)) ?_
  refine m_Law.ld 1 d_law_415.1 (by decide) (by decide) (by decide) ?_
  refine m_Law.mono (m_Law.call (c0 := 200) (s0 := 200000) (x_cv (n := 119) d_law_416 rfl q_329 (m_isRecv_of rfl h.2.1) rfl rfl h.1 rfl) (by rw [hs]; exact e_tick h0 hm h) (fun v w hv => ?_) (by decide) (by decide)) (by decide) (by decide)
  obtain ⟨rfl, h⟩ := hv
  show m_Law l 6 sc (419, [(5, .int 0), (4, .int 0), (3, .ref 630), (2, .ref 583), (1, .ref 512), (0, .ref 500)], [.int (Int32.ofNat m)], w) 200 200000
  refine m_Law.n0 (x_istore d_law_419 rfl (show m_put1 _ _ _ = [(6, _), (5, _), (4, _), (3, _), (2, _), (1, _), (0, _)] from rfl)) ?_
  refine m_Law.n0 (x_aload_n d_law_421 rfl) ?_
  refine m_Law.mono (m_Law.call (c0 := 0) (s0 := 0) (x_cv (n := 119) d_law_422 rfl q_241 (m_isRecv_of rfl h.2.1) rfl rfl h.1 rfl) (s_thrown_m h.2.1) (fun v w9 hv => ?_) (by decide) (by decide)) (by decide) (by decide)
  obtain ⟨rfl, rfl⟩ := hv
  show m_Law l 6 sc (425, [(6, .int (Int32.ofNat m)), (5, .int 0), (4, .int 0), (3, .ref 630), (2, .ref 583), (1, .ref 512), (0, .ref 500)], [.int 0], w9) 0 0
  refine m_Law.n0 (x_iload d_law_425 rfl) ?_
  refine m_Law.n0 (x_ict d_law_427 rfl (by decide)) ?_
  refine m_Law.n0 (x_iload d_law_432 rfl) ?_
  refine m_Law.n0 (x_iff d_law_434 rfl (by decide)) ?_
  refine m_Law.n0 (x_aload_n d_law_437 rfl) ?_
  refine m_Law.n0 (x_iconst (z := 0) d_law_438 (by decide)) ?_
  refine m_Law.n0 (x_laload (j := 0) d_law_439 (h.g 1 rfl) (by decide) (by decide) (by decide) rfl) ?_
  refine m_Law.n0 (x_iload d_law_440 rfl) ?_
  refine m_Law.n0 (x_i2l d_law_442 rfl) ?_
  refine m_Law.n0 (x_lcmp (z := 0) d_law_443 (m_cmp_self _)) ?_
  refine m_Law.n0 (x_ift d_law_444 rfl (by decide)) ?_
  refine m_Law.n0 (x_goto d_law_449 rfl) ?_
  exact o_end2
theorem o_tick {l : Launch} (hfl : l.flags = pinnedFlags ++ [noTraceFlag]) {sc : Nat → Int32} : m_Law l 6 sc (396, [(4, .int 0), (3, .ref 630), (2, .ref 583), (1, .ref 512), (0, .ref 500)], [], w_1) 900 900000 := by
  by_cases h0 : sc 1 < 1
  · exact o_tick_a hfl h0
  · by_cases h1 : sc 1 ≤ 100
    · have g0 : ¬ sc 1 < 0 := by
        rw [Int32.lt_iff_toInt_lt] at h0 ⊢
        have h9 : ¬ (sc 1).toInt < 1 := h0
        show ¬ (sc 1).toInt < 0
        omega
      obtain ⟨j, hj, e⟩ := m_n_of g0
      rw [e] at h0 h1
      have k1 := (m_n_le hj (by decide : 100 < 2147483648)).mp h1
      have k0 : ¬ j < 1 := fun h => h0 ((m_n_lt hj (by decide : 1 < 2147483648)).mpr h)
      exact o_tick_c (by omega) (by omega) e
    · exact o_tick_b hfl h0 h1
theorem o_answer {l : Launch} (hfl : l.flags = pinnedFlags ++ [noTraceFlag]) {sc : Nat → Int32} : m_Law l 6 sc (539, [(4, .int 0), (3, .ref 630), (2, .ref 583), (1, .ref 512), (0, .ref 500)], [], w_1) 900 900000 := by
  by_cases h0 : sc 1 < 0
  · exact o_answer_a hfl h0
  · exact o_answer_b hfl h0
theorem m_ops (l : Launch) (hfl : l.flags = pinnedFlags ++ [noTraceFlag]) (sc : Nat → Int32) : m_Law l 6 sc m_F1 1000 1000000 := by
  show m_Law l 6 sc (23, [(4, .int 0), (3, .ref 630), (2, .ref 583), (1, .ref 512), (0, .ref 500)], [], w_1) 1000 1000000
  refine m_Law.n0 (x_iload d_law_23 rfl) ?_
  refine m_Law.n0 (x_aload_n d_law_25 rfl) ?_
  refine m_Law.len d_law_26.1 ?_
  refine m_Law.n0 (x_bipush (z := 6) d_law_27 (by decide)) ?_
  refine m_Law.n0 (x_isub (z := 0) d_law_29 (by decide)) ?_
  refine m_Law.n0 (x_icf d_law_30 rfl (by decide)) ?_
  refine m_Law.n0 (x_aload_n d_law_33 rfl) ?_
  refine m_Law.n0 (x_iload d_law_34 rfl) ?_
  refine m_Law.ld 0 d_law_36.1 (by decide) (by decide) (by decide) ?_
  refine m_Law.n0 (x_bipush (z := 31) d_law_37 (by decide)) ?_
  refine m_Law.n0 (x_iand d_law_39 rfl) ?_
  by_cases hq : (sc 0 &&& 31).toInt < 0 ∨ 18 < (sc 0 &&& 31).toInt
  · exact m_Law.n0 (x_tsw (t := 816) d_law_40 (m_tsw_d hq rfl)) o_end
  · have e : sc 0 &&& 31 = Int32.ofNat (sc 0 &&& 31).toInt.toNat := by
      apply Int32.toInt_inj.mp
      rw [Int32.toInt_ofNat_of_lt (by omega)]
      omega
    have hk : (sc 0 &&& 31).toInt.toNat < 19 := by omega
    generalize (sc 0 &&& 31).toInt.toNat = k at e hk
    rw [e]
    match k, hk with
    | 0, _ => exact m_Law.n0 (x_tsw (t := 132) d_law_40 rfl) (o_type.mono (by decide) (by decide))
    | 1, _ => exact m_Law.n0 (x_tsw (t := 201) d_law_40 rfl) ((o_update hfl).mono (by decide) (by decide))
    | 2, _ => exact m_Law.n0 (x_tsw (t := 245) d_law_40 rfl) (o_drop.mono (by decide) (by decide))
    | 3, _ => exact m_Law.n0 (x_tsw (t := 270) d_law_40 rfl) (o_ask.mono (by decide) (by decide))
    | 4, _ => exact m_Law.n0 (x_tsw (t := 283) d_law_40 rfl) (o_fault.mono (by decide) (by decide))
    | 5, _ => exact m_Law.n0 (x_tsw (t := 296) d_law_40 rfl) (o_deliver.mono (by decide) (by decide))
    | 6, _ => exact m_Law.n0 (x_tsw (t := 321) d_law_40 rfl) (o_lose.mono (by decide) (by decide))
    | 7, _ => exact m_Law.n0 (x_tsw (t := 346) d_law_40 rfl) (o_settle.mono (by decide) (by decide))
    | 8, _ => exact m_Law.n0 (x_tsw (t := 359) d_law_40 rfl) (o_purge.mono (by decide) (by decide))
    | 9, _ => exact m_Law.n0 (x_tsw (t := 396) d_law_40 rfl) ((o_tick hfl).mono (by decide) (by decide))
    | 10, _ => exact m_Law.n0 (x_tsw (t := 452) d_law_40 rfl) (o_fail.mono (by decide) (by decide))
    | 11, _ => exact m_Law.n0 (x_tsw (t := 477) d_law_40 rfl) (o_back.mono (by decide) (by decide))
    | 12, _ => exact m_Law.n0 (x_tsw (t := 502) d_law_40 rfl) (o_budget.mono (by decide) (by decide))
    | 13, _ => exact m_Law.n0 (x_tsw (t := 539) d_law_40 rfl) ((o_answer hfl).mono (by decide) (by decide))
    | 14, _ => exact m_Law.n0 (x_tsw (t := 607) d_law_40 rfl) (o_letter.mono (by decide) (by decide))
    | 15, _ => exact m_Law.n0 (x_tsw (t := 644) d_law_40 rfl) (o_node.mono (by decide) (by decide))
    | 16, _ => exact m_Law.n0 (x_tsw (t := 681) d_law_40 rfl) (o_entry.mono (by decide) (by decide))
    | 17, _ => exact m_Law.n0 (x_tsw (t := 754) d_law_40 rfl) (o_message.mono (by decide) (by decide))
    | 18, _ => exact m_Law.n0 (x_tsw (t := 791) d_law_40 rfl) (o_total.mono (by decide) (by decide))
    | k + 19, hk => omega
