/-! The law's ops through helpers. Written by wip/tool/lawthr3.py. -/
theorem d_law_23 : m_dn M_law 23 (.iload 4) 2 25 := by decide +kernel
theorem d_law_25 : m_dn M_law 25 (.aload_n 0) 1 26 := by decide +kernel
theorem d_law_26 : m_dn M_law 26 (.arraylength) 1 27 := by decide +kernel
theorem d_law_27 : m_dn M_law 27 (.bipush 6) 2 29 := by decide +kernel
theorem d_law_29 : m_dn M_law 29 (.isub) 1 30 := by decide +kernel
theorem d_law_30 : m_dn M_law 30 (.if_icmp .gt 792) 3 33 := by decide +kernel
theorem d_law_33 : m_dn M_law 33 (.aload_n 0) 1 34 := by decide +kernel
theorem d_law_34 : m_dn M_law 34 (.iload 4) 2 36 := by decide +kernel
theorem d_law_36 : m_dn M_law 36 (.iaload) 1 37 := by decide +kernel
theorem d_law_37 : m_dn M_law 37 (.bipush 31) 2 39 := by decide +kernel
theorem d_law_39 : m_dn M_law 39 (.iand) 1 40 := by decide +kernel
theorem d_law_40 : m_dn M_law 40 (.tableswitch 776 0 18 #[92, 161, 205, 230, 243, 256, 281, 306, 319, 356, 412, 437, 462, 499, 567, 604, 641, 714, 751]) 92 132 := by decide +kernel
theorem d_law_201 : m_dn M_law 201 (.aload_n 1) 1 202 := by decide +kernel
theorem d_law_202 : m_dn M_law 202 (.aload_n 3) 1 203 := by decide +kernel
theorem d_law_203 : m_dn M_law 203 (.invokestatic 38) 3 206 := by decide +kernel
theorem d_law_206 : m_dn M_law 206 (.istore 5) 2 208 := by decide +kernel
theorem d_law_208 : m_dn M_law 208 (.aload_n 2) 1 209 := by decide +kernel
theorem d_law_209 : m_dn M_law 209 (.invokevirtual 43) 3 212 := by decide +kernel
theorem d_law_212 : m_dn M_law 212 (.istore 6) 2 214 := by decide +kernel
theorem d_law_214 : m_dn M_law 214 (.aload_n 2) 1 215 := by decide +kernel
theorem d_law_215 : m_dn M_law 215 (.invokevirtual 44) 3 218 := by decide +kernel
theorem d_law_218 : m_dn M_law 218 (.iload 5) 2 220 := by decide +kernel
theorem d_law_220 : m_dn M_law 220 (.if_icmp .eq 5) 3 223 := by decide +kernel
theorem d_law_225 : m_dn M_law 225 (.iload 5) 2 227 := by decide +kernel
theorem d_law_227 : m_dn M_law 227 (.ifCond .ne 15) 3 230 := by decide +kernel
theorem d_law_230 : m_dn M_law 230 (.aload_n 3) 1 231 := by decide +kernel
theorem d_law_231 : m_dn M_law 231 (.iconst 0) 1 232 := by decide +kernel
theorem d_law_232 : m_dn M_law 232 (.laload) 1 233 := by decide +kernel
theorem d_law_233 : m_dn M_law 233 (.iload 6) 2 235 := by decide +kernel
theorem d_law_235 : m_dn M_law 235 (.i2l) 1 236 := by decide +kernel
theorem d_law_236 : m_dn M_law 236 (.lcmp) 1 237 := by decide +kernel
theorem d_law_237 : m_dn M_law 237 (.ifCond .eq 5) 3 240 := by decide +kernel
theorem d_law_242 : m_dn M_law 242 (.goto 574) 3 245 := by decide +kernel
theorem d_law_396 : m_dn M_law 396 (.aload_n 1) 1 397 := by decide +kernel
theorem d_law_397 : m_dn M_law 397 (.aload_n 0) 1 398 := by decide +kernel
theorem d_law_398 : m_dn M_law 398 (.iload 4) 2 400 := by decide +kernel
theorem d_law_400 : m_dn M_law 400 (.iconst 1) 1 401 := by decide +kernel
theorem d_law_401 : m_dn M_law 401 (.iadd) 1 402 := by decide +kernel
theorem d_law_402 : m_dn M_law 402 (.iaload) 1 403 := by decide +kernel
theorem d_law_403 : m_dn M_law 403 (.aload_n 3) 1 404 := by decide +kernel
theorem d_law_404 : m_dn M_law 404 (.invokestatic 76) 3 407 := by decide +kernel
theorem d_law_407 : m_dn M_law 407 (.istore 5) 2 409 := by decide +kernel
theorem d_law_409 : m_dn M_law 409 (.aload_n 2) 1 410 := by decide +kernel
theorem d_law_410 : m_dn M_law 410 (.aload_n 0) 1 411 := by decide +kernel
theorem d_law_411 : m_dn M_law 411 (.iload 4) 2 413 := by decide +kernel
theorem d_law_413 : m_dn M_law 413 (.iconst 1) 1 414 := by decide +kernel
theorem d_law_414 : m_dn M_law 414 (.iadd) 1 415 := by decide +kernel
theorem d_law_415 : m_dn M_law 415 (.iaload) 1 416 := by decide +kernel
theorem d_law_416 : m_dn M_law 416 (.invokevirtual 79) 3 419 := by decide +kernel
theorem d_law_419 : m_dn M_law 419 (.istore 6) 2 421 := by decide +kernel
theorem d_law_421 : m_dn M_law 421 (.aload_n 2) 1 422 := by decide +kernel
theorem d_law_422 : m_dn M_law 422 (.invokevirtual 44) 3 425 := by decide +kernel
theorem d_law_425 : m_dn M_law 425 (.iload 5) 2 427 := by decide +kernel
theorem d_law_427 : m_dn M_law 427 (.if_icmp .eq 5) 3 430 := by decide +kernel
theorem d_law_432 : m_dn M_law 432 (.iload 5) 2 434 := by decide +kernel
theorem d_law_434 : m_dn M_law 434 (.ifCond .ne 15) 3 437 := by decide +kernel
theorem d_law_437 : m_dn M_law 437 (.aload_n 3) 1 438 := by decide +kernel
theorem d_law_438 : m_dn M_law 438 (.iconst 0) 1 439 := by decide +kernel
theorem d_law_439 : m_dn M_law 439 (.laload) 1 440 := by decide +kernel
theorem d_law_440 : m_dn M_law 440 (.iload 6) 2 442 := by decide +kernel
theorem d_law_442 : m_dn M_law 442 (.i2l) 1 443 := by decide +kernel
theorem d_law_443 : m_dn M_law 443 (.lcmp) 1 444 := by decide +kernel
theorem d_law_444 : m_dn M_law 444 (.ifCond .eq 5) 3 447 := by decide +kernel
theorem d_law_449 : m_dn M_law 449 (.goto 367) 3 452 := by decide +kernel
theorem d_law_539 : m_dn M_law 539 (.aload_n 1) 1 540 := by decide +kernel
theorem d_law_540 : m_dn M_law 540 (.aload_n 0) 1 541 := by decide +kernel
theorem d_law_541 : m_dn M_law 541 (.iload 4) 2 543 := by decide +kernel
theorem d_law_543 : m_dn M_law 543 (.iconst 1) 1 544 := by decide +kernel
theorem d_law_544 : m_dn M_law 544 (.iadd) 1 545 := by decide +kernel
theorem d_law_545 : m_dn M_law 545 (.iaload) 1 546 := by decide +kernel
theorem d_law_546 : m_dn M_law 546 (.aload_n 0) 1 547 := by decide +kernel
theorem d_law_547 : m_dn M_law 547 (.iload 4) 2 549 := by decide +kernel
theorem d_law_549 : m_dn M_law 549 (.iconst 2) 1 550 := by decide +kernel
theorem d_law_550 : m_dn M_law 550 (.iadd) 1 551 := by decide +kernel
theorem d_law_551 : m_dn M_law 551 (.iaload) 1 552 := by decide +kernel
theorem d_law_552 : m_dn M_law 552 (.aload_n 3) 1 553 := by decide +kernel
theorem d_law_553 : m_dn M_law 553 (.invokestatic 93) 3 556 := by decide +kernel
theorem d_law_556 : m_dn M_law 556 (.istore 5) 2 558 := by decide +kernel
theorem d_law_558 : m_dn M_law 558 (.aload_n 2) 1 559 := by decide +kernel
theorem d_law_559 : m_dn M_law 559 (.aload_n 0) 1 560 := by decide +kernel
theorem d_law_560 : m_dn M_law 560 (.iload 4) 2 562 := by decide +kernel
theorem d_law_562 : m_dn M_law 562 (.iconst 1) 1 563 := by decide +kernel
theorem d_law_563 : m_dn M_law 563 (.iadd) 1 564 := by decide +kernel
theorem d_law_564 : m_dn M_law 564 (.iaload) 1 565 := by decide +kernel
theorem d_law_565 : m_dn M_law 565 (.aload_n 0) 1 566 := by decide +kernel
theorem d_law_566 : m_dn M_law 566 (.iload 4) 2 568 := by decide +kernel
theorem d_law_568 : m_dn M_law 568 (.iconst 2) 1 569 := by decide +kernel
theorem d_law_569 : m_dn M_law 569 (.iadd) 1 570 := by decide +kernel
theorem d_law_570 : m_dn M_law 570 (.iaload) 1 571 := by decide +kernel
theorem d_law_571 : m_dn M_law 571 (.invokevirtual 96) 3 574 := by decide +kernel
theorem d_law_574 : m_dn M_law 574 (.istore 6) 2 576 := by decide +kernel
theorem d_law_576 : m_dn M_law 576 (.aload_n 2) 1 577 := by decide +kernel
theorem d_law_577 : m_dn M_law 577 (.invokevirtual 44) 3 580 := by decide +kernel
theorem d_law_580 : m_dn M_law 580 (.iload 5) 2 582 := by decide +kernel
theorem d_law_582 : m_dn M_law 582 (.if_icmp .eq 5) 3 585 := by decide +kernel
theorem d_law_587 : m_dn M_law 587 (.iload 5) 2 589 := by decide +kernel
theorem d_law_589 : m_dn M_law 589 (.ifCond .ne 15) 3 592 := by decide +kernel
theorem d_law_592 : m_dn M_law 592 (.aload_n 3) 1 593 := by decide +kernel
theorem d_law_593 : m_dn M_law 593 (.iconst 0) 1 594 := by decide +kernel
theorem d_law_594 : m_dn M_law 594 (.laload) 1 595 := by decide +kernel
theorem d_law_595 : m_dn M_law 595 (.iload 6) 2 597 := by decide +kernel
theorem d_law_597 : m_dn M_law 597 (.i2l) 1 598 := by decide +kernel
theorem d_law_598 : m_dn M_law 598 (.lcmp) 1 599 := by decide +kernel
theorem d_law_599 : m_dn M_law 599 (.ifCond .eq 5) 3 602 := by decide +kernel
theorem d_law_604 : m_dn M_law 604 (.goto 212) 3 607 := by decide +kernel
theorem d_law_816 : m_dn M_law 816 (.iinc 4 6) 3 819 := by decide +kernel
theorem d_law_819 : m_dn M_law 819 (.goto (-796)) 3 822 := by decide +kernel
theorem lg_self {a : Int64} : lg_cmp a a = 0 := by
  unfold lg_cmp
  rw [if_neg (Int64.lt_irrefl), if_pos rfl]
section
variable {l : Launch} {n i C U F q1 q2 : Nat} {sc : Nat → Int32} {w w' : List mM} {T T' : tT} {S S' : mS} {v e : Int32}
theorem w_update (hi : i + 5 < n) (hn : n < 2147483648) (hT : RT T w) (h6 : 630 < T.2.1) (h7 : T.2.1 ≤ T'.2.1) (h8 : T.2.2 ≤ T'.2.2) (hm : D_m_update F  S = some (v, S')) (h0 : S'.1 0 = e) (hw : m_MetW l M_hu [(0, 8, 11, 13)] [.ref 512, .ref 630] w (some (.int e), w', T'.2.1 - T.2.1 + q1, T'.2.2 - T.2.2 + q2, 100, 8000)) (hT' : RT T' w') (hM' : m_RM S w') (he : ¬ e = 0 ∨ (e = 0 ∧ ∃ f, T'.1 630 = some (.inr (.inl (1, 1, f))) ∧ f 0 = .long v.toInt64)) (c1 : T'.2.1 + q1 ≤ C) (c2 : T'.2.2 + q2 ≤ U) (k : ∀ w2, RT T' w2 → m_RM S' w2 → m_Law l n sc (816, [(4, .int (Int32.ofNat i)), (3, .ref 630), (2, .ref 583), (1, .ref 512), (0, .ref 500)], [], w2) (C - q1 - T'.2.1) (U - q2 - T'.2.2)) : m_Law l n sc (201, [(4, .int (Int32.ofNat i)), (3, .ref 630), (2, .ref 583), (1, .ref 512), (0, .ref 500)], [], w) (C - T.2.1) (U - T.2.2) := by
  refine m_Law.n0 (x_aload_n d_law_201 rfl) ?_
  refine m_Law.n0 (x_aload_n d_law_202 rfl) ?_
  refine m_Law.mono (m_Law.help (as := [.ref 512, .ref 630]) (rest := []) (c0 := C - q1 - T'.2.1) (s0 := U - q2 - T'.2.2) d_law_203.1 (show m_okf (203, [(4, .int (Int32.ofNat i)), (3, .ref 630), (2, .ref 583), (1, .ref 512), (0, .ref 500)], [.ref 630, .ref 512], w) = true from by simp only [m_okf, List.all_cons, List.all_nil, Bool.and_true, Bool.and_self, m_okv_i, m_okv_l, m_okv_0, m_okv_t, m_okv_out (a := 500) (by decide), hT.ok (a := 512) (by omega), hT.ok (a := 583) (by omega), hT.ok (a := 630) (by omega)]) (by decide) rfl (by decide +kernel) f1_hu f2_hu f3_hu f4_hu ⟨by decide, by decide⟩ hw (by show (101 : Nat) ≤ 2048; decide) (by show (8 + (_ + 11) + 8000 : Nat) ≤ 84000; decide) ?_) (by show T'.2.1 - T.2.1 + q1 + (C - q1 - T'.2.1) ≤ C - T.2.1; omega) (by show T'.2.2 - T.2.2 + q2 + (U - q2 - T'.2.2) ≤ U - T.2.2; omega)
  show m_Law l n sc (206, [(4, .int (Int32.ofNat i)), (3, .ref 630), (2, .ref 583), (1, .ref 512), (0, .ref 500)], [.int e], w') _ _
  refine m_Law.n0 (x_istore d_law_206 rfl (show m_put1 _ _ _ = [(5, _), (4, _), (3, _), (2, _), (1, _), (0, _)] from rfl)) ?_
  refine m_Law.n0 (x_aload_n d_law_208 rfl) ?_
  refine m_Law.callM (y_cv d_law_209 rfl q_243 (m_isRecv_of rfl hM'.1) (show m_takeI _ _ = some (_, [_], []) from rfl) (by simp only [m_okf, List.all_cons, List.all_nil, Bool.and_true, Bool.and_self, m_okv_i, m_okv_l, m_okv_0, m_okv_t, m_okv_out (a := 500) (by decide), m_okv_at hM'.1, hT'.ok (a := 512) (by omega), hT'.ok (a := 630) (by omega)]) rfl) (T_m_update hM' hm) hT' rfl (fun w2 hT2 hM2 _ => ?_) (by decide) (by decide)
  refine m_Law.n0 (x_istore d_law_212 rfl (show m_put1 _ _ _ = [(6, _), (5, _), (4, _), (3, _), (2, _), (1, _), (0, _)] from rfl)) ?_
  refine m_Law.n0 (x_aload_n d_law_214 rfl) ?_
  refine m_Law.callM (y_cv d_law_215 rfl q_241 (m_isRecv_of rfl hM2.1) (show m_takeI _ _ = some (_, [_], []) from rfl) (by simp only [m_okf, List.all_cons, List.all_nil, Bool.and_true, Bool.and_self, m_okv_i, m_okv_l, m_okv_0, m_okv_t, m_okv_out (a := 500) (by decide), m_okv_at hM2.1, hT2.ok (a := 512) (by omega), hT2.ok (a := 630) (by omega)]) rfl) (T_m_thrown (F := 0) hM2 (show D_m_thrown 0 S' = some (S'.1 0) from rfl)) hT2 rfl (fun w3 hT3 hM3 _ => ?_) (by decide) (by decide)
  refine m_Law.n0 (x_iload d_law_218 rfl) ?_
  refine m_Law.n0 (x_ict d_law_220 rfl (decide_eq_true h0)) ?_
  refine m_Law.n0 (x_iload d_law_225 rfl) ?_
  rcases he with he | ⟨he, f, h630, hf0⟩
  · refine m_Law.n0 (x_ift d_law_227 rfl (show m_c1 .ne e = true from decide_eq_true he)) ?_
    exact m_Law.n0 (x_goto d_law_242 rfl) (m_Law.pick [2, 3, 4, 5, 6] rfl (k w3 hT3 hM3))
  · refine m_Law.n0 (x_iff d_law_227 rfl (show m_c1 .ne e = false from decide_eq_false (fun q => q he))) ?_
    obtain ⟨els, a1, a2, _⟩ := hT3.arr h630
    refine m_Law.n0 (x_aload_n d_law_230 rfl) ?_
    refine m_Law.n0 (x_iconst (z := 0) d_law_231 (by decide)) ?_
    refine m_Law.n0 (x_laload (j := 0) d_law_232 a1 (by decide) (by decide) (by decide) ((a2 0).trans hf0)) ?_
    refine m_Law.n0 (x_iload d_law_233 rfl) ?_
    refine m_Law.n0 (x_i2l d_law_235 rfl) ?_
    refine m_Law.n0 (x_lcmp (z := 0) d_law_236 lg_self) ?_
    refine m_Law.n0 (x_ift d_law_237 rfl (by decide)) ?_
    exact m_Law.n0 (x_goto d_law_242 rfl) (m_Law.pick [2, 3, 4, 5, 6] rfl (k w3 hT3 hM3))
theorem w_tick (hi : i + 5 < n) (hn : n < 2147483648) (hT : RT T w) (h6 : 630 < T.2.1) (h7 : T.2.1 ≤ T'.2.1) (h8 : T.2.2 ≤ T'.2.2) (hm : D_m_tick F ((sc (i + 1))) S = some (v, S')) (h0 : S'.1 0 = e) (hw : m_MetW l M_ht [(0, 9, 12, 13)] [.ref 512, .int (sc (i + 1)), .ref 630] w (some (.int e), w', T'.2.1 - T.2.1 + q1, T'.2.2 - T.2.2 + q2, 100, 8000)) (hT' : RT T' w') (hM' : m_RM S w') (he : ¬ e = 0 ∨ (e = 0 ∧ ∃ f, T'.1 630 = some (.inr (.inl (1, 1, f))) ∧ f 0 = .long v.toInt64)) (c1 : T'.2.1 + q1 ≤ C) (c2 : T'.2.2 + q2 ≤ U) (k : ∀ w2, RT T' w2 → m_RM S' w2 → m_Law l n sc (816, [(4, .int (Int32.ofNat i)), (3, .ref 630), (2, .ref 583), (1, .ref 512), (0, .ref 500)], [], w2) (C - q1 - T'.2.1) (U - q2 - T'.2.2)) : m_Law l n sc (396, [(4, .int (Int32.ofNat i)), (3, .ref 630), (2, .ref 583), (1, .ref 512), (0, .ref 500)], [], w) (C - T.2.1) (U - T.2.2) := by
  refine m_Law.n0 (x_aload_n d_law_396 rfl) ?_
  refine m_Law.n0 (x_aload_n d_law_397 rfl) ?_
  refine m_Law.n0 (x_iload d_law_398 rfl) ?_
  refine m_Law.n0 (x_iconst (z := Int32.ofNat 1) d_law_400 (by decide)) ?_
  refine m_Law.n0 (x_iadd d_law_401 rfl) ?_
  refine m_Law.ldi 1 d_law_402.1 (by omega) hn ?_
  refine m_Law.n0 (x_aload_n d_law_403 rfl) ?_
  refine m_Law.mono (m_Law.help (as := [.ref 512, .int (sc (i + 1)), .ref 630]) (rest := []) (c0 := C - q1 - T'.2.1) (s0 := U - q2 - T'.2.2) d_law_404.1 (show m_okf (404, [(4, .int (Int32.ofNat i)), (3, .ref 630), (2, .ref 583), (1, .ref 512), (0, .ref 500)], [.ref 630, .int (sc (i + 1)), .ref 512], w) = true from by simp only [m_okf, List.all_cons, List.all_nil, Bool.and_true, Bool.and_self, m_okv_i, m_okv_l, m_okv_0, m_okv_t, m_okv_out (a := 500) (by decide), hT.ok (a := 512) (by omega), hT.ok (a := 583) (by omega), hT.ok (a := 630) (by omega)]) (by decide) rfl (by decide +kernel) f1_ht f2_ht f3_ht f4_ht ⟨by decide, by decide⟩ hw (by show (101 : Nat) ≤ 2048; decide) (by show (8 + (_ + 11) + 8000 : Nat) ≤ 84000; decide) ?_) (by show T'.2.1 - T.2.1 + q1 + (C - q1 - T'.2.1) ≤ C - T.2.1; omega) (by show T'.2.2 - T.2.2 + q2 + (U - q2 - T'.2.2) ≤ U - T.2.2; omega)
  show m_Law l n sc (407, [(4, .int (Int32.ofNat i)), (3, .ref 630), (2, .ref 583), (1, .ref 512), (0, .ref 500)], [.int e], w') _ _
  refine m_Law.n0 (x_istore d_law_407 rfl (show m_put1 _ _ _ = [(5, _), (4, _), (3, _), (2, _), (1, _), (0, _)] from rfl)) ?_
  refine m_Law.n0 (x_aload_n d_law_409 rfl) ?_
  refine m_Law.n0 (x_aload_n d_law_410 rfl) ?_
  refine m_Law.n0 (x_iload d_law_411 rfl) ?_
  refine m_Law.n0 (x_iconst (z := Int32.ofNat 1) d_law_413 (by decide)) ?_
  refine m_Law.n0 (x_iadd d_law_414 rfl) ?_
  refine m_Law.ldi 1 d_law_415.1 (by omega) hn ?_
  refine m_Law.callM (y_cv d_law_416 rfl q_329 (m_isRecv_of rfl hM'.1) (show m_takeI _ _ = some (_, [_, _], []) from rfl) (by simp only [m_okf, List.all_cons, List.all_nil, Bool.and_true, Bool.and_self, m_okv_i, m_okv_l, m_okv_0, m_okv_t, m_okv_out (a := 500) (by decide), m_okv_at hM'.1, hT'.ok (a := 512) (by omega), hT'.ok (a := 630) (by omega)]) rfl) (T_m_tick hM' hm) hT' rfl (fun w2 hT2 hM2 _ => ?_) (by decide) (by decide)
  refine m_Law.n0 (x_istore d_law_419 rfl (show m_put1 _ _ _ = [(6, _), (5, _), (4, _), (3, _), (2, _), (1, _), (0, _)] from rfl)) ?_
  refine m_Law.n0 (x_aload_n d_law_421 rfl) ?_
  refine m_Law.callM (y_cv d_law_422 rfl q_241 (m_isRecv_of rfl hM2.1) (show m_takeI _ _ = some (_, [_], []) from rfl) (by simp only [m_okf, List.all_cons, List.all_nil, Bool.and_true, Bool.and_self, m_okv_i, m_okv_l, m_okv_0, m_okv_t, m_okv_out (a := 500) (by decide), m_okv_at hM2.1, hT2.ok (a := 512) (by omega), hT2.ok (a := 630) (by omega)]) rfl) (T_m_thrown (F := 0) hM2 (show D_m_thrown 0 S' = some (S'.1 0) from rfl)) hT2 rfl (fun w3 hT3 hM3 _ => ?_) (by decide) (by decide)
  refine m_Law.n0 (x_iload d_law_425 rfl) ?_
  refine m_Law.n0 (x_ict d_law_427 rfl (decide_eq_true h0)) ?_
  refine m_Law.n0 (x_iload d_law_432 rfl) ?_
  rcases he with he | ⟨he, f, h630, hf0⟩
  · refine m_Law.n0 (x_ift d_law_434 rfl (show m_c1 .ne e = true from decide_eq_true he)) ?_
    exact m_Law.n0 (x_goto d_law_449 rfl) (m_Law.pick [2, 3, 4, 5, 6] rfl (k w3 hT3 hM3))
  · refine m_Law.n0 (x_iff d_law_434 rfl (show m_c1 .ne e = false from decide_eq_false (fun q => q he))) ?_
    obtain ⟨els, a1, a2, _⟩ := hT3.arr h630
    refine m_Law.n0 (x_aload_n d_law_437 rfl) ?_
    refine m_Law.n0 (x_iconst (z := 0) d_law_438 (by decide)) ?_
    refine m_Law.n0 (x_laload (j := 0) d_law_439 a1 (by decide) (by decide) (by decide) ((a2 0).trans hf0)) ?_
    refine m_Law.n0 (x_iload d_law_440 rfl) ?_
    refine m_Law.n0 (x_i2l d_law_442 rfl) ?_
    refine m_Law.n0 (x_lcmp (z := 0) d_law_443 lg_self) ?_
    refine m_Law.n0 (x_ift d_law_444 rfl (by decide)) ?_
    exact m_Law.n0 (x_goto d_law_449 rfl) (m_Law.pick [2, 3, 4, 5, 6] rfl (k w3 hT3 hM3))
theorem w_answer (hi : i + 5 < n) (hn : n < 2147483648) (hT : RT T w) (h6 : 630 < T.2.1) (h7 : T.2.1 ≤ T'.2.1) (h8 : T.2.2 ≤ T'.2.2) (hm : D_m_answer F ((sc (i + 1))) ((sc (i + 2))) S = some (v, S')) (h0 : S'.1 0 = e) (hw : m_MetW l M_ha [(0, 10, 13, 23), (0, 10, 17, 25)] [.ref 512, .int (sc (i + 1)), .int (sc (i + 2)), .ref 630] w (some (.int e), w', T'.2.1 - T.2.1 + q1, T'.2.2 - T.2.2 + q2, 100, 8000)) (hT' : RT T' w') (hM' : m_RM S w') (he : ¬ e = 0 ∨ (e = 0 ∧ ∃ f, T'.1 630 = some (.inr (.inl (1, 1, f))) ∧ f 0 = .long v.toInt64)) (c1 : T'.2.1 + q1 ≤ C) (c2 : T'.2.2 + q2 ≤ U) (k : ∀ w2, RT T' w2 → m_RM S' w2 → m_Law l n sc (816, [(4, .int (Int32.ofNat i)), (3, .ref 630), (2, .ref 583), (1, .ref 512), (0, .ref 500)], [], w2) (C - q1 - T'.2.1) (U - q2 - T'.2.2)) : m_Law l n sc (539, [(4, .int (Int32.ofNat i)), (3, .ref 630), (2, .ref 583), (1, .ref 512), (0, .ref 500)], [], w) (C - T.2.1) (U - T.2.2) := by
  refine m_Law.n0 (x_aload_n d_law_539 rfl) ?_
  refine m_Law.n0 (x_aload_n d_law_540 rfl) ?_
  refine m_Law.n0 (x_iload d_law_541 rfl) ?_
  refine m_Law.n0 (x_iconst (z := Int32.ofNat 1) d_law_543 (by decide)) ?_
  refine m_Law.n0 (x_iadd d_law_544 rfl) ?_
  refine m_Law.ldi 1 d_law_545.1 (by omega) hn ?_
  refine m_Law.n0 (x_aload_n d_law_546 rfl) ?_
  refine m_Law.n0 (x_iload d_law_547 rfl) ?_
  refine m_Law.n0 (x_iconst (z := Int32.ofNat 2) d_law_549 (by decide)) ?_
  refine m_Law.n0 (x_iadd d_law_550 rfl) ?_
  refine m_Law.ldi 2 d_law_551.1 (by omega) hn ?_
  refine m_Law.n0 (x_aload_n d_law_552 rfl) ?_
  refine m_Law.mono (m_Law.help (as := [.ref 512, .int (sc (i + 1)), .int (sc (i + 2)), .ref 630]) (rest := []) (c0 := C - q1 - T'.2.1) (s0 := U - q2 - T'.2.2) d_law_553.1 (show m_okf (553, [(4, .int (Int32.ofNat i)), (3, .ref 630), (2, .ref 583), (1, .ref 512), (0, .ref 500)], [.ref 630, .int (sc (i + 2)), .int (sc (i + 1)), .ref 512], w) = true from by simp only [m_okf, List.all_cons, List.all_nil, Bool.and_true, Bool.and_self, m_okv_i, m_okv_l, m_okv_0, m_okv_t, m_okv_out (a := 500) (by decide), hT.ok (a := 512) (by omega), hT.ok (a := 583) (by omega), hT.ok (a := 630) (by omega)]) (by decide) rfl (by decide +kernel) f1_ha f2_ha f3_ha f4_ha ⟨by decide, by decide⟩ hw (by show (101 : Nat) ≤ 2048; decide) (by show (8 + (_ + 11) + 8000 : Nat) ≤ 84000; decide) ?_) (by show T'.2.1 - T.2.1 + q1 + (C - q1 - T'.2.1) ≤ C - T.2.1; omega) (by show T'.2.2 - T.2.2 + q2 + (U - q2 - T'.2.2) ≤ U - T.2.2; omega)
  show m_Law l n sc (556, [(4, .int (Int32.ofNat i)), (3, .ref 630), (2, .ref 583), (1, .ref 512), (0, .ref 500)], [.int e], w') _ _
  refine m_Law.n0 (x_istore d_law_556 rfl (show m_put1 _ _ _ = [(5, _), (4, _), (3, _), (2, _), (1, _), (0, _)] from rfl)) ?_
  refine m_Law.n0 (x_aload_n d_law_558 rfl) ?_
  refine m_Law.n0 (x_aload_n d_law_559 rfl) ?_
  refine m_Law.n0 (x_iload d_law_560 rfl) ?_
  refine m_Law.n0 (x_iconst (z := Int32.ofNat 1) d_law_562 (by decide)) ?_
  refine m_Law.n0 (x_iadd d_law_563 rfl) ?_
  refine m_Law.ldi 1 d_law_564.1 (by omega) hn ?_
  refine m_Law.n0 (x_aload_n d_law_565 rfl) ?_
  refine m_Law.n0 (x_iload d_law_566 rfl) ?_
  refine m_Law.n0 (x_iconst (z := Int32.ofNat 2) d_law_568 (by decide)) ?_
  refine m_Law.n0 (x_iadd d_law_569 rfl) ?_
  refine m_Law.ldi 2 d_law_570.1 (by omega) hn ?_
  refine m_Law.callM (y_cv d_law_571 rfl q_336 (m_isRecv_of rfl hM'.1) (show m_takeI _ _ = some (_, [_, _, _], []) from rfl) (by simp only [m_okf, List.all_cons, List.all_nil, Bool.and_true, Bool.and_self, m_okv_i, m_okv_l, m_okv_0, m_okv_t, m_okv_out (a := 500) (by decide), m_okv_at hM'.1, hT'.ok (a := 512) (by omega), hT'.ok (a := 630) (by omega)]) rfl) (T_m_answer hM' hm) hT' rfl (fun w2 hT2 hM2 _ => ?_) (by decide) (by decide)
  refine m_Law.n0 (x_istore d_law_574 rfl (show m_put1 _ _ _ = [(6, _), (5, _), (4, _), (3, _), (2, _), (1, _), (0, _)] from rfl)) ?_
  refine m_Law.n0 (x_aload_n d_law_576 rfl) ?_
  refine m_Law.callM (y_cv d_law_577 rfl q_241 (m_isRecv_of rfl hM2.1) (show m_takeI _ _ = some (_, [_], []) from rfl) (by simp only [m_okf, List.all_cons, List.all_nil, Bool.and_true, Bool.and_self, m_okv_i, m_okv_l, m_okv_0, m_okv_t, m_okv_out (a := 500) (by decide), m_okv_at hM2.1, hT2.ok (a := 512) (by omega), hT2.ok (a := 630) (by omega)]) rfl) (T_m_thrown (F := 0) hM2 (show D_m_thrown 0 S' = some (S'.1 0) from rfl)) hT2 rfl (fun w3 hT3 hM3 _ => ?_) (by decide) (by decide)
  refine m_Law.n0 (x_iload d_law_580 rfl) ?_
  refine m_Law.n0 (x_ict d_law_582 rfl (decide_eq_true h0)) ?_
  refine m_Law.n0 (x_iload d_law_587 rfl) ?_
  rcases he with he | ⟨he, f, h630, hf0⟩
  · refine m_Law.n0 (x_ift d_law_589 rfl (show m_c1 .ne e = true from decide_eq_true he)) ?_
    exact m_Law.n0 (x_goto d_law_604 rfl) (m_Law.pick [2, 3, 4, 5, 6] rfl (k w3 hT3 hM3))
  · refine m_Law.n0 (x_iff d_law_589 rfl (show m_c1 .ne e = false from decide_eq_false (fun q => q he))) ?_
    obtain ⟨els, a1, a2, _⟩ := hT3.arr h630
    refine m_Law.n0 (x_aload_n d_law_592 rfl) ?_
    refine m_Law.n0 (x_iconst (z := 0) d_law_593 (by decide)) ?_
    refine m_Law.n0 (x_laload (j := 0) d_law_594 a1 (by decide) (by decide) (by decide) ((a2 0).trans hf0)) ?_
    refine m_Law.n0 (x_iload d_law_595 rfl) ?_
    refine m_Law.n0 (x_i2l d_law_597 rfl) ?_
    refine m_Law.n0 (x_lcmp (z := 0) d_law_598 lg_self) ?_
    refine m_Law.n0 (x_ift d_law_599 rfl (by decide)) ?_
    exact m_Law.n0 (x_goto d_law_604 rfl) (m_Law.pick [2, 3, 4, 5, 6] rfl (k w3 hT3 hM3))
end
