/-! ArrayList.grow and add: contracts. Written by wip/tool/alist3.py. -/
theorem q_66 : m_mt[66]? = some M_66 := by rfl
theorem q_65 : m_mt[65]? = some M_65 := by rfl
theorem b_66 : m_bOk M_66 := (m_mt_ok M_66 (List.mem_of_getElem? q_66)).body
theorem b_65 : m_bOk M_65 := (m_mt_ok M_65 (List.mem_of_getElem? q_65)).body
theorem d_65_0 : m_dn M_65 0 (.aload_n 0) 1 1 := by decide +kernel
theorem d_65_1 : m_dn M_65 1 (.getfield 9) 3 4 := by decide +kernel
theorem d_65_10 : m_dn M_65 10 (.aload_n 0) 1 11 := by decide +kernel
theorem d_65_11 : m_dn M_65 11 (.getfield 9) 3 14 := by decide +kernel
theorem d_65_14 : m_dn M_65 14 (.getstatic 39) 3 17 := by decide +kernel
theorem d_65_17 : m_dn M_65 17 (.if_acmp .eq 28) 3 20 := by decide +kernel
theorem d_65_20 : m_dn M_65 20 (.iload_n 2) 1 21 := by decide +kernel
theorem d_65_21 : m_dn M_65 21 (.iload_n 1) 1 22 := by decide +kernel
theorem d_65_22 : m_dn M_65 22 (.iload_n 2) 1 23 := by decide +kernel
theorem d_65_23 : m_dn M_65 23 (.isub) 1 24 := by decide +kernel
theorem d_65_24 : m_dn M_65 24 (.iload_n 2) 1 25 := by decide +kernel
theorem d_65_25 : m_dn M_65 25 (.iconst 1) 1 26 := by decide +kernel
theorem d_65_26 : m_dn M_65 26 (.ishr) 1 27 := by decide +kernel
theorem d_65_27 : m_dn M_65 27 (.invokestatic 73) 3 30 := by decide +kernel
theorem d_65_30 : m_dn M_65 30 (.istore_n 3) 1 31 := by decide +kernel
theorem d_65_31 : m_dn M_65 31 (.aload_n 0) 1 32 := by decide +kernel
theorem d_65_32 : m_dn M_65 32 (.aload_n 0) 1 33 := by decide +kernel
theorem d_65_33 : m_dn M_65 33 (.getfield 9) 3 36 := by decide +kernel
theorem d_65_36 : m_dn M_65 36 (.iload_n 3) 1 37 := by decide +kernel
theorem d_65_37 : m_dn M_65 37 (.invokestatic 66) 3 40 := by decide +kernel
theorem d_65_4 : m_dn M_65 4 (.arraylength) 1 5 := by decide +kernel
theorem d_65_40 : m_dn M_65 40 (.dup_x1) 1 41 := by decide +kernel
theorem d_65_41 : m_dn M_65 41 (.putfield 9) 3 44 := by decide +kernel
theorem d_65_44 : m_dn M_65 44 (.areturn) 1 45 := by decide +kernel
theorem d_65_45 : m_dn M_65 45 (.aload_n 0) 1 46 := by decide +kernel
theorem d_65_46 : m_dn M_65 46 (.bipush 10) 2 48 := by decide +kernel
theorem d_65_48 : m_dn M_65 48 (.iload_n 1) 1 49 := by decide +kernel
theorem d_65_49 : m_dn M_65 49 (.invokestatic 79) 3 52 := by decide +kernel
theorem d_65_5 : m_dn M_65 5 (.istore_n 2) 1 6 := by decide +kernel
theorem d_65_52 : m_dn M_65 52 (.anewarray 7) 3 55 := by decide +kernel
theorem d_65_55 : m_dn M_65 55 (.dup_x1) 1 56 := by decide +kernel
theorem d_65_56 : m_dn M_65 56 (.putfield 9) 3 59 := by decide +kernel
theorem d_65_59 : m_dn M_65 59 (.areturn) 1 60 := by decide +kernel
theorem d_65_6 : m_dn M_65 6 (.iload_n 2) 1 7 := by decide +kernel
theorem d_65_7 : m_dn M_65 7 (.ifCond .gt 13) 3 10 := by decide +kernel
theorem d_66_0 : m_dn M_66 0 (.iload_n 0) 1 1 := by decide +kernel
theorem d_66_1 : m_dn M_66 1 (.iload_n 1) 1 2 := by decide +kernel
theorem d_66_10 : m_dn M_66 10 (.if_icmp .ge 11) 3 13 := by decide +kernel
theorem d_66_13 : m_dn M_66 13 (.iload_n 3) 1 14 := by decide +kernel
theorem d_66_14 : m_dn M_66 14 (.ldc 200) 2 16 := by decide +kernel
theorem d_66_16 : m_dn M_66 16 (.if_icmp .gt 5) 3 19 := by decide +kernel
theorem d_66_19 : m_dn M_66 19 (.iload_n 3) 1 20 := by decide +kernel
theorem d_66_2 : m_dn M_66 2 (.iload_n 2) 1 3 := by decide +kernel
theorem d_66_20 : m_dn M_66 20 (.ireturn) 1 21 := by decide +kernel
theorem d_66_3 : m_dn M_66 3 (.invokestatic 194) 3 6 := by decide +kernel
theorem d_66_6 : m_dn M_66 6 (.iadd) 1 7 := by decide +kernel
theorem d_66_7 : m_dn M_66 7 (.istore_n 3) 1 8 := by decide +kernel
theorem d_66_8 : m_dn M_66 8 (.iconst 0) 1 9 := by decide +kernel
theorem d_66_9 : m_dn M_66 9 (.iload_n 3) 1 10 := by decide +kernel
theorem c_newl {l : Launch} {w : List mM} {N m p : Nat} (h0 : 0 < N) (h1 : m ≤ p) (h2 : N + p < 65536) : m_Rs l M_66 (m_ent M_66 [.int (Int32.ofNat N), .int (Int32.ofNat m), .int (Int32.ofNat p)] w) (fun v w' => v = some (.int (Int32.ofNat (N + p))) ∧ w' = w) 0 0 1 100 := by
  show m_Rs l M_66 (0, [(0, .int (Int32.ofNat N)), (1, .int (Int32.ofNat m)), (2, .int (Int32.ofNat p))], [], w) _ 0 0 1 100
  refine m_Rs.n0 b_66 (x_iload_n d_66_0 rfl) ?_
  refine m_Rs.n0 b_66 (x_iload_n d_66_1 rfl) ?_
  refine m_Rs.n0 b_66 (x_iload_n d_66_2 rfl) ?_
  refine m_Rs.nz b_66 (x_max (z := Int32.ofNat p) d_66_3 rfl (Nat.le_of_ble_eq_true rfl) (m_max_n (by omega) (by omega) (by omega))) ?_ (by decide) (by decide)
  refine m_Rs.n0 b_66 (x_iadd (z := Int32.ofNat (N + p)) d_66_6 (m_n_add _ _)) ?_
  refine m_Rs.n0 b_66 (x_istore_n d_66_7 rfl (show m_put1 _ _ _ = [(3, _), (0, _), (1, _), (2, _)] from rfl)) ?_
  refine m_Rs.n0 b_66 (x_iconst (z := 0) d_66_8 (by decide)) ?_
  refine m_Rs.n0 b_66 (x_iload_n d_66_9 rfl) ?_
  refine m_Rs.n0 b_66 (x_icf d_66_10 rfl (m_c2n (a := 0) (b := (N + p)) (by omega) (by omega) (decide_eq_false (p := (N + p) ≤ 0) (by omega)))) ?_
  refine m_Rs.n0 b_66 (x_iload_n d_66_13 rfl) ?_
  refine m_Rs.n0 b_66 (x_ldc d_66_14 rfl) ?_
  refine m_Rs.n0 b_66 (x_icf d_66_16 rfl (m_c2n (a := (N + p)) (b := 2147483639) (by omega) (by omega) (decide_eq_false (p := 2147483639 < (N + p)) (by omega)))) ?_
  refine m_Rs.n0 b_66 (x_iload_n d_66_19 rfl) ?_
  refine m_Rs.ret b_66 (m_rt_ir d_66_20 rfl rfl) ?_
  exact ⟨rfl, rfl⟩
theorem m_Fr.sub {w w' : List mM} {S T : List Nat} (h : m_Fr w w' S) (hS : ∀ b ∈ S, b ∈ T) : m_Fr w w' T := ⟨h.1, fun b d hb hn => h.2 b d hb (fun hm => hn (hS b hm))⟩
theorem c_grow1 {l : Launch} {w : List mM} {a r n N : Nat} {mc : Int32} {els : List (Nat × Value)} (ha : m_at w a = some (.inr (2, [.ref r, .int (Int32.ofNat n), .int mc]))) (he : m_at w r = some (.inl (8, N, els))) (hL : m_Elq w els N) (h10 : 10 ≤ N) (hN : N < 400) : m_Rs l M_65 (m_ent M_65 [.ref a, .int (Int32.ofNat (N + 1))] w) (fun v w' => ∃ n1, v = some (.ref n1) ∧ n1 = 512 + w.length ∧ w'.length = w.length + 1 ∧ m_Fr w w' [a] ∧ m_at w' a = some (.inr (2, [.ref n1, .int (Int32.ofNat n), .int mc])) ∧ m_at w' n1 = some (.inl (8, N + N / 2, m_cpl 8 els [] 0 0 N))) (1 + 0 + 0 + 0) (N + N / 2 + 0 + 0 + 0) 4 600 := by
  show m_Rs l M_65 (0, [(0, .ref a), (1, .int (Int32.ofNat (N + 1)))], [], w) _ (1 + 0 + 0 + 0) (N + N / 2 + 0 + 0 + 0) 4 600
  refine m_Rs.n0 b_65 (x_aload_n d_65_0 rfl) ?_
  refine m_Rs.n0 b_65 (x_getf d_65_1 rfl ha rfl) ?_
  refine m_Rs.n0 b_65 (x_alen d_65_4 he rfl rfl) ?_
  refine m_Rs.n0 b_65 (x_istore_n d_65_5 rfl (show m_put1 _ _ _ = [(2, _), (0, _), (1, _)] from rfl)) ?_
  refine m_Rs.n0 b_65 (x_iload_n d_65_6 rfl) ?_
  refine m_Rs.n0 b_65 (x_ift d_65_7 rfl (m_c1n (a := N) (by omega) (decide_eq_true (p := 0 < N) (by omega)))) ?_
  refine m_Rs.n0 b_65 (x_iload_n d_65_20 rfl) ?_
  refine m_Rs.n0 b_65 (x_iload_n d_65_21 rfl) ?_
  refine m_Rs.n0 b_65 (x_iload_n d_65_22 rfl) ?_
  refine m_Rs.n0 b_65 (x_isub (z := Int32.ofNat ((N + 1) - N)) d_65_23 (m_n_sub (a := (N + 1)) (b := N) (by omega))) ?_
  refine m_Rs.n0 b_65 (x_iload_n d_65_24 rfl) ?_
  refine m_Rs.n0 b_65 (x_iconst (z := 1) d_65_25 (by decide)) ?_
  refine m_Rs.n0 b_65 (x_ishr (z := Int32.ofNat (N / 2)) d_65_26 (m_n_shr1 (by omega))) ?_
  refine m_Rs.callE b_65 (y_cs d_65_27 rfl q_66 (show m_takeS _ _ = some (_, [_, _, _], []) from rfl) (by simp only [m_okf, List.all_cons, List.all_nil, Bool.and_true, Bool.and_self, m_okv_i, m_okv_l, m_okv_0, m_okv_t, m_okv_at ha]) rfl) (c_newl (by omega) (by omega) (by omega)) rfl ?_ (by decide) (by decide)
  refine m_Rs.n0 b_65 (x_istore_n d_65_30 rfl (show m_put1 _ _ _ = [(3, _), (2, _), (0, _), (1, _)] from rfl)) ?_
  refine m_Rs.n0 b_65 (x_aload_n d_65_31 rfl) ?_
  refine m_Rs.n0 b_65 (x_aload_n d_65_32 rfl) ?_
  refine m_Rs.n0 b_65 (x_getf d_65_33 rfl ha rfl) ?_
  refine m_Rs.n0 b_65 (x_iload_n d_65_36 rfl) ?_
  refine m_Rs.callP (c := 0) (s := 0) b_65 (y_cs d_65_37 rfl q_68 (show m_takeS _ _ = some (_, [_, _], [_]) from rfl) (by simp only [m_okf, List.all_cons, List.all_nil, Bool.and_true, Bool.and_self, m_okv_i, m_okv_l, m_okv_0, m_okv_t, m_okv_at ha, m_okv_at he]) rfl) (c_cp2 he hL (by omega) (by omega)) rfl (fun v w1 hv => ?_) (by decide) (by decide)
  obtain ⟨n1, rfl, e1, e2, hF, hn1⟩ := hv
  replace ha := hF.2 _ _ ha (by simp)
  refine m_Rs.n0 b_65 (x_dup_x1 d_65_40 rfl rfl) ?_
  refine m_Rs.wput (fs' := [.ref n1, .int (Int32.ofNat n), .int mc]) b_65 d_65_41 rfl ha rfl (by decide) rfl rfl rfl (m_okv_at hn1) rfl (fun w2 h2 => ?_)
  have hq := h2.2.2 _ _ hn1 (m_ne_oa ha hn1)
  refine m_Rs.ret b_65 (m_rt_aa d_65_44 rfl) ?_
  exact ⟨n1, rfl, e1, by rw [h2.1, e2], (hF.sub (by simp)).w1 h2 (by simp), h2.2.1, hq⟩
theorem c_grow0 {l : Launch} {w : List mM} {a : Nat} {mc : Int32} (ha : m_at w a = some (.inr (2, [.ref 0, .int 0, .int mc]))) : m_Rs l M_65 (m_ent M_65 [.ref a, .int 1] w) (fun v w' => ∃ n1, v = some (.ref n1) ∧ n1 = 512 + w.length ∧ w'.length = w.length + 1 ∧ m_Fr w w' [a] ∧ m_at w' a = some (.inr (2, [.ref n1, .int 0, .int mc])) ∧ m_at w' n1 = some (.inl (8, 10, []))) (1 + 0) (10 + 0) 4 600 := by
  show m_Rs l M_65 (0, [(0, .ref a), (1, .int 1)], [], w) _ (1 + 0) (10 + 0) 4 600
  refine m_Rs.n0 b_65 (x_aload_n d_65_0 rfl) ?_
  refine m_Rs.n0 b_65 (x_getf d_65_1 rfl ha rfl) ?_
  refine m_Rs.n0 b_65 (x_alenE d_65_4) ?_
  refine m_Rs.n0 b_65 (x_istore_n d_65_5 rfl (show m_put1 _ _ _ = [(2, _), (0, _), (1, _)] from rfl)) ?_
  refine m_Rs.n0 b_65 (x_iload_n d_65_6 rfl) ?_
  refine m_Rs.n0 b_65 (x_iff d_65_7 rfl (by decide)) ?_
  refine m_Rs.n0 b_65 (x_aload_n d_65_10 rfl) ?_
  refine m_Rs.n0 b_65 (x_getf d_65_11 rfl ha rfl) ?_
  refine m_Rs.n0 b_65 (x_gst d_65_14 rfl) ?_
  refine m_Rs.n0 b_65 (x_acmpe d_65_17 rfl) ?_
  refine m_Rs.n0 b_65 (x_aload_n d_65_45 rfl) ?_
  refine m_Rs.n0 b_65 (x_bipush (z := 10) d_65_46 (by decide)) ?_
  refine m_Rs.n0 b_65 (x_iload_n d_65_48 rfl) ?_
  refine m_Rs.nz b_65 (x_max (z := 10) d_65_49 rfl (Nat.le_of_ble_eq_true rfl) (by decide)) ?_ (by decide) (by decide)
  refine m_Rs.walloc (c := 0) (s := 0) b_65 (x_anew (N := 10) d_65_52 rfl (by decide) (by decide) (by decide) (by simp only [m_okf, List.all_cons, List.all_nil, Bool.and_true, Bool.and_self, m_okv_i, m_okv_l, m_okv_0, m_okv_t, m_okv_at ha])) (fun w1 n1 h1 => ?_)
  replace ha := h1.2.2.2 _ _ ha
  have hn1 := h1.2.2.1
  refine m_Rs.n0 b_65 (x_dup_x1 d_65_55 rfl rfl) ?_
  refine m_Rs.wput (fs' := [.ref n1, .int 0, .int mc]) b_65 d_65_56 rfl ha rfl (by decide) rfl rfl rfl (m_okv_at hn1) rfl (fun w2 h2 => ?_)
  have hq := h2.2.2 _ _ hn1 (m_ne_oa ha hn1)
  refine m_Rs.ret b_65 (m_rt_aa d_65_59 rfl) ?_
  exact ⟨n1, rfl, h1.1, by rw [h2.1, h1.2.1], (m_Fr.wa m_Fr.refl h1).w1 h2 (by simp), h2.2.1, hq⟩
