/-! The length and the characters of the outside texts. Written by wip/tool/text0.py. -/
theorem xlen_ok {t : Nat} {v : Int32} (h : xlen t = some v) : (1 ≤ t ∧ t ≤ m_sN) ∧ v = Int32.ofNat (m_tx t).length := by
  unfold xlen at h
  split at h
  · rename_i h1
    exact ⟨h1, (Option.some.inj h).symm⟩
  · cases h
theorem xchr_ok {t : Nat} {i v : Int32} (h : xchr t i = some v) : (1 ≤ t ∧ t ≤ m_sN) ∧ (¬ i < 0 ∧ i.toNatClampNeg < (m_tx t).length) ∧ v = (m_tx t).getD i.toNatClampNeg 0 := by
  unfold xchr at h
  split at h
  · rename_i h1
    exact ⟨h1.1, h1.2, (Option.some.inj h).symm⟩
  · cases h
theorem m_tx_lt {t : Nat} (h : 1 ≤ t ∧ t ≤ m_sN) : t < 512 := by
  have : m_sN = 110 := rfl
  omega
theorem m_tx_lt2 {t : Nat} (h : 1 ≤ t ∧ t ≤ m_sN) : t + 200 < 512 := by
  have : m_sN = 110 := rfl
  omega
theorem m_xbl_ok : m_xbl.length = m_sN ∧ ∀ b ∈ m_xbl, b.length < 1000 ∧ ∀ x ∈ b, ((x &&& 255).toUInt32 % 65536).toInt32 = x ∧ narrow .char (.int x) = .int x := by decide +kernel
theorem m_tx_in {t : Nat} (h : 1 ≤ t ∧ t ≤ m_sN) : m_tx t ∈ m_xbl := by
  have h1 := m_xbl_ok.1
  have h2 : t - 1 < m_xbl.length := by omega
  unfold m_tx
  rw [List.getD_eq_getElem?_getD, List.getElem?_eq_getElem h2]
  exact List.getElem_mem h2
theorem m_tx_by {t : Nat} (h : 1 ≤ t ∧ t ≤ m_sN) : m_xby (t + 200) = some (m_tx t) := by
  have h1 := m_xbl_ok.1
  have h2 : t - 1 < m_xbl.length := by omega
  unfold m_xby m_tx
  rw [if_pos (by omega), show t + 200 - 201 = t - 1 by omega, List.getD_eq_getElem?_getD, List.getElem?_eq_getElem h2]
  rfl
theorem m_tx_len {t : Nat} (h : 1 ≤ t ∧ t ≤ m_sN) : (m_tx t).length < 1000 := (m_xbl_ok.2 _ (m_tx_in h)).1
theorem m_tx_el {t j : Nat} (h : 1 ≤ t ∧ t ≤ m_sN) (hj : j < (m_tx t).length) : (m_tx t).getD j 0 ∈ m_tx t := by
  rw [List.getD_eq_getElem?_getD, List.getElem?_eq_getElem hj]
  exact List.getElem_mem hj
theorem m_tx_c1 {t j : Nat} (h : 1 ≤ t ∧ t ≤ m_sN) (hj : j < (m_tx t).length) : (((m_tx t).getD j 0 &&& 255).toUInt32 % 65536).toInt32 = (m_tx t).getD j 0 := ((m_xbl_ok.2 _ (m_tx_in h)).2 _ (m_tx_el h hj)).1
theorem m_tx_c3 {t j : Nat} (h : 1 ≤ t ∧ t ≤ m_sN) (hj : j < (m_tx t).length) : narrow .char (.int ((m_tx t).getD j 0)) = .int ((m_tx t).getD j 0) := ((m_xbl_ok.2 _ (m_tx_in h)).2 _ (m_tx_el h hj)).2
theorem m_tx_c2 {t j : Nat} (h : 1 ≤ t ∧ t ≤ m_sN) (hj : j < (m_tx t).length) : narrow .char (.int (((m_tx t).getD j 0 &&& 255).toUInt32 % 65536).toInt32) = .int (((m_tx t).getD j 0 &&& 255).toUInt32 % 65536).toInt32 := by
  rw [m_tx_c1 h hj]
  exact m_tx_c3 h hj
theorem m_ix_lt {i : Int32} {N : Nat} (hi : ¬ i < 0 ∧ i.toNatClampNeg < N) (hN : N < 1000) : m_c2 .lt i (Int32.ofNat N) = true := by
  have e : i = Int32.ofNat i.toNatClampNeg := by
    have h0 := hi.1
    rw [Int32.lt_iff_toInt_lt] at h0
    apply Int32.toInt_inj.mp
    rw [Int32.toInt_ofNat_of_lt (by omega)]
    have h1 : (0 : Int32).toInt = 0 := rfl
    rw [h1] at h0
    have h2 : i.toNatClampNeg = i.toInt.toNat := rfl
    omega
  rw [e]
  exact m_c2n (by omega) (by omega) (decide_eq_true (p := i.toNatClampNeg < N) hi.2)
theorem m_shr0 {x : Int32} : x >>> ((0 : Int32) &&& 31) = x := by
  have : ((0 : Int32) &&& 31) = 0 := by decide
  rw [this]
  exact Int32.shiftRight_zero
section
variable {l : Launch} {I : mI} {pc pc' k fl t : Nat} {lv : List (Nat × Value)} {r : List Value} {w : List mM} {i : Int32} {ic : mI → mF → Option mR}
theorem m_at_out {a : Nat} (h : a < 512) : m_at w a = none := by
  unfold m_at
  rw [if_pos h]
theorem m_isRecv_out {st : List Value} {n : Nat} (h : st[n]? = some (.ref t)) (ht : 1 ≤ t ∧ t ≤ m_sN) : m_isRecv st w n 12 = true := by
  unfold m_isRecv
  simp only [h, m_at_out (m_tx_lt ht)]
  exact decide_eq_true ⟨rfl, ht⟩
theorem x_xgv (hd : m_dn I pc (.getfield k) 3 pc') (hf : m_fe I k = some (12, 0, fl)) (ht : 1 ≤ t ∧ t ≤ m_sN) : m_nx ic I (pc, lv, .ref t :: r, w) = some ((pc', lv, .ref (t + 200) :: r, w), 0, 0, 0, 0) := by
  refine x_xs hd rfl rfl rfl ?_ ?_
  · simp only [m_hs, m_getf, hf, m_at_out (m_tx_lt ht)]
  · simp only [m_xs, m_xg, hf, m_xget]
    rw [if_pos ⟨rfl, ht⟩]
    rfl
theorem x_xgc (hd : m_dn I pc (.getfield k) 3 pc') (hf : m_fe I k = some (12, 1, fl)) (ht : 1 ≤ t ∧ t ≤ m_sN) : m_nx ic I (pc, lv, .ref t :: r, w) = some ((pc', lv, .int 0 :: r, w), 0, 0, 0, 0) := by
  refine x_xs hd rfl rfl rfl ?_ ?_
  · simp only [m_hs, m_getf, hf, m_at_out (m_tx_lt ht)]
  · simp only [m_xs, m_xg, hf, m_xget]
    rw [if_pos ⟨rfl, ht⟩]
    rfl
theorem x_xlen (hd : m_dn I pc .arraylength 1 pc') (ht : 1 ≤ t ∧ t ≤ m_sN) : m_nx ic I (pc, lv, .ref (t + 200) :: r, w) = some ((pc', lv, .int (Int32.ofNat (m_tx t).length) :: r, w), 0, 0, 0, 0) := by
  refine x_xs hd rfl rfl rfl ?_ ?_
  · simp only [m_hs, m_alen, m_at_out (m_tx_lt2 ht)]
  · have h9 : ¬ t + 200 = 0 := fun h => by omega
    simp only [m_xs, m_xl, m_tx_by ht, Option.map_some, if_neg h9]
theorem x_xbal (hd : m_dn I pc .baload 1 pc') (ht : 1 ≤ t ∧ t ≤ m_sN) (hi : ¬ i < 0 ∧ i.toNatClampNeg < (m_tx t).length) : m_nx ic I (pc, lv, .int i :: .ref (t + 200) :: r, w) = some ((pc', lv, .int ((m_tx t).getD i.toNatClampNeg 0) :: r, w), 0, 0, 0, 0) := by
  refine x_xs hd rfl rfl rfl ?_ ?_
  · simp only [m_hs, m_ald, m_at_out (m_tx_lt2 ht)]
  · simp only [m_xs, m_xb, m_tx_by ht]
    rw [if_pos (fun h => h.elim hi.1 (fun h => absurd hi.2 (Nat.not_lt.mpr h)))]
end
theorem q_29 : m_mt[29]? = some M_29 := by rfl
theorem q_28 : m_mt[28]? = some M_28 := by rfl
theorem q_25 : m_mt[25]? = some M_25 := by rfl
theorem q_27 : m_mt[27]? = some M_27 := by rfl
theorem q_24 : m_mt[24]? = some M_24 := by rfl
theorem q_26 : m_mt[26]? = some M_26 := by rfl
theorem b_29 : m_bOk M_29 := (m_mt_ok M_29 (List.mem_of_getElem? q_29)).body
theorem b_28 : m_bOk M_28 := (m_mt_ok M_28 (List.mem_of_getElem? q_28)).body
theorem b_25 : m_bOk M_25 := (m_mt_ok M_25 (List.mem_of_getElem? q_25)).body
theorem b_27 : m_bOk M_27 := (m_mt_ok M_27 (List.mem_of_getElem? q_27)).body
theorem b_24 : m_bOk M_24 := (m_mt_ok M_24 (List.mem_of_getElem? q_24)).body
theorem b_26 : m_bOk M_26 := (m_mt_ok M_26 (List.mem_of_getElem? q_26)).body
theorem d_24_0 : m_dn M_24 0 (.aload_n 0) 1 1 := by decide +kernel
theorem d_24_1 : m_dn M_24 1 (.getfield 9) 3 4 := by decide +kernel
theorem d_24_10 : m_dn M_24 10 (.ireturn) 1 11 := by decide +kernel
theorem d_24_4 : m_dn M_24 4 (.arraylength) 1 5 := by decide +kernel
theorem d_24_5 : m_dn M_24 5 (.aload_n 0) 1 6 := by decide +kernel
theorem d_24_6 : m_dn M_24 6 (.invokevirtual 335) 3 9 := by decide +kernel
theorem d_24_9 : m_dn M_24 9 (.ishr) 1 10 := by decide +kernel
theorem d_25_0 : m_dn M_25 0 (.getstatic 38) 3 3 := by decide +kernel
theorem d_25_10 : m_dn M_25 10 (.goto 4) 3 13 := by decide +kernel
theorem d_25_14 : m_dn M_25 14 (.ireturn) 1 15 := by decide +kernel
theorem d_25_3 : m_dn M_25 3 (.ifCond .eq 10) 3 6 := by decide +kernel
theorem d_25_6 : m_dn M_25 6 (.aload_n 0) 1 7 := by decide +kernel
theorem d_25_7 : m_dn M_25 7 (.getfield 15) 3 10 := by decide +kernel
theorem d_26_0 : m_dn M_26 0 (.aload_n 0) 1 1 := by decide +kernel
theorem d_26_1 : m_dn M_26 1 (.invokevirtual 492) 3 4 := by decide +kernel
theorem d_26_11 : m_dn M_26 11 (.iload_n 1) 1 12 := by decide +kernel
theorem d_26_12 : m_dn M_26 12 (.invokestatic 495) 3 15 := by decide +kernel
theorem d_26_15 : m_dn M_26 15 (.ireturn) 1 16 := by decide +kernel
theorem d_26_4 : m_dn M_26 4 (.ifCond .eq 12) 3 7 := by decide +kernel
theorem d_26_7 : m_dn M_26 7 (.aload_n 0) 1 8 := by decide +kernel
theorem d_26_8 : m_dn M_26 8 (.getfield 9) 3 11 := by decide +kernel
theorem d_27_0 : m_dn M_27 0 (.getstatic 38) 3 3 := by decide +kernel
theorem d_27_10 : m_dn M_27 10 (.ifCond .ne 7) 3 13 := by decide +kernel
theorem d_27_13 : m_dn M_27 13 (.iconst 1) 1 14 := by decide +kernel
theorem d_27_14 : m_dn M_27 14 (.goto 4) 3 17 := by decide +kernel
theorem d_27_18 : m_dn M_27 18 (.ireturn) 1 19 := by decide +kernel
theorem d_27_3 : m_dn M_27 3 (.ifCond .eq 14) 3 6 := by decide +kernel
theorem d_27_6 : m_dn M_27 6 (.aload_n 0) 1 7 := by decide +kernel
theorem d_27_7 : m_dn M_27 7 (.getfield 15) 3 10 := by decide +kernel
theorem d_28_0 : m_dn M_28 0 (.iload_n 1) 1 1 := by decide +kernel
theorem d_28_1 : m_dn M_28 1 (.aload_n 0) 1 2 := by decide +kernel
theorem d_28_12 : m_dn M_28 12 (.iand) 1 13 := by decide +kernel
theorem d_28_13 : m_dn M_28 13 (.i2c) 1 14 := by decide +kernel
theorem d_28_14 : m_dn M_28 14 (.ireturn) 1 15 := by decide +kernel
theorem d_28_2 : m_dn M_28 2 (.arraylength) 1 3 := by decide +kernel
theorem d_28_3 : m_dn M_28 3 (.invokestatic 9) 3 6 := by decide +kernel
theorem d_28_6 : m_dn M_28 6 (.aload_n 0) 1 7 := by decide +kernel
theorem d_28_7 : m_dn M_28 7 (.iload_n 1) 1 8 := by decide +kernel
theorem d_28_8 : m_dn M_28 8 (.baload) 1 9 := by decide +kernel
theorem d_28_9 : m_dn M_28 9 (.sipush 255) 3 12 := by decide +kernel
theorem d_29_0 : m_dn M_29 0 (.iload_n 0) 1 1 := by decide +kernel
theorem d_29_1 : m_dn M_29 1 (.iload_n 1) 1 2 := by decide +kernel
theorem d_29_2 : m_dn M_29 2 (.getstatic 1053) 3 5 := by decide +kernel
theorem d_29_5 : m_dn M_29 5 (.invokestatic 1059) 3 8 := by decide +kernel
theorem d_29_8 : m_dn M_29 8 (.pop) 1 9 := by decide +kernel
theorem d_29_9 : m_dn M_29 9 (.return_) 1 10 := by decide +kernel
theorem O_pre {l : Launch} {w : List mM} {i n : Int32} (h1 : m_c1 .lt i = false) (h2 : m_c2 .lt i n = true) : m_Rs l M_30 (m_ent M_30 [.int i, .int n, .retAddr 0] w) (fun v w' => v = some (.int i) ∧ w' = w) 0 0 0 0 := by
  show m_Rs l M_30 (0, [(0, .int i), (1, .int n), (2, .retAddr 0)], [], w) _ 0 0 0 0
  refine m_Rs.n0 b_30 (x_iload_n d_30_0 rfl) ?_
  refine m_Rs.n0 b_30 (x_iff d_30_1 rfl h1) ?_
  refine m_Rs.n0 b_30 (x_iload_n d_30_4 rfl) ?_
  refine m_Rs.n0 b_30 (x_iload_n d_30_5 rfl) ?_
  refine m_Rs.n0 b_30 (x_ict d_30_6 rfl h2) ?_
  refine m_Rs.n0 b_30 (x_iload_n d_30_16 rfl) ?_
  exact m_Rs.ret b_30 (m_rt_ir d_30_17 rfl rfl) ⟨rfl, rfl⟩
theorem O_chk {l : Launch} {w : List mM} {i n : Int32} (h1 : m_c1 .lt i = false) (h2 : m_c2 .lt i n = true) : m_Rs l M_29 (m_ent M_29 [.int i, .int n] w) (fun v w' => v = none ∧ w' = w) 0 0 1 100 := by
  show m_Rs l M_29 (0, [(0, .int i), (1, .int n)], [], w) _ 0 0 1 100
  refine m_Rs.n0 b_29 (x_iload_n d_29_0 rfl) ?_
  refine m_Rs.n0 b_29 (x_iload_n d_29_1 rfl) ?_
  refine m_Rs.n0 b_29 (x_gst d_29_2 rfl) ?_
  refine m_Rs.callE b_29 (y_cs d_29_5 rfl q_30 (show m_takeS _ _ = some (_, [_, _, _], []) from rfl) (by simp only [m_okf, List.all_cons, List.all_nil, Bool.and_true, Bool.and_self, m_okv_i, m_okv_l, m_okv_0, m_okv_t]) rfl) (O_pre h1 h2) rfl ?_ (by decide) (by decide)
  refine m_Rs.n0 b_29 (x_pop d_29_8 rfl) ?_
  exact m_Rs.ret b_29 (m_rt_vr d_29_9 rfl) ⟨rfl, rfl⟩
theorem O_lch {l : Launch} {w : List mM} {t : Nat} {i : Int32} (ht : 1 ≤ t ∧ t ≤ m_sN) (hi : ¬ i < 0 ∧ i.toNatClampNeg < (m_tx t).length) : m_Rs l M_28 (m_ent M_28 [.ref (t + 200), .int i] w) (fun v w' => v = some (.int ((m_tx t).getD i.toNatClampNeg 0)) ∧ w' = w) 0 0 2 200 := by
  show m_Rs l M_28 (0, [(0, .ref (t + 200)), (1, .int i)], [], w) _ 0 0 2 200
  have h1 : m_c1 .lt i = false := decide_eq_false hi.1
  have h2 : m_c2 .lt i (Int32.ofNat (m_tx t).length) = true := m_ix_lt hi (m_tx_len ht)
  refine m_Rs.n0 b_28 (x_iload_n d_28_0 rfl) ?_
  refine m_Rs.n0 b_28 (x_aload_n d_28_1 rfl) ?_
  refine m_Rs.n0 b_28 (x_xlen d_28_2 ht) ?_
  refine m_Rs.callV b_28 (y_cs d_28_3 rfl q_29 (show m_takeS _ _ = some (_, [_, _], []) from rfl) (by simp only [m_okf, List.all_cons, List.all_nil, Bool.and_true, Bool.and_self, m_okv_i, m_okv_l, m_okv_0, m_okv_t, m_okv_out (m_tx_lt2 ht)]) rfl) (O_chk h1 h2) rfl ?_ (by decide) (by decide)
  refine m_Rs.n0 b_28 (x_aload_n d_28_6 rfl) ?_
  refine m_Rs.n0 b_28 (x_iload_n d_28_7 rfl) ?_
  refine m_Rs.n0 b_28 (x_xbal d_28_8 ht hi) ?_
  refine m_Rs.n0 b_28 (x_sipush (z := 255) d_28_9 (by decide)) ?_
  refine m_Rs.n0 b_28 (x_iand d_28_12 rfl) ?_
  refine m_Rs.n0 b_28 (x_i2c d_28_13 rfl) ?_
  refine m_Rs.ret b_28 (m_rt_ir d_28_14 rfl ?_) ?_
  · exact m_tx_c2 ht hi.2
  · exact ⟨by rw [m_tx_c1 ht hi.2], rfl⟩
theorem O_cod {l : Launch} {w : List mM} {t : Nat} (ht : 1 ≤ t ∧ t ≤ m_sN) : m_Rs l M_25 (m_ent M_25 [.ref t] w) (fun v w' => v = some (.int 0) ∧ w' = w) 0 0 0 0 := by
  show m_Rs l M_25 (0, [(0, .ref t)], [], w) _ 0 0 0 0
  refine m_Rs.n0 b_25 (x_gst d_25_0 rfl) ?_
  refine m_Rs.n0 b_25 (x_iff d_25_3 rfl (by decide)) ?_
  refine m_Rs.n0 b_25 (x_aload_n d_25_6 rfl) ?_
  refine m_Rs.n0 b_25 (x_xgc d_25_7 rfl ht) ?_
  refine m_Rs.n0 b_25 (x_goto d_25_10 rfl) ?_
  exact m_Rs.ret b_25 (m_rt_ir d_25_14 rfl rfl) ⟨rfl, rfl⟩
theorem O_isl {l : Launch} {w : List mM} {t : Nat} (ht : 1 ≤ t ∧ t ≤ m_sN) : m_Rs l M_27 (m_ent M_27 [.ref t] w) (fun v w' => v = some (.int 1) ∧ w' = w) 0 0 0 0 := by
  show m_Rs l M_27 (0, [(0, .ref t)], [], w) _ 0 0 0 0
  refine m_Rs.n0 b_27 (x_gst d_27_0 rfl) ?_
  refine m_Rs.n0 b_27 (x_iff d_27_3 rfl (by decide)) ?_
  refine m_Rs.n0 b_27 (x_aload_n d_27_6 rfl) ?_
  refine m_Rs.n0 b_27 (x_xgc d_27_7 rfl ht) ?_
  refine m_Rs.n0 b_27 (x_iff d_27_10 rfl (by decide)) ?_
  refine m_Rs.n0 b_27 (x_iconst (z := 1) d_27_13 (by decide)) ?_
  refine m_Rs.n0 b_27 (x_goto d_27_14 rfl) ?_
  exact m_Rs.ret b_27 (m_rt_ir d_27_18 rfl rfl) ⟨rfl, rfl⟩
theorem O_len {l : Launch} {w : List mM} {t : Nat} {v0 : Int32} (e : xlen t = some v0) : m_Rs l M_24 (m_ent M_24 [.ref t] w) (fun v w' => v = some (.int v0) ∧ w' = w) 0 0 1 100 := by
  obtain ⟨ht, rfl⟩ := xlen_ok e
  show m_Rs l M_24 (0, [(0, .ref t)], [], w) _ 0 0 1 100
  refine m_Rs.n0 b_24 (x_aload_n d_24_0 rfl) ?_
  refine m_Rs.n0 b_24 (x_xgv d_24_1 rfl ht) ?_
  refine m_Rs.n0 b_24 (x_xlen d_24_4 ht) ?_
  refine m_Rs.n0 b_24 (x_aload_n d_24_5 rfl) ?_
  refine m_Rs.callE b_24 (y_cv d_24_6 rfl q_25 (m_isRecv_out rfl ht) (show m_takeI _ _ = some (_, [_], [_]) from rfl) (by simp only [m_okf, List.all_cons, List.all_nil, Bool.and_true, Bool.and_self, m_okv_i, m_okv_l, m_okv_0, m_okv_t, m_okv_out (m_tx_lt ht)]) rfl) (O_cod ht) rfl ?_ (by decide) (by decide)
  refine m_Rs.n0 b_24 (x_ishr d_24_9 rfl) ?_
  exact m_Rs.ret b_24 (m_rt_ir d_24_10 rfl rfl) ⟨by rw [m_shr0], rfl⟩
theorem O_chr {l : Launch} {w : List mM} {t : Nat} {i v0 : Int32} (e : xchr t i = some v0) : m_Rs l M_26 (m_ent M_26 [.ref t, .int i] w) (fun v w' => v = some (.int v0) ∧ w' = w) 0 0 3 300 := by
  obtain ⟨ht, hi, rfl⟩ := xchr_ok e
  show m_Rs l M_26 (0, [(0, .ref t), (1, .int i)], [], w) _ 0 0 3 300
  refine m_Rs.n0 b_26 (x_aload_n d_26_0 rfl) ?_
  refine m_Rs.callE b_26 (y_cv d_26_1 rfl q_27 (m_isRecv_out rfl ht) (show m_takeI _ _ = some (_, [_], []) from rfl) (by simp only [m_okf, List.all_cons, List.all_nil, Bool.and_true, Bool.and_self, m_okv_i, m_okv_l, m_okv_0, m_okv_t, m_okv_out (m_tx_lt ht)]) rfl) (O_isl ht) rfl ?_ (by decide) (by decide)
  refine m_Rs.n0 b_26 (x_iff d_26_4 rfl (by decide)) ?_
  refine m_Rs.n0 b_26 (x_aload_n d_26_7 rfl) ?_
  refine m_Rs.n0 b_26 (x_xgv d_26_8 rfl ht) ?_
  refine m_Rs.n0 b_26 (x_iload_n d_26_11 rfl) ?_
  refine m_Rs.callE b_26 (y_cs d_26_12 rfl q_28 (show m_takeS _ _ = some (_, [_, _], []) from rfl) (by simp only [m_okf, List.all_cons, List.all_nil, Bool.and_true, Bool.and_self, m_okv_i, m_okv_l, m_okv_0, m_okv_t, m_okv_out (m_tx_lt ht), m_okv_out (m_tx_lt2 ht)]) rfl) (O_lch ht hi) rfl ?_ (by decide) (by decide)
  exact m_Rs.ret b_26 (m_rt_ir d_26_15 rfl (m_tx_c3 ht hi.2)) ⟨rfl, rfl⟩
theorem m_Rs.cxlen {l : Launch} {I : mI} {pc pc' k t : Nat} {lv : List (Nat × Value)} {rest : List Value} {w : List mM} {x : Int32} {P : Option Value → List mM → Prop} {c s f lo : Nat} (hI : m_bOk I) (hd : m_dn I pc (.invokevirtual k) 3 pc') (hc : m_ce I k = some (1, 24, 12)) (ho : m_okf (pc, lv, .ref t :: rest, w) = true) (e : xlen t = some x) (kk : m_Rs l I (pc', lv, .int x :: rest, w) P c s f lo) (h8 : (rest.map fun v => v.category).sum ≤ 8) (hf : 2 ≤ f) (hl : 200 ≤ lo) : m_Rs l I (pc, lv, .ref t :: rest, w) P c s f lo := by
  have ht := (xlen_ok e).1
  have h9 : m_takeI M_24 (.ref t :: rest) = some (M_24, [.ref t], rest) := by
    show (if (rest.map fun v => v.category).sum ≤ 8 then some (M_24, [Value.ref t], rest) else none) = _
    rw [if_pos h8]
  have h7 : 8 + (M_24.2.2.1 + 11) ≤ 100 := by decide
  exact m_Rs.callE hI (y_cv hd hc q_24 (m_isRecv_out rfl ht) h9 ho rfl) (O_len e) hd.2 kk hf (Nat.le_trans (Nat.add_le_add_right h7 _) hl)
theorem m_Rs.cxchr {l : Launch} {I : mI} {pc pc' k t : Nat} {i : Int32} {lv : List (Nat × Value)} {rest : List Value} {w : List mM} {x : Int32} {P : Option Value → List mM → Prop} {c s f lo : Nat} (hI : m_bOk I) (hd : m_dn I pc (.invokevirtual k) 3 pc') (hc : m_ce I k = some (1, 26, 12)) (ho : m_okf (pc, lv, .int i :: .ref t :: rest, w) = true) (e : xchr t i = some x) (kk : m_Rs l I (pc', lv, .int x :: rest, w) P c s f lo) (h8 : (rest.map fun v => v.category).sum ≤ 8) (hf : 4 ≤ f) (hl : 400 ≤ lo) : m_Rs l I (pc, lv, .int i :: .ref t :: rest, w) P c s f lo := by
  have ht := (xchr_ok e).1
  have h9 : m_takeI M_26 (.int i :: .ref t :: rest) = some (M_26, [.ref t, .int i], rest) := by
    show (if (rest.map fun v => v.category).sum ≤ 8 then some (M_26, [Value.ref t, Value.int i], rest) else none) = _
    rw [if_pos h8]
  have h7 : 8 + (M_26.2.2.1 + 11) ≤ 100 := by decide
  exact m_Rs.callE hI (y_cv hd hc q_26 (m_isRecv_out rfl ht) h9 ho rfl) (O_chr e) hd.2 kk hf (Nat.le_trans (Nat.add_le_add_right h7 _) hl)
