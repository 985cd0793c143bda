/-! What is thrown on a fresh object. Written by wip/tool/throws.py. -/
theorem q_229 : m_mt[229]? = some M_229 := by rfl
theorem q_234 : m_mt[234]? = some M_234 := by rfl
theorem q_237 : m_mt[237]? = some M_237 := by rfl
theorem d_237_0 : m_dn M_237 0 (.iload_n 1) 1 1 := by decide +kernel
theorem d_237_1 : m_dn M_237 1 (.ifCond .lt 14) 3 4 := by decide +kernel
theorem d_237_12 : m_dn M_237 12 (.if_icmp .lt 13) 3 15 := by decide +kernel
theorem d_237_4 : m_dn M_237 4 (.iload_n 1) 1 5 := by decide +kernel
theorem d_237_5 : m_dn M_237 5 (.aload_n 0) 1 6 := by decide +kernel
theorem d_237_6 : m_dn M_237 6 (.getfield 48) 3 9 := by decide +kernel
theorem d_237_9 : m_dn M_237 9 (.invokevirtual 94) 3 12 := by decide +kernel
theorem d_241_0 : m_dn M_241 0 (.aload_n 0) 1 1 := by decide +kernel
theorem d_241_1 : m_dn M_241 1 (.getfield 155) 3 4 := by decide +kernel
theorem d_241_4 : m_dn M_241 4 (.ireturn) 1 5 := by decide +kernel
theorem d_329_12 : m_dn M_329 12 (.iconst 1) 1 13 := by decide +kernel
theorem d_329_13 : m_dn M_329 13 (.goto 4) 3 16 := by decide +kernel
theorem d_329_27 : m_dn M_329 27 (.iconst 0) 1 28 := by decide +kernel
theorem d_329_28 : m_dn M_329 28 (.ireturn) 1 29 := by decide +kernel
theorem d_336_0 : m_dn M_336 0 (.aload_n 0) 1 1 := by decide +kernel
theorem d_336_1 : m_dn M_336 1 (.iload_n 1) 1 2 := by decide +kernel
theorem d_336_10 : m_dn M_336 10 (.if_icmp .lt 7) 3 13 := by decide +kernel
theorem d_336_13 : m_dn M_336 13 (.iconst 1) 1 14 := by decide +kernel
theorem d_336_14 : m_dn M_336 14 (.goto 18) 3 17 := by decide +kernel
theorem d_336_2 : m_dn M_336 2 (.ifCond .lt 11) 3 5 := by decide +kernel
theorem d_336_32 : m_dn M_336 32 (.putfield 155) 3 35 := by decide +kernel
theorem d_336_35 : m_dn M_336 35 (.aload_n 0) 1 36 := by decide +kernel
theorem d_336_36 : m_dn M_336 36 (.getfield 155) 3 39 := by decide +kernel
theorem d_336_39 : m_dn M_336 39 (.ifCond .eq 5) 3 42 := by decide +kernel
theorem d_336_42 : m_dn M_336 42 (.iconst 0) 1 43 := by decide +kernel
theorem d_336_43 : m_dn M_336 43 (.ireturn) 1 44 := by decide +kernel
theorem d_336_5 : m_dn M_336 5 (.iload_n 1) 1 6 := by decide +kernel
theorem d_336_6 : m_dn M_336 6 (.aload_n 0) 1 7 := by decide +kernel
theorem d_336_7 : m_dn M_336 7 (.getfield 612) 3 10 := by decide +kernel
theorem d_ha_0 : m_dn M_ha 0 (.aload_n 3) 1 1 := by decide +kernel
theorem d_ha_1 : m_dn M_ha 1 (.iconst 0) 1 2 := by decide +kernel
theorem d_ha_2 : m_dn M_ha 2 (.aload_n 0) 1 3 := by decide +kernel
theorem d_ha_3 : m_dn M_ha 3 (.iload_n 1) 1 4 := by decide +kernel
theorem d_ha_4 : m_dn M_ha 4 (.iload_n 2) 1 5 := by decide +kernel
theorem d_ht_0 : m_dn M_ht 0 (.aload_n 2) 1 1 := by decide +kernel
theorem d_ht_1 : m_dn M_ht 1 (.iconst 0) 1 2 := by decide +kernel
theorem d_ht_2 : m_dn M_ht 2 (.aload_n 0) 1 3 := by decide +kernel
theorem d_ht_3 : m_dn M_ht 3 (.iload_n 1) 1 4 := by decide +kernel
theorem d_hu_0 : m_dn M_hu 0 (.aload_n 1) 1 1 := by decide +kernel
theorem d_hu_1 : m_dn M_hu 1 (.iconst 0) 1 2 := by decide +kernel
theorem d_hu_2 : m_dn M_hu 2 (.aload_n 0) 1 3 := by decide +kernel
section
variable {l : Launch} {I J : mI} {F F1 F2 : mF} {c1 s1 f1 l1 c2 s2 f2 l2 : Nat}
theorem m_Step.trans (h1 : m_Step l I F F1 c1 s1 f1 l1) (h2 : m_Step l I F1 F2 c2 s2 f2 l2) : m_Step l I F F2 (c1 + c2) (s1 + s2) (max f1 f2) (max l1 l2) := by
  intro p e R s m args below meth c H locs cells slots ls D dA X A L Q hx hb hml hown hts hnm hK hE hA hS hl hc hs hfr hlo kk
  have hc : cells + (c1 + c2) ≤ R.cells := hc
  have hs : slots + (s1 + s2) ≤ R.slots := hs
  refine h1 p e R s m args below meth c H locs cells slots ls D dA X A L Q hx hb hml hown hts hnm hK hE hA hS hl (by omega) (by omega) (Nat.le_trans (Nat.le_max_left _ _) hfr) (Nat.le_trans (Nat.le_max_left _ _) hlo) (fun H1 locs1 L2 ls1 hS1 hl1 => ?_)
  refine h2 p e R s m args below meth c H1 locs1 (cells + c1) (slots + s1) ls1 D dA X A (L ++ L2) Q hx hb hml hown hts hnm hK hE hA hS1 hl1 (by omega) (by omega) (Nat.le_trans (Nat.le_max_right _ _) hfr) (Nat.le_trans (Nat.le_max_right _ _) hlo) (fun H2 locs2 L3 ls2 hS2 hl2 => ?_)
  have g := kk H2 locs2 (L2 ++ L3) ls2 (by rw [← List.append_assoc]; exact hS2) (by rw [← List.append_assoc]; exact hl2)
  rw [← List.append_assoc, ← Nat.add_assoc, ← Nat.add_assoc] at g
  exact g
theorem m_Step.n0 (hI : m_bOk I) (h : m_nx m_nn I F = some (F1, 0, 0, 0, 0)) (k : m_Step l I F1 F2 c2 s2 f2 l2) : m_Step l I F F2 c2 s2 f2 l2 := by
  have := m_Step.trans (m_nx_sound l hI (fun J G r hJ hr => by cases hr) h) k
  rw [Nat.zero_add, Nat.zero_add, Nat.zero_max, Nat.zero_max] at this
  exact this
theorem m_Step.refl (hI : m_bOk I) : m_Step l I F F 0 0 0 0 := m_stp_step l hI 0 F F 0 0 0 0 rfl
theorem m_Step.call {pc pc' : Nat} {lv : List (Nat × Value)} {st as rest : List Value} {w : List mM} {v0 : Value} {fj lj : Nat} (hI : m_bOk I) (h : m_at1 I (pc, lv, st, w) = some (J, as, rest)) (hq : m_Rq J (m_ent J as w) (fun v w' => v = some v0 ∧ w' = w) 0 0 fj lj) (hp : pc + 3 = pc') (k : m_Step l I (pc', lv, v0 :: rest, w) F2 c2 s2 f2 l2) (hf : fj + 1 ≤ f2) (hl : 8 + (J.2.2.1 + 11) + lj ≤ l2) : m_Step l I (pc, lv, st, w) F2 c2 s2 f2 l2 := by
  obtain ⟨i, hde, hca, hokf, hfit⟩ := m_at1_inv h
  obtain ⟨v, w', ⟨rfl, rfl⟩, h2⟩ := hq.met (m_ca_as hca).2 hfit l
  have g := m_call_step l hI h h2
  subst hp
  have := m_Step.trans g k
  have e1 : max (fj + 1) f2 = f2 := Nat.max_eq_right hf
  have e2 : max (8 + (J.2.2.1 + 11) + lj) l2 = l2 := Nat.max_eq_right hl
  rw [Nat.zero_add, Nat.zero_add] at this
  have this : m_Step l I (pc, lv, st, w') F2 c2 s2 (max (fj + 1) f2) (max (8 + (J.2.2.1 + 11) + lj) l2) := this
  rw [e1, e2] at this
  exact this
theorem m_Step.mono (h : m_Step l I F F2 c1 s1 f1 l1) (hf : f1 ≤ f2) (hl : l1 ≤ l2) : m_Step l I F F2 c1 s1 f2 l2 := by
  intro p e R s m args below meth c H locs cells slots ls D dA X A L Q hx hb hml hown hts hnm hK hE hA hS hl9 hc hs hfr hlo kk
  exact h p e R s m args below meth c H locs cells slots ls D dA X A L Q hx hb hml hown hts hnm hK hE hA hS hl9 hc hs (Nat.le_trans hf hfr) (Nat.le_trans hl hlo) kk
end
theorem x_ca {I J : mI} {k mid ci : Nat} {st as rest : List Value} {w : List mM} (hc : m_ce I k = some (1, mid, ci)) (hJ : m_mt[mid]? = some J) (hr : m_isRecv st w J.2.2.2.1 ci = true) (ht : m_takeI J st = some (J, as, rest)) : m_ca I (.invokevirtual k) st w = some (J, as, rest) := by
  unfold m_ca
  simp only [hc, hJ, if_true, hr, ht]
theorem y_upd_29 : decode M_229.2.1 29 = .ok (.new 84, 3) := by decide +kernel
theorem y_upd_32 : decode M_229.2.1 32 = .ok (.dup, 1) := by decide +kernel
theorem y_upd_33 : decode M_229.2.1 33 = .ok (.ldc 86, 2) := by decide +kernel
theorem y_upd_35 : decode M_229.2.1 35 = .ok (.invokespecial 88, 3) := by decide +kernel
theorem y_upd_38 : decode M_229.2.1 38 = .ok (.athrow, 1) := by decide +kernel
theorem y_upd_x : decode (m_rx 7) 0 = .ok (.aload_n 0, 1) ∧ decode (m_rx 7) 1 = .ok (.aload_n 1, 1) ∧ decode (m_rx 7) 2 = .ok (.invokespecial 7, 3) ∧ decode (m_rx 7) 5 = .ok (.return_, 1) := by decide +kernel
theorem y_upd {l : Launch} (hfl : l.flags = pinnedFlags ++ [noTraceFlag]) {as : List Value} {w w' : List mM} {lv : List (Nat × Value)} {dc ds fr lo : Nat} (hfit : (lg_sl as).length ≤ M_229.2.2.1) (hseg : m_Step l M_229 (m_ent M_229 as w) (29, lv, [], w') dc ds fr lo) (hf : fr ≤ 60) (hl : lo ≤ 6000) : m_MetT l M_229 "java/lang/IllegalArgumentException" as w w' (dc + 1) (ds + 6) 60 6000 :=
  m_MetT_of hfl (m_mt_ok M_229 (List.mem_of_getElem? q_229)) hfit hseg rfl y_upd_29 y_upd_32 y_upd_33 y_upd_35 y_upd_38 (m_gi8 160 rfl rfl) (m_gi1 19 rfl rfl) (m_gi7 86 rfl rfl) (tx := "the tape is no thing") (xi := 1) (by decide +kernel) (by decide +kernel) (by decide +kernel) (by decide +kernel) y_upd_x.1 y_upd_x.2.1 y_upd_x.2.2.1 y_upd_x.2.2.2 m_oa_iae m_ok_iae hf (by decide) hl (by decide)
theorem y_tick_11 : decode M_234.2.1 11 = .ok (.new 84, 3) := by decide +kernel
theorem y_tick_14 : decode M_234.2.1 14 = .ok (.dup, 1) := by decide +kernel
theorem y_tick_15 : decode M_234.2.1 15 = .ok (.ldc 172, 2) := by decide +kernel
theorem y_tick_17 : decode M_234.2.1 17 = .ok (.invokespecial 88, 3) := by decide +kernel
theorem y_tick_20 : decode M_234.2.1 20 = .ok (.athrow, 1) := by decide +kernel
theorem y_tick_x : decode (m_rx 7) 0 = .ok (.aload_n 0, 1) ∧ decode (m_rx 7) 1 = .ok (.aload_n 1, 1) ∧ decode (m_rx 7) 2 = .ok (.invokespecial 7, 3) ∧ decode (m_rx 7) 5 = .ok (.return_, 1) := by decide +kernel
theorem y_tick {l : Launch} (hfl : l.flags = pinnedFlags ++ [noTraceFlag]) {as : List Value} {w w' : List mM} {lv : List (Nat × Value)} {dc ds fr lo : Nat} (hfit : (lg_sl as).length ≤ M_234.2.2.1) (hseg : m_Step l M_234 (m_ent M_234 as w) (11, lv, [], w') dc ds fr lo) (hf : fr ≤ 60) (hl : lo ≤ 6000) : m_MetT l M_234 "java/lang/IllegalArgumentException" as w w' (dc + 1) (ds + 6) 60 6000 :=
  m_MetT_of hfl (m_mt_ok M_234 (List.mem_of_getElem? q_234)) hfit hseg rfl y_tick_11 y_tick_14 y_tick_15 y_tick_17 y_tick_20 (m_gi8 160 rfl rfl) (m_gi1 19 rfl rfl) (m_gi7 86 rfl rfl) (tx := "ticks are 1 to 100") (xi := 2) (by decide +kernel) (by decide +kernel) (by decide +kernel) (by decide +kernel) y_tick_x.1 y_tick_x.2.1 y_tick_x.2.2.1 y_tick_x.2.2.2 m_oa_iae m_ok_iae hf (by decide) hl (by decide)
theorem y_ans_15 : decode M_237.2.1 15 = .ok (.new 220, 3) := by decide +kernel
theorem y_ans_18 : decode M_237.2.1 18 = .ok (.dup, 1) := by decide +kernel
theorem y_ans_19 : decode M_237.2.1 19 = .ok (.ldc 222, 2) := by decide +kernel
theorem y_ans_21 : decode M_237.2.1 21 = .ok (.invokespecial 224, 3) := by decide +kernel
theorem y_ans_24 : decode M_237.2.1 24 = .ok (.athrow, 1) := by decide +kernel
theorem y_ans_x : decode (m_rx 13) 0 = .ok (.aload_n 0, 1) ∧ decode (m_rx 13) 1 = .ok (.aload_n 1, 1) ∧ decode (m_rx 13) 2 = .ok (.invokespecial 13, 3) ∧ decode (m_rx 13) 5 = .ok (.return_, 1) := by decide +kernel
theorem y_ans {l : Launch} (hfl : l.flags = pinnedFlags ++ [noTraceFlag]) {as : List Value} {w w' : List mM} {lv : List (Nat × Value)} {dc ds fr lo : Nat} (hfit : (lg_sl as).length ≤ M_237.2.2.1) (hseg : m_Step l M_237 (m_ent M_237 as w) (15, lv, [], w') dc ds fr lo) (hf : fr ≤ 60) (hl : lo ≤ 6000) : m_MetT l M_237 "java/util/NoSuchElementException" as w w' (dc + 1) (ds + 6) 60 6000 :=
  m_MetT_of hfl (m_mt_ok M_237 (List.mem_of_getElem? q_237)) hfit hseg rfl y_ans_15 y_ans_18 y_ans_19 y_ans_21 y_ans_24 (m_gi8 188 rfl rfl) (m_gi1 32 rfl rfl) (m_gi8 189 rfl rfl) (tx := "no such request") (xi := 3) (by decide +kernel) (by decide +kernel) (by decide +kernel) (by decide +kernel) y_ans_x.1 y_ans_x.2.1 y_ans_x.2.2.1 y_ans_x.2.2.2 m_oa_nse m_ok_nse hf (by decide) hl (by decide)
theorem z_tick_a {l : Launch} {n : Int32} (h0 : n < 1) : m_Step l M_234 (m_ent M_234 [.ref 512, .int n] w_1) (11, [(0, .ref 512), (1, .int n)], [], w_1) 0 0 10 1000 := by
  show m_Step l M_234 (0, [(0, .ref 512), (1, .int n)], [], w_1) _ 0 0 10 1000
  refine m_Step.n0 (m_mt_ok M_234 (List.mem_of_getElem? q_234)).body (x_iload_n d_234_0 rfl) ?_
  refine m_Step.n0 (m_mt_ok M_234 (List.mem_of_getElem? q_234)).body (x_iconst (z := 1) d_234_1 (by decide)) ?_
  refine m_Step.n0 (m_mt_ok M_234 (List.mem_of_getElem? q_234)).body (x_ict d_234_2 rfl (decide_eq_true h0)) ?_
  exact m_Step.mono (m_Step.refl (m_mt_ok M_234 (List.mem_of_getElem? q_234)).body) (by decide) (by decide)
theorem z_tick_b {l : Launch} {n : Int32} (h0 : ¬ n < 1) (h1 : ¬ n ≤ 100) : m_Step l M_234 (m_ent M_234 [.ref 512, .int n] w_1) (11, [(0, .ref 512), (1, .int n)], [], w_1) 0 0 10 1000 := by
  show m_Step l M_234 (0, [(0, .ref 512), (1, .int n)], [], w_1) _ 0 0 10 1000
  refine m_Step.n0 (m_mt_ok M_234 (List.mem_of_getElem? q_234)).body (x_iload_n d_234_0 rfl) ?_
  refine m_Step.n0 (m_mt_ok M_234 (List.mem_of_getElem? q_234)).body (x_iconst (z := 1) d_234_1 (by decide)) ?_
  refine m_Step.n0 (m_mt_ok M_234 (List.mem_of_getElem? q_234)).body (x_icf d_234_2 rfl (decide_eq_false h0)) ?_
  refine m_Step.n0 (m_mt_ok M_234 (List.mem_of_getElem? q_234)).body (x_iload_n d_234_5 rfl) ?_
  refine m_Step.n0 (m_mt_ok M_234 (List.mem_of_getElem? q_234)).body (x_bipush (z := 100) d_234_6 (by decide)) ?_
  refine m_Step.n0 (m_mt_ok M_234 (List.mem_of_getElem? q_234)).body (x_icf d_234_8 rfl (decide_eq_false h1)) ?_
  exact m_Step.mono (m_Step.refl (m_mt_ok M_234 (List.mem_of_getElem? q_234)).body) (by decide) (by decide)
theorem z_ans_a {l : Launch} {k q : Int32} (h0 : k < 0) : m_Step l M_237 (m_ent M_237 [.ref 512, .int k, .int q] w_1) (15, [(0, .ref 512), (1, .int k), (2, .int q)], [], w_1) 0 0 10 1000 := by
  show m_Step l M_237 (0, [(0, .ref 512), (1, .int k), (2, .int q)], [], w_1) _ 0 0 10 1000
  refine m_Step.n0 (m_mt_ok M_237 (List.mem_of_getElem? q_237)).body (x_iload_n d_237_0 rfl) ?_
  refine m_Step.n0 (m_mt_ok M_237 (List.mem_of_getElem? q_237)).body (x_ift d_237_1 rfl (decide_eq_true h0)) ?_
  exact m_Step.mono (m_Step.refl (m_mt_ok M_237 (List.mem_of_getElem? q_237)).body) (by decide) (by decide)
theorem z_ans_b {l : Launch} {k q : Int32} (h0 : ¬ k < 0) : m_Step l M_237 (m_ent M_237 [.ref 512, .int k, .int q] w_1) (15, [(0, .ref 512), (1, .int k), (2, .int q)], [], w_1) 0 0 10 1000 := by
  show m_Step l M_237 (0, [(0, .ref 512), (1, .int k), (2, .int q)], [], w_1) _ 0 0 10 1000
  refine m_Step.n0 (m_mt_ok M_237 (List.mem_of_getElem? q_237)).body (x_iload_n d_237_0 rfl) ?_
  refine m_Step.n0 (m_mt_ok M_237 (List.mem_of_getElem? q_237)).body (x_iff d_237_1 rfl (decide_eq_false h0)) ?_
  refine m_Step.n0 (m_mt_ok M_237 (List.mem_of_getElem? q_237)).body (x_iload_n d_237_4 rfl) ?_
  refine m_Step.n0 (m_mt_ok M_237 (List.mem_of_getElem? q_237)).body (x_aload_n d_237_5 rfl) ?_
  refine m_Step.n0 (m_mt_ok M_237 (List.mem_of_getElem? q_237)).body (x_getf d_237_6 rfl a_512 rfl) ?_
  refine m_Step.call (m_mt_ok M_237 (List.mem_of_getElem? q_237)).body (x_cv (n := 119) d_237_9 rfl q_17 (m_isRecv_of rfl a_524) rfl rfl m_hn1 rfl) (s_size a_524) rfl ?_ (by decide) (by decide)
  refine m_Step.n0 (m_mt_ok M_237 (List.mem_of_getElem? q_237)).body (x_icf d_237_12 rfl (decide_eq_false h0)) ?_
  exact m_Step.mono (m_Step.refl (m_mt_ok M_237 (List.mem_of_getElem? q_237)).body) (by decide) (by decide)
theorem z_hu {l : Launch}  : m_Step l M_hu (m_ent M_hu [.ref 512, .ref 630] w_1) (3, [(0, .ref 512), (1, .ref 630)], [.ref 512, .int 0, .ref 630], w_1) 0 0 0 0 := by
  show m_Step l M_hu (0, [(0, .ref 512), (1, .ref 630)], [], w_1) _ 0 0 0 0
  refine m_Step.n0 m_hu_ok (x_aload_n d_hu_0 rfl) ?_
  refine m_Step.n0 m_hu_ok (x_iconst (z := 0) d_hu_1 (by decide)) ?_
  refine m_Step.n0 m_hu_ok (x_aload_n d_hu_2 rfl) ?_
  exact m_Step.refl m_hu_ok
theorem y_hu_0 : decode M_hu.2.1 3 = .ok (.invokevirtual 7, 3) := by decide +kernel
theorem y_hu_1 : decode M_hu.2.1 11 = .ok (.astore_n 2, 1) := by decide +kernel
theorem y_hu_2 : decode M_hu.2.1 12 = .ok (.iconst 1, 1) := by decide +kernel
theorem y_hu_3 : decode M_hu.2.1 13 = .ok (.ireturn, 1) := by decide +kernel
theorem w_hu {l : Launch}  {w' : List mM} {mc ms : Nat} (hM : m_MetT l M_229 "java/lang/IllegalArgumentException" [.ref 512] w_1 w' mc ms 60 6000) : m_MetW l M_hu [(0, 8, 11, 13)] [.ref 512, .ref 630] w_1 (some (.int 1), w', 0 + mc, 0 + ms, 100, 8000) :=
  m_MetW_thr (by decide) (Nat.le_of_ble_eq_true rfl) m_hu_ok z_hu y_hu_0 (x_ca rfl q_229 (m_isRecv_of rfl a_512) rfl) hM (Nat.le_of_ble_eq_true rfl) (Nat.le_of_ble_eq_true rfl) (by decide) (m_gi8 83 rfl rfl) (List.mem_filter.mpr ⟨m_in7 (List.mem_of_getElem? (i := 87) rfl), rfl⟩) rfl (Or.inl ⟨2, rfl, y_hu_1, rfl⟩) (by decide) y_hu_2 (by decide) y_hu_3 (by decide) (by decide) (by decide) (by decide)
theorem z_ht {l : Launch} {n : Int32} : m_Step l M_ht (m_ent M_ht [.ref 512, .int n, .ref 630] w_1) (4, [(0, .ref 512), (1, .int n), (2, .ref 630)], [.int n, .ref 512, .int 0, .ref 630], w_1) 0 0 0 0 := by
  show m_Step l M_ht (0, [(0, .ref 512), (1, .int n), (2, .ref 630)], [], w_1) _ 0 0 0 0
  refine m_Step.n0 m_ht_ok (x_aload_n d_ht_0 rfl) ?_
  refine m_Step.n0 m_ht_ok (x_iconst (z := 0) d_ht_1 (by decide)) ?_
  refine m_Step.n0 m_ht_ok (x_aload_n d_ht_2 rfl) ?_
  refine m_Step.n0 m_ht_ok (x_iload_n d_ht_3 rfl) ?_
  exact m_Step.refl m_ht_ok
theorem y_ht_0 : decode M_ht.2.1 4 = .ok (.invokevirtual 15, 3) := by decide +kernel
theorem y_ht_1 : decode M_ht.2.1 12 = .ok (.astore_n 3, 1) := by decide +kernel
theorem y_ht_2 : decode M_ht.2.1 13 = .ok (.iconst 1, 1) := by decide +kernel
theorem y_ht_3 : decode M_ht.2.1 14 = .ok (.ireturn, 1) := by decide +kernel
theorem w_ht {l : Launch} {n : Int32} {w' : List mM} {mc ms : Nat} (hM : m_MetT l M_234 "java/lang/IllegalArgumentException" [.ref 512, .int n] w_1 w' mc ms 60 6000) : m_MetW l M_ht [(0, 9, 12, 13)] [.ref 512, .int n, .ref 630] w_1 (some (.int 1), w', 0 + mc, 0 + ms, 100, 8000) :=
  m_MetW_thr (by decide) (Nat.le_of_ble_eq_true rfl) m_ht_ok z_ht y_ht_0 (x_ca rfl q_234 (m_isRecv_of rfl a_512) rfl) hM (Nat.le_of_ble_eq_true rfl) (Nat.le_of_ble_eq_true rfl) (by decide) (m_gi8 83 rfl rfl) (List.mem_filter.mpr ⟨m_in7 (List.mem_of_getElem? (i := 87) rfl), rfl⟩) rfl (Or.inl ⟨3, rfl, y_ht_1, rfl⟩) (by decide) y_ht_2 (by decide) y_ht_3 (by decide) (by decide) (by decide) (by decide)
theorem z_ha {l : Launch} {k q : Int32} : m_Step l M_ha (m_ent M_ha [.ref 512, .int k, .int q, .ref 630] w_1) (5, [(0, .ref 512), (1, .int k), (2, .int q), (3, .ref 630)], [.int q, .int k, .ref 512, .int 0, .ref 630], w_1) 0 0 0 0 := by
  show m_Step l M_ha (0, [(0, .ref 512), (1, .int k), (2, .int q), (3, .ref 630)], [], w_1) _ 0 0 0 0
  refine m_Step.n0 m_ha_ok (x_aload_n d_ha_0 rfl) ?_
  refine m_Step.n0 m_ha_ok (x_iconst (z := 0) d_ha_1 (by decide)) ?_
  refine m_Step.n0 m_ha_ok (x_aload_n d_ha_2 rfl) ?_
  refine m_Step.n0 m_ha_ok (x_iload_n d_ha_3 rfl) ?_
  refine m_Step.n0 m_ha_ok (x_iload_n d_ha_4 rfl) ?_
  exact m_Step.refl m_ha_ok
theorem y_ha_0 : decode M_ha.2.1 5 = .ok (.invokevirtual 19, 3) := by decide +kernel
theorem y_ha_1 : decode M_ha.2.1 13 = .ok (.astore 4, 2) := by decide +kernel
theorem y_ha_2 : decode M_ha.2.1 15 = .ok (.iconst 1, 1) := by decide +kernel
theorem y_ha_3 : decode M_ha.2.1 16 = .ok (.ireturn, 1) := by decide +kernel
theorem w_ha {l : Launch} {k q : Int32} {w' : List mM} {mc ms : Nat} (hM : m_MetT l M_237 "java/util/NoSuchElementException" [.ref 512, .int k, .int q] w_1 w' mc ms 60 6000) : m_MetW l M_ha [(0, 10, 13, 23), (0, 10, 17, 25)] [.ref 512, .int k, .int q, .ref 630] w_1 (some (.int 1), w', 0 + mc, 0 + ms, 100, 8000) :=
  m_MetW_thr (by decide) (Nat.le_of_ble_eq_true rfl) m_ha_ok z_ha y_ha_0 (x_ca rfl q_237 (m_isRecv_of rfl a_512) rfl) hM (Nat.le_of_ble_eq_true rfl) (Nat.le_of_ble_eq_true rfl) (by decide) (m_gi8 182 rfl rfl) (List.mem_filter.mpr ⟨m_in8 (List.mem_of_getElem? (i := 190) rfl), rfl⟩) rfl (Or.inr ⟨y_ha_1, rfl⟩) (by decide) y_ha_2 (by decide) y_ha_3 (by decide) (by decide) (by decide) (by decide)
def f_h (t : Int32) : List Value := [.int t, .ref 584, .int 0, .int (-1), .int 0, .int 0, .int 0, .int 0, .int 0, .int 0, .int 0, .int 0, .int 0, .int 0, .int 0, .int 0, .int 0, .int 0, .int 0, .int 0, .int 0, .ref 585, .ref 586, .int 0, .int 0, .int 0, .int 0, .int 0, .int 0, .int 0, .int 0, .int 0, .ref 587, .ref 588, .ref 589, .ref 590, .int 0, .int 0, .int 0, .int 0, .ref 591, .ref 592, .ref 593, .ref 594, .ref 595, .ref 596, .ref 597, .ref 598, .ref 599, .ref 600, .ref 601, .ref 602, .ref 603, .ref 604, .ref 605, .ref 606, .ref 607, .ref 608, .int 0, .ref 609, .ref 610, .ref 611, .ref 612, .ref 613, .ref 614, .ref 615, .ref 616, .ref 617, .ref 618, .ref 619, .int 0, .int 0, .ref 620, .ref 621, .int 0, .ref 622, .ref 623, .int 0, .ref 624, .ref 625, .int 0, .int 0, .int 0, .ref 626, .int 0, .int 0, .int 0, .int 0, .ref 627, .ref 628, .ref 629, .int 0]
theorem wfH : m_wf 583 [] [] = true := by decide
theorem e_tick_a {n : Int32} (h0 : n < 1) {w : List mM} (h : m_FW 583 14 (f_h 0) [] [] w) : m_Rq M_329 (m_ent M_329 [.ref 583, .int n] w) (fun v w => v = some (.int 0) ∧ m_FW 583 14 (f_h 1) [] [] w) 0 0 0 0 := by
  show m_Rq M_329 (0, [(0, .ref 583), (1, .int n)], [], w) _ 0 0 0 0
  refine m_Rq.n0 (x_aload_n d_329_0 rfl) ?_
  refine m_Rq.n0 (x_iload_n d_329_1 rfl) ?_
  refine m_Rq.n0 (x_iconst (z := 1) d_329_2 (by decide)) ?_
  refine m_Rq.n0 (x_ict d_329_3 rfl (decide_eq_true h0)) ?_
  refine m_Rq.n0 (x_iconst (z := 1) d_329_12 (by decide)) ?_
  refine m_Rq.n0 (x_goto d_329_13 rfl) ?_
  refine m_Rq.fwP (fs' := f_h 1) d_329_17 wfH h rfl rfl (by decide) rfl rfl rfl rfl (fun w h => ?_)
  refine m_Rq.n0 (x_aload_n d_329_20 rfl) ?_
  refine m_Rq.n0 (x_getf d_329_21 rfl h.2.1 rfl) ?_
  refine m_Rq.n0 (x_iff d_329_24 rfl (by decide)) ?_
  refine m_Rq.n0 (x_iconst (z := 0) d_329_27 (by decide)) ?_
  refine m_Rq.ir d_329_28 rfl rfl ?_
  exact ⟨rfl, h⟩
theorem e_tick_b {n : Int32} (h0 : ¬ n < 1) (h1 : ¬ n ≤ 100) {w : List mM} (h : m_FW 583 14 (f_h 0) [] [] w) : m_Rq M_329 (m_ent M_329 [.ref 583, .int n] w) (fun v w => v = some (.int 0) ∧ m_FW 583 14 (f_h 1) [] [] w) 0 0 0 0 := by
  show m_Rq M_329 (0, [(0, .ref 583), (1, .int n)], [], w) _ 0 0 0 0
  refine m_Rq.n0 (x_aload_n d_329_0 rfl) ?_
  refine m_Rq.n0 (x_iload_n d_329_1 rfl) ?_
  refine m_Rq.n0 (x_iconst (z := 1) d_329_2 (by decide)) ?_
  refine m_Rq.n0 (x_icf d_329_3 rfl (decide_eq_false h0)) ?_
  refine m_Rq.n0 (x_iload_n d_329_6 rfl) ?_
  refine m_Rq.n0 (x_bipush (z := 100) d_329_7 (by decide)) ?_
  refine m_Rq.n0 (x_icf d_329_9 rfl (decide_eq_false h1)) ?_
  refine m_Rq.n0 (x_iconst (z := 1) d_329_12 (by decide)) ?_
  refine m_Rq.n0 (x_goto d_329_13 rfl) ?_
  refine m_Rq.fwP (fs' := f_h 1) d_329_17 wfH h rfl rfl (by decide) rfl rfl rfl rfl (fun w h => ?_)
  refine m_Rq.n0 (x_aload_n d_329_20 rfl) ?_
  refine m_Rq.n0 (x_getf d_329_21 rfl h.2.1 rfl) ?_
  refine m_Rq.n0 (x_iff d_329_24 rfl (by decide)) ?_
  refine m_Rq.n0 (x_iconst (z := 0) d_329_27 (by decide)) ?_
  refine m_Rq.ir d_329_28 rfl rfl ?_
  exact ⟨rfl, h⟩
theorem e_ans_a {k q : Int32} (h0 : k < 0) {w : List mM} (h : m_FW 583 14 (f_h 0) [] [] w) : m_Rq M_336 (m_ent M_336 [.ref 583, .int k, .int q] w) (fun v w => v = some (.int 0) ∧ m_FW 583 14 (f_h 1) [] [] w) 0 0 0 0 := by
  show m_Rq M_336 (0, [(0, .ref 583), (1, .int k), (2, .int q)], [], w) _ 0 0 0 0
  refine m_Rq.n0 (x_aload_n d_336_0 rfl) ?_
  refine m_Rq.n0 (x_iload_n d_336_1 rfl) ?_
  refine m_Rq.n0 (x_ift d_336_2 rfl (decide_eq_true h0)) ?_
  refine m_Rq.n0 (x_iconst (z := 1) d_336_13 (by decide)) ?_
  refine m_Rq.n0 (x_goto d_336_14 rfl) ?_
  refine m_Rq.fwP (fs' := f_h 1) d_336_32 wfH h rfl rfl (by decide) rfl rfl rfl rfl (fun w h => ?_)
  refine m_Rq.n0 (x_aload_n d_336_35 rfl) ?_
  refine m_Rq.n0 (x_getf d_336_36 rfl h.2.1 rfl) ?_
  refine m_Rq.n0 (x_iff d_336_39 rfl (by decide)) ?_
  refine m_Rq.n0 (x_iconst (z := 0) d_336_42 (by decide)) ?_
  refine m_Rq.ir d_336_43 rfl rfl ?_
  exact ⟨rfl, h⟩
theorem e_ans_b {k q : Int32} (h0 : ¬ k < 0) {w : List mM} (h : m_FW 583 14 (f_h 0) [] [] w) : m_Rq M_336 (m_ent M_336 [.ref 583, .int k, .int q] w) (fun v w => v = some (.int 0) ∧ m_FW 583 14 (f_h 1) [] [] w) 0 0 0 0 := by
  show m_Rq M_336 (0, [(0, .ref 583), (1, .int k), (2, .int q)], [], w) _ 0 0 0 0
  refine m_Rq.n0 (x_aload_n d_336_0 rfl) ?_
  refine m_Rq.n0 (x_iload_n d_336_1 rfl) ?_
  refine m_Rq.n0 (x_iff d_336_2 rfl (decide_eq_false h0)) ?_
  refine m_Rq.n0 (x_iload_n d_336_5 rfl) ?_
  refine m_Rq.n0 (x_aload_n d_336_6 rfl) ?_
  refine m_Rq.n0 (x_getf d_336_7 rfl h.2.1 rfl) ?_
  refine m_Rq.n0 (x_icf d_336_10 rfl (decide_eq_false h0)) ?_
  refine m_Rq.n0 (x_iconst (z := 1) d_336_13 (by decide)) ?_
  refine m_Rq.n0 (x_goto d_336_14 rfl) ?_
  refine m_Rq.fwP (fs' := f_h 1) d_336_32 wfH h rfl rfl (by decide) rfl rfl rfl rfl (fun w h => ?_)
  refine m_Rq.n0 (x_aload_n d_336_35 rfl) ?_
  refine m_Rq.n0 (x_getf d_336_36 rfl h.2.1 rfl) ?_
  refine m_Rq.n0 (x_iff d_336_39 rfl (by decide)) ?_
  refine m_Rq.n0 (x_iconst (z := 0) d_336_42 (by decide)) ?_
  refine m_Rq.ir d_336_43 rfl rfl ?_
  exact ⟨rfl, h⟩
theorem s_thrown_h {t : Int32} {w : List mM} (h : m_at w 583 = some (.inr (14, f_h t))) : m_Rq M_241 (m_ent M_241 [.ref 583] w) (fun v w' => v = some (.int t) ∧ w' = w) 0 0 0 0 := by
  show m_Rq M_241 (0, [(0, .ref 583)], [], w) _ 0 0 0 0
  refine m_Rq.n0 (x_aload_n d_241_0 rfl) ?_
  refine m_Rq.n0 (x_getf d_241_1 rfl h rfl) ?_
  refine m_Rq.ir d_241_4 rfl rfl ?_
  exact ⟨rfl, rfl⟩
theorem s_thrown_m {c : Int32} {w : List mM} (h : m_at w 583 = some (.inr (14, f_m c))) : m_Rq M_241 (m_ent M_241 [.ref 583] w) (fun v w' => v = some (.int 0) ∧ w' = w) 0 0 0 0 := by
  show m_Rq M_241 (0, [(0, .ref 583)], [], w) _ 0 0 0 0
  refine m_Rq.n0 (x_aload_n d_241_0 rfl) ?_
  refine m_Rq.n0 (x_getf d_241_1 rfl h rfl) ?_
  refine m_Rq.ir d_241_4 rfl rfl ?_
  exact ⟨rfl, rfl⟩
theorem m_FW_H : m_FW 583 14 (f_h 0) [] [] w_1 := ⟨m_hn1, a_583, fun q hq => absurd hq List.not_mem_nil, fun q hq => absurd hq List.not_mem_nil⟩
def m_ku (q : Option (mF × Nat × Nat × Nat × Nat)) : Bool := match q with
  | some q => (match q.1.2.2.1 with
    | [] => true
    | _ => false) && m_mdl q.1.2.2.2 && decide (q.2.1 ≤ 100) && decide (q.2.2.1 ≤ 10000) && decide (q.2.2.2.1 ≤ 60) && decide (q.2.2.2.2 ≤ 6000) && (match m_exec 3000 M_243 (m_ent M_243 [.ref 583] q.1.2.2.2) with
      | some r => (match r.1 with
        | some (.int _) => true
        | _ => false) && m_mdl r.2.1 && m_rb r 100 10000 && (match m_exec 50 M_241 (m_ent M_241 [.ref 583] r.2.1) with
          | some t => (match t.1 with
            | some (.int 1) => true
            | _ => false) && m_rb t 100 10000
          | none => false)
      | none => false)
  | none => false
theorem k_upd : m_ku (m_seg 29 3000 100 M_229 (m_ent M_229 [.ref 512] w_1)) = true := by decide +kernel
theorem m_ku_of {q : Option (mF × Nat × Nat × Nat × Nat)} (h : m_ku q = true) : ∃ (F : mF) (dc ds fr lo : Nat), q = some (F, dc, ds, fr, lo) ∧ F.2.2.1 = [] ∧ m_mdl F.2.2.2 = true ∧ dc ≤ 100 ∧ ds ≤ 10000 ∧ fr ≤ 60 ∧ lo ≤ 6000 ∧ ∃ (b : Int32) (w2 : List mM), m_mdl w2 = true ∧ m_Rq M_243 (m_ent M_243 [.ref 583] F.2.2.2) (fun v w => v = some (.int b) ∧ w = w2) 100 10000 100 20000 ∧ m_Rq M_241 (m_ent M_241 [.ref 583] w2) (fun v _ => v = some (.int 1)) 100 10000 100 20000 := by
  unfold m_ku at h
  split at h
  · rename_i q
    obtain ⟨F, dc, ds, fr, lo⟩ := q
    simp only [Bool.and_eq_true, decide_eq_true_eq] at h
    obtain ⟨⟨⟨⟨⟨⟨h1, h2⟩, h3⟩, h4⟩, h5⟩, h6⟩, h7⟩ := h
    refine ⟨F, dc, ds, fr, lo, rfl, ?_, h2, h3, h4, h5, h6, ?_⟩
    · split at h1
      · rename_i e; exact e
      · cases h1
    · split at h7
      · rename_i r hr
        simp only [Bool.and_eq_true] at h7
        obtain ⟨⟨⟨g1, g2⟩, g3⟩, g4⟩ := h7
        split at g4
        · rename_i t ht
          simp only [Bool.and_eq_true] at g4
          obtain ⟨i1, i2⟩ := g4
          unfold m_rb at g3 i2
          simp only [Bool.and_eq_true, decide_eq_true_eq] at g3 i2
          split at g1
          · rename_i b hb
            split at i1
            · rename_i e
              exact ⟨b, r.2.1, g2, ⟨3000, r, hr, ⟨hb, rfl⟩, g3.1.1.1, g3.1.1.2, g3.1.2, g3.2⟩, ⟨50, t, ht, e, i2.1.1.1, i2.1.1.2, i2.1.2, i2.2⟩⟩
            · cases i1
          · cases g1
        · cases g4
      · cases h7
  · cases h
