/-! What is thrown, for any state. Written by wip/tool/thrw.py. -/
section
variable {l : Launch} {I J : mI} {F F1 F2 : mF} {c1 s1 f1 l1 c2 s2 f2 l2 : Nat}
theorem m_Step.trans (h1 : m_Step l I F F1 c1 s1 f1 l1) (h2 : m_Step l I F1 F2 c2 s2 f2 l2) : m_Step l I F F2 (c1 + c2) (s1 + s2) (max f1 f2) (max l1 l2) := by
  intro p e R s m args below meth c H locs cells slots ls D dA X A L Q hx hb hml hown hts hnm hK hE hA hS hl hc hs hfr hlo kk
  have hc : cells + (c1 + c2) ≤ R.cells := hc
  have hs : slots + (s1 + s2) ≤ R.slots := hs
  refine h1 p e R s m args below meth c H locs cells slots ls D dA X A L Q hx hb hml hown hts hnm hK hE hA hS hl (by omega) (by omega) (Nat.le_trans (Nat.le_max_left _ _) hfr) (Nat.le_trans (Nat.le_max_left _ _) hlo) (fun H1 locs1 L2 ls1 hS1 hl1 => ?_)
  refine h2 p e R s m args below meth c H1 locs1 (cells + c1) (slots + s1) ls1 D dA X A (L ++ L2) Q hx hb hml hown hts hnm hK hE hA hS1 hl1 (by omega) (by omega) (Nat.le_trans (Nat.le_max_right _ _) hfr) (Nat.le_trans (Nat.le_max_right _ _) hlo) (fun H2 locs2 L3 ls2 hS2 hl2 => ?_)
  have g := kk H2 locs2 (L2 ++ L3) ls2 (by rw [← List.append_assoc]; exact hS2) (by rw [← List.append_assoc]; exact hl2)
  rw [← List.append_assoc, ← Nat.add_assoc, ← Nat.add_assoc] at g
  exact g
theorem m_Step.n0 (hI : m_bOk I) (h : m_nx m_nn I F = some (F1, 0, 0, 0, 0)) (k : m_Step l I F1 F2 c2 s2 f2 l2) : m_Step l I F F2 c2 s2 f2 l2 := by
  have := m_Step.trans (m_nx_sound l hI (fun J G r hJ hr => by cases hr) h) k
  rw [Nat.zero_add, Nat.zero_add, Nat.zero_max, Nat.zero_max] at this
  exact this
theorem m_Step.refl (hI : m_bOk I) : m_Step l I F F 0 0 0 0 := m_stp_step l hI 0 F F 0 0 0 0 rfl
theorem m_Step.callR {pc pc' : Nat} {lv : List (Nat × Value)} {st as rest : List Value} {w : List mM} {P : Option Value → List mM → Prop} {c s f lo : Nat} (hI : m_bOk I) (h : m_at1 I (pc, lv, st, w) = some (J, as, rest)) (hq : m_Rs l J (m_ent J as w) P c s f lo) (hp : pc + 3 = pc') : ∃ v w', P v w' ∧ m_Step l I (pc, lv, st, w) (pc', lv, v.toList ++ rest, w') c s (f + 1) (8 + (J.2.2.1 + 11) + lo) := by
  subst hp
  obtain ⟨i, hde, hca, hokf, hfit⟩ := m_at1_inv h
  obtain ⟨v, w', h1, h2⟩ := hq
  exact ⟨v, w', h1, m_call_step l hI h (m_Met_of (m_mt_ok J (m_ca_as hca).2) hfit h2)⟩
theorem m_Step.mono (h : m_Step l I F F2 c1 s1 f1 l1) (hf : f1 ≤ f2) (hl : l1 ≤ l2) : m_Step l I F F2 c1 s1 f2 l2 := by
  intro p e R s m args below meth c H locs cells slots ls D dA X A L Q hx hb hml hown hts hnm hK hE hA hS hl9 hc hs hfr hlo kk
  exact h p e R s m args below meth c H locs cells slots ls D dA X A L Q hx hb hml hown hts hnm hK hE hA hS hl9 hc hs (Nat.le_trans hf hfr) (Nat.le_trans hl hlo) kk
end
theorem x_ca {I J : mI} {k mid ci : Nat} {st as rest : List Value} {w : List mM} (hc : m_ce I k = some (1, mid, ci)) (hJ : m_mt[mid]? = some J) (hr : m_isRecv st w J.2.2.2.1 ci = true) (ht : m_takeI J st = some (J, as, rest)) : m_ca I (.invokevirtual k) st w = some (J, as, rest) := by
  unfold m_ca
  simp only [hc, hJ, if_true, hr, ht]
theorem y_upd_29 : decode M_229.2.1 29 = .ok (.new 84, 3) := by decide +kernel
theorem y_upd_32 : decode M_229.2.1 32 = .ok (.dup, 1) := by decide +kernel
theorem y_upd_33 : decode M_229.2.1 33 = .ok (.ldc 86, 2) := by decide +kernel
theorem y_upd_35 : decode M_229.2.1 35 = .ok (.invokespecial 88, 3) := by decide +kernel
theorem y_upd_38 : decode M_229.2.1 38 = .ok (.athrow, 1) := by decide +kernel
theorem y_upd_x : decode (m_rx 7) 0 = .ok (.aload_n 0, 1) ∧ decode (m_rx 7) 1 = .ok (.aload_n 1, 1) ∧ decode (m_rx 7) 2 = .ok (.invokespecial 7, 3) ∧ decode (m_rx 7) 5 = .ok (.return_, 1) := by decide +kernel
theorem y_upd {l : Launch} (hfl : l.flags = pinnedFlags ++ [noTraceFlag]) {as : List Value} {w w' : List mM} {lv : List (Nat × Value)} {dc ds fr lo : Nat} (hfit : (lg_sl as).length ≤ M_229.2.2.1) (hseg : m_Step l M_229 (m_ent M_229 as w) (29, lv, [], w') dc ds fr lo) (hf : fr ≤ 60) (hl : lo ≤ 6000) : m_MetT l M_229 "java/lang/IllegalArgumentException" as w w' (dc + 1) (ds + 6) 60 6000 :=
  m_MetT_of hfl (m_mt_ok M_229 (List.mem_of_getElem? q_229)) hfit hseg rfl y_upd_29 y_upd_32 y_upd_33 y_upd_35 y_upd_38 (m_gi8 160 rfl rfl) (m_gi1 19 rfl rfl) (m_gi7 86 rfl rfl) (tx := "the tape is no thing") (xi := 1) (by decide +kernel) (by decide +kernel) (by decide +kernel) (by decide +kernel) y_upd_x.1 y_upd_x.2.1 y_upd_x.2.2.1 y_upd_x.2.2.2 m_oa_iae m_ok_iae hf (by decide) hl (by decide)
theorem y_tick_11 : decode M_234.2.1 11 = .ok (.new 84, 3) := by decide +kernel
theorem y_tick_14 : decode M_234.2.1 14 = .ok (.dup, 1) := by decide +kernel
theorem y_tick_15 : decode M_234.2.1 15 = .ok (.ldc 172, 2) := by decide +kernel
theorem y_tick_17 : decode M_234.2.1 17 = .ok (.invokespecial 88, 3) := by decide +kernel
theorem y_tick_20 : decode M_234.2.1 20 = .ok (.athrow, 1) := by decide +kernel
theorem y_tick_x : decode (m_rx 7) 0 = .ok (.aload_n 0, 1) ∧ decode (m_rx 7) 1 = .ok (.aload_n 1, 1) ∧ decode (m_rx 7) 2 = .ok (.invokespecial 7, 3) ∧ decode (m_rx 7) 5 = .ok (.return_, 1) := by decide +kernel
theorem y_tick {l : Launch} (hfl : l.flags = pinnedFlags ++ [noTraceFlag]) {as : List Value} {w w' : List mM} {lv : List (Nat × Value)} {dc ds fr lo : Nat} (hfit : (lg_sl as).length ≤ M_234.2.2.1) (hseg : m_Step l M_234 (m_ent M_234 as w) (11, lv, [], w') dc ds fr lo) (hf : fr ≤ 60) (hl : lo ≤ 6000) : m_MetT l M_234 "java/lang/IllegalArgumentException" as w w' (dc + 1) (ds + 6) 60 6000 :=
  m_MetT_of hfl (m_mt_ok M_234 (List.mem_of_getElem? q_234)) hfit hseg rfl y_tick_11 y_tick_14 y_tick_15 y_tick_17 y_tick_20 (m_gi8 160 rfl rfl) (m_gi1 19 rfl rfl) (m_gi7 86 rfl rfl) (tx := "ticks are 1 to 100") (xi := 2) (by decide +kernel) (by decide +kernel) (by decide +kernel) (by decide +kernel) y_tick_x.1 y_tick_x.2.1 y_tick_x.2.2.1 y_tick_x.2.2.2 m_oa_iae m_ok_iae hf (by decide) hl (by decide)
theorem y_ans_15 : decode M_237.2.1 15 = .ok (.new 220, 3) := by decide +kernel
theorem y_ans_18 : decode M_237.2.1 18 = .ok (.dup, 1) := by decide +kernel
theorem y_ans_19 : decode M_237.2.1 19 = .ok (.ldc 222, 2) := by decide +kernel
theorem y_ans_21 : decode M_237.2.1 21 = .ok (.invokespecial 224, 3) := by decide +kernel
theorem y_ans_24 : decode M_237.2.1 24 = .ok (.athrow, 1) := by decide +kernel
theorem y_ans_x : decode (m_rx 13) 0 = .ok (.aload_n 0, 1) ∧ decode (m_rx 13) 1 = .ok (.aload_n 1, 1) ∧ decode (m_rx 13) 2 = .ok (.invokespecial 13, 3) ∧ decode (m_rx 13) 5 = .ok (.return_, 1) := by decide +kernel
theorem y_ans {l : Launch} (hfl : l.flags = pinnedFlags ++ [noTraceFlag]) {as : List Value} {w w' : List mM} {lv : List (Nat × Value)} {dc ds fr lo : Nat} (hfit : (lg_sl as).length ≤ M_237.2.2.1) (hseg : m_Step l M_237 (m_ent M_237 as w) (15, lv, [], w') dc ds fr lo) (hf : fr ≤ 60) (hl : lo ≤ 6000) : m_MetT l M_237 "java/util/NoSuchElementException" as w w' (dc + 1) (ds + 6) 60 6000 :=
  m_MetT_of hfl (m_mt_ok M_237 (List.mem_of_getElem? q_237)) hfit hseg rfl y_ans_15 y_ans_18 y_ans_19 y_ans_21 y_ans_24 (m_gi8 188 rfl rfl) (m_gi1 32 rfl rfl) (m_gi8 189 rfl rfl) (tx := "no such request") (xi := 3) (by decide +kernel) (by decide +kernel) (by decide +kernel) (by decide +kernel) y_ans_x.1 y_ans_x.2.1 y_ans_x.2.2.1 y_ans_x.2.2.2 m_oa_nse m_ok_nse hf (by decide) hl (by decide)
theorem y_an2_35 : decode M_237.2.1 35 = .ok (.new 225, 3) := by decide +kernel
theorem y_an2_38 : decode M_237.2.1 38 = .ok (.dup, 1) := by decide +kernel
theorem y_an2_39 : decode M_237.2.1 39 = .ok (.ldc 227, 2) := by decide +kernel
theorem y_an2_41 : decode M_237.2.1 41 = .ok (.invokespecial 229, 3) := by decide +kernel
theorem y_an2_44 : decode M_237.2.1 44 = .ok (.athrow, 1) := by decide +kernel
theorem y_an2_x : decode (m_rx 7) 0 = .ok (.aload_n 0, 1) ∧ decode (m_rx 7) 1 = .ok (.aload_n 1, 1) ∧ decode (m_rx 7) 2 = .ok (.invokespecial 7, 3) ∧ decode (m_rx 7) 5 = .ok (.return_, 1) := by decide +kernel
theorem y_an2 {l : Launch} (hfl : l.flags = pinnedFlags ++ [noTraceFlag]) {as : List Value} {w w' : List mM} {lv : List (Nat × Value)} {dc ds fr lo : Nat} (hfit : (lg_sl as).length ≤ M_237.2.2.1) (hseg : m_Step l M_237 (m_ent M_237 as w) (35, lv, [], w') dc ds fr lo) (hf : fr ≤ 60) (hl : lo ≤ 6000) : m_MetT l M_237 "java/lang/IndexOutOfBoundsException" as w w' (dc + 1) (ds + 6) 60 6000 :=
  m_MetT_of hfl (m_mt_ok M_237 (List.mem_of_getElem? q_237)) hfit hseg rfl y_an2_35 y_an2_38 y_an2_39 y_an2_41 y_an2_44 (m_gi8 204 rfl rfl) (m_gi1 33 rfl rfl) (m_gi8 205 rfl rfl) (tx := "what is 0 to 8") (xi := 4) (by decide +kernel) (by decide +kernel) (by decide +kernel) (by decide +kernel) y_an2_x.1 y_an2_x.2.1 y_an2_x.2.2.1 y_an2_x.2.2.2 m_oa_ioo m_ok_ioo hf (by decide) hl (by decide)
theorem g_iae : Cond.classLink "EdgeHouseLaw" 13 "java/lang/IllegalArgumentException" ∈ m_gt := m_gi8 83 rfl rfl
theorem g_nse : Cond.classLink "EdgeHouseLaw" 23 "java/util/NoSuchElementException" ∈ m_gt := m_gi8 182 rfl rfl
theorem g_ioo : Cond.classLink "EdgeHouseLaw" 25 "java/lang/IndexOutOfBoundsException" ∈ m_gt := m_gi8 183 rfl rfl
theorem n_iae : Cond.castable "java/lang/IllegalArgumentException" "java/lang/IllegalArgumentException" ∈ m_nw := (List.mem_filter.mpr ⟨m_in7 (List.mem_of_getElem? (i := 87) rfl), rfl⟩)
theorem n_nse : Cond.castable "java/util/NoSuchElementException" "java/util/NoSuchElementException" ∈ m_nw := (List.mem_filter.mpr ⟨m_in8 (List.mem_of_getElem? (i := 190) rfl), rfl⟩)
theorem n_ioo : Cond.castable "java/lang/IndexOutOfBoundsException" "java/lang/IndexOutOfBoundsException" ∈ m_nw := (List.mem_filter.mpr ⟨m_in8 (List.mem_of_getElem? (i := 206) rfl), rfl⟩)
theorem f1_hu : Cond.methodLink M_law.1.cls 38 M_hu.1 ∈ m_gt := m_gi8 80 rfl rfl
theorem f2_hu : Cond.static M_hu.1 ∈ m_gt := m_gi8 81 rfl rfl
theorem f3_hu : Cond.initialized M_hu.1.cls ∈ m_gt := m_gi1 0 rfl rfl
theorem f4_hu : Cond.codeWith M_hu.1 M_hu.2.1 M_hu.2.2.1 M_hu.2.2.2.2.1 [(0, 8, 11, 13)] ∈ m_gt := m_gi8 82 rfl rfl
theorem f1_ht : Cond.methodLink M_law.1.cls 76 M_ht.1 ∈ m_gt := m_gi8 163 rfl rfl
theorem f2_ht : Cond.static M_ht.1 ∈ m_gt := m_gi8 164 rfl rfl
theorem f3_ht : Cond.initialized M_ht.1.cls ∈ m_gt := m_gi1 0 rfl rfl
theorem f4_ht : Cond.codeWith M_ht.1 M_ht.2.1 M_ht.2.2.1 M_ht.2.2.2.2.1 [(0, 9, 12, 13)] ∈ m_gt := m_gi8 165 rfl rfl
theorem f1_ha : Cond.methodLink M_law.1.cls 93 M_ha.1 ∈ m_gt := m_gi8 179 rfl rfl
theorem f2_ha : Cond.static M_ha.1 ∈ m_gt := m_gi8 180 rfl rfl
theorem f3_ha : Cond.initialized M_ha.1.cls ∈ m_gt := m_gi1 0 rfl rfl
theorem f4_ha : Cond.codeWith M_ha.1 M_ha.2.1 M_ha.2.2.1 M_ha.2.2.2.2.1 [(0, 10, 13, 23), (0, 10, 17, 25)] ∈ m_gt := m_gi8 181 rfl rfl
