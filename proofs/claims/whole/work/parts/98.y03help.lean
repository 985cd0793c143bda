/-! The steps up to a throw, for any state; the law's helpers. -/
theorem d_hu_0 : m_dn M_hu 0 (.aload_n 1) 1 1 := by decide +kernel
theorem d_hu_1 : m_dn M_hu 1 (.iconst 0) 1 2 := by decide +kernel
theorem d_hu_2 : m_dn M_hu 2 (.aload_n 0) 1 3 := by decide +kernel
theorem d_hu_3 : m_dn M_hu 3 (.invokevirtual 7) 3 6 := by decide +kernel
theorem d_hu_6 : m_dn M_hu 6 (.i2l) 1 7 := by decide +kernel
theorem d_hu_7 : m_dn M_hu 7 (.lastore) 1 8 := by decide +kernel
theorem d_hu_8 : m_dn M_hu 8 (.goto 6) 3 11 := by decide +kernel
theorem d_hu_14 : m_dn M_hu 14 (.iconst 0) 1 15 := by decide +kernel
theorem d_hu_15 : m_dn M_hu 15 (.ireturn) 1 16 := by decide +kernel
theorem d_ht_0 : m_dn M_ht 0 (.aload_n 2) 1 1 := by decide +kernel
theorem d_ht_1 : m_dn M_ht 1 (.iconst 0) 1 2 := by decide +kernel
theorem d_ht_2 : m_dn M_ht 2 (.aload_n 0) 1 3 := by decide +kernel
theorem d_ht_3 : m_dn M_ht 3 (.iload_n 1) 1 4 := by decide +kernel
theorem d_ht_4 : m_dn M_ht 4 (.invokevirtual 15) 3 7 := by decide +kernel
theorem d_ht_7 : m_dn M_ht 7 (.i2l) 1 8 := by decide +kernel
theorem d_ht_8 : m_dn M_ht 8 (.lastore) 1 9 := by decide +kernel
theorem d_ht_9 : m_dn M_ht 9 (.goto 6) 3 12 := by decide +kernel
theorem d_ht_15 : m_dn M_ht 15 (.iconst 0) 1 16 := by decide +kernel
theorem d_ht_16 : m_dn M_ht 16 (.ireturn) 1 17 := by decide +kernel
theorem d_ha_0 : m_dn M_ha 0 (.aload_n 3) 1 1 := by decide +kernel
theorem d_ha_1 : m_dn M_ha 1 (.iconst 0) 1 2 := by decide +kernel
theorem d_ha_2 : m_dn M_ha 2 (.aload_n 0) 1 3 := by decide +kernel
theorem d_ha_3 : m_dn M_ha 3 (.iload_n 1) 1 4 := by decide +kernel
theorem d_ha_4 : m_dn M_ha 4 (.iload_n 2) 1 5 := by decide +kernel
theorem d_ha_5 : m_dn M_ha 5 (.invokevirtual 19) 3 8 := by decide +kernel
theorem d_ha_8 : m_dn M_ha 8 (.i2l) 1 9 := by decide +kernel
theorem d_ha_9 : m_dn M_ha 9 (.lastore) 1 10 := by decide +kernel
theorem d_ha_10 : m_dn M_ha 10 (.goto 11) 3 13 := by decide +kernel
theorem d_ha_21 : m_dn M_ha 21 (.iconst 0) 1 22 := by decide +kernel
theorem d_ha_22 : m_dn M_ha 22 (.ireturn) 1 23 := by decide +kernel
theorem y_hu_0 : decode M_hu.2.1 3 = .ok (.invokevirtual 7, 3) := by decide +kernel
theorem y_hu_1 : decode M_hu.2.1 11 = .ok (.astore_n 2, 1) := by decide +kernel
theorem y_hu_2 : decode M_hu.2.1 12 = .ok (.iconst 1, 1) := by decide +kernel
theorem y_hu_3 : decode M_hu.2.1 13 = .ok (.ireturn, 1) := by decide +kernel
theorem y_ht_0 : decode M_ht.2.1 4 = .ok (.invokevirtual 15, 3) := by decide +kernel
theorem y_ht_1 : decode M_ht.2.1 12 = .ok (.astore_n 3, 1) := by decide +kernel
theorem y_ht_2 : decode M_ht.2.1 13 = .ok (.iconst 1, 1) := by decide +kernel
theorem y_ht_3 : decode M_ht.2.1 14 = .ok (.ireturn, 1) := by decide +kernel
theorem y_ha_0 : decode M_ha.2.1 5 = .ok (.invokevirtual 19, 3) := by decide +kernel
theorem y_ha_1 : decode M_ha.2.1 13 = .ok (.astore 4, 2) := by decide +kernel
theorem y_ha_2 : decode M_ha.2.1 15 = .ok (.iconst 1, 1) := by decide +kernel
theorem y_ha_3 : decode M_ha.2.1 16 = .ok (.ireturn, 1) := by decide +kernel
theorem y_ha_4 : decode M_ha.2.1 17 = .ok (.astore 4, 2) := by decide +kernel
theorem y_ha_5 : decode M_ha.2.1 19 = .ok (.iconst 2, 1) := by decide +kernel
theorem y_ha_6 : decode M_ha.2.1 20 = .ok (.ireturn, 1) := by decide +kernel
section
variable {l : Launch} {w w' : List mM} {T T' T1 T2 : tT} {S : mS} {F k mc ms : Nat} {hs : List Value} {n x y v : Int32} {f : Nat → Value} {g : Nat → Int32}
theorem z_tick (h : m_c2 .lt n 1 = true ∨ (m_c2 .lt n 1 = false ∧ m_c2 .le n 100 = false)) : m_Step l M_234 (m_ent M_234 [.ref 512, .int n] w) (11, [(0, .ref 512), (1, .int n)], [], w) 0 0 10 1000 := by
  show m_Step l M_234 (0, [(0, .ref 512), (1, .int n)], [], w) _ 0 0 10 1000
  refine m_Step.n0 b_234 (x_iload_n d_234_0 rfl) ?_
  refine m_Step.n0 b_234 (x_iconst (z := 1) d_234_1 (by decide)) ?_
  rcases h with h | ⟨h, h1⟩
  · refine m_Step.n0 b_234 (x_ict d_234_2 rfl h) ?_
    exact m_Step.mono (m_Step.refl b_234) (by decide) (by decide)
  · refine m_Step.n0 b_234 (x_icf d_234_2 rfl h) ?_
    refine m_Step.n0 b_234 (x_iload_n d_234_5 rfl) ?_
    refine m_Step.n0 b_234 (x_bipush (z := 100) d_234_6 (by decide)) ?_
    refine m_Step.n0 b_234 (x_icf d_234_8 rfl h1) ?_
    exact m_Step.mono (m_Step.refl b_234) (by decide) (by decide)
/-- the size of the list of replies -/
theorem z_size (hT : RT T w) (h5 : T.1 512 = some (house g)) (e : tls T 524 = some v) {lv : List (Nat × Value)} (h0 : m_lv lv 0 = some (.ref 512)) (h1 : m_lv lv 1 = some (.int x)) (hlv : lv.all (fun q => m_okv w.length q.2) = true) : m_Step l M_237 (4, lv, [], w) (12, lv, [.int v, .int x], w) 0 0 10 1000 := by
  unfold tls at e
  obtain ⟨⟨n, xs⟩, e1, e2⟩ := Option.map_eq_some_iff.mp e
  obtain ⟨fs, h3⟩ := hT.recvl e1
  obtain ⟨own, g1, g2, g3, g4⟩ := hT.lst e1
  subst e2
  refine m_Step.n0 b_237 (x_iload_n d_237_4 h1) ?_
  refine m_Step.n0 b_237 (x_aload_n d_237_5 h0) ?_
  refine m_Step.n0 b_237 (x_getf d_237_6 rfl (hT.obj h5).1 rfl) ?_
  obtain ⟨v', w', ⟨rfl, rfl⟩, st⟩ := m_Step.callR (l := l) b_237 (y_cv (lv := lv) (st := [.ref 524, .int x]) d_237_9 rfl q_17 (m_isRecv_of rfl h3) (m_takeI_of rfl rfl rfl (Nat.le_of_ble_eq_true rfl)) (by
    unfold m_okf
    simp only [List.all_cons, List.all_nil, Bool.and_true, m_okv_i, m_okv_at h3, hlv, Bool.and_self]) rfl) (A_size g2) rfl
  exact m_Step.mono st (by decide) (by decide)
theorem z_ans (hT : RT T w) (h5 : T.1 512 = some (house g)) (h6 : 512 < T.2.1) (e : tls T 524 = some (Int32.ofNat k)) (h : m_c1 .lt x = true ∨ (m_c1 .lt x = false ∧ m_c2 .lt x (Int32.ofNat k) = false)) : m_Step l M_237 (m_ent M_237 [.ref 512, .int x, .int y] w) (15, [(0, .ref 512), (1, .int x), (2, .int y)], [], w) 0 0 10 1000 := by
  show m_Step l M_237 (0, [(0, .ref 512), (1, .int x), (2, .int y)], [], w) _ 0 0 10 1000
  refine m_Step.n0 b_237 (x_iload_n d_237_0 rfl) ?_
  rcases h with h | ⟨h, h1⟩
  · refine m_Step.n0 b_237 (x_ift d_237_1 rfl h) ?_
    exact m_Step.mono (m_Step.refl b_237) (by decide) (by decide)
  · refine m_Step.n0 b_237 (x_iff d_237_1 rfl h) ?_
    have s1 := z_size (l := l) (x := x) (lv := [(0, .ref 512), (1, .int x), (2, .int y)]) hT h5 e rfl rfl (by simp only [List.all_cons, List.all_nil, Bool.and_true, m_okv_i, hT.ok h6, Bool.and_self])
    have s2 : m_Step l M_237 (12, [(0, .ref 512), (1, .int x), (2, .int y)], [.int (Int32.ofNat k), .int x], w) (15, [(0, .ref 512), (1, .int x), (2, .int y)], [], w) 0 0 0 0 := m_Step.n0 b_237 (x_icf d_237_12 rfl h1) (m_Step.refl b_237)
    exact m_Step.mono (m_Step.trans s1 s2) (by decide) (by decide)
theorem z_an2 (hT : RT T w) (h5 : T.1 512 = some (house g)) (h6 : 512 < T.2.1) (e : tls T 524 = some (Int32.ofNat k)) (h : m_c1 .lt x = false) (h1 : m_c2 .lt x (Int32.ofNat k) = true) (h2 : m_c1 .lt y = true ∨ (m_c1 .lt y = false ∧ m_c2 .le y (8 : Int32) = false)) : m_Step l M_237 (m_ent M_237 [.ref 512, .int x, .int y] w) (35, [(0, .ref 512), (1, .int x), (2, .int y)], [], w) 0 0 10 1000 := by
  show m_Step l M_237 (0, [(0, .ref 512), (1, .int x), (2, .int y)], [], w) _ 0 0 10 1000
  refine m_Step.n0 b_237 (x_iload_n d_237_0 rfl) ?_
  refine m_Step.n0 b_237 (x_iff d_237_1 rfl h) ?_
  have s1 := z_size (l := l) (x := x) (lv := [(0, .ref 512), (1, .int x), (2, .int y)]) hT h5 e rfl rfl (by simp only [List.all_cons, List.all_nil, Bool.and_true, m_okv_i, hT.ok h6, Bool.and_self])
  have s2 : m_Step l M_237 (12, [(0, .ref 512), (1, .int x), (2, .int y)], [.int (Int32.ofNat k), .int x], w) (35, [(0, .ref 512), (1, .int x), (2, .int y)], [], w) 0 0 0 0 := by
    refine m_Step.n0 b_237 (x_ict d_237_12 rfl h1) ?_
    refine m_Step.n0 b_237 (x_iload_n d_237_25 rfl) ?_
    rcases h2 with h2 | ⟨h2, h3⟩
    · exact m_Step.n0 b_237 (x_ift d_237_26 rfl h2) (m_Step.refl b_237)
    · refine m_Step.n0 b_237 (x_iff d_237_26 rfl h2) ?_
      refine m_Step.n0 b_237 (x_iload_n d_237_29 rfl) ?_
      refine m_Step.n0 b_237 (x_bipush (z := 8) d_237_30 (by decide)) ?_
      exact m_Step.n0 b_237 (x_icf d_237_32 rfl h3) (m_Step.refl b_237)
  exact m_Step.mono (m_Step.trans s1 s2) (by decide) (by decide)
theorem z_upd (hT : RT T w) (h5 : T.1 512 = some (house g)) (h6 : 513 < T.2.1) (e1 : D_c_Reader_readThing F 513 T = some (none, T1)) (e2 : D_c_Reader_empty F 513 T1 = some T2) (h7 : T2.1 512 = some (house S.1)) : T.2.1 ≤ T2.2.1 ∧ T.2.2 ≤ T2.2.2 ∧ ∃ w2, RT T2 w2 ∧ m_Fm w w2 ∧ m_Step l M_229 (m_ent M_229 [.ref 512] w) (29, [(1, .null), (0, .ref 512)], [], w2) (T2.2.1 - T.2.1) (T2.2.2 - T.2.2) 60 6000 := by
  obtain ⟨_, q1, _⟩ := bS e1
  obtain ⟨fs0, r0⟩ := RT.cls hT q1
  obtain ⟨j1, j2, jr⟩ := T_c_Reader_readThing (l := l) (okr_some h6) hT e1
  have e2' := e2
  unfold D_c_Reader_empty at e2'
  obtain ⟨T3, p1, p2⟩ := bS e2'
  cases p2
  obtain ⟨fs1, r1, _, r2⟩ := tp_ok p1
  have h51 : T1.1 512 = some (house S.1) := by rw [← h7, r2]; exact (tset_ne (by decide)).symm
  have s0 : ∀ {F2 : mF} {c s : Nat}, m_Step l M_229 (4, [(0, .ref 512)], [.ref 513], w) F2 c s 60 6000 → m_Step l M_229 (m_ent M_229 [.ref 512] w) F2 c s 60 6000 := fun {F2 c s} k => by
    show m_Step l M_229 (0, [(0, .ref 512)], [], w) _ c s 60 6000
    refine m_Step.n0 b_229 (x_aload_n d_229_0 rfl) ?_
    exact m_Step.n0 b_229 (x_getf d_229_1 rfl (hT.obj h5).1 rfl) k
  obtain ⟨v', w1, ⟨rfl, _, hT1, hF1⟩, st⟩ := m_Step.callR (l := l) b_229 (y_cv (lv := [(0, .ref 512)]) (st := [.ref 513]) d_229_4 rfl q_230 (m_isRecv_of rfl r0) (show m_takeI _ _ = some (_, [_], []) from m_takeI_of rfl rfl rfl (Nat.le_of_ble_eq_true rfl)) (by simp only [m_okf, List.all_cons, List.all_nil, Bool.and_true, Bool.and_self, hT.ok (a := 512) (by omega), hT.ok h6]) rfl) jr rfl
  have rr := (hT1.obj r1).1
  obtain ⟨i1, i2, ir⟩ := T_c_Reader_empty (l := l) (okr_some (show 513 < T1.2.1 by omega)) hT1 e2
  obtain ⟨v2, w2, ⟨rfl, hT2, hF2⟩, st2⟩ := m_Step.callR (l := l) b_229 (y_cv (lv := [(1, .null), (0, .ref 512)]) (st := [.ref 513]) d_229_12 rfl q_60 (m_isRecv_of rfl rr) (show m_takeI _ _ = some (_, [_], []) from m_takeI_of rfl rfl rfl (Nat.le_of_ble_eq_true rfl)) (by simp only [m_okf, List.all_cons, List.all_nil, Bool.and_true, Bool.and_self, m_okv_0, hT1.ok (a := 512) (show 512 < T1.2.1 by omega), hT1.ok (a := 513) (show 513 < T1.2.1 by omega)]) rfl) ir rfl
  refine ⟨by omega, by omega, w2, hT2, hF1.trans hF2, s0 ?_⟩
  have s1 : m_Step l M_229 (7, [(0, .ref 512)], [rv none], w1) (12, [(1, .null), (0, .ref 512)], [.ref 513], w1) 0 0 0 0 := by
    refine m_Step.n0 b_229 (x_astorer_n (x := none) d_229_7 rfl (show m_put1 _ _ _ = [(1, _), (0, _)] from rfl)) ?_
    refine m_Step.n0 b_229 (x_aload_n d_229_8 rfl) ?_
    exact m_Step.n0 b_229 (x_getf d_229_9 rfl (hT1.obj h51).1 rfl) (m_Step.refl b_229)
  have s2 : m_Step l M_229 (15, [(1, .null), (0, .ref 512)], [], w2) (29, [(1, .null), (0, .ref 512)], [], w2) 0 0 0 0 := by
    refine m_Step.n0 b_229 (x_aload_n0 d_229_15 rfl) ?_
    exact m_Step.n0 b_229 (x_ifnull0 d_229_16 rfl) (m_Step.refl b_229)
  have s3 := m_Step.trans st (m_Step.trans s1 (m_Step.trans st2 s2))
  have ea : T2.2.1 - T.2.1 = T1.2.1 - T.2.1 + (0 + (T2.2.1 - T1.2.1 + 0)) := by omega
  have eb : T2.2.2 - T.2.2 = T1.2.2 - T.2.2 + (0 + (T2.2.2 - T1.2.2 + 0)) := by omega
  rw [ea, eb]
  exact m_Step.mono s3 (by decide) (by decide)
/-- the helpers, where the class throws -/
theorem h_upd (hT : RT T w) (h5 : T.1 512 = some (house g)) (hM : m_MetT l M_229 "java/lang/IllegalArgumentException" [.ref 512] w w' mc ms 60 6000) : m_MetW l M_hu [(0, 8, 11, 13)] [.ref 512, .ref 630] w (some (.int 1), w', 0 + mc, 0 + ms, 100, 8000) := by
  have z : m_Step l M_hu (m_ent M_hu [.ref 512, .ref 630] w) (3, [(0, .ref 512), (1, .ref 630)], [.ref 512, .int 0, .ref 630], w) 0 0 0 0 := by
    show m_Step l M_hu (0, [(0, .ref 512), (1, .ref 630)], [], w) _ 0 0 0 0
    refine m_Step.n0 m_hu_ok (x_aload_n d_hu_0 rfl) ?_
    refine m_Step.n0 m_hu_ok (x_iconst (z := 0) d_hu_1 (by decide)) ?_
    exact m_Step.n0 m_hu_ok (x_aload_n d_hu_2 rfl) (m_Step.refl m_hu_ok)
  exact m_MetW_thr (by decide) (Nat.le_of_ble_eq_true rfl) m_hu_ok z y_hu_0 (x_ca rfl q_229 (m_isRecv_of rfl (hT.obj h5).1) rfl) hM (Nat.le_of_ble_eq_true rfl) (Nat.le_of_ble_eq_true rfl) (by decide) g_iae n_iae rfl (Or.inl ⟨2, rfl, y_hu_1, rfl⟩) (by decide) y_hu_2 (by decide) y_hu_3 (by decide) (by decide) (by decide) (by decide)
theorem h_tick (hT : RT T w) (h5 : T.1 512 = some (house g)) (hM : m_MetT l M_234 "java/lang/IllegalArgumentException" [.ref 512, .int n] w w' mc ms 60 6000) : m_MetW l M_ht [(0, 9, 12, 13)] [.ref 512, .int n, .ref 630] w (some (.int 1), w', 0 + mc, 0 + ms, 100, 8000) := by
  have z : m_Step l M_ht (m_ent M_ht [.ref 512, .int n, .ref 630] w) (4, [(0, .ref 512), (1, .int n), (2, .ref 630)], [.int n, .ref 512, .int 0, .ref 630], w) 0 0 0 0 := by
    show m_Step l M_ht (0, [(0, .ref 512), (1, .int n), (2, .ref 630)], [], w) _ 0 0 0 0
    refine m_Step.n0 m_ht_ok (x_aload_n d_ht_0 rfl) ?_
    refine m_Step.n0 m_ht_ok (x_iconst (z := 0) d_ht_1 (by decide)) ?_
    refine m_Step.n0 m_ht_ok (x_aload_n d_ht_2 rfl) ?_
    exact m_Step.n0 m_ht_ok (x_iload_n d_ht_3 rfl) (m_Step.refl m_ht_ok)
  exact m_MetW_thr (by decide) (Nat.le_of_ble_eq_true rfl) m_ht_ok z y_ht_0 (x_ca rfl q_234 (m_isRecv_of rfl (hT.obj h5).1) rfl) hM (Nat.le_of_ble_eq_true rfl) (Nat.le_of_ble_eq_true rfl) (by decide) g_iae n_iae rfl (Or.inl ⟨3, rfl, y_ht_1, rfl⟩) (by decide) y_ht_2 (by decide) y_ht_3 (by decide) (by decide) (by decide) (by decide)
theorem z_ha : m_Step l M_ha (m_ent M_ha [.ref 512, .int x, .int y, .ref 630] w) (5, [(0, .ref 512), (1, .int x), (2, .int y), (3, .ref 630)], [.int y, .int x, .ref 512, .int 0, .ref 630], w) 0 0 0 0 := by
  show m_Step l M_ha (0, [(0, .ref 512), (1, .int x), (2, .int y), (3, .ref 630)], [], w) _ 0 0 0 0
  refine m_Step.n0 m_ha_ok (x_aload_n d_ha_0 rfl) ?_
  refine m_Step.n0 m_ha_ok (x_iconst (z := 0) d_ha_1 (by decide)) ?_
  refine m_Step.n0 m_ha_ok (x_aload_n d_ha_2 rfl) ?_
  refine m_Step.n0 m_ha_ok (x_iload_n d_ha_3 rfl) ?_
  exact m_Step.n0 m_ha_ok (x_iload_n d_ha_4 rfl) (m_Step.refl m_ha_ok)
theorem h_ans (hT : RT T w) (h5 : T.1 512 = some (house g)) (hM : m_MetT l M_237 "java/util/NoSuchElementException" [.ref 512, .int x, .int y] w w' mc ms 60 6000) : m_MetW l M_ha [(0, 10, 13, 23), (0, 10, 17, 25)] [.ref 512, .int x, .int y, .ref 630] w (some (.int 1), w', 0 + mc, 0 + ms, 100, 8000) :=
  m_MetW_thr (by decide) (Nat.le_of_ble_eq_true rfl) m_ha_ok z_ha y_ha_0 (x_ca rfl q_237 (m_isRecv_of rfl (hT.obj h5).1) rfl) hM (Nat.le_of_ble_eq_true rfl) (Nat.le_of_ble_eq_true rfl) (by decide) g_nse n_nse rfl (Or.inr ⟨y_ha_1, rfl⟩) (by decide) y_ha_2 (by decide) y_ha_3 (by decide) (by decide) (by decide) (by decide)
theorem h_an2 (hT : RT T w) (h5 : T.1 512 = some (house g)) (hM : m_MetT l M_237 "java/lang/IndexOutOfBoundsException" [.ref 512, .int x, .int y] w w' mc ms 60 6000) : m_MetW l M_ha [(0, 10, 13, 23), (0, 10, 17, 25)] [.ref 512, .int x, .int y, .ref 630] w (some (.int 2), w', 0 + mc, 0 + ms, 100, 8000) :=
  m_MetW_thr2 (by decide) (Nat.le_of_ble_eq_true rfl) m_ha_ok z_ha y_ha_0 (x_ca rfl q_237 (m_isRecv_of rfl (hT.obj h5).1) rfl) hM (Nat.le_of_ble_eq_true rfl) (Nat.le_of_ble_eq_true rfl) (by decide) g_nse (Nat.le_of_ble_eq_true rfl) (Nat.le_of_ble_eq_true rfl) (by decide) g_ioo n_ioo rfl (Or.inr ⟨y_ha_4, rfl⟩) (by decide) y_ha_5 (by decide) y_ha_6 (by decide) (by decide) (by decide) (by decide)
/-- a long is put into the law's array -/
theorem lg_put (hT : RT T w) (h630 : T.1 630 = some (.inr (.inl (1, 1, f)))) {b : Int64} {els : List (Nat × Value)} (hw : m_at w 630 = some (.inl (1, 1, els))) (he : ∀ j, m_el 1 els j = f j) : RT (tset T 630 (.inr (.inl (1, 1, fun j => if j = 0 then .long b else f j)))) (w.set (630 - 512) (.inl (1, 1, m_sel els 0 (.long b)))) := by
  refine hT.puta h630 (m_W1.set hw) (fun j => ?_) (fun j => ?_)
  · rw [m_el_set, he]
  · obtain ⟨_, _, _, ok⟩ := hT.arr h630
    by_cases w : j = 0
    · rw [if_pos w]; rfl
    · rw [if_neg w]; exact ok j
def lgT (T : tT) (f : Nat → Value) (b : Int64) : tT := tset T 630 (.inr (.inl (1, 1, fun j => if j = 0 then .long b else f j)))
theorem dom630 : (630 : Nat) ∉ m_dom := by decide +kernel
theorem rm_put {c : mM} {w1 : List mM} (hM : m_RM S w) (h1 : m_W1 w w1 630 c) : m_RM S w1 := hM.fm ((m_Fm.refl (w := w)).put h1 dom630)
/-- the helpers, where the class answers -/
theorem h_updg (hT : RT T w) (hM : m_RM S w) (h5 : T.1 512 = some (house g)) (h6 : 630 < T.2.1) (hc : D_c_EdgeHouse_update F 512 T = some (v, T')) (h630 : T'.1 630 = some (.inr (.inl (1, 1, f)))) : T.2.1 ≤ T'.2.1 ∧ T.2.2 ≤ T'.2.2 ∧ ∃ w', m_MetW l M_hu [(0, 8, 11, 13)] [.ref 512, .ref 630] w (some (.int 0), w', T'.2.1 - T.2.1, T'.2.2 - T.2.2, 100, 8000) ∧ RT (lgT T' f v.toInt64) w' ∧ m_RM S w' := by
  obtain ⟨j1, j2, jr⟩ := T_c_EdgeHouse_update (l := l) (okr_some (show 512 < T.2.1 by omega)) hT hc
  have R : m_Rs l M_hu (m_ent M_hu [.ref 512, .ref 630] w) (fun v' w' => v' = some (.int 0) ∧ RT (lgT T' f v.toInt64) w' ∧ m_RM S w') (T'.2.1 - T.2.1) (T'.2.2 - T.2.2) 100 8000 := by
    show m_Rs l M_hu (0, [(0, .ref 512), (1, .ref 630)], [], w) _ _ _ 100 8000
    refine m_Rs.n0 m_hu_ok (x_aload_n d_hu_0 rfl) ?_
    refine m_Rs.n0 m_hu_ok (x_iconst (z := 0) d_hu_1 (by decide)) ?_
    refine m_Rs.n0 m_hu_ok (x_aload_n d_hu_2 rfl) ?_
    refine m_Rs.mono (c := T'.2.1 - T.2.1 + 0) (s := T'.2.2 - T.2.2 + 0) (m_Rs.callP m_hu_ok (y_cv d_hu_3 rfl q_229 (m_isRecv_of rfl (hT.obj h5).1) (show m_takeI _ _ = some (_, [_], [_, _]) from m_takeI_of rfl rfl rfl (Nat.le_of_ble_eq_true rfl)) (by simp only [m_okf, List.all_cons, List.all_nil, Bool.and_true, Bool.and_self, m_okv_i, hT.ok (a := 512) (by omega), hT.ok h6]) rfl) jr rfl (fun v1 w1 hv => ?_) (by decide) (by decide)) (fun _ _ h => h) (by omega) (by omega) (Nat.le_refl _) (Nat.le_refl _)
    obtain ⟨rfl, hT1, hF1⟩ := hv
    obtain ⟨els, a1, a2, _⟩ := hT1.arr h630
    show m_Rs l M_hu (6, [(0, .ref 512), (1, .ref 630)], [.int v, .int 0, .ref 630], w1) _ 0 0 100 8000
    refine m_Rs.n0 m_hu_ok (x_i2l d_hu_6 rfl) ?_
    refine m_Rs.n0 m_hu_ok (x_lastore (j := 0) d_hu_7 a1 (by decide) (by decide) (by decide)) ?_
    refine m_Rs.n0 m_hu_ok (x_goto d_hu_8 rfl) ?_
    refine m_Rs.n0 m_hu_ok (x_iconst (z := 0) d_hu_14 (by decide)) ?_
    refine m_Rs.of m_hu_ok (m_Rq.ir d_hu_15 rfl rfl ⟨rfl, lg_put hT1 h630 a1 a2, rm_put (hM.fm hF1) (m_W1.set a1)⟩)
  obtain ⟨v', w', ⟨rfl, r1, r2⟩, r3⟩ := R
  exact ⟨j1, j2, w', m_MetW_good (by decide) (Nat.le_of_ble_eq_true rfl) r3, r1, r2⟩
theorem h_tickg (hT : RT T w) (hM : m_RM S w) (h5 : T.1 512 = some (house g)) (h6 : 630 < T.2.1) (hc : D_c_EdgeHouse_tick F 512 n T = some (v, T')) (h630 : T'.1 630 = some (.inr (.inl (1, 1, f)))) : T.2.1 ≤ T'.2.1 ∧ T.2.2 ≤ T'.2.2 ∧ ∃ w', m_MetW l M_ht [(0, 9, 12, 13)] [.ref 512, .int n, .ref 630] w (some (.int 0), w', T'.2.1 - T.2.1, T'.2.2 - T.2.2, 100, 8000) ∧ RT (lgT T' f v.toInt64) w' ∧ m_RM S w' := by
  obtain ⟨j1, j2, jr⟩ := T_c_EdgeHouse_tick (l := l) (okr_some (show 512 < T.2.1 by omega)) hT hc
  have R : m_Rs l M_ht (m_ent M_ht [.ref 512, .int n, .ref 630] w) (fun v' w' => v' = some (.int 0) ∧ RT (lgT T' f v.toInt64) w' ∧ m_RM S w') (T'.2.1 - T.2.1) (T'.2.2 - T.2.2) 100 8000 := by
    show m_Rs l M_ht (0, [(0, .ref 512), (1, .int n), (2, .ref 630)], [], w) _ _ _ 100 8000
    refine m_Rs.n0 m_ht_ok (x_aload_n d_ht_0 rfl) ?_
    refine m_Rs.n0 m_ht_ok (x_iconst (z := 0) d_ht_1 (by decide)) ?_
    refine m_Rs.n0 m_ht_ok (x_aload_n d_ht_2 rfl) ?_
    refine m_Rs.n0 m_ht_ok (x_iload_n d_ht_3 rfl) ?_
    refine m_Rs.mono (c := T'.2.1 - T.2.1 + 0) (s := T'.2.2 - T.2.2 + 0) (m_Rs.callP m_ht_ok (y_cv d_ht_4 rfl q_234 (m_isRecv_of rfl (hT.obj h5).1) (show m_takeI _ _ = some (_, [_, _], [_, _]) from m_takeI_of rfl rfl rfl (Nat.le_of_ble_eq_true rfl)) (by simp only [m_okf, List.all_cons, List.all_nil, Bool.and_true, Bool.and_self, m_okv_i, hT.ok (a := 512) (by omega), hT.ok h6]) rfl) jr rfl (fun v1 w1 hv => ?_) (by decide) (by decide)) (fun _ _ h => h) (by omega) (by omega) (Nat.le_refl _) (Nat.le_refl _)
    obtain ⟨rfl, hT1, hF1⟩ := hv
    obtain ⟨els, a1, a2, _⟩ := hT1.arr h630
    show m_Rs l M_ht (7, [(0, .ref 512), (1, .int n), (2, .ref 630)], [.int v, .int 0, .ref 630], w1) _ 0 0 100 8000
    refine m_Rs.n0 m_ht_ok (x_i2l d_ht_7 rfl) ?_
    refine m_Rs.n0 m_ht_ok (x_lastore (j := 0) d_ht_8 a1 (by decide) (by decide) (by decide)) ?_
    refine m_Rs.n0 m_ht_ok (x_goto d_ht_9 rfl) ?_
    refine m_Rs.n0 m_ht_ok (x_iconst (z := 0) d_ht_15 (by decide)) ?_
    refine m_Rs.of m_ht_ok (m_Rq.ir d_ht_16 rfl rfl ⟨rfl, lg_put hT1 h630 a1 a2, rm_put (hM.fm hF1) (m_W1.set a1)⟩)
  obtain ⟨v', w', ⟨rfl, r1, r2⟩, r3⟩ := R
  exact ⟨j1, j2, w', m_MetW_good (by decide) (Nat.le_of_ble_eq_true rfl) r3, r1, r2⟩
theorem h_ansg (hT : RT T w) (hM : m_RM S w) (h5 : T.1 512 = some (house g)) (h6 : 630 < T.2.1) (hc : D_c_EdgeHouse_answer F 512 x y T = some (v, T')) (h630 : T'.1 630 = some (.inr (.inl (1, 1, f)))) : T.2.1 ≤ T'.2.1 ∧ T.2.2 ≤ T'.2.2 ∧ ∃ w', m_MetW l M_ha [(0, 10, 13, 23), (0, 10, 17, 25)] [.ref 512, .int x, .int y, .ref 630] w (some (.int 0), w', T'.2.1 - T.2.1, T'.2.2 - T.2.2, 100, 8000) ∧ RT (lgT T' f v.toInt64) w' ∧ m_RM S w' := by
  obtain ⟨j1, j2, jr⟩ := T_c_EdgeHouse_answer (l := l) (okr_some (show 512 < T.2.1 by omega)) hT hc
  have R : m_Rs l M_ha (m_ent M_ha [.ref 512, .int x, .int y, .ref 630] w) (fun v' w' => v' = some (.int 0) ∧ RT (lgT T' f v.toInt64) w' ∧ m_RM S w') (T'.2.1 - T.2.1) (T'.2.2 - T.2.2) 100 8000 := by
    show m_Rs l M_ha (0, [(0, .ref 512), (1, .int x), (2, .int y), (3, .ref 630)], [], w) _ _ _ 100 8000
    refine m_Rs.n0 m_ha_ok (x_aload_n d_ha_0 rfl) ?_
    refine m_Rs.n0 m_ha_ok (x_iconst (z := 0) d_ha_1 (by decide)) ?_
    refine m_Rs.n0 m_ha_ok (x_aload_n d_ha_2 rfl) ?_
    refine m_Rs.n0 m_ha_ok (x_iload_n d_ha_3 rfl) ?_
    refine m_Rs.n0 m_ha_ok (x_iload_n d_ha_4 rfl) ?_
    refine m_Rs.mono (c := T'.2.1 - T.2.1 + 0) (s := T'.2.2 - T.2.2 + 0) (m_Rs.callP m_ha_ok (y_cv d_ha_5 rfl q_237 (m_isRecv_of rfl (hT.obj h5).1) (show m_takeI _ _ = some (_, [_, _, _], [_, _]) from m_takeI_of rfl rfl rfl (Nat.le_of_ble_eq_true rfl)) (by simp only [m_okf, List.all_cons, List.all_nil, Bool.and_true, Bool.and_self, m_okv_i, hT.ok (a := 512) (by omega), hT.ok h6]) rfl) jr rfl (fun v1 w1 hv => ?_) (by decide) (by decide)) (fun _ _ h => h) (by omega) (by omega) (Nat.le_refl _) (Nat.le_refl _)
    obtain ⟨rfl, hT1, hF1⟩ := hv
    obtain ⟨els, a1, a2, _⟩ := hT1.arr h630
    show m_Rs l M_ha (8, [(0, .ref 512), (1, .int x), (2, .int y), (3, .ref 630)], [.int v, .int 0, .ref 630], w1) _ 0 0 100 8000
    refine m_Rs.n0 m_ha_ok (x_i2l d_ha_8 rfl) ?_
    refine m_Rs.n0 m_ha_ok (x_lastore (j := 0) d_ha_9 a1 (by decide) (by decide) (by decide)) ?_
    refine m_Rs.n0 m_ha_ok (x_goto d_ha_10 rfl) ?_
    refine m_Rs.n0 m_ha_ok (x_iconst (z := 0) d_ha_21 (by decide)) ?_
    refine m_Rs.of m_ha_ok (m_Rq.ir d_ha_22 rfl rfl ⟨rfl, lg_put hT1 h630 a1 a2, rm_put (hM.fm hF1) (m_W1.set a1)⟩)
  obtain ⟨v', w', ⟨rfl, r1, r2⟩, r3⟩ := R
  exact ⟨j1, j2, w', m_MetW_good (by decide) (Nat.le_of_ble_eq_true rfl) r3, r1, r2⟩
end
