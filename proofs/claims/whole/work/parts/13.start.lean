/-! What the small machine needs of the start, out of the Statement's premises. -/
theorem m_scs_in {i : Nat} (hi : i < m_sN) : ∀ c ∈ m_scs (m_sxl.getD i ("", 0, "", 0)).1 (m_sxl.getD i ("", 0, "", 0)).2.1 (m_xbl.getD i []), c ∈ flatC m_NN := by
  intro c hc
  rw [← m_scs_all i hi] at hc
  exact List.mem_of_mem_drop (List.mem_of_mem_take hc)
theorem m_arrP {s : State} {args : Array Value} {ty : FieldType} (h : (Cond.arrayClass ty).before args s = true) : ∃ cA : ClassId, ArrOfT s cA ty ∧ s.vm.findClass ("[" ++ ty.toString) = some cA := by
  obtain ⟨c, k, comp, h1, h2, h3⟩ := Cond.arrayClass_spec h
  exact ⟨c, fun N z => ⟨(fun k h => by cases h), k, h2, comp, h3⟩, h1⟩
theorem m_arrO {s : State} {args : Array Value} {C : String} (h : (Cond.arrayOver (.object C)).before args s = true) : ∃ cA : ClassId, ArrOfT s cA (.object C) ∧ va_RA s cA (.object C) := by
  obtain ⟨comp, c, k, h1, h2, h3, h4, h5⟩ := Cond.arrayOver_spec h
  exact ⟨c, fun N z => ⟨(fun k h => by cases h), k, h3, comp, h4⟩, k, comp, h3, h4, h1, h5⟩
theorem m_txt {s : State} {args : Array Value} {A : Nat → Prop} (hn : ∀ c ∈ flatC m_NN, c.before args s = true) (hA : ∀ a : Nat, a < s.heap.size → ¬ A a) (i : Nat) (hi : i < m_sN) : ∃ a v : Nat, (Term.string (m_sxl.getD i ("", 0, "", 0)).1 (m_sxl.getD i ("", 0, "", 0)).2.1).eval args s none [] s = some (.ref a) ∧ va_O "java/lang/String" a A s s.heap ∧ va_OF "java/lang/String" "coder" "B" (.int 0) a A s s.heap ∧ va_OF "java/lang/String" "value" "[B" (.ref v) a A s s.heap ∧ va_T .byte v (m_xbl.getD i []).length (fun j => .int ((m_xbl.getD i []).getD j 0)) A s s.heap := by
  have hin := m_scs_in hi
  have hlen := m_xbl_sh i hi
  generalize (m_sxl.getD i ("", 0, "", 0)).1 = own at hin ⊢
  generalize (m_sxl.getD i ("", 0, "", 0)).2.1 = k at hin ⊢
  generalize m_xbl.getD i [] = bs at hin hlen ⊢
  have hm : ∀ c ∈ m_scs own k bs, c.before args s = true := fun c hc => hn c (hin c hc)
  obtain ⟨adK, adV, h1, h2⟩ := vk_Sof (N := 1) (tm := fun _ => .string own k) (len := [bs.length]) (byt := [bs]) (A := A) (args := args) (s := s)
    (fun i hi => by rw [show i = 0 by omega]; exact hlen)
    (fun i hi => hm _ (List.mem_append_left _ (List.mem_of_getElem? (i := 0) rfl)))
    (fun i hi => hm _ (List.mem_append_left _ (List.mem_of_getElem? (i := 1) rfl)))
    (fun i hi => hm _ (List.mem_append_left _ (List.mem_of_getElem? (i := 2) rfl)))
    (fun i hi => by rw [show i = 0 by omega]; exact hm _ (List.mem_append_left _ (List.mem_of_getElem? (i := 3) rfl)))
    (fun i hi j hj => by
      have e0 : i = 0 := by omega
      subst e0
      have hj : j < bs.length := hj
      refine hm _ (List.mem_append_right _ ?_)
      refine List.mem_of_getElem? (i := j) ?_
      rw [List.getElem?_mapIdx, List.getElem?_eq_getElem hj]
      show some _ = some _
      congr 3
      show bs[j] = ([bs].getD 0 []).getD j 0
      rw [show [bs].getD 0 [] = bs from rfl, List.getD_eq_getElem?_getD, List.getElem?_eq_getElem hj]; rfl)
    (fun i j hi hj hne => absurd (show i = j by omega) hne) hA
  obtain ⟨g1, g2, g3, g4⟩ := h1.1 0 (by decide)
  exact ⟨adK 0, adV 0, h2 0 (by decide), g1, g2, g3, g4⟩
theorem va_O_lt {E : String} {t : Nat} {A : Nat → Prop} {U : State} {H : Heap} (h : va_O E t A U H) : t < H.size := by
  obtain ⟨cell, h1, -⟩ := h
  exact (Array.getElem?_eq_some_iff.mp h1).1
theorem va_T_lt {ty : FieldType} {t N : Nat} {f : Nat → Value} {A : Nat → Prop} {U : State} {H : Heap} (h : va_T ty t N f A U H) : t < H.size := by
  obtain ⟨cell, h1, -⟩ := h
  exact (Array.getElem?_eq_some_iff.mp h1).1
def m_dgs (n : String) (f : Nat → Nat) : List Cond := [.arrayOf (.static "java/lang/Integer" n "[B") .byte, .eq (.length (.static "java/lang/Integer" n "[B")) (.int 100)] ++ (List.range 100).map (fun j => .eq (.elem (.static "java/lang/Integer" n "[B") (.int (Int32.ofNat j))) (.int (Int32.ofNat (f j))))
theorem m_dgs_o : ((flatC m_NN).drop 14).take 102 = m_dgs "DigitOnes" (fun j => 48 + j % 10) := by decide +kernel
theorem m_dgs_t : ((flatC m_NN).drop 117).take 102 = m_dgs "DigitTens" (fun j => 48 + j / 10) := by decide +kernel
theorem m_ls_DigitO : Cond.laysStatic "java/lang/Integer" "DigitOnes" "[B" ∈ lw_tbl := m_in7 (List.mem_of_getElem? (i := 38) rfl)
theorem m_ls_DigitT : Cond.laysStatic "java/lang/Integer" "DigitTens" "[B" ∈ lw_tbl := m_in7 (List.mem_of_getElem? (i := 40) rfl)
theorem m_in_Integer : Cond.initialized "java/lang/Integer" ∈ m_gt := m_gi1 28 rfl rfl
theorem m_dgT {s : State} {args : Array Value} {A : Nat → Prop} {n : String} {f : Nat → Nat} {p : Nat} (hn : ∀ c ∈ flatC m_NN, c.before args s = true) (hA : ∀ a : Nat, a < s.heap.size → ¬ A a) (he : ((flatC m_NN).drop p).take 102 = m_dgs n f) : ∃ t : Nat, (Term.static "java/lang/Integer" n "[B").eval args s none [] s = some (.ref t) ∧ va_T .byte t 100 (fun j => .int (Int32.ofNat (f j))) A s s.heap := by
  have hm : ∀ c ∈ m_dgs n f, c.before args s = true := fun c hc => hn c (by
    rw [← he] at hc
    exact List.mem_of_mem_drop (List.mem_of_mem_take hc))
  refine va_Tof (by decide) (hm _ (List.mem_append_left _ (List.mem_of_getElem? (i := 0) rfl))) (va_eqt (hm _ (List.mem_append_left _ (List.mem_of_getElem? (i := 1) rfl)))) (fun j hj => va_eqt (hm _ (List.mem_append_right _ ?_))) hA
  exact List.mem_map.mpr ⟨j, List.mem_range.mpr hj, rfl⟩
theorem m_start {s : State} {b : Nat} (hts : ∀ w ∈ lw_tbl, w.before #[Value.ref b] s = true) (hg : m_NN.before #[Value.ref b] s = true) (hbl : b < s.heap.size) : ∃ (D : va_G) (dA : Nat → ClassId) (X : Nat → Nat), m_Kx D dA s ∧ m_Ex X (fun q => s.heap.size ≤ q) s s.heap ∧ X 500 = b := by
  have hgt : ∀ w ∈ m_gt, w.before #[Value.ref b] s = true := fun w h => hts w (m_gt_in h)
  have hn : ∀ c ∈ flatC m_NN, c.before #[Value.ref b] s = true := flat_of_before m_NN hg
  have hA : ∀ a : Nat, a < s.heap.size → ¬ (fun q : Nat => s.heap.size ≤ q) a := fun a h => Nat.not_le.mpr h
  have hcl : ∀ ci : Nat, ∃ q : ClassId × (Nat → Nat), ∀ r, m_cl[ci]? = some r → u_Kn s r.1 r.2.1 r.2.2 q.1 q.2 := by
    intro ci
    cases h : m_cl[ci]? with
    | none => exact ⟨(0, fun _ => 0), fun r hr => by cases hr⟩
    | some r =>
      obtain ⟨cC, iS, hk⟩ := u_known hgt (m_cl_ok ci r h).1 (hgt _ (m_ist ci r h))
      exact ⟨(cC, iS), fun r' hr' => by cases hr'; exact hk⟩
  obtain ⟨f, hf⟩ := Classical.axiomOfChoice hcl
  obtain ⟨a0, h00, h01⟩ := m_arrP (hgt _ m_ac_int)
  obtain ⟨a1, h10, h11⟩ := m_arrP (hgt _ m_ac_long)
  obtain ⟨a2, h20, h21⟩ := m_arrP (hgt _ m_ac_char)
  obtain ⟨a3, h30, h31⟩ := m_arrP (hgt _ m_ac_byte)
  obtain ⟨a4, h40, h41⟩ := m_arrP (hgt _ m_ac_boolean)
  obtain ⟨a6, h60, h61⟩ := m_arrO (hts _ m_ao_0)
  obtain ⟨a7, h70, h71⟩ := m_arrO (hts _ m_ao_1)
  obtain ⟨a8, h80, h81⟩ := m_arrO (hts _ m_ao_2)
  have htx : ∀ i : Nat, ∃ q : Nat × Nat, i < m_sN → (Term.string (m_sxl.getD i ("", 0, "", 0)).1 (m_sxl.getD i ("", 0, "", 0)).2.1).eval #[Value.ref b] s none [] s = some (.ref q.1) ∧ va_O "java/lang/String" q.1 (fun q => s.heap.size ≤ q) s s.heap ∧ va_OF "java/lang/String" "coder" "B" (.int 0) q.1 (fun q => s.heap.size ≤ q) s s.heap ∧ va_OF "java/lang/String" "value" "[B" (.ref q.2) q.1 (fun q => s.heap.size ≤ q) s s.heap ∧ va_T .byte q.2 (m_xbl.getD i []).length (fun j => .int ((m_xbl.getD i []).getD j 0)) (fun q => s.heap.size ≤ q) s s.heap := by
    intro i
    by_cases hi : i < m_sN
    · obtain ⟨a, v, h⟩ := m_txt (A := fun q => s.heap.size ≤ q) hn hA i hi
      exact ⟨(a, v), fun _ => h⟩
    · exact ⟨(0, 0), fun h => absurd h hi⟩
  obtain ⟨g, hg⟩ := Classical.axiomOfChoice htx
  obtain ⟨e0, he0, hT0⟩ := va_Tof (f := fun _ => .null) (A := fun q => s.heap.size ≤ q) (N := 0) (by decide) (hn _ m_nn_e1) (va_eqt (hn _ m_nn_e2)) (fun j hj => absurd hj (Nat.not_lt_zero j)) hA
  have hZp := va_Zqof (A := fun q => s.heap.size ≤ q) (hts _ m_ls_SIOOBE) (hgt _ m_in_Preconditions) (hn _ m_nn_p1) hA
  obtain ⟨op, hop⟩ : ∃ op : Nat × Nat, va_Z "jdk/internal/util/Preconditions" "SIOOBE_FORMATTER" "Ljava/util/function/BiFunction;" (if op.1 = 0 then .null else .ref op.2) (fun q => s.heap.size ≤ q) s s.heap := by
    rcases hZp with h | ⟨t, h⟩
    · exact ⟨(0, 0), h⟩
    · exact ⟨(1, t), h⟩
  obtain ⟨mi, hmi⟩ := va_Mi.of (hn _ m_nn_mi)
  obtain ⟨d1, hd1, hD1⟩ := m_dgT (A := fun q => s.heap.size ≤ q) hn hA m_dgs_o
  obtain ⟨d2, hd2, hD2⟩ := m_dgT (A := fun q => s.heap.size ≤ q) hn hA m_dgs_t
  refine ⟨(fun ci => (f ci).1, fun ci => (f ci).2), (fun t => if t = 0 then a0 else if t = 1 then a1 else if t = 2 then a2 else if t = 3 then a3 else if t = 4 then a4 else if t = 5 then a0 else if t = 6 then a6 else if t = 7 then a7 else a8),
    (fun k => if k = 0 then e0 else if k ≤ m_sN then (g (k - 1)).1 else if 201 ≤ k ∧ k < 201 + m_sN then (g (k - 201)).2 else if k = 1000 then op.1 else if k = 1001 then op.2 else if k = 1002 then mi else if k = 1003 then d1 else if k = 1004 then d2 else if k = 500 then b else e0), ⟨⟨fun ci r hr => hf ci r hr, ?_⟩, ?_, ?_⟩, ⟨?_, ?_, ?_, ?_, ?_, ?_, ?_⟩, rfl⟩
  · intro t q hq
    unfold m_tys at hq
    rw [List.getElem?_mapIdx] at hq
    obtain ⟨ty, hty, rfl⟩ := Option.map_eq_some_iff.mp hq
    have hl : t < 9 := (List.getElem?_eq_some_iff.mp hty).1
    match t, hl, hty with
    | 0, _, hty => cases hty; exact ⟨h00, h01⟩
    | 1, _, hty => cases hty; exact ⟨h10, h11⟩
    | 2, _, hty => cases hty; exact ⟨h20, h21⟩
    | 3, _, hty => cases hty; exact ⟨h30, h31⟩
    | 4, _, hty => cases hty; exact ⟨h40, h41⟩
    | 5, _, hty => cases hty; exact ⟨h00, h01⟩
    | 6, _, hty => cases hty; exact ⟨h60, h61⟩
    | 7, _, hty => cases hty; exact ⟨h70, h71⟩
    | 8, _, hty => cases hty; exact ⟨h80, h81⟩
  · exact fun w hw => va_Nw.of (m_nw_tab (List.mem_filter.mp hw).2) (hts w (List.mem_filter.mp hw).1)
  · intro C hC
    simp only [m_obl, List.mem_cons, List.mem_nil_iff, or_false] at hC
    rcases hC with rfl | rfl | rfl
    · exact va_AO.of (hts _ m_ao_0)
    · exact va_AO.of (hts _ m_ao_1)
    · exact va_AO.of (hts _ m_ao_2)
  · intro q hq
    simp only [m_stl, List.mem_cons, List.mem_nil_iff, or_false] at hq
    rcases hq with rfl | rfl | rfl | rfl | rfl | rfl
    · exact va_Zof (hts _ m_ls_DEFAUL) (hgt _ m_in_ArrayList) he0 hA
    · exact va_Zof (hts _ m_ls_COMPAC) (hgt _ m_in_String) (va_eqi (hn _ m_nn_c1)) hA
    · exact hop
    · exact va_Zof (hts _ m_ls_assert) (hgt _ m_in_StringUTF16) (va_eqi (hn _ m_nn_u1)) hA
    · exact va_Zof (hts _ m_ls_HI_BYT) (hgt _ m_in_StringUTF16) (va_eqi (hn _ m_nn_u2)) hA
    · exact va_Zof (hts _ m_ls_LO_BYT) (hgt _ m_in_StringUTF16) (va_eqi (hn _ m_nn_u3)) hA
  · intro k hk
    apply hA
    have he : e0 < s.heap.size := va_T_lt hT0
    by_cases h0 : k = 0
    · simp only [h0, if_true]; exact he
    · by_cases h1 : k ≤ m_sN
      · simp only [h0, h1, if_false, if_true]; exact va_O_lt (hg (k - 1) (by omega)).2.1
      · by_cases h2 : 201 ≤ k ∧ k < 201 + m_sN
        · simp only [h0, h1, h2, if_false, if_true, and_self]; exact va_T_lt (hg (k - 201) (by omega)).2.2.2.2
        · have h3 : ¬ k = 1000 := by omega
          have h4 : ¬ k = 1001 := by omega
          have h6 : ¬ k = 1002 := by omega
          have h7 : ¬ k = 1003 := by omega
          have h8 : ¬ k = 1004 := by omega
          by_cases h5 : k = 500
          · simp only [h0, h1, h2, h3, h4, h6, h7, h8, h5, if_false, if_true]; first | exact hbl | (simp; exact hbl)
          · simp only [h0, h1, h2, h3, h4, h6, h7, h8, h5, if_false]; exact he
  · intro q hq
    obtain ⟨q1, q2, q3⟩ := m_sxl_of q hq
    have hx := (hg (q.2.2.2 - 1) (by omega)).1
    rw [q3] at hx
    refine vk_R.of (hts _ (m_sr q hq)) ?_
    have h0 : ¬ q.2.2.2 = 0 := by omega
    simp only [h0, q2, if_false, if_true]
    exact hx
  · intro k k1 k2
    have h0 : ¬ k = 0 := by omega
    have hs300 : m_sN < 200 := by decide
    have e1 : (if k + 200 = 0 then e0 else if k + 200 ≤ m_sN then (g (k + 200 - 1)).1 else if 201 ≤ k + 200 ∧ k + 200 < 201 + m_sN then (g (k + 200 - 201)).2 else if k + 200 = 1000 then op.1 else if k + 200 = 1001 then op.2 else if k + 200 = 1002 then mi else if k + 200 = 1003 then d1 else if k + 200 = 1004 then d2 else if k + 200 = 500 then b else e0) = (g (k - 1)).2 := by
      rw [if_neg (by omega), if_neg (by omega), if_pos (by omega), show k + 200 - 201 = k - 1 by omega]
    have hx := hg (k - 1) (by omega)
    unfold m_Sx
    simp only [h0, k2, if_false, if_true, e1]
    exact hx.2
  · exact hT0
  · exact hmi
  · exact ⟨va_Zof (hts _ m_ls_DigitO) (hgt _ m_in_Integer) hd1 hA, va_Zof (hts _ m_ls_DigitT) (hgt _ m_in_Integer) hd2 hA, hD1, hD2⟩
