/-! Natives and class objects as steps: getClass() of an array, the constant Object[].class, clone() of bytes, bytes out of a text. -/
def m_gcn : MethodName := ⟨"java/lang/Object", "getClass", "()Ljava/lang/Class;"⟩
theorem m_tr_mi (X : Nat → Nat) (L : List Nat) : m_tr X L (.retAddr 1) = .ref (X 1002) := rfl
theorem m_Step.ldcM (l : Launch) {I : mI} (hI : m_bOk I) {pc k : Nat} {lv : List (Nat × Value)} {st : List Value} {w : List mM} (hd : m_de I pc = some (.ldc k, 2)) (f1 : Cond.classLink I.1.cls k "[Ljava/lang/Object;" ∈ m_gt) : m_Step l I (pc, lv, st, w) (pc + 2, lv, .retAddr 1 :: st, w) 0 0 0 0 := by
  intro p e R s m args below meth c H locs cells slots ls D dA X A L Q hx hb hml hown hts hnm hK hE hA hS hl hc hs hfr hlo kk
  refine va_ldcM hx hb hown (hts _ f1) hE.2.2.2.2.2.1 (m_de_ok hI hd) ?_
  have g := kk H locs [] ls (by rw [List.append_nil]; exact hS) (by rw [List.append_nil]; exact hl)
  rw [List.append_nil] at g
  exact g
theorem m_Step.getC (l : Launch) {I : mI} (hI : m_bOk I) {pc k a N : Nat} {lv : List (Nat × Value)} {r : List Value} {w : List mM} {els : List (Nat × Value)} (hd : m_de I pc = some (.invokevirtual k, 3)) (f1 : Cond.methodLink I.1.cls k m_gcn ∈ m_gt) (f2 : Cond.declares m_gcn ∈ m_nw) (f3 : Cond.selects "[Ljava/lang/Object;" m_gcn m_gcn ∈ m_gt) (f4 : Cond.instanceMethod m_gcn ∈ m_gt) (f5 : Cond.native m_gcn ∈ m_gt)
    (hw : m_at w a = some (.inl (8, N, els))) (hcat : (r.map fun v => v.category).sum ≤ 8) : m_Step l I (pc, lv, .ref a :: r, w) (pc + 3, lv, .retAddr 1 :: r, w) 0 0 1 22 := by
  intro p e R s m args below meth c H locs cells slots ls D dA X A L Q hx hb hml hown hts hnm hK hE hA hS hl hc hs hfr hlo kk
  have hS : m_St D dA X A s.heap H locs L w := hS
  obtain ⟨h5, h6⟩ := m_at_L (X := X) hS.1 hw
  have hwd := m_wd_get (X := X) (dA := dA) h5 h6
  have hcell : H[m_ad X L a]? = some (vp_cell (dA 8) (m_arr X L 8 N els)) := hS.2.2.1 _ _ hwd
  have hra := (hK.1.2 8 _ (m_tys_get (dA := dA) (t := 8) rfl)).2
  obtain ⟨kA, comp, k1, k2, k3, k4⟩ := hra
  rw [show "[" ++ (FieldType.object "java/lang/Object").toString = "[Ljava/lang/Object;" from by decide +kernel] at k4
  have hvm0 : (vp_cell (dA 8) (m_arr X L 8 N els)).vm = .none := by
    obtain ⟨n, f | f | f | f | f⟩ := m_arr X L 8 N els <;> rfl
  have hcl0 : (vp_cell (dA 8) (m_arr X L 8 N els)).cls = dA 8 := by
    obtain ⟨n, f | f | f | f | f⟩ := m_arr X L 8 N els <;> rfl
  refine va_getC (C := "[Ljava/lang/Object;") hx hb (hml.trans hl.1.symm) hown (hts _ f1) (va_Nw.use rfl (hK.2.1 _ f2)) (hts _ f3) (hts _ f4) (hts _ f5) hE.2.2.2.2.2.1 ⟨_, hcell, by rw [hvm0]; rfl, by rw [hcl0]; exact k4⟩ hfr ?_ (m_de_ok hI hd) ?_
  · rw [m_cat_sum]
    have := hlo
    omega
  · have g := kk H locs [] ls (by rw [List.append_nil]; exact hS) (by rw [List.append_nil]; exact hl)
    rw [List.append_nil] at g
    exact g
/-- two class objects that are one -/
theorem m_Step.acmpM (l : Launch) {I : mI} (hI : m_bOk I) {pc t : Nat} {off : Int} {lv : List (Nat × Value)} {r : List Value} {w : List mM} (hd : m_de I pc = some (.if_acmp .ne off, 3)) (hj : m_jmp pc off = some t) : m_Step l I (pc, lv, .retAddr 1 :: .retAddr 1 :: r, w) (pc + 3, lv, r, w) 0 0 0 0 := by
  intro p e R s m args below meth c H locs cells slots ls D dA X A L Q hx hb hml hown hts hnm hK hE hA hS hl hc hs hfr hlo kk
  have g := kk H locs [] ls (by rw [List.append_nil]; exact hS) (by rw [List.append_nil]; exact hl)
  rw [List.append_nil] at g
  exact lv_acmp_ne (rx := some (X 1002)) (ry := some (X 1002)) hx hb (m_de_ok hI hd) (m_jmp_ok hj) (fun h1 => absurd rfl h1) (fun h1 => g)
/-- bytes out of a text -/
theorem m_Step.copyT (l : Launch) {I : mI} (hI : m_bOk I) {pc k a0 a1 N1 : Nat} {bs : List Int32} {lv : List (Nat × Value)} {r : List Value} {w : List mM} {e1 : List (Nat × Value)} {sp dp n : Int32} (hd : m_de I pc = some (.invokestatic k, 3))
    (f1 : Cond.methodLink I.1.cls k arraycopyName ∈ m_gt) (f2 : Cond.native arraycopyName ∈ m_gt) (f3 : Cond.static arraycopyName ∈ m_gt) (f4 : Cond.initialized "java/lang/System" ∈ m_gt) (h0 : m_xby a0 = some bs) (hft : ∀ i, i < bs.length → fits .byte (.int (bs.getD i 0)) = true) (h1 : m_at w a1 = some (.inl (3, N1, e1)))
    (g1 : ¬ sp < 0) (g2 : ¬ dp < 0) (g3 : ¬ n < 0) (g4 : sp.toNatClampNeg + n.toNatClampNeg ≤ bs.length) (g5 : dp.toNatClampNeg + n.toNatClampNeg ≤ N1) (hcat : (r.map fun v => v.category).sum ≤ 8) :
    m_Step l I (pc, lv, .int n :: .int dp :: .ref a1 :: .int sp :: .ref a0 :: r, w) (pc + 3, lv, r, w.set (a1 - 512) (.inl (3, N1, m_cpl 3 (bs.mapIdx (fun j b => (j, .int b))) e1 sp.toNatClampNeg dp.toNatClampNeg n.toNatClampNeg))) 0 0 1 (8 + (nativeFrameWords "java/lang/System" "arraycopy" 5 + 11)) := by
  intro p e R s m args below meth c H locs cells slots ls D dA X A L Q hx hb hml hown hts hnm hK hE hA hS hl hc hs hfr hlo kk
  have hS : m_St D dA X A s.heap H locs L w := hS
  obtain ⟨q0, q1⟩ := m_at_L (X := X) hS.1 h1
  have hw1 := m_wd_get (X := X) (dA := dA) q0 q1
  have e9 : m_cell X L dA (.inl (3, N1, e1)) = .inl (dA 3, N1, .inl (fun j => m_toI (m_el 3 e1 j))) := congrArg (fun z => Sum.inl (dA 3, z)) (m_arr_i (t := 3) (by decide) (by decide))
  rw [e9] at hw1
  obtain ⟨y1, y2, y3, y4, hl9⟩ := m_xby_ok h0
  have hsx := (hE.2.2.2.1 (a0 - 200) y3 y4).2.2.2
  rw [m_m200 y1, ← hl9] at hsx
  have hel : ∀ j, m_toI (m_el 3 (bs.mapIdx (fun j b => (j, Value.int b))) j) = bs.getD j 0 := by
    intro j
    have hf : (bs.mapIdx (fun j b => (j, Value.int b))).find? (fun q => q.1 == j) = (bs[j]?).map (fun b => (j, Value.int b)) := by
      have key : ∀ (l : List Int32) (o : Nat), (l.mapIdx (fun i b => (o + i, Value.int b))).find? (fun q => q.1 == j) = if o ≤ j then (l[j - o]?).map (fun b => (j, Value.int b)) else none := by
        intro l
        induction l with
        | nil => intro o; simp
        | cons x l ih =>
          intro o
          rw [List.mapIdx_cons]
          by_cases hj : o = j
          · subst hj
            simp
          · have e3 : (fun i b => (o + (i + 1), Value.int b)) = (fun i (b : Int32) => ((o + 1) + i, Value.int b)) := by
              funext i b
              rw [show o + (i + 1) = o + 1 + i by omega]
            rw [List.find?_cons_of_neg (by simpa using hj)]
            show (List.mapIdx (fun i b => (o + (i + 1), Value.int b)) l).find? _ = _
            rw [e3, ih (o + 1)]
            by_cases h2 : o + 1 ≤ j
            · rw [if_pos h2, if_pos (by omega), show j - o = (j - (o + 1)) + 1 by omega, List.getElem?_cons_succ]
            · rw [if_neg h2, if_neg (by omega)]
      have := key bs 0
      simpa using this
    unfold m_el
    rw [hf, List.getD_eq_getElem?_getD]
    cases bs[j]? <;> rfl
  have hokc : m_okc w.length (.inl (3, N1, m_cpl 3 (bs.mapIdx (fun j b => (j, Value.int b))) e1 sp.toNatClampNeg dp.toNatClampNeg n.toNatClampNeg)) = true := by
    simp only [m_okc, Bool.or_eq_true, decide_eq_true_eq]
    exact Or.inl (by decide)
  show W p l e R s m args below meth c H locs cells slots Q (F0 m pc ls (.int n :: .int dp :: .ref (m_ad X L a1) :: .int sp :: .ref (m_ad X L a0) :: r.map (m_tr X L)))
  rw [m_ad_out (X := X) (L := L) y2]
  refine vk_copyt (a := m_ad X L a1) hx hb (hml.trans hl.1.symm) hown (hts _ f1) (hts _ f2) (hts _ f3) (hts _ f4) hK.1 hS.2.2.1 hS.2.2.2.1 hS.2.2.2.2 hsx (a1 - 512) 3 hw1 (m_tys_get rfl) g1 g2 g3 g4 g5 (fun i hi => hft _ (by omega)) hfr ?_ (m_de_ok hI hd) (fun H1 locs1 k1 k2 k3 => ?_)
  · rw [m_cat_sum]
    have := hlo
    omega
  · have e8 : m_arr X L 3 N1 (m_cpl 3 (bs.mapIdx (fun j b => (j, Value.int b))) e1 sp.toNatClampNeg dp.toNatClampNeg n.toNatClampNeg) = (N1, .inl (va_cpy (fun j => bs.getD j 0) (fun j => m_toI (m_el 3 e1 j)) sp.toNatClampNeg dp.toNatClampNeg n.toNatClampNeg)) := by
      rw [m_arr_cpl (by decide) (by decide)]
      congr 3
      funext j
      exact hel j
    have hS2 := m_St_set (q1 := .inl (3, N1, m_cpl 3 (bs.mapIdx (fun j b => (j, Value.int b))) e1 sp.toNatClampNeg dp.toNatClampNeg n.toNatClampNeg)) (H1 := H1) (locs1 := locs1) hS h1 (congrArg (fun z => Sum.inl (dA 3, z)) e8) hokc k1 k2 k3
    have g := kk H1 locs1 [] ls (by rw [List.append_nil]; exact hS2) (by rw [List.append_nil]; exact hl)
    rw [List.append_nil] at g
    exact g
theorem m_nmB {D : va_G} {dA : Nat → ClassId} {s : State} (hK : m_Kx D dA s) : s.vm.findClass "[B" = some (dA 3) := by
  have h : s.vm.findClass ("[" ++ FieldType.byte.toString) = some (dA 3) := (hK.1.2 3 _ (m_tys_get (dA := dA) (t := 3) rfl)).2
  rw [show "[" ++ FieldType.byte.toString = "[B" from by decide +kernel] at h
  exact h
def m_cln (c : String) : MethodName := ⟨c, "clone", "()Ljava/lang/Object;"⟩
theorem m_Step.cloneB (l : Launch) {I : mI} (hI : m_bOk I) {pc k a N : Nat} {lv : List (Nat × Value)} {r : List Value} {w : List mM} {els : List (Nat × Value)} (hd : m_de I pc = some (.invokevirtual k, 3)) (f1 : Cond.methodLink I.1.cls k (m_cln "[B") ∈ m_gt) (f2 : Cond.sameMethod "[B" "java/lang/Object" "clone" "()Ljava/lang/Object;" ∈ m_gt) (f3 : Cond.native (m_cln "java/lang/Object") ∈ m_gt) (f4 : Cond.instanceMethod (m_cln "java/lang/Object") ∈ m_gt) (f5 : Cond.selects "[B" (m_cln "[B") (m_cln "java/lang/Object") ∈ m_gt) (f6 : Cond.castable "[B" "java/lang/Cloneable" ∈ m_nw)
    (hw : m_at w a = some (.inl (3, N, els))) (hft : ∀ i, i < N → fits .byte (.int (m_toI (m_el 3 els i))) = true) (hcat : (r.map fun v => v.category).sum ≤ 8) (hokf : m_okf (pc, lv, .ref a :: r, w) = true) : m_Step l I (pc, lv, .ref a :: r, w) (pc + 3, lv, .ref (512 + w.length) :: r, w ++ [.inl (3, N, els)]) 1 N 1 22 := by
  intro p e R s m args below meth c H locs cells slots ls D dA X A L Q hx hb hml hown hts hnm hK hE hA hS hl hc hs hfr hlo kk
  have hS : m_St D dA X A s.heap H locs L w := hS
  have hlen9 : L.length = w.length := hS.1
  obtain ⟨h5, h6⟩ := m_at_L (X := X) hS.1 hw
  have hwd := m_wd_get (X := X) (dA := dA) h5 h6
  have e9 : m_cell X L dA (.inl (3, N, els)) = .inl (dA 3, N, .inl (fun j => m_toI (m_el 3 els j))) := congrArg (fun z => Sum.inl (dA 3, z)) (m_arr_i (t := 3) (by decide) (by decide))
  have hok := m_okf_st hokf
  rw [e9] at hwd
  refine va_clone (ad := "[B") (a := m_ad X L a) hx hb (hml.trans hl.1.symm) hown (hts _ f1) (hts _ f2) (hts _ f3) (hts _ f4) (hts _ f5) (hK.2.1 _ f6) hK.1 hS.2.2.1 hS.2.2.2.1 hS.2.2.2.2 hA (a - 512) 3 hwd (m_tys_get rfl) (m_nmB hK) (fun i v hv => ?_) hfr ?_ hc hs (m_de_ok hI hd) (fun q H1 k1 k2 k3 k4 => ?_)
  · have hlt : i < N := by
      have h1 := (Array.getElem?_eq_some_iff.mp hv).1
      have h2 : (vp_cell (dA 3) (N, .inl (fun j => m_toI (m_el 3 els j)))).slots.size = N := arrV_size _ _ _
      omega
    have h3 : (vp_cell (dA 3) (N, .inl (fun j => m_toI (m_el 3 els j)))).slots[i]? = some (.int (m_toI (m_el 3 els i))) := arrV_read _ _ hlt
    cases hv.symm.trans h3
    exact hft i hlt
  · rw [m_cat_sum]
    have := hlo
    omega
  · have hokc : m_okc L.length (.inl (3, N, els)) = true := by
      simp only [m_okc, Bool.or_eq_true, decide_eq_true_eq]
      exact Or.inl (by decide)
    have hS2 := m_St_push (q := .inl (3, N, els)) hS e9 hokc k2 k3 k4
    have g := kk H1 locs [q] ls hS2 (by rw [m_lvt_ext (fun q hq => by rw [hlen9]; exact hok.2 q hq)]; exact hl)
    have e8 := m_st_push (X := X) (a := q) (st := r) hlen9 (fun v hv => by rw [hlen9]; exact hok.1 v (List.mem_cons_of_mem _ hv))
    have g : W p l e R s m args below meth c H1 locs (cells + 1) (slots + N) Q (F0 m (pc + 3) ls ((Value.ref (512 + w.length) :: r).map (m_tr X (L ++ [q])))) := g
    rw [e8] at g
    exact g
theorem m_Step.castB (l : Launch) {I : mI} (hI : m_bOk I) {pc k a N : Nat} {lv : List (Nat × Value)} {r : List Value} {w : List mM} {els : List (Nat × Value)} (hd : m_de I pc = some (.checkcast k, 3)) (f1 : Cond.classLink I.1.cls k "[B" ∈ m_gt) (hw : m_at w a = some (.inl (3, N, els))) : m_Step l I (pc, lv, .ref a :: r, w) (pc + 3, lv, .ref a :: r, w) 0 0 0 0 := by
  intro p e R s m args below meth c H locs cells slots ls D dA X A L Q hx hb hml hown hts hnm hK hE hA hS hl hc hs hfr hlo kk
  have hS : m_St D dA X A s.heap H locs L w := hS
  obtain ⟨h5, h6⟩ := m_at_L (X := X) hS.1 hw
  have hwd := m_wd_get (X := X) (dA := dA) h5 h6
  refine va_castA (nm := "[B") hx hb hown (hts _ f1) hS.2.2.1 (a - 512) hwd (m_nmB hK) (m_de_ok hI hd) ?_
  have g := kk H locs [] ls (by rw [List.append_nil]; exact hS) (by rw [List.append_nil]; exact hl)
  rw [List.append_nil] at g
  exact g
