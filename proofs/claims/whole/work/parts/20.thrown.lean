/-! The contract of a method that throws, out of a run of the small machine to the place of its throw. -/
def m_lay2 : List Cond := [.laysStatic "java/lang/Throwable" "UNASSIGNED_STACK" "[Ljava/lang/StackTraceElement;", .laysStatic "java/lang/Throwable" "SUPPRESSED_SENTINEL" "Ljava/util/List;"]
def m_kind (a : Cond) : Bool := goodWord a || m_nwk a || decide (a ∈ m_lay2) || decide (a ∈ m_two)
theorem m_ok_iae : ∀ a ∈ m_xAtoms "EdgeHouse" 88 "java/lang/IllegalArgumentException" "java/lang/RuntimeException" 7 (m_rx 7) ["java/lang/Exception"], m_kind a = true := by decide +kernel
theorem m_ok_nse : ∀ a ∈ m_xAtoms "EdgeHouse" 224 "java/util/NoSuchElementException" "java/lang/RuntimeException" 13 (m_rx 13) ["java/lang/Exception"], m_kind a = true := by decide +kernel
theorem m_ok_ioo : ∀ a ∈ m_xAtoms "EdgeHouse" 229 "java/lang/IndexOutOfBoundsException" "java/lang/RuntimeException" 7 (m_rx 7) ["java/lang/Exception"], m_kind a = true := by decide +kernel
theorem m_xat {ws : List Cond} (h1 : ∀ a ∈ ws, a ∈ lw_tbl ∨ a ∈ m_two) (h2 : ∀ a ∈ ws, m_kind a = true) {D : va_G} {dA : Nat → ClassId} {A : Nat → Prop} {args : Array Value} {s s' : State} (hv : s.vm = s'.vm) (hts : ∀ w ∈ m_gt, w.before args s = true) (hK : m_Kx D dA s) (hT : m_Tx A s' s'.heap) : ∀ a ∈ ws, a.before args s' = true := by
  have two : ∀ a ∈ m_two, a.before args s' = true := by
    intro a ha
    simp only [m_two, List.mem_cons, List.mem_nil_iff, or_false] at ha
    rcases ha with rfl | rfl
    · exact hT.1.isRef
    · exact hT.2.1.isRef
  intro a ha
  rcases h1 a ha with ht | ht
  · have hk := h2 a ha
    simp only [m_kind, Bool.or_eq_true, decide_eq_true_eq] at hk
    rcases hk with ((hk | hk) | hk) | hk
    · exact word_at (s := s) (U := s') (by rw [← hv]; exact State.WarmedH.refl s) (good_of_word hk) (hts a (m_gt_of ht hk))
    · exact va_Nw.use (m_nw_tab hk) (va_Nw.same (m_nw_tab hk) hv (hK.2.1 a (List.mem_filter.mpr ⟨ht, hk⟩)))
    · simp only [m_lay2, List.mem_cons, List.mem_nil_iff, or_false] at hk
      rcases hk with rfl | rfl
      · exact hT.1.lays
      · exact hT.2.1.lays
    · exact two a hk
  · exact two a ht
theorem m_Tx.moved {A : Nat → Prop} {u U : State} {H : Heap} (hvm : u.vm.Alike U.vm) (h : m_Tx A u H) : m_Tx A U H := ⟨h.1.moved hvm, h.2.1.moved hvm, h.2.2.moved hvm⟩
theorem m_Tx.kept {A : Nat → Prop} {U : State} {H H1 : Heap} (h : m_Tx A U H) (hq : ∀ a : Nat, a < H.size → ¬ A a → H1[a]? = H[a]?) : m_Tx A U H1 := ⟨h.1.kept hq, h.2.1.kept hq, h.2.2⟩
theorem m_Tx.narrow {A B : Nat → Prop} {U : State} {H : Heap} (h : m_Tx A U H) (hAB : ∀ q, B q → A q) : m_Tx B U H := ⟨h.1.narrow hAB, h.2.1.narrow hAB, h.2.2⟩
theorem m_P_old {D : va_G} {cl : List vw_C} {ws : va_W} {H H1 : Heap} (h : va_P D cl ws H) (hq : ∀ (a : Nat) (c : Cell), H[a]? = some c → H1[a]? = some c) : va_P D cl ws H1 := by
  refine h.kept (fun k q hk => ?_)
  cases h9 : H[q.1]? with
  | some c => exact hq _ _ h9
  | none =>
    have := h k q hk
    unfold va_at at this
    split at this
    · rw [h9] at this; cases this
    · obtain ⟨r, -, cell, g1, -⟩ := this
      rw [h9] at g1; cases g1
def m_QT (D : va_G) (dA : Nat → ClassId) (X : Nat → Nat) (L : List Nat) (A : Nat → Prop) (cls : String) (w : List mM) (mc ms : Nat) : Array Value → State → Outcome → State → Prop := fun _ st oc t =>
  ∃ (ex : Nat) (ce : Cell), oc = .threw ex ∧ t.heap[ex]? = some ce ∧ st.vm.findClass cls = some ce.cls ∧ ce.vm = .none ∧
    (∃ L2 : List Nat, (L ++ L2).length = w.length ∧ m_okw w.length w ∧ va_P D m_cl (m_wd X (L ++ L2) dA w) t.heap ∧ va_D A (m_wd X (L ++ L2) dA w)) ∧ va_F A st t ∧ st.WarmedH t.vm ∧
    ∃ Ls : List Loc, st.sameButNew ({ t with vm := st.vm } : State) Ls mc ms ∧ ∀ q ∈ Ls, A q.base
def m_PcT (D : va_G) (dA : Nat → ClassId) (X : Nat → Nat) (L : List Nat) (sz : Nat) (w : List mM) (U : State) : Prop := m_Pc D dA X L sz w U ∧ m_Tx (va_A (m_wd X L dA w) sz) U U.heap
/-- the contract of a method that throws an exception of the class cls -/
def m_MetT (l : Launch) (J : mI) (cls : String) (as : List Value) (w w' : List mM) (mc ms fr lo : Nat) : Prop :=
  ∀ (D : va_G) (dA : Nat → ClassId) (X : Nat → Nat) (L : List Nat) (sz : Nat), L.length = w.length → m_okw w.length w →
    MetFree l J.1 (headSpec (m_Ts J) { frames := fr, cells := mc, slots := ms, locals := lo }) (va_Pc (as.map (m_tr X L)) (m_PcT D dA X L sz w)) (fun _ _ _ _ _ => True) (m_QT D dA X L (va_A (m_wd X L dA w) sz) cls w' mc ms)
set_option maxHeartbeats 2000000 in
theorem m_MetT_of {l : Launch} (hfl : l.flags = pinnedFlags ++ [noTraceFlag]) {J : mI} (hJ : m_mOk J) {as : List Value} {w : List mM} (hfit : (lg_sl as).length ≤ J.2.2.1) {F' : mF} {dc ds fr lo : Nat} (hseg : m_Step l J (m_ent J as w) F' dc ds fr lo) (hst : F'.2.2.1 = [])
    {cls Y : String} {names : List String} {kc kt ic ix xi : Nat} {rx : ByteArray} {tx : String}
    (hd0 : decode J.2.1 F'.1 = .ok (.new kc, 3)) (hd3 : decode J.2.1 (F'.1 + 3) = .ok (.dup, 1)) (hd4 : decode J.2.1 (F'.1 + 3 + 1) = .ok (.ldc kt, 2)) (hd6 : decode J.2.1 (F'.1 + 3 + 1 + 2) = .ok (.invokespecial ic, 3)) (hd9 : decode J.2.1 (F'.1 + 3 + 1 + 2 + 3) = .ok (.athrow, 1))
    (hcl : Cond.classLink J.1.cls kc cls ∈ m_gt) (hin : Cond.initialized cls ∈ m_gt) (hit : Cond.instantiable cls 6 ∈ m_gt) (htx : (J.1.cls, kt, tx, xi) ∈ m_sxl) (hcls : Bundle.fit cls = true) (hY : Bundle.fit Y = true) (hnames : ∀ n ∈ names, Bundle.fit n = true)
    (d0 : decode rx 0 = .ok (.aload_n 0, 1)) (d1 : decode rx 1 = .ok (.aload_n 1, 1)) (d2 : decode rx 2 = .ok (.invokespecial ix, 3)) (d5 : decode rx 5 = .ok (.return_, 1))
    (h1 : ∀ a ∈ m_xAtoms J.1.cls ic cls Y ix rx names, a ∈ lw_tbl ∨ a ∈ m_two) (h2 : ∀ a ∈ m_xAtoms J.1.cls ic cls Y ix rx names, m_kind a = true)
    {f2 l2 : Nat} (hf1 : fr ≤ f2) (hf2 : names.length + 4 < f2) (hl1 : lo ≤ l2) (hl2 : 13 * (names.length + 2) + 43 ≤ l2) : m_MetT l J cls as w F'.2.2.2 (dc + 1) (ds + 6) f2 l2 := by
  intro D dA X L sz hL hok
  refine MetFree.of_bodyS (code := J.2.1) (maxLocals := J.2.2.1) (ret := J.2.2.2.2.1) hJ.2.2.1 ?_ ?_
  · intro args s m h hn
    obtain ⟨meth, c, g1, g2, g3, g4, g5, g6, -, -⟩ := Cond.code_spec hn (atoms_spec (ws := m_Ts J) h _ List.mem_cons_self)
    exact ⟨meth, c, g1, g2, g3, g4, g5, g6⟩
  · intro p e s m args below meth c s₁ B hml hP _
    obtain ⟨rfl, ⟨rfl, hPw, hD0, hK, hE⟩, hTx⟩ := hP
    have hts := atoms_spec (ws := m_Ts J) B.pre
    have hts2 : ∀ w ∈ m_gt, w.before (as.map (m_tr X L)).toArray s = true := fun w hw => hts w (List.mem_cons_of_mem _ hw)
    have hown : s.vm.findClass J.1.cls = some m.cls := findClass_of_methodNamed B.named
    have hlk : meth.locks = false := B.notSynchronized
    have hno := B.noHandlers (hts _ List.mem_cons_self)
    have hl := lv_entry (as.map (m_tr X L)) (n := J.2.2.1) (by rw [m_lgsl]; exact hfit)
    have K : W p l e { frames := f2, cells := dc + 1, slots := ds + 6, locals := l2 } s m (as.map (m_tr X L)).toArray below meth c s.heap [] 0 0 (fun t => ∃ o, t.status = .running ∧ Ended t below o ∧ m_QT D dA X L (va_A (m_wd X L dA w) s.heap.size) cls F'.2.2.2 (dc + 1) (ds + 6) (as.map (m_tr X L)).toArray s o t) (entryFrame m (as.map (m_tr X L)).toArray J.2.2.1) := by
      rw [lg_entry_eq]
      generalize (lg_sl (as.map (m_tr X L)) ++ List.replicate (J.2.2.1 - (lg_sl (as.map (m_tr X L))).length) Slot.unset).toArray = ls at hl ⊢
      rw [m_lvargs] at hl
      refine hseg p e { frames := f2, cells := dc + 1, slots := ds + 6, locals := l2 } s m (as.map (m_tr X L)).toArray below meth c s.heap [] 0 0 ls D dA X (va_A (m_wd X L dA w) s.heap.size) L _ B.exec B.bytes hml hown hts2 (name_of_methodNamed B.named B.method).1 hK hE (fun q hq => Or.inr hq) ⟨hL, hok, hPw, hD0.self, va_S.rf⟩ hl (by show 0 + dc ≤ dc + 1; omega) (by show 0 + ds ≤ ds + 6; omega) hf1 hl1 (fun H1 locs1 L2 ls' hS1 hl9 => ?_)
      rw [hst]
      intro T hT X9
      have X' := m_rebase X9 (by show 0 + dc ≤ dc + 1; omega) (by show 0 + ds ≤ ds + 6; omega)
      have htr : e.platform.stackTraces = false := Launch.traces_off hfl X9.admits
      have hTx' : m_Tx (va_A (m_wd X L dA w) s.heap.size) (m_re0 s T) (m_re0 s T).heap := by
        have : m_Tx (va_A (m_wd X L dA w) s.heap.size) (m_re0 s T) s.heap := m_Tx.moved (u := s) (Vm.Alike.refl _) hTx
        refine this.kept (fun a ha hA => ?_)
        show T.heap[a]? = s.heap[a]?
        rw [hT]
        exact hS1.2.2.2.2.2.1 a ha hA
      have hat := m_xat h1 h2 (s := s) (s' := m_re0 s T) rfl hts2 hK hTx'
      have gw : ∀ w ∈ m_gt, w.before (as.map (m_tr X L)).toArray (m_re0 s T) = true := fun w hw => word_at (s := s) (U := m_re0 s T) (State.WarmedH.refl s) (good_of_word (m_gt_good hw)) (hts2 w hw)
      have hE' : vk_R J.1.cls kt tx (X xi) (m_re0 s T) := vk_R.same (u := s) rfl (hE.2.2.1 _ htx)
      have hls : ls'.size = c.maxLocals := by rw [hl9.1]; exact hml.symm
      suffices Kw : W p l e { frames := f2, cells := dc + 1 - (0 + dc), slots := ds + 6 - (0 + ds), locals := l2 } (m_re0 s T) m (as.map (m_tr X L)).toArray below meth c T.heap [] 0 0 (fun t => ∃ o, t.status = .running ∧ Ended t below o ∧ m_QT D dA X L (va_A (m_wd X L dA w) s.heap.size) cls F'.2.2.2 (dc + 1) (ds + 6) (as.map (m_tr X L)).toArray s o t) (F0 m F'.1 ls' []) from Kw T rfl X'
      have hown' : (m_re0 s T).vm.findClass J.1.cls = some m.cls := hown
      have hc9 : 0 + 1 ≤ dc + 1 - (0 + dc) := by omega
      have hs9 : 0 + 6 ≤ ds + 6 - (0 + ds) := by omega
      refine W.newc (g := F0 m F'.1 ls' []) B.exec B.bytes (own := J.1.cls) (C := cls) (index := kc) (n := 6) hown' (gw _ hcl) (gw _ hit) (gw _ hin) rfl hd0 hc9 hs9 (fun cC kC q1 q2 q3 q4 => ?_)
      refine lv_dup B.exec B.bytes hd3 rfl ?_
      refine va_ldcS B.exec B.bytes (own := J.1.cls) hown' hE' hd4 ?_
      intro T2 hT2 X2
      have hc2 : T2.heap[T.heap.size]? = some (freshCell cC kC) := by rw [hT2]; exact Array.getElem?_push_size
      obtain ⟨U, st, hrun, hend, hWU, hsame, ce, hce, e1, e2⟩ := m_ctorX X2 B.exec htr (own := J.1.cls) (cls := cls) (Y := Y) (names := names) (ic := ic) (ix := ix) (rx := rx) hown' hcls hY hnames d0 d1 d2 d5 hat (a := T.heap.size) q1 q2 hc2 (Nat.le_refl _) (msg := .ref (X xi)) rfl
        (g := F0 m (F'.1 + 3 + 1 + 2) ls' [.ref (X xi), .ref T.heap.size, .ref T.heap.size]) rfl hls rfl rfl (rest := []) rfl (by rw [B.bytes]; exact hd6) (by rw [B.bytes]; exact hd9) (covers_of_empty hno _) hf2 (by show 2 * 0 + (1 + 0) + (13 * (names.length + 2) + 42) ≤ l2; omega) hlk
      have hold : ∀ (a : Nat) (c0 : Cell), T.heap[a]? = some c0 → U.heap[a]? = some c0 := fun a c0 h9 => State.sameButNew.old_cell hsame h9
      refine ⟨U, st, .threw T.heap.size, hrun, hend, T.heap.size, ce, rfl, hce, by rw [e1]; exact q1, e2, ⟨L2, hS1.1, hS1.2.1, m_P_old hS1.2.2.1 (by rw [← hT]; exact hold), hS1.2.2.2.1⟩, ⟨?_, ?_⟩, hWU, locs1, ?_, hS1.2.2.2.2.2.2⟩
      · have g1 : T.heap.size ≤ U.heap.size := hsame.2.1
        have g2 := hS1.2.2.2.2.1
        rw [← hT] at g2
        exact Nat.le_trans g2 g1
      · intro q g1 g2
        have g3 := hS1.2.2.2.2.2.1 q g1 g2
        rw [← g3, ← hT]
        have g4 : q < T.heap.size := by
          have := hS1.2.2.2.2.1
          rw [← hT] at this
          exact Nat.lt_of_lt_of_le g1 this
        rw [hold q _ (Array.getElem?_eq_getElem g4), Array.getElem?_eq_getElem g4]
      · have g1 := m_rebase_same X9 hsame
        exact g1.mono (by omega) (by omega)
    have hh0 : s₁.heap = s.heap := by rw [B.state]; rfl
    obtain ⟨t, a1, o, b1, b2, b3⟩ := K s₁ hh0 (Stand.of_body B)
    exact ⟨t, o, a1, b1, b2, b3⟩
