/-! The making of an exception, and its throw. -/
section XT
variable {p : Program} {l : Launch} {e : Env} {R : Room} {s : State} {m : MethodId} {args : Array Value} {below : List Frame} {meth : Method} {c : Code} {W : State} {cells slots : Nat}
set_option maxHeartbeats 2000000 in
theorem m_ctorX (X : Stand p l e R s m args below meth c W [] cells slots) (hexec : p.tables.exec = Jvm.exec) (htr : e.platform.stackTraces = false) {own cls Y : String} {names : List String} {ic ix : Nat} {rx : ByteArray}
    (hown : s.vm.findClass own = some m.cls) (hcls : Bundle.fit cls = true) (hY : Bundle.fit Y = true) (hnames : ∀ n ∈ names, Bundle.fit n = true)
    (d0 : decode rx 0 = .ok (.aload_n 0, 1)) (d1 : decode rx 1 = .ok (.aload_n 1, 1)) (d2 : decode rx 2 = .ok (.invokespecial ix, 3)) (d5 : decode rx 5 = .ok (.return_, 1))
    (h : ∀ q ∈ m_xAtoms own ic cls Y ix rx names, q.before args s = true)
    {a : Addr} {cX : ClassId} {kX : Class} (hfX : s.vm.findClass cls = some cX) (hkX : s.vm.classes[cX]? = some kX) (hcell : W.heap[a]? = some (freshCell cX kX)) (hnew : s.heap.size ≤ a) {msg : Value} (hmsg : msg.isRef = true)
    {g : JFrame} (hg : g.method = m) (hsize : g.locals.size = c.maxLocals) (hlocked : g.locked = none) (hentered : g.entered = []) {rest : List Value} (hstack : g.stack = msg :: .ref a :: .ref a :: rest)
    (hd6 : decode c.code g.pc = .ok (.invokespecial ic, 3)) (hd9 : decode c.code (g.pc + 3) = .ok (.athrow, 1)) (hout : ∀ x ∈ c.exceptionTable.toList, covers x (g.pc + 3) = false)
    (hRf : names.length + 4 < R.frames) (hRl : 2 * g.monitorRoom + ((Value.ref a :: rest).map fun v => v.category).sum + (13 * (names.length + 2) + 42) ≤ R.locals) (hlocks : meth.locks = false) :
    ∃ U : State, Steps p.tables e below (W.setTop g) U ∧ U.status = .running ∧ Ended U below (.threw a) ∧ s.WarmedH U.vm ∧ s.sameButNew ({ U with vm := s.vm } : State) [] cells slots ∧ ∃ ce : Cell, U.heap[a]? = some ce ∧ ce.cls = cX ∧ ce.vm = .none := by
  have hpl : e.platform.magicAccessors = ({} : Platform).magicAccessors := by rw [X.admits.platform]
  have in1 : ∀ q ∈ Bundle.throwableAtoms, q.before args s = true := fun q hq => h q (List.mem_append_left _ hq)
  have in2 : ∀ q ∈ Bundle.throwableSAtoms, q.before args s = true := fun q hq => h q (List.mem_append_right _ (List.mem_append_left _ hq))
  have in3 : ∀ q ∈ Bundle.passSAtoms cls Y ix rx, q.before args s = true := fun q hq => h q (List.mem_append_right _ (List.mem_append_right _ (List.mem_append_left _ hq)))
  have in4 : ∀ q ∈ Bundle.chainSAtoms Y names, q.before args s = true := fun q hq => h q (List.mem_append_right _ (List.mem_append_right _ (List.mem_append_right _ (List.mem_append_left _ hq))))
  have in5 : ∀ q ∈ m_xOwn own ic cls, q.before args s = true := fun q hq => h q (List.mem_append_right _ (List.mem_append_right _ (List.mem_append_right _ (List.mem_append_right _ hq))))
  obtain ⟨T, Z0, LT, -, TY⟩ := ThrowableC.of_atoms (args := args) (by rw [X.admits.platform]) (by rw [X.admits.platform]) hpl in1
  obtain ⟨Z, M, LZ, LM, hZ⟩ := Init0T.ofS_atoms (args := args) hpl LT TY in2
  obtain ⟨Pa, La, hPa, hsup⟩ := PassC.ofS_atoms (args := args) (s := s) hpl (X := cls) (Y := Y) (Bundle.fit_spec hcls).1 (Bundle.fit_spec hY).2 d0 d1 d2 d5 in3
  obtain ⟨Pb, Ps, hlen, Lb, Ls, hPb, hsb, hps⟩ := Bundle.chainS (args := args) hpl hZ names Y hY hnames in4
  have hab : Pa.sup = Pb.m := Option.some.inj (hsup.symm.trans hPb)
  have hfP : s.vm.findClass cls = some Pa.m.cls := findClass_of_methodNamed hPa
  cases Option.some.inj (hfX.symm.trans hfP)
  obtain ⟨c1, k1, hc1, hk1, hord, -, -, hn6⟩ := Cond.instantiable_spec (in5 (.instantiable cls 6) (by simp [m_xOwn]))
  cases Option.some.inj (hc1.symm.trans hfP)
  cases Option.some.inj (hkX.symm.trans hk1)
  have sel : ∀ (y : MethodName) (k : MethodId), (Cond.selects cls y y) ∈ m_xOwn own ic cls → s.methodNamed? y = some k → (y.cls ≠ "java/lang/invoke/MethodHandle" ∧ y.cls ≠ "java/lang/invoke/VarHandle") → selectMethod e.platform s.vm Pa.m.cls k = .method k := by
    intro y k hy hk hne
    obtain ⟨c2, r2, m2, q1, q2, q3, q4, -⟩ := Cond.selects_spec (in5 _ hy)
    cases Option.some.inj (q1.symm.trans hfP)
    cases Option.some.inj (q2.symm.trans (State.methodFound?_of_named hk hne))
    cases Option.some.inj (q3.symm.trans hk)
    rw [Launch.admits_selectMethod X.admits]; exact q4
  obtain ⟨cS, hcS, hiss⟩ := TY.statics
  obtain ⟨u0, hu0⟩ := Cond.staticRefV TY.unassigned LT.unassignedStatic LT.statics hcS hiss (in5 (.isRef (.static Bundle.tN "UNASSIGNED_STACK" Bundle.steD)) (by simp [m_xOwn]))
  obtain ⟨sen, hsen⟩ := Cond.staticRefV TY.sentinel LT.sentinelStatic LT.statics hcS hiss (in5 (.isRef (.static Bundle.tN "SUPPRESSED_SENTINEL" Bundle.listD)) (by simp [m_xOwn]))
  obtain ⟨ci9, i9, fB, hk9, hg9, ha9, hsB, -, hnB, htB, hffB⟩ := Cond.ownField (t := .object "java/lang/Object") TY.found LT.cls (by decide +kernel) (in5 (.fieldLink Bundle.tN 198 Bundle.tN "backtrace" "Ljava/lang/Object;") (by simp [m_xOwn])) (in5 (.lays Bundle.tN Bundle.tN "backtrace" "Ljava/lang/Object;") (by simp [m_xOwn])) e.platform hpl
  have hcS2 : W.heap[T.aS]? = some cS := (State.sameButNew.old_cell X.same hcS)
  have hknS : cS.vm ≠ .unknown := fun hu => by rw [hu] at hiss; cases hiss
  have hneS : T.aS ≠ a := Nat.ne_of_lt (Nat.lt_of_lt_of_le (Array.getElem?_eq_some_iff.mp hcS).1 hnew)
  obtain ⟨iM, hffM⟩ := TY.msg
  obtain ⟨tyC, dC, hdC, hdnC⟩ := Cond.laysAt hfP hk1 TY.cause (in5 (.lays cls Bundle.tN "cause" "Ljava/lang/Throwable;") (by simp [m_xOwn]))
  obtain ⟨tyS, dS, hdS, hdnS⟩ := Cond.laysAt hfP hk1 TY.stack (in5 (.lays cls Bundle.tN "stackTrace" Bundle.steD) (by simp [m_xOwn]))
  obtain ⟨tyP, dP, hdP, hdnP⟩ := Cond.laysAt hfP hk1 TY.supp (in5 (.lays cls Bundle.tN "suppressedExceptions" Bundle.listD) (by simp [m_xOwn]))
  obtain ⟨tyM, dM, hdM, hdnM⟩ := Cond.laysAt hfP hk1 hffM (in5 (.lays cls Bundle.tN "detailMessage" "Ljava/lang/String;") (by simp [m_xOwn]))
  obtain ⟨tyB, dB, hdB, hdnB⟩ := Cond.laysAt hfP hk1 hffB (in5 (.lays cls Bundle.tN "backtrace" "Ljava/lang/Object;") (by simp [m_xOwn]))
  have bC := Cond.laysApart hdB hdC hdnB hdnC (by rw [hnB, TY.causeName]; decide)
  have bS := Cond.laysApart hdB hdS hdnB hdnS (by rw [hnB, TY.stackName]; decide)
  have bP := Cond.laysApart hdB hdP hdnB hdnP (by rw [hnB, TY.suppName]; decide)
  have hskip : SkipFacts T e.platform s (fun u => u) u0 ((preparedCellV T.toThrowableT (freshCell Pa.m.cls kX) a u0 sen).withEntry W.cur) :=
    ⟨{ ci198 := ci9, i198 := i9, fBack := fB }, ⟨hk9, hg9, ha9, hsB⟩, by
      have := fresh_default (c := Pa.m.cls) tyB
      rw [htB] at this
      simpa [preparedCellV, Cell.setSlot, Cell.withEntry, Array.getElem?_setIfInBounds, bC, bS, bP, bC.symm, bS.symm, bP.symm, defaultValue] using this, fun _ _ => rfl⟩
  obtain ⟨tm, mC, cC, kC, vm₁, hnC, -, -, -, -, -, -, -, hW₁, st1⟩ := Steps.initColdS (tb := p.tables) (e := e) (below := below) (s := s) (U := W) X.here hexec X.warmed hpl hown (t := Bundle.initS cls) rfl rfl (Bundle.fit_spec hcls).2
    (in5 (.methodLink own ic (Bundle.initS cls)) (by simp [m_xOwn])) (in3 (.instanceMethod (Bundle.initS cls)) (by simp [Bundle.passSAtoms])) (bytes := rx) (maxL := 2) (in3 (.code (Bundle.initS cls) rx 2 none) (by simp [Bundle.passSAtoms]))
    (f := g) hg (a := a) (msg := msg) (rest := .ref a :: rest) hstack hd6
  cases Option.some.inj (hnC.symm.trans hPa)
  obtain ⟨vm₂, X₂, st2⟩ := (X.noted hW₁).ctorMessageOffV hexec (g := { g with stack := .ref a :: rest }) hg hsize T LT Z LZ M LM (Pa :: Pb :: Ps)
    (fun P hP => by
      rcases List.mem_cons.mp hP with rfl | hP
      · exact La
      · rcases List.mem_cons.mp hP with rfl | hP
        · exact Lb
        · exact Ls P hP) ⟨hab, hsb, hps⟩ (u0 := u0) (sen := sen) (self := a) hmsg (cell := freshCell Pa.m.cls kX) (cellS := cS)
    hcell (fun _ => by simp) (by simp) rfl rfl (sel _ _ (by simp [m_xOwn]) TY.fill0 (by decide)) (sel _ _ (by simp [m_xOwn]) TY.fill (by decide)) hcS2 hneS hknS hu0 hsen
    (Takes.of_laid hk1 hord tyC (by rw [TY.causeType]; rfl)) (Takes.of_laid hk1 hord tyS (by rw [TY.stackType]; exact fits_refV_array _ u0)) (Takes.of_laid hk1 hord tyP (by rw [TY.suppType]; exact fits_refV_object _ sen))
    (Takes.of_laid hk1 hord tyM (by rw [TY.msgType]; exact fits_refV_object _ ⟨msg, hmsg⟩)) TY.objLocals hskip htr [] hd6
    (by simp only [List.length_cons, hlen]; omega) (by simp only [List.length_cons, hlen]; exact hRl)
  obtain ⟨hwalk, hrun, hended, hWU, hsame⟩ := X₂.athrowLeaves hexec (g := { g with stack := .ref a :: rest, pc := g.pc + 3 }) hg hlocked hentered hout (a := a) (rest := rest) rfl hd9
  have hlt : a < ((W.setVm vm₁).setVm vm₂).heap.size := (Array.getElem?_eq_some_iff.mp hcell).1
  have hU := heapAt_setCell_self (s := (W.setVm vm₁).setVm vm₂) (plainBareV T.toThrowableT (freshCell Pa.m.cls kX) a u0 sen msg) hlt
  refine ⟨_, st1 _ (fun acts => ?_), hrun, hended, hWU, hsame.weaken (fun y hy hlt' => ?_) (Nat.le_refl _) (Nat.le_refl _), _, hU, rfl, rfl⟩
  · rw [doInvoke_state]
    exact st2 _ hwalk
  · exfalso
    have hb : y.base = a := by
      simp only [List.nil_append, List.mem_cons, List.not_mem_nil, or_false] at hy
      rcases hy with rfl | rfl | rfl | rfl | rfl <;> rfl
    rw [hb] at hlt'
    exact Nat.not_lt.mpr hnew hlt'
end XT
