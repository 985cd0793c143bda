/-! Exceptions: the state from which a throw is counted anew, what a throw needs of Throwable's statics, a catch whose class isn't resolved yet. -/
def m_re0 (s T : State) : State := { s with heap := T.heap, slotsUsed := T.slotsUsed }
section RB
variable {p : Program} {l : Launch} {e : Env} {R : Room} {s : State} {m : MethodId} {args : Array Value} {below : List Frame} {meth : Method} {c : Code} {T : State} {locs : List Loc} {cells slots : Nat}
theorem m_rebase (X : Stand p l e R s m args below meth c T locs cells slots) (hc : cells ≤ R.cells) (hs : slots ≤ R.slots) : Stand p l e { R with cells := R.cells - cells, slots := R.slots - slots } (m_re0 s T) m args below meth c T [] 0 0 := by
  have hr := X.room
  simp only [State.hasRoom, Bool.and_eq_true, decide_eq_true_eq] at hr
  have h1 := X.heapSize
  have h2 := X.used
  refine ⟨X.admits, X.cas, X.clock, X.frames, ?_, X.hears, X.method, X.code, X.here, X.tail, X.warmed, X.limits, X.bytes, ?_⟩
  · simp only [State.hasRoom, Bool.and_eq_true, decide_eq_true_eq]
    refine ⟨⟨⟨⟨hr.1.1.1.1, hr.1.1.1.2⟩, ?_⟩, ?_⟩, X.book⟩
    · have h3 := hr.1.1.2
      show T.heap.size + (R.cells - cells) ≤ _
      omega
    · have h3 := hr.1.2
      show T.slotsUsed + (R.slots - slots) ≤ _
      omega
  · have e0 : (T.heap.toList.drop T.heap.size) = [] := List.drop_of_length_le (by rw [Array.length_toList]; exact Nat.le_refl _)
    refine ⟨X.same.1, Nat.le_refl _, Nat.le_refl _, ?_, ?_, fun a c0 h => ⟨c0, h, rfl, rfl, fun _ _ => rfl⟩⟩
    · show T.slotsUsed = T.slotsUsed + ((T.heap.toList.drop T.heap.size).map (·.slots.size)).sum
      rw [e0]; rfl
    · show ((T.heap.toList.drop T.heap.size).map (·.slots.size)).sum ≤ 0
      rw [e0]; exact Nat.le_refl _
theorem m_rebase_same (X : Stand p l e R s m args below meth c T locs cells slots) {U : State} {c2 s2 : Nat} (h : (m_re0 s T).sameButNew ({ U with vm := s.vm } : State) [] c2 s2) : s.sameButNew ({ U with vm := s.vm } : State) locs (cells + c2) (slots + s2) := by
  have h1 : s.sameButNew (m_re0 s T) locs cells slots := by
    obtain ⟨q1, q2, q3, q4, q5, q6⟩ := X.same
    refine ⟨?_, q2, q3, q4, q5, q6⟩
    obtain ⟨t, ht, -⟩ := State.frames_cons X.frames
    show m_re0 s T = { s.setFrames s.frames with heap := T.heap, slotsUsed := T.slotsUsed }
    rw [State.setFrames_self ht]
    rfl
  have h2 := h1.trans h
  rw [List.append_nil] at h2
  exact h2
end RB
/-- a static of Throwable that holds a reference or null, outside A -/
def m_Tz (n d : String) (A : Nat → Prop) (U : State) (H : Heap) : Prop := ∃ (c : ClassId) (k : Class) (i : Nat) (f : Field) (a : Nat) (cell : Cell) (v : Value), U.vm.findClass "java/lang/Throwable" = some c ∧ U.fieldFound? "java/lang/Throwable" n d = some (c, k, i, f) ∧ f.isStatic = true ∧ k.statics = some a ∧ H[a]? = some cell ∧ cell.vm.isStatics = true ∧ cell.cls = c ∧ f.slot < cell.slots.size ∧ k.staticTypes[f.slot]? = some f.type ∧ cell.slots[f.slot]? = some v ∧ v.isRef = true ∧ ¬ A a
theorem m_Tz.of {n d : String} {args : Array Value} {s : State} {A : Nat → Prop} (hl : (Cond.laysStatic "java/lang/Throwable" n d).before args s = true) (hr : (Cond.isRef (.static "java/lang/Throwable" n d)).before args s = true) (hA : ∀ a : Nat, a < s.heap.size → ¬ A a) : m_Tz n d A s s.heap := by
  obtain ⟨c, k, i, f, a, cell, hc, hi, hst, ha, hcell, hs, hcls, hlt, hty⟩ := Cond.laysStatic_spec hl
  cases hv : (Term.static "java/lang/Throwable" n d).eval args s none [] s with
  | none => simp [Cond.before, Cond.holds, Cond.value, hv] at hr
  | some v =>
    obtain ⟨hst', a', cell', ha', hcell', -, hslot⟩ := Term.static_spec hi hv
    cases ha.symm.trans ha'
    cases hcell.symm.trans hcell'
    refine ⟨c, k, i, f, a, cell, v, hc, hi, hst, ha, hcell, hs, hcls, hlt, hty, hslot, ?_, hA a (Array.getElem?_eq_some_iff.mp hcell).1⟩
    simp only [Cond.before, Cond.holds, Cond.value, hv] at hr
    cases v <;> simp_all [Value.isRef]
theorem m_Tz.lays {n d : String} {args : Array Value} {U : State} {A : Nat → Prop} (h : m_Tz n d A U U.heap) : (Cond.laysStatic "java/lang/Throwable" n d).before args U = true := by
  obtain ⟨c, k, i, f, a, cell, v, hc, hi, hst, ha, hcell, hs, hcls, hlt, hty, hslot, hr, -⟩ := h
  simp [Cond.before, Cond.holds, Cond.value, hc, hi, hst, ha, hcell, hs, hcls, hlt, hty]
theorem m_Tz.isRef {n d : String} {args : Array Value} {U : State} {A : Nat → Prop} (h : m_Tz n d A U U.heap) : (Cond.isRef (.static "java/lang/Throwable" n d)).before args U = true := by
  obtain ⟨c, k, i, f, a, cell, v, hc, hi, hst, ha, hcell, hs, hcls, hlt, hty, hslot, hr, -⟩ := h
  have e : (Term.static "java/lang/Throwable" n d).eval args U none [] U = some v := by
    simp [Term.eval, State.fieldNamed?, hi, hst, ha, hcell, hs, hslot]
  simp only [Cond.before, Cond.holds, Cond.value, e]
  cases v <;> simp_all [Value.isRef]
theorem m_Tz.moved {n d : String} {A : Nat → Prop} {u U : State} {H : Heap} (hvm : u.vm.Alike U.vm) (h : m_Tz n d A u H) : m_Tz n d A U H := by
  obtain ⟨c, k, i, f, a, cell, v, hc, hi, hst, ha, hcell, hs, hcls, hlt, hty, hslot, hr, hA⟩ := h
  obtain ⟨k', hi', he⟩ := State.fieldFound?_setVm hvm hi
  exact ⟨c, k', i, f, a, cell, v, by first | (rw [← hvm.findClass]; exact hc) | (rw [hvm.findClass]; exact hc), hi', hst, by rw [he]; exact ha, hcell, hs, hcls, hlt, by rw [he]; exact hty, hslot, hr, hA⟩
theorem m_Tz.kept {n d : String} {A : Nat → Prop} {U : State} {H H1 : Heap} (h : m_Tz n d A U H) (hq : ∀ a : Nat, a < H.size → ¬ A a → H1[a]? = H[a]?) : m_Tz n d A U H1 := by
  obtain ⟨c, k, i, f, a, cell, v, hc, hi, hst, ha, hcell, hs, hcls, hlt, hty, hslot, hr, hA⟩ := h
  exact ⟨c, k, i, f, a, cell, v, hc, hi, hst, ha, by rw [hq a (Array.getElem?_eq_some_iff.mp hcell).1 hA]; exact hcell, hs, hcls, hlt, hty, hslot, hr, hA⟩
theorem m_Tz.narrow {n d : String} {A B : Nat → Prop} {U : State} {H : Heap} (h : m_Tz n d A U H) (hAB : ∀ q, B q → A q) : m_Tz n d B U H := by
  obtain ⟨c, k, i, f, a, cell, v, hc, hi, hst, ha, hcell, hs, hcls, hlt, hty, hslot, hr, hA⟩ := h
  exact ⟨c, k, i, f, a, cell, v, hc, hi, hst, ha, hcell, hs, hcls, hlt, hty, hslot, hr, fun h => hA (hAB _ h)⟩
/-- what is out of bounds is no element that is not there -/
def m_Nc (U : State) : Prop := ∀ a b, U.vm.findClass "java/lang/IndexOutOfBoundsException" = some a → U.vm.findClass "java/util/NoSuchElementException" = some b → U.vm.assignable a b = false
theorem m_Nc.of {args : Array Value} {s : State} (h : (Cond.not (Cond.castable "java/lang/IndexOutOfBoundsException" "java/util/NoSuchElementException")).before args s = true) : m_Nc s := fun a b ha hb => by
  simpa [Cond.before, Cond.holds, Cond.value, ha, hb] using h
theorem m_Nc.moved {u U : State} (hvm : u.vm.Alike U.vm) (h : m_Nc u) : m_Nc U := fun a b ha hb => by
  rw [hvm.assignable]
  exact h a b (by first | (rw [← hvm.findClass]; exact ha) | (rw [hvm.findClass] at ha; exact ha)) (by first | (rw [← hvm.findClass]; exact hb) | (rw [hvm.findClass] at hb; exact hb))
def m_Tx (A : Nat → Prop) (U : State) (H : Heap) : Prop := m_Tz "UNASSIGNED_STACK" "[Ljava/lang/StackTraceElement;" A U H ∧ m_Tz "SUPPRESSED_SENTINEL" "Ljava/util/List;" A U H ∧ m_Nc U
/-- the search for a handler at a row whose class may want resolving -/
theorem m_find {e : Env} {S : State} {f : JFrame} {a : Addr} {x : ExceptionTableEntry} {t : List ExceptionTableEntry} {cc : ClassId} {cell : Cell} {vm' : Vm} {Q : Handler → Pre} {E : CtlPost} {d : Bool} {acts : List Action} (hx : covers x f.pc = true) (h0 : x.catchType ≠ 0)
    (hg : (resolveClass f.method.cls x.catchType).Gives e.toSetting S.vm (.ok cc) vm') (hsz : vm'.classes.size ≤ S.vm.classes.size) (hcell : S.heap[a]? = some cell) (hobj : ∀ k, cell.vm ≠ .statics k) (hk : ∃ k, vm'.classes[cell.cls]? = some k) (hcl : ∃ k, vm'.classes[cc]? = some k) (hfit : vm'.assignable cell.cls cc = true) :
    Sem.wp (findHandler.go f a (x :: t)) Q E e d acts S ↔ Q (.found x.handlerPc) d acts (S.setVm vm') := by
  simp only [covers] at hx
  obtain ⟨ha, ht⟩ := hg.op (op := VmOp.resolveClass f.method.cls x.catchType) rfl
  have hland := VmOp.lands_same (e := e) (s := S) (op := VmOp.resolveClass f.method.cls x.catchType) (by rw [ht]; exact hsz)
  rw [ht] at hland
  obtain ⟨k1, hk1⟩ := hk
  obtain ⟨k2, hk2⟩ := hcl
  simp [findHandler.go, hx, h0, ha, hland, hcell, hobj, hk1, hk2, hfit, VmOp.dirties, VmOp.acts]
theorem m_throwing_catch {e : Env} {s : State} {a : Addr} {f : JFrame} {r : List Frame} {pc : Nat} {vm' : Vm} (hfind : ∀ (Q : Handler → Pre) (E : CtlPost) (d : Bool) (acts : List Action), Sem.wp (findHandler f a) Q E e d acts s ↔ Q (.found pc) d acts (s.setVm vm')) :
    (stepThrowing e s a (.java f :: r)).Is ((s.setVm vm').setFrames (.java { f with pc := pc, stack := [.ref a] } :: r)) [] := by
  simp only [stepThrowing, searchFrame, vmDo]
  generalize hr : Sem.go _ e false [] s = res
  obtain ⟨as, rfl, ha⟩ := Sem.eq_ok_of hr (a := Handler.found pc) (s' := s.setVm vm') (acts' := []) (by simp [hfind _ _ _ _])
  exact ⟨rfl, ha⟩
/-- into a handler of the method's own, its class noted -/
theorem m_caught {tb : Tables} {e : Env} {s target : State} {g : JFrame} {c : Code} {below : List Frame} {a : Addr} (h : At s g.method c below) {pc : Nat} {vm' : Vm} (hal : s.vm.Alike vm')
    (hfind : ∀ (Q : Handler → Pre) (E : CtlPost) (d : Bool) (acts : List Action), Sem.wp (findHandler g a) Q E e d acts ((s.setTop g).pushFrame (.throwing a)) ↔ Q (.found pc) d acts (((s.setTop g).pushFrame (.throwing a)).setVm vm'))
    (hrest : Steps tb e below ((s.setVm vm').setTop { g with pc := pc, stack := [.ref a] }) target) : Steps tb e below ((s.setTop g).pushFrame (.throwing a)) target := by
  obtain ⟨hgo, hw⟩ := h.throwing a
  refine Steps.head hgo hw ?_
  rw [stepThread_throwing (frames_entered h.top _), (m_throwing_catch (s := (s.setTop g).pushFrame (.throwing a)) hfind).1]
  obtain ⟨g₀, hg⟩ := Option.isSome_iff_exists.mp h.top
  obtain ⟨r, hr⟩ := State.topJava?_eq_some.mp hg
  have hr' : (s.setVm vm').frames = .java g₀ :: r := hr
  rw [State.setTop_of_frames _ hr'] at hrest
  rw [State.pushFrame, State.setTop_of_frames _ hr, State.setFrames_setFrames]
  rw [hr]
  have e9 : ∀ (fs fs' : List Frame), ((s.setFrames fs).setVm vm').setFrames fs' = (s.setVm vm').setFrames fs' := fun fs fs' => by
    show ((s.setVm vm').setFrames fs).setFrames fs' = _
    rw [State.setFrames_setFrames]
  rw [e9]
  exact hrest
/-- .. and at a row whose class does not fit -/
theorem m_find_no {e : Env} {S : State} {f : JFrame} {a : Addr} {x : ExceptionTableEntry} {t : List ExceptionTableEntry} {cc : ClassId} {cell : Cell} {vm' : Vm} {Q : Handler → Pre} {E : CtlPost} {d : Bool} {acts : List Action} (hx : covers x f.pc = true) (h0 : x.catchType ≠ 0)
    (hg : (resolveClass f.method.cls x.catchType).Gives e.toSetting S.vm (.ok cc) vm') (hsz : vm'.classes.size ≤ S.vm.classes.size) (hcell : S.heap[a]? = some cell) (hobj : ∀ k, cell.vm ≠ .statics k) (hk : ∃ k, vm'.classes[cell.cls]? = some k) (hcl : ∃ k, vm'.classes[cc]? = some k) (hfit : vm'.assignable cell.cls cc = false) :
    Sem.wp (findHandler.go f a (x :: t)) Q E e d acts S ↔ Sem.wp (findHandler.go f a t) Q E e d acts (S.setVm vm') := by
  simp only [covers] at hx
  obtain ⟨ha, ht⟩ := hg.op (op := VmOp.resolveClass f.method.cls x.catchType) rfl
  have hland := VmOp.lands_same (e := e) (s := S) (op := VmOp.resolveClass f.method.cls x.catchType) (by rw [ht]; exact hsz)
  rw [ht] at hland
  obtain ⟨k1, hk1⟩ := hk
  obtain ⟨k2, hk2⟩ := hcl
  simp [findHandler.go, hx, h0, ha, hland, hcell, hobj, hk1, hk2, hfit, VmOp.dirties, VmOp.acts]
