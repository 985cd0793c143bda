/-! Calls that the small machine itself hasn't: of a method that the receiver's class inherits or overrides, of the superclass's own. -/
theorem m_go_step {l : Launch} {I J : mI} {pc : Nat} {lv : List (Nat × Value)} {st as rest : List Value} {w : List mM} {r : mR} (ht : m_takeI J st = some (J, as, rest)) (hokf : m_okf (pc, lv, st, w) = true)
    (hrun : ∀ (p : Program) (e : Env) (R : Room) (s : State) (m : MethodId) (args : Array Value) (below : List Frame) (meth : Method) (c : Code) (H : Heap) (locs : List Loc) (cells slots : Nat) (ls : Array Slot) (D : va_G) (dA : Nat → ClassId) (X : Nat → Nat) (A : Nat → Prop) (L : List Nat) (a : Nat), as = .ref a :: (st.take J.2.2.2.1).reverse → st[J.2.2.2.1]? = some (.ref a) →
      p.tables.exec = Jvm.exec → c.code = I.2.1 → c.maxLocals = I.2.2.1 → ls.size = I.2.2.1 → s.vm.findClass I.1.cls = some m.cls → (∀ w ∈ m_gt, w.before args s = true) → m_Kx D dA s → m_St D dA X A s.heap H locs L w → r.2.2.2.2.1 + 1 ≤ R.frames → 8 + (J.2.2.1 + 11) + r.2.2.2.2.2 ≤ R.locals → cells + r.2.2.1 ≤ R.cells → slots + r.2.2.2.1 ≤ R.slots →
      PreS s H (va_Pc (.ref (m_ad X L a) :: ((st.take J.2.2.2.1).reverse).map (m_tr X L)) (m_Pc D dA X L H.size w)) (.ref (m_ad X L a) :: ((st.take J.2.2.2.1).reverse).map (m_tr X L)) →
      (((st.take J.2.2.2.1).reverse).map (m_tr X L)).length = J.2.2.2.1 → (F0 m pc ls (st.map (m_tr X L))).stack = (((st.take J.2.2.2.1).reverse).map (m_tr X L)).reverse ++ .ref (m_ad X L a) :: (st.drop (J.2.2.2.1 + 1)).map (m_tr X L) → 2 * (F0 m pc ls (st.map (m_tr X L))).monitorRoom + (((st.drop (J.2.2.2.1 + 1)).map (m_tr X L)).map fun v => v.category).sum ≤ 8 →
      va_Run p l e R s m args below meth c H locs cells slots r.2.2.1 r.2.2.2.1 (F0 m pc ls (st.map (m_tr X L))) ((st.drop (J.2.2.2.1 + 1)).map (m_tr X L)) (m_Qc D dA X L (va_A (m_wd X L dA w) H.size) r.1 r.2.1 (.ref (m_ad X L a) :: ((st.take J.2.2.2.1).reverse).map (m_tr X L)).toArray) (va_A (m_wd X L dA w) H.size)) :
    m_Step l I (pc, lv, st, w) (pc + 3, lv, r.1.toList ++ rest, r.2.1) r.2.2.1 r.2.2.2.1 (r.2.2.2.2.1 + 1) (8 + (J.2.2.1 + 11) + r.2.2.2.2.2) := by
  intro p e R s m args below meth c H locs cells slots ls D dA X A L Q hx hb hml hown hts hnm hK hE hA hS hl hc hs hfr hlo kk
  have hS : m_St D dA X A s.heap H locs L w := hS
  have hlen9 : L.length = w.length := hS.1
  obtain ⟨a, e1, e2, e3, e4, e5⟩ := m_takeI_inv ht
  obtain ⟨-, e1⟩ := Prod.mk.inj e1
  obtain ⟨rfl, rfl⟩ := Prod.mk.inj e1
  have hstk : st.map (m_tr X L) = (((st.take J.2.2.2.1).reverse).map (m_tr X L)).reverse ++ .ref (m_ad X L a) :: (st.drop (J.2.2.2.1 + 1)).map (m_tr X L) := by
    rw [List.map_reverse, List.reverse_reverse]
    conv => lhs; rw [e2]
    rw [List.map_append, List.map_cons]; rfl
  have hlen : ((((st.take J.2.2.2.1).reverse).map (m_tr X L))).length = J.2.2.2.1 := by rw [List.length_map, List.length_reverse, e3]
  have hcat : 2 * (F0 m pc ls (st.map (m_tr X L))).monitorRoom + (((st.drop (J.2.2.2.1 + 1)).map (m_tr X L)).map fun v => v.category).sum ≤ 8 := by
    rw [m_cat_sum]; show 2 * 0 + _ ≤ 8; omega
  have hp := m_pre hA hS hK hE ((.ref (m_ad X L a)) :: ((st.take J.2.2.2.1).reverse).map (m_tr X L))
  refine m_go hA hS (hrun p e R s m args below meth c H locs cells slots ls D dA X A L a rfl e4 hx hb hml hl.1 hown hts hK hS hfr hlo hc hs hp hlen hstk hcat) (fun H1 locs1 L2 hS1 => ?_)
  have hok := m_okf_st hokf
  have g := kk H1 locs1 L2 ls hS1 (by rw [m_lvt_ext (fun q hq => by rw [hlen9]; exact hok.2 q hq)]; exact hl)
  have e9 : (st.drop (J.2.2.2.1 + 1)).map (m_tr X L) = (st.drop (J.2.2.2.1 + 1)).map (m_tr X (L ++ L2)) := (m_trs_ext (fun v hv => by rw [hlen9]; exact hok.1 v (List.mem_of_mem_drop hv))).symm
  have e8 : (r.1.map (m_tr X (L ++ L2))).toList ++ (st.drop (J.2.2.2.1 + 1)).map (m_tr X L) = (r.1.toList ++ st.drop (J.2.2.2.1 + 1)).map (m_tr X (L ++ L2)) := by
    rw [e9, List.map_append]
    cases r.1 <;> rfl
  rw [e8]
  exact g
/-- a method that the receiver's class rr inherits or overrides: x is what the call names, declared by owner -/
theorem m_Step.virt (l : Launch) {I J : mI} (hI : m_bOk I) {pc k a ci : Nat} {lv : List (Nat × Value)} {st as rest : List Value} {w : List mM} {fs : List Value} {rr : vw_C} {r : mR} {x : MethodName} {owner : String} (hd : m_de I pc = some (.invokevirtual k, 3)) (hJm : J ∈ m_mt)
    (f1 : Cond.methodLink I.1.cls k x ∈ m_gt) (f2 : Cond.sameMethod x.cls owner x.name x.desc ∈ m_gt) (f3 : ∀ (args : Array Value) (s : State), (∀ w ∈ m_gt, w.before args s = true) → va_Decl s ⟨owner, x.name, x.desc⟩) (f4 : ∀ (args : Array Value) (s : State), (∀ w ∈ m_gt, w.before args s = true) → (Cond.selects rr.1 x J.1).before args s = true) (f5 : Cond.instanceMethod J.1 ∈ m_gt)
    (hdesc : (parseMethodDescriptor x.desc).map (fun d => d.parameters.length) = some J.2.2.2.1) (hy : owner ≠ "java/lang/invoke/MethodHandle" ∧ owner ≠ "java/lang/invoke/VarHandle") (ht : m_takeI J st = some (J, as, rest)) (ha : st[J.2.2.2.1]? = some (.ref a)) (hrv : m_at w a = some (.inr (ci, fs))) (hr : m_cl[ci]? = some rr) (hokf : m_okf (pc, lv, st, w) = true) (hM : m_Met l J as w r) :
    m_Step l I (pc, lv, st, w) (pc + 3, lv, r.1.toList ++ rest, r.2.1) r.2.2.1 r.2.2.2.1 (r.2.2.2.2.1 + 1) (8 + (J.2.2.1 + 11) + r.2.2.2.2.2) := by
  refine m_go_step ht hokf ?_
  intro p e R s m args below meth c H locs cells slots ls D dA X A L a9 e1 e4 hx hb hml hls hown hts hK hS hfr hlo hc hs hp hlen hstk hcat
  cases ha.symm.trans e4
  subst e1
  have hJ := m_mt_ok J hJm
  have hM2 := hM D dA X L H.size hS.1 hS.2.1
  obtain ⟨h5, h6⟩ := m_at_L (X := X) hS.1 hrv
  have hrc := va_recv hK.1 hS.2.2.1 hr (m_wd_get (X := X) (dA := dA) h5 h6)
  have cw : va_CU R s args I.1.cls rr.1 owner k x J.1 J.2.1 J.2.2.1 J.2.2.2.2.1 (m_Ts J) (m_room r) r.2.2.1 r.2.2.2.1 J.2.2.2.1 := by
    refine ⟨⟨rfl, rfl, hfr, hlo, pay_in hts (m_good (m_Ts_in hJ)), List.mem_cons_self⟩, hts _ hJ.1, hts _ hJ.2.1, hy, fun sig h => ?_, hts _ f1, hts _ f2, f3 args s hts, f4 args s hts, hts _ f5⟩
    rw [h] at hdesc
    exact (Option.some.inj hdesc).symm
  exact va_runU (Ts := m_gt) (own := I.1.cls) (nL := I.2.2.1) (b := m_ad X L a) (As := ((st.take J.2.2.2.1).reverse).map (m_tr X L)) (rest := (st.drop (J.2.2.2.1 + 1)).map (m_tr X L)) ⟨hx, hb, hml, hown, hts⟩ hM2 cw ⟨hp.1, hrc, hp.2⟩ rfl hlen hls hstk hcat (m_de_ok hI hd) ⟨hc, hs⟩
/-- super.m(..) -/
theorem m_Step.sup (l : Launch) {I J : mI} (hI : m_bOk I) {pc k a ci : Nat} {lv : List (Nat × Value)} {st as rest : List Value} {w : List mM} {fs : List Value} {rr : vw_C} {r : mR} (hd : m_de I pc = some (.invokespecial k, 3)) (hJm : J ∈ m_mt)
    (f1 : Cond.methodLink I.1.cls k J.1 ∈ m_gt) (f2 : Cond.sameMethod J.1.cls J.1.cls J.1.name J.1.desc ∈ m_gt) (f3 : Cond.superclass I.1.cls J.1.cls ∈ m_gt) (f4 : Cond.instanceMethod J.1 ∈ m_gt) (hno : J.1.name ≠ "<init>") (ht : m_takeI J st = some (J, as, rest)) (ha : st[J.2.2.2.1]? = some (.ref a)) (hrv : m_at w a = some (.inr (ci, fs))) (hr : m_cl[ci]? = some rr) (hokf : m_okf (pc, lv, st, w) = true) (hM : m_Met l J as w r) :
    m_Step l I (pc, lv, st, w) (pc + 3, lv, r.1.toList ++ rest, r.2.1) r.2.2.1 r.2.2.2.1 (r.2.2.2.2.1 + 1) (8 + (J.2.2.1 + 11) + r.2.2.2.2.2) := by
  refine m_go_step ht hokf ?_
  intro p e R s m args below meth c H locs cells slots ls D dA X A L a9 e1 e4 hx hb hml hls hown hts hK hS hfr hlo hc hs hp hlen hstk hcat
  cases ha.symm.trans e4
  subst e1
  have hJ := m_mt_ok J hJm
  have hM2 := hM D dA X L H.size hS.1 hS.2.1
  obtain ⟨h5, h6⟩ := m_at_L (X := X) hS.1 hrv
  have hrc := va_recv hK.1 hS.2.2.1 hr (m_wd_get (X := X) (dA := dA) h5 h6)
  have hgo : GoodIn m_gt (va_wsSU I.1.cls k J.1 (m_Ts J)) := m_good (fun w9 hw9 => by
    rcases List.mem_append.mp hw9 with h9 | h9
    · simp only [List.mem_cons, List.mem_nil_iff, or_false] at h9
      rcases h9 with rfl | rfl | rfl | rfl | rfl
      · exact f1
      · exact f2
      · exact f3
      · exact f4
      · exact hJ.2.1
    · exact m_Ts_in hJ w9 h9)
  exact va_runSU (hK.1.1 ci rr hr).2 (Ts := m_gt) (own := I.1.cls) (nL := I.2.2.1) (b := m_ad X L a) (As := ((st.take J.2.2.2.1).reverse).map (m_tr X L)) (rest := (st.drop (J.2.2.2.1 + 1)).map (m_tr X L)) ⟨hx, hb, hml, hown, hts⟩ hM2 (va_cwSU J.2.2.2.1 hts hgo rfl rfl rfl ⟨hno, hJ.2.2.2.2.1⟩ ⟨hfr, hlo⟩) ⟨hp.1, hrc, hp.2⟩ rfl hlen hls hstk hcat (m_de_ok hI hd) ⟨hc, hs⟩
/-- a private method of a superclass, called on an object of the class C -/
theorem m_selP {C : String} {y z : MethodName} (hz : Cond.selects C z z ∈ m_gt) (hzc : z.cls = y.cls) (hp : Cond.privateMethod y ∈ m_gt) (hi : Cond.instanceMethod y ∈ m_gt) (hy : y.cls ≠ "java/lang/invoke/MethodHandle" ∧ y.cls ≠ "java/lang/invoke/VarHandle") (args : Array Value) (s : State) (hts : ∀ w ∈ m_gt, w.before args s = true) : (Cond.selects C y y).before args s = true := by
  obtain ⟨c, r, m0, h1, h2, h3, h4, k0, h5, h6⟩ := Cond.selects_spec (hts _ hz)
  obtain ⟨mk, methM, hnamed, hmethM, -, -⟩ := Cond.instanceMethod_spec (hts _ hi)
  have hfound : s.methodFound? y.cls y.name y.desc = some mk := State.methodFound?_of_named hnamed hy
  have hcls : m0.cls = mk.cls := by
    have g1 := findClass_of_methodNamed h3
    have g2 := findClass_of_methodNamed hnamed
    rw [hzc, g2] at g1
    exact (Option.some.inj g1).symm
  have hsel : selectMethod {} s.vm c mk = .method mk := selectMethod_private hmethM ((Cond.privateMethod_at (hts _ hp)) mk methM hnamed hmethM)
  rw [hcls] at h5
  simp only [Cond.before, Cond.holds, Cond.value, h1, hfound, hnamed, hsel, h5]
  simp
  exact h6
theorem m_declI {x : MethodName} {b : ByteArray} {m : Nat} {ret : Option FieldType} (hi : Cond.instanceMethod x ∈ m_gt) (hc : Cond.code x b m ret ∈ m_gt) (args : Array Value) (s : State) (hts : ∀ w ∈ m_gt, w.before args s = true) : va_Decl s x := va_Decl.of (hts _ hi) (hts _ hc)
