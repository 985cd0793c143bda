/-! A call whose callee throws, caught by the method's second handler. -/
section MCT2
variable {p : Program} {l : Launch} {e : Env} {R : Room} {s : State} {m : MethodId} {args : Array Value} {below : List Frame} {meth : Method} {c : Code} {H : Heap} {locs : List Loc} {cells slots : Nat} {Q : State → Prop} {I J : mI} {X : Nat → Nat} {L : List Nat} {pc : Nat} {ls : Array Slot} {st : List Value} {w w' : List mM} {D : va_G} {dA : Nat → ClassId} {A : Nat → Prop}
set_option maxHeartbeats 2000000 in
theorem m_catchV2 (hx : p.tables.exec = Jvm.exec) (hb : c.code = I.2.1) (hml : c.maxLocals = I.2.2.1) (hls : ls.size = I.2.2.1) (hown : s.vm.findClass I.1.cls = some m.cls) (hts : ∀ w ∈ m_gt, w.before args s = true) (hK : m_Kx D dA s) (hE : m_Ex X A s s.heap) (hTx : m_Tx A s s.heap) (hA : ∀ q, s.heap.size ≤ q → A q) (hI : m_bOk I) (hS : m_St D dA X A s.heap H locs L w)
    {k : Nat} (hd : decode I.2.1 pc = .ok (.invokevirtual k, 3)) {as rest : List Value} (h : m_ca I (.invokevirtual k) st w = some (J, as, rest)) {mc ms fr lo : Nat} (hM : m_MetT l J "java/lang/IndexOutOfBoundsException" as w w' mc ms fr lo)
    (hfr : fr + 1 ≤ R.frames) (hlo : 8 + (J.2.2.1 + 11) + lo ≤ R.locals) (hc : cells + mc ≤ R.cells) (hs : slots + ms ≤ R.slots)
    {x1 x : ExceptionTableEntry} {xs : List ExceptionTableEntry} (hex : c.exceptionTable.toList = x1 :: x :: xs) (hcov1 : covers x1 pc = true) (hct1 : x1.catchType ≠ 0) (hcl1 : Cond.classLink I.1.cls x1.catchType "java/util/NoSuchElementException" ∈ m_gt) (hcov : covers x pc = true) (hct : x.catchType ≠ 0) (hcl : Cond.classLink I.1.cls x.catchType "java/lang/IndexOutOfBoundsException" ∈ m_gt) (hcast : Cond.castable "java/lang/IndexOutOfBoundsException" "java/lang/IndexOutOfBoundsException" ∈ m_nw)
    (kk : ∀ (H1 : Heap) (locs1 : List Loc) (L2 : List Nat) (ex : Nat), m_St D dA X A s.heap H1 locs1 (L ++ L2) w' → W p l e R s m args below meth c H1 locs1 (cells + mc) (slots + ms) Q (F0 m x.handlerPc ls [.ref ex])) :
    W p l e R s m args below meth c H locs cells slots Q (F0 m pc ls (st.map (m_tr X L))) := by
  unfold m_ca at h
  simp only at h
  split at h
  · rename_i kd mid ci hce
    split at h
    · rename_i hkd
      subst hkd
      split at h
      · rename_i J2 hJ2
        split at h
        · rename_i hrec
          obtain ⟨a, e1, e2, e3, e4, e5⟩ := m_takeI_inv h
          cases e1
          have hJ := m_mt_ok J (List.mem_of_getElem? hJ2)
          have hstk : st.map (m_tr X L) = (((st.take J.2.2.2.1).reverse).map (m_tr X L)).reverse ++ .ref (m_ad X L a) :: (st.drop (J.2.2.2.1 + 1)).map (m_tr X L) := by
            rw [List.map_reverse, List.reverse_reverse]
            conv => lhs; rw [e2]
            rw [List.map_append, List.map_cons]; rfl
          have hlen : ((((st.take J.2.2.2.1).reverse).map (m_tr X L))).length = J.2.2.2.1 := by rw [List.length_map, List.length_reverse, e3]
          have hcat : 2 * (F0 m pc ls ((st.drop (J.2.2.2.1 + 1)).map (m_tr X L))).monitorRoom + (((st.drop (J.2.2.2.1 + 1)).map (m_tr X L)).map fun v => v.category).sum ≤ 8 := by
            rw [m_cat_sum]; show 2 * 0 + _ ≤ 8; omega
          have hp := m_pre hA hS hK hE ((.ref (m_ad X L a)) :: ((st.take J.2.2.2.1).reverse).map (m_tr X L))
          have hco := (hI.2.2.2.2.2.2.1 _ (m_ce_mem hce)).2.2.2
          obtain ⟨J3, g1, -, g2, -, -⟩ := hco (Nat.le_of_ble_eq_true rfl)
          cases hJ2.symm.trans g1
          obtain ⟨f1, f2, rr, f3, f4, f5⟩ := g2 rfl
          have hrv : ∃ cell : Cell, H[m_ad X L a]? = some cell ∧ cell.vm.isStatics = false ∧ s.vm.findClass rr.1 = some cell.cls := by
            unfold m_isRecv at hrec
            rw [e4] at hrec
            simp only at hrec
            split at hrec
            · rename_i cj fs hat
              have hcj := of_decide_eq_true hrec
              subst hcj
              obtain ⟨h5, h6⟩ := m_at_L (X := X) hS.1 hat
              exact va_recv hK.1 hS.2.2.1 f3 (m_wd_get (X := X) (dA := dA) h5 h6)
            · cases hrec
            · obtain ⟨rfl, ha1, ha2⟩ := of_decide_eq_true hrec
              cases f3
              have h9 : a < 512 := Nat.lt_of_le_of_lt ha2 (by decide)
              obtain ⟨cell, k1, k2, k3, -⟩ := (hE.2.2.2.1 a ha1 ha2).1.kept hS.2.2.2.2.2.1
              exact ⟨cell, by unfold m_ad; rw [if_pos h9]; exact k1, k2, k3⟩
          rw [f4] at hrv
          have hy := hJ.2.2.2.1
          have hM2 := hM D dA X L H.size hS.1 hS.2.1
          intro T hT X9
          have hpl : e.platform.magicAccessors = ({} : Platform).magicAccessors := by rw [X9.admits.platform]
          obtain ⟨mk, methM, hnamed, hmethM, hstM, habM⟩ := Cond.instanceMethod_spec (hts _ f2)
          obtain ⟨methM', cM, hmethM', hcM, -, hlM, -, -, -, hsigM⟩ := Cond.code_spec hnamed (hts _ hJ.1)
          cases hmethM.symm.trans hmethM'
          obtain ⟨c2, r2, m2, q1, q2, q3, q4, kP, hkP, hkPi⟩ := Cond.selects_spec (hts _ f5)
          obtain ⟨cellB, hcB, hoB, hclB⟩ := hrv
          cases hclB.symm.trans q1
          cases (State.methodFound?_of_named hnamed hy).symm.trans q2
          cases hnamed.symm.trans q3
          have hselP : selectMethod e.platform s.vm cellB.cls mk = .method mk := by rw [Launch.admits_selectMethod X9.admits]; exact q4
          have hpar : (((st.take J.2.2.2.1).reverse).map (m_tr X L)).length = methM.sig.parameters.length := by
            rw [hlen]
            have := hJ.2.2.2.2.1
            rw [hsigM] at this
            exact (Option.some.inj this).symm
          obtain ⟨vm₁, X₁, hstep₁⟩ := X9.invokevirtual hx hown (hts _ f1) hnamed hmethM hstM hkP hkPi hy (a := m_ad X L a) (cell := cellB) (by rw [hT]; exact hcB) (fun z hz => by rw [hz] at hoB; cases hoB) hselP hmethM habM hkP hkPi
            (g := F0 m pc ls (st.map (m_tr X L))) rfl (argsL := ((st.take J.2.2.2.1).reverse).map (m_tr X L)) (rest := (st.drop (J.2.2.2.1 + 1)).map (m_tr X L)) hpar hstk (by rw [hb]; exact hd)
          generalize hg9 : F0 m pc ls ((st.drop (J.2.2.2.1 + 1)).map (m_tr X L)) = g at hcat
          have hgm : g.method = m := by rw [← hg9]
          have hgp : g.pc = pc := by rw [← hg9]
          have hgl : g.locals = ls := by rw [← hg9]
          have hgs : g.stack = (st.drop (J.2.2.2.1 + 1)).map (m_tr X L) := by rw [← hg9]
          have hn1 := X₁.named hnamed
          obtain ⟨kY, hkY, -⟩ := className_of_methodNamed hn1
          have hinit : kY.init = .initialized := Cond.initialized_spec (args := args) (findClass_of_methodNamed hn1) hkY (word_at X₁.warmed (good_of_word (m_gt_good hJ.2.1)) (hts _ hJ.2.1))
          have hm1 : (T.setVm vm₁).vm.method? mk = some methM := by rw [X₁.warmed.alike.method?]; exact hmethM
          have hdg : decode c.code g.pc = .ok (.invokevirtual k, 3) := by rw [hgp, hb]; exact hd
          have hAt : At (T.setVm vm₁) g.method c below := by rw [hgm]; exact X₁.here
          have happ : (headSpec (m_Ts J) { frames := fr, cells := mc, slots := ms, locals := lo }).appliesLoose J.1 e.platform ((T.setVm vm₁).calling g mk (Value.ref (m_ad X L a) :: ((st.take J.2.2.2.1).reverse).map (m_tr X L)).toArray) = true :=
            Spec.appliesLoose_calling (g := g) hAt hdg hn1 hkY hinit
              (X₁.room_calling (g := g) (R' := { frames := fr, cells := mc, slots := ms, locals := lo }) (by rw [hgl, hls]; exact hml.symm) hm1 hcM hfr (by rw [hlM, hgs]; show _ + _ + (J.2.2.1 + 11) + lo ≤ R.locals; omega) hc hs)
              (atoms_intro (fun w9 hw9 => by
                have hin : w9 ∈ m_gt := m_Ts_in hJ w9 hw9
                exact word_at X₁.warmed (good_of_word (m_gt_good hin)) (hts _ hin)))
          have hf9 : ((T.setVm vm₁).setTop g).frames = [.java g] ++ below := by
            rw [State.frames_setTop' g hAt.top, X₁.tail]; rfl
          have hsub := m_sub hA hS
          have hTx1 : m_Tx (va_A (m_wd X L dA w) H.size) ((T.setVm vm₁).calling g mk (Value.ref (m_ad X L a) :: ((st.take J.2.2.2.1).reverse).map (m_tr X L)).toArray) ((T.setVm vm₁).calling g mk (Value.ref (m_ad X L a) :: ((st.take J.2.2.2.1).reverse).map (m_tr X L)).toArray).heap := by
            have t1 : m_Tx A s H := hTx.kept (fun a h1 h2 => hS.2.2.2.2.2.1 a h1 h2)
            have t2 := (t1.narrow hsub).moved X₁.warmed.alike
            rw [← hT] at t2 ⊢
            exact t2
          have hP9 : va_Pc ((Value.ref a :: (st.take J.2.2.2.1).reverse).map (m_tr X L)) (m_PcT D dA X L H.size w) (Value.ref (m_ad X L a) :: ((st.take J.2.2.2.1).reverse).map (m_tr X L)).toArray ((T.setVm vm₁).calling g mk (Value.ref (m_ad X L a) :: ((st.take J.2.2.2.1).reverse).map (m_tr X L)).toArray) := by
            have t3 := hp.1 _ _ g mk (hp.2 (T.setVm vm₁) hT X₁.warmed)
            exact ⟨t3.1, t3.2, hTx1⟩
          obtain ⟨o, s₂, hsteps, -, hend, hq⟩ := Steps.callFree hM2 p X9.admits X9.cas X9.clock (acts := []) hf9 happ hP9 trivial
          rw [hf9] at hend
          obtain ⟨ex, ce, rfl, hce, hcc, hvm, ⟨L2, w1, w2, w3, w4⟩, ⟨v1, v2⟩, hW2, Ls, hsame, hLs⟩ := hq
          obtain ⟨T', X', hW', hB, ht⟩ := X₁.outOfThrown (g := g) hgm hend hW2 hsame
          have hheap : T'.heap = s₂.heap := by rw [ht, Stand.throwing_heap]
          obtain ⟨cc, hfcc, hclk⟩ := Cond.classLink_spec hown (hts _ hcl) e.platform hpl
          have hcc' : s.vm.findClass "java/lang/IndexOutOfBoundsException" = some ce.cls := by
            have t4 : (T.setVm vm₁).vm.findClass "java/lang/IndexOutOfBoundsException" = some ce.cls := hcc
            first | (rw [X₁.warmed.alike.findClass] at t4; exact t4) | (rw [← X₁.warmed.alike.findClass] at t4; exact t4)
          cases Option.some.inj (hcc'.symm.trans hfcc)
          obtain ⟨cc1, hfcc1, hclk1⟩ := Cond.classLink_spec hown (hts _ hcl1) e.platform hpl
          obtain ⟨hgv1, hWv1, hrd1⟩ := State.classEntry (e := e) X'.warmed hclk1
          generalize T'.vm.noted m.cls x1.catchType (.cls cc1) = vm1 at hgv1 hWv1 hrd1
          have X1 := X'.noted hWv1
          obtain ⟨hgv, hWv, hrd⟩ := State.classEntry (e := e) X1.warmed hclk
          generalize (T'.setVm vm1).vm.noted m.cls x.catchType (.cls ce.cls) = vm' at hgv hWv hrd
          have hno : s.vm.assignable ce.cls cc1 = false := hTx.2.2 _ _ hcc' hfcc1
          obtain ⟨kn0, hkn0⟩ := Vm.classAt_of_findClass hfcc1
          obtain ⟨kn1, hkn1, -⟩ := hWv1.alike.2.2 _ _ hkn0
          obtain ⟨c3, c4, hc3, hc4, hasg⟩ := Cond.castable_spec (va_Nw.use (A := args) rfl (hK.2.1 _ hcast))
          cases Option.some.inj (hc3.symm.trans hcc')
          cases Option.some.inj (hc4.symm.trans hcc')
          obtain ⟨kk0, hkk0⟩ := Vm.classAt_of_findClass hcc'
          obtain ⟨kk1, hkk1, -⟩ := hWv.alike.2.2 _ _ hkk0
          obtain ⟨kk2, hkk2, -⟩ := hWv1.alike.2.2 _ _ hkk0
          have hfind : ∀ (Q : Handler → Pre) (E : CtlPost) (d : Bool) (acts : List Action), Sem.wp (findHandler g ex) Q E e d acts ((T'.setTop g).pushFrame (.throwing ex)) ↔ Q (.found x.handlerPc) d acts (((T'.setTop g).pushFrame (.throwing ex)).setVm vm') := by
            intro Q E d acts
            rw [W.findHandler_eq (meth := meth) (code := c) (by rw [Stand.throwing_vm, hgm, X'.warmed.alike.method?]; exact X'.method) X'.code, hex]
            refine (m_find_no (by rw [hgp]; exact hcov1) hct1 (cc := cc1) (cell := ce) (vm' := vm1) (by rw [Stand.throwing_vm, hgm]; exact hgv1) (by rw [Stand.throwing_vm, hWv1.2.1, X'.warmed.2.1]; exact Nat.le_refl _) (by rw [← ht]; exact hce) (fun k9 h9 => by rw [hvm] at h9; cases h9) ⟨kk2, hkk2⟩ ⟨kn1, hkn1⟩ (by rw [hWv1.alike.assignable]; exact hno)).trans ?_
            refine m_find (by rw [hgp]; exact hcov) hct (cc := ce.cls) (cell := ce) (by rw [hgm]; exact hgv) ?_ (by show ((T'.setTop g).pushFrame (.throwing ex)).heap[ex]? = some ce; rw [← ht]; exact hce) (fun k9 h9 => by rw [hvm] at h9; cases h9) ⟨kk1, hkk1⟩ ⟨kk1, hkk1⟩ (by rw [hWv.alike.assignable]; exact hasg)
            show vm'.classes.size ≤ vm1.classes.size
            rw [hWv.2.1, hWv1.2.1]; exact Nat.le_refl _
          obtain ⟨t2, a1, b1⟩ := kk T'.heap (locs ++ Ls) L2 ex ⟨w1, w2, by rw [hheap]; exact w3, w4.weaken (fun _ _ _ hq => hsub _ hq), by
              have t5 : H.size ≤ s₂.heap.size := by rw [← hT]; exact v1
              rw [hheap]
              exact Nat.le_trans hS.2.2.2.2.1 t5, fun q g1 g2 => by
              have t6 : s₂.heap[q]? = H[q]? := by
                rw [← hT]
                exact v2 q (by show q < T.heap.size; rw [hT]; exact Nat.lt_of_lt_of_le g1 hS.2.2.2.2.1) (fun z => g2 (hsub q z))
              rw [hheap, t6]
              exact hS.2.2.2.2.2.1 q g1 g2, fun q hq => by
              rcases List.mem_append.mp hq with h | h
              · exact hS.2.2.2.2.2.2 q h
              · exact hsub _ (hLs q h)⟩ (T'.setVm vm') rfl (X1.noted hWv)
          refine ⟨t2, hstep₁ _ (fun acts => ?_), b1⟩
          rw [doInvoke_state]
          have hgg : ({ F0 m pc ls (st.map (m_tr X L)) with stack := (st.drop (J.2.2.2.1 + 1)).map (m_tr X L) } : JFrame) = g := hg9
          rw [hgg]
          refine hsteps.trans ?_
          rw [ht]
          refine m_caught (by rw [hgm]; exact X'.here) (X'.warmed.alike.symm.trans hWv.alike) hfind ?_
          have hge : ({ g with pc := x.handlerPc, stack := [.ref ex] } : JFrame) = F0 m x.handlerPc ls [.ref ex] := by rw [← hg9]
          rw [hge]
          exact a1
        · cases h
      · cases h
    · cases h
  · cases h
end MCT2
set_option maxHeartbeats 1000000 in
/-- the way over a throw: the second handler puts the exception away and answers v -/
theorem m_MetW_thr2 {l : Launch} {H J : mI} {hs' : List (Nat × Nat × Nat × Nat)} {c0 c1 c2 c3 b0 b1 b2 b3 : Nat} {as : List Value} {w : List mM} (hpl : plainName H.1.cls = true) (hfit : (lg_sl as).length ≤ H.2.2.1) (hH : m_bOk H) {F1 : mF} {dc ds fr lo : Nat} (hstep : m_Step l H (m_ent H as w) F1 dc ds fr lo)
    {k : Nat} (hd : decode H.2.1 F1.1 = .ok (.invokevirtual k, 3)) {as1 rest : List Value} (hca : m_ca H (.invokevirtual k) F1.2.2.1 F1.2.2.2 = some (J, as1, rest)) {w' : List mM} {mc ms fr2 lo2 : Nat} (hM : m_MetT l J "java/lang/IndexOutOfBoundsException" as1 F1.2.2.2 w' mc ms fr2 lo2)
    (hd0 : c0 ≤ F1.1) (hd1 : F1.1 < c1) (hd3 : c3 ≠ 0) (hdl : Cond.classLink H.1.cls c3 "java/util/NoSuchElementException" ∈ m_gt) (hc0 : b0 ≤ F1.1) (hc1 : F1.1 < b1) (h3 : b3 ≠ 0) (hcl : Cond.classLink H.1.cls b3 "java/lang/IndexOutOfBoundsException" ∈ m_gt) (hcast : Cond.castable "java/lang/IndexOutOfBoundsException" "java/lang/IndexOutOfBoundsException" ∈ m_nw) (hret : H.2.2.2.2.1 = some .int)
    {i len : Nat} {kc : Int} {v : Int32} (hh1 : (∃ q : Fin 4, (q : Nat) = i ∧ decode H.2.1 b2 = .ok (.astore_n q, 1) ∧ len = 1) ∨ (decode H.2.1 b2 = .ok (.astore i, 2) ∧ len = 2)) (hi : i < H.2.2.1) (hh2 : decode H.2.1 (b2 + len) = .ok (.iconst kc, 1)) (hv : Int32.ofInt kc = v) (hh3 : decode H.2.1 (b2 + len + 1) = .ok (.ireturn, 1))
    {f2 l2 : Nat} (g1 : fr ≤ f2) (g2 : fr2 + 1 ≤ f2) (g3 : lo ≤ l2) (g4 : 8 + (J.2.2.1 + 11) + lo2 ≤ l2) : m_MetW l H ((c0, c1, c2, c3) :: (b0, b1, b2, b3) :: hs') as w (some (.int v), w', dc + mc, ds + ms, f2, l2) := by
  refine m_MetW_of hpl hfit ?_
  intro p e s m below meth c ls D dA X L hx hb hml hown hts hnm hrt hlk hex hK hE hTx hS hl
  obtain ⟨y, ys, hy1, hy2, hy3⟩ := List.map_eq_cons_iff.mp hex
  obtain ⟨x, xs, hx1, hx2, hx3⟩ := List.map_eq_cons_iff.mp hy3
  simp only [Prod.mk.injEq] at hx2 hy2
  obtain ⟨e0, e1, e2, e3⟩ := hx2
  obtain ⟨n0, n1, n2, n3⟩ := hy2
  rw [hx1] at hy1
  refine hstep p e _ s m (as.map (m_tr X L)).toArray below meth c s.heap [] 0 0 ls D dA X (va_A (m_wd X L dA w) s.heap.size) L _ hx hb hml hown hts hnm hK hE (fun q hq => Or.inr hq) hS hl (by show 0 + dc ≤ dc + mc; omega) (by show 0 + ds ≤ ds + ms; omega) g1 g3 (fun H1 locs1 L2 ls' hS1 hl1 => ?_)
  have hcov : covers x F1.1 = true := by
    simp only [covers, Bool.and_eq_true, decide_eq_true_eq]
    rw [e0, e1]; exact ⟨hc0, hc1⟩
  have hcovy : covers y F1.1 = true := by
    simp only [covers, Bool.and_eq_true, decide_eq_true_eq]
    rw [n0, n1]; exact ⟨hd0, hd1⟩
  refine m_catchV2 hx hb hml hl1.1 hown hts hK hE hTx (fun q hq => Or.inr hq) hH hS1 hd hca hM g2 g4 (by show 0 + dc + mc ≤ dc + mc; omega) (by show 0 + ds + ms ≤ ds + ms; omega) hy1 hcovy (by rw [n3]; exact hd3) (by rw [n3]; exact hdl) hcov (by rw [e3]; exact h3) (by rw [e3]; exact hcl) hcast (fun H2 locs2 L3 ex hS2 => ?_)
  rw [e2]
  have hend : ∀ ls9 : Array Slot, W p l e (m_room (some (.int v), w', dc + mc, ds + ms, f2, l2)) s m (as.map (m_tr X L)).toArray below meth c H2 locs2 (0 + dc + mc) (0 + ds + ms) (MQ below (m_Qc D dA X L (va_A (m_wd X L dA w) s.heap.size) (some (.int v)) w') (as.map (m_tr X L)).toArray s (dc + mc) (ds + ms) (va_A (m_wd X L dA w) s.heap.size)) (F0 m (b2 + len) ls9 []) := by
    intro ls9
    rw [Nat.zero_add, Nat.zero_add]
    refine lv_iconst hx hb hh2 hv ?_
    rw [List.append_assoc] at hS2
    exact W.iret hx hb (hrt.trans hret) (fun t ht _ => ⟨⟨L2 ++ L3, rfl, hS2.1, hS2.2.1, by rw [ht]; exact hS2.2.2.1, hS2.2.2.2.1⟩, hS2.2.2.2.2.F ht⟩) hS2.2.2.2.2.2.2 hh3 hlk
  rcases hh1 with ⟨q, hq, hdq, rfl⟩ | ⟨hdq, rfl⟩
  · exact lv_astore_n hx hb hdq hq hl1 hi rfl (fun ls9 _ => hend ls9)
  · exact lv_astore hx hb hdq hl1 hi rfl (fun ls9 _ => hend ls9)
