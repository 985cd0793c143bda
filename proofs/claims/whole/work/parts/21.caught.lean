/-! A call whose callee throws, caught by the method's first handler. -/
section MCT
variable {p : Program} {l : Launch} {e : Env} {R : Room} {s : State} {m : MethodId} {args : Array Value} {below : List Frame} {meth : Method} {c : Code} {H : Heap} {locs : List Loc} {cells slots : Nat} {Q : State → Prop} {I J : mI} {X : Nat → Nat} {L : List Nat} {pc : Nat} {ls : Array Slot} {st : List Value} {w w' : List mM} {D : va_G} {dA : Nat → ClassId} {A : Nat → Prop}
set_option maxHeartbeats 2000000 in
theorem m_catchV (hx : p.tables.exec = Jvm.exec) (hb : c.code = I.2.1) (hml : c.maxLocals = I.2.2.1) (hls : ls.size = I.2.2.1) (hown : s.vm.findClass I.1.cls = some m.cls) (hts : ∀ w ∈ m_gt, w.before args s = true) (hK : m_Kx D dA s) (hE : m_Ex X A s s.heap) (hTx : m_Tx A s s.heap) (hA : ∀ q, s.heap.size ≤ q → A q) (hI : m_bOk I) (hS : m_St D dA X A s.heap H locs L w)
    {k : Nat} (hd : decode I.2.1 pc = .ok (.invokevirtual k, 3)) {as rest : List Value} (h : m_ca I (.invokevirtual k) st w = some (J, as, rest)) {cls : String} {mc ms fr lo : Nat} (hM : m_MetT l J cls as w w' mc ms fr lo)
    (hfr : fr + 1 ≤ R.frames) (hlo : 8 + (J.2.2.1 + 11) + lo ≤ R.locals) (hc : cells + mc ≤ R.cells) (hs : slots + ms ≤ R.slots)
    {x : ExceptionTableEntry} {xs : List ExceptionTableEntry} (hex : c.exceptionTable.toList = x :: xs) (hcov : covers x pc = true) (hct : x.catchType ≠ 0) (hcl : Cond.classLink I.1.cls x.catchType cls ∈ m_gt) (hcast : Cond.castable cls cls ∈ m_nw)
    (kk : ∀ (H1 : Heap) (locs1 : List Loc) (L2 : List Nat) (ex : Nat), m_St D dA X A s.heap H1 locs1 (L ++ L2) w' → W p l e R s m args below meth c H1 locs1 (cells + mc) (slots + ms) Q (F0 m x.handlerPc ls [.ref ex])) :
    W p l e R s m args below meth c H locs cells slots Q (F0 m pc ls (st.map (m_tr X L))) := by
  unfold m_ca at h
  simp only at h
  split at h
  · rename_i kd mid ci hce
    split at h
    · rename_i hkd
      subst hkd
      split at h
      · rename_i J2 hJ2
        split at h
        · rename_i hrec
          obtain ⟨a, e1, e2, e3, e4, e5⟩ := m_takeI_inv h
          cases e1
          have hJ := m_mt_ok J (List.mem_of_getElem? hJ2)
          have hstk : st.map (m_tr X L) = (((st.take J.2.2.2.1).reverse).map (m_tr X L)).reverse ++ .ref (m_ad X L a) :: (st.drop (J.2.2.2.1 + 1)).map (m_tr X L) := by
            rw [List.map_reverse, List.reverse_reverse]
            conv => lhs; rw [e2]
            rw [List.map_append, List.map_cons]; rfl
          have hlen : ((((st.take J.2.2.2.1).reverse).map (m_tr X L))).length = J.2.2.2.1 := by rw [List.length_map, List.length_reverse, e3]
          have hcat : 2 * (F0 m pc ls ((st.drop (J.2.2.2.1 + 1)).map (m_tr X L))).monitorRoom + (((st.drop (J.2.2.2.1 + 1)).map (m_tr X L)).map fun v => v.category).sum ≤ 8 := by
            rw [m_cat_sum]; show 2 * 0 + _ ≤ 8; omega
          have hp := m_pre hA hS hK hE ((.ref (m_ad X L a)) :: ((st.take J.2.2.2.1).reverse).map (m_tr X L))
          have hco := (hI.2.2.2.2.2.2.1 _ (m_ce_mem hce)).2.2.2
          obtain ⟨J3, g1, -, g2, -, -⟩ := hco (Nat.le_of_ble_eq_true rfl)
          cases hJ2.symm.trans g1
          obtain ⟨f1, f2, rr, f3, f4, f5⟩ := g2 rfl
          have hrv : ∃ cell : Cell, H[m_ad X L a]? = some cell ∧ cell.vm.isStatics = false ∧ s.vm.findClass rr.1 = some cell.cls := by
            unfold m_isRecv at hrec
            rw [e4] at hrec
            simp only at hrec
            split at hrec
            · rename_i cj fs hat
              have hcj := of_decide_eq_true hrec
              subst hcj
              obtain ⟨h5, h6⟩ := m_at_L (X := X) hS.1 hat
              exact va_recv hK.1 hS.2.2.1 f3 (m_wd_get (X := X) (dA := dA) h5 h6)
            · cases hrec
            · obtain ⟨rfl, ha1, ha2⟩ := of_decide_eq_true hrec
              cases f3
              have h9 : a < 512 := Nat.lt_of_le_of_lt ha2 (by decide)
              obtain ⟨cell, k1, k2, k3, -⟩ := (hE.2.2.2.1 a ha1 ha2).1.kept hS.2.2.2.2.2.1
              exact ⟨cell, by unfold m_ad; rw [if_pos h9]; exact k1, k2, k3⟩
          rw [f4] at hrv
          have hy := hJ.2.2.2.1
          have hM2 := hM D dA X L H.size hS.1 hS.2.1
          intro T hT X9
          have hpl : e.platform.magicAccessors = ({} : Platform).magicAccessors := by rw [X9.admits.platform]
          obtain ⟨mk, methM, hnamed, hmethM, hstM, habM⟩ := Cond.instanceMethod_spec (hts _ f2)
          obtain ⟨methM', cM, hmethM', hcM, -, hlM, -, -, -, hsigM⟩ := Cond.code_spec hnamed (hts _ hJ.1)
          cases hmethM.symm.trans hmethM'
          obtain ⟨c2, r2, m2, q1, q2, q3, q4, kP, hkP, hkPi⟩ := Cond.selects_spec (hts _ f5)
          obtain ⟨cellB, hcB, hoB, hclB⟩ := hrv
          cases hclB.symm.trans q1
          cases (State.methodFound?_of_named hnamed hy).symm.trans q2
          cases hnamed.symm.trans q3
          have hselP : selectMethod e.platform s.vm cellB.cls mk = .method mk := by rw [Launch.admits_selectMethod X9.admits]; exact q4
          have hpar : (((st.take J.2.2.2.1).reverse).map (m_tr X L)).length = methM.sig.parameters.length := by
            rw [hlen]
            have := hJ.2.2.2.2.1
            rw [hsigM] at this
            exact (Option.some.inj this).symm
          obtain ⟨vm₁, X₁, hstep₁⟩ := X9.invokevirtual hx hown (hts _ f1) hnamed hmethM hstM hkP hkPi hy (a := m_ad X L a) (cell := cellB) (by rw [hT]; exact hcB) (fun z hz => by rw [hz] at hoB; cases hoB) hselP hmethM habM hkP hkPi
            (g := F0 m pc ls (st.map (m_tr X L))) rfl (argsL := ((st.take J.2.2.2.1).reverse).map (m_tr X L)) (rest := (st.drop (J.2.2.2.1 + 1)).map (m_tr X L)) hpar hstk (by rw [hb]; exact hd)
          generalize hg9 : F0 m pc ls ((st.drop (J.2.2.2.1 + 1)).map (m_tr X L)) = g at hcat
          have hgm : g.method = m := by rw [← hg9]
          have hgp : g.pc = pc := by rw [← hg9]
          have hgl : g.locals = ls := by rw [← hg9]
          have hgs : g.stack = (st.drop (J.2.2.2.1 + 1)).map (m_tr X L) := by rw [← hg9]
          have hn1 := X₁.named hnamed
          obtain ⟨kY, hkY, -⟩ := className_of_methodNamed hn1
          have hinit : kY.init = .initialized := Cond.initialized_spec (args := args) (findClass_of_methodNamed hn1) hkY (word_at X₁.warmed (good_of_word (m_gt_good hJ.2.1)) (hts _ hJ.2.1))
          have hm1 : (T.setVm vm₁).vm.method? mk = some methM := by rw [X₁.warmed.alike.method?]; exact hmethM
          have hdg : decode c.code g.pc = .ok (.invokevirtual k, 3) := by rw [hgp, hb]; exact hd
          have hAt : At (T.setVm vm₁) g.method c below := by rw [hgm]; exact X₁.here
          have happ : (headSpec (m_Ts J) { frames := fr, cells := mc, slots := ms, locals := lo }).appliesLoose J.1 e.platform ((T.setVm vm₁).calling g mk (Value.ref (m_ad X L a) :: ((st.take J.2.2.2.1).reverse).map (m_tr X L)).toArray) = true :=
            Spec.appliesLoose_calling (g := g) hAt hdg hn1 hkY hinit
              (X₁.room_calling (g := g) (R' := { frames := fr, cells := mc, slots := ms, locals := lo }) (by rw [hgl, hls]; exact hml.symm) hm1 hcM hfr (by rw [hlM, hgs]; show _ + _ + (J.2.2.1 + 11) + lo ≤ R.locals; omega) hc hs)
              (atoms_intro (fun w9 hw9 => by
                have hin : w9 ∈ m_gt := m_Ts_in hJ w9 hw9
                exact word_at X₁.warmed (good_of_word (m_gt_good hin)) (hts _ hin)))
          have hf9 : ((T.setVm vm₁).setTop g).frames = [.java g] ++ below := by
            rw [State.frames_setTop' g hAt.top, X₁.tail]; rfl
          have hsub := m_sub hA hS
          have hTx1 : m_Tx (va_A (m_wd X L dA w) H.size) ((T.setVm vm₁).calling g mk (Value.ref (m_ad X L a) :: ((st.take J.2.2.2.1).reverse).map (m_tr X L)).toArray) ((T.setVm vm₁).calling g mk (Value.ref (m_ad X L a) :: ((st.take J.2.2.2.1).reverse).map (m_tr X L)).toArray).heap := by
            have t1 : m_Tx A s H := hTx.kept (fun a h1 h2 => hS.2.2.2.2.2.1 a h1 h2)
            have t2 := (t1.narrow hsub).moved X₁.warmed.alike
            rw [← hT] at t2 ⊢
            exact t2
          have hP9 : va_Pc ((Value.ref a :: (st.take J.2.2.2.1).reverse).map (m_tr X L)) (m_PcT D dA X L H.size w) (Value.ref (m_ad X L a) :: ((st.take J.2.2.2.1).reverse).map (m_tr X L)).toArray ((T.setVm vm₁).calling g mk (Value.ref (m_ad X L a) :: ((st.take J.2.2.2.1).reverse).map (m_tr X L)).toArray) := by
            have t3 := hp.1 _ _ g mk (hp.2 (T.setVm vm₁) hT X₁.warmed)
            exact ⟨t3.1, t3.2, hTx1⟩
          obtain ⟨o, s₂, hsteps, -, hend, hq⟩ := Steps.callFree hM2 p X9.admits X9.cas X9.clock (acts := []) hf9 happ hP9 trivial
          rw [hf9] at hend
          obtain ⟨ex, ce, rfl, hce, hcc, hvm, ⟨L2, w1, w2, w3, w4⟩, ⟨v1, v2⟩, hW2, Ls, hsame, hLs⟩ := hq
          obtain ⟨T', X', hW', hB, ht⟩ := X₁.outOfThrown (g := g) hgm hend hW2 hsame
          have hheap : T'.heap = s₂.heap := by rw [ht, Stand.throwing_heap]
          obtain ⟨cc, hfcc, hclk⟩ := Cond.classLink_spec hown (hts _ hcl) e.platform hpl
          have hcc' : s.vm.findClass cls = some ce.cls := by
            have t4 : (T.setVm vm₁).vm.findClass cls = some ce.cls := hcc
            first | (rw [X₁.warmed.alike.findClass] at t4; exact t4) | (rw [← X₁.warmed.alike.findClass] at t4; exact t4)
          cases Option.some.inj (hcc'.symm.trans hfcc)
          obtain ⟨hgv, hWv, hrd⟩ := State.classEntry (e := e) X'.warmed hclk
          generalize T'.vm.noted m.cls x.catchType (.cls ce.cls) = vm' at hgv hWv hrd
          obtain ⟨c3, c4, hc3, hc4, hasg⟩ := Cond.castable_spec (va_Nw.use (A := args) rfl (hK.2.1 _ hcast))
          cases Option.some.inj (hc3.symm.trans hcc')
          cases Option.some.inj (hc4.symm.trans hcc')
          obtain ⟨kk0, hkk0⟩ := Vm.classAt_of_findClass hcc'
          obtain ⟨kk1, hkk1, -⟩ := hWv.alike.2.2 _ _ hkk0
          have hfind : ∀ (Q : Handler → Pre) (E : CtlPost) (d : Bool) (acts : List Action), Sem.wp (findHandler g ex) Q E e d acts ((T'.setTop g).pushFrame (.throwing ex)) ↔ Q (.found x.handlerPc) d acts (((T'.setTop g).pushFrame (.throwing ex)).setVm vm') := by
            intro Q E d acts
            rw [W.findHandler_eq (meth := meth) (code := c) (by rw [Stand.throwing_vm, hgm, X'.warmed.alike.method?]; exact X'.method) X'.code, hex]
            refine m_find (by rw [hgp]; exact hcov) hct (cc := ce.cls) (cell := ce) (by rw [Stand.throwing_vm, hgm]; exact hgv) ?_ (by rw [← ht]; exact hce) (fun k9 h9 => by rw [hvm] at h9; cases h9) ⟨kk1, hkk1⟩ ⟨kk1, hkk1⟩ (by rw [hWv.alike.assignable]; exact hasg)
            rw [Stand.throwing_vm, hWv.2.1, X'.warmed.2.1]; exact Nat.le_refl _
          obtain ⟨t2, a1, b1⟩ := kk T'.heap (locs ++ Ls) L2 ex ⟨w1, w2, by rw [hheap]; exact w3, w4.weaken (fun _ _ _ hq => hsub _ hq), by
              have t5 : H.size ≤ s₂.heap.size := by rw [← hT]; exact v1
              rw [hheap]
              exact Nat.le_trans hS.2.2.2.2.1 t5, fun q g1 g2 => by
              have t6 : s₂.heap[q]? = H[q]? := by
                rw [← hT]
                exact v2 q (by show q < T.heap.size; rw [hT]; exact Nat.lt_of_lt_of_le g1 hS.2.2.2.2.1) (fun z => g2 (hsub q z))
              rw [hheap, t6]
              exact hS.2.2.2.2.2.1 q g1 g2, fun q hq => by
              rcases List.mem_append.mp hq with h | h
              · exact hS.2.2.2.2.2.2 q h
              · exact hsub _ (hLs q h)⟩ (T'.setVm vm') rfl (X'.noted hWv)
          refine ⟨t2, hstep₁ _ (fun acts => ?_), b1⟩
          rw [doInvoke_state]
          have hgg : ({ F0 m pc ls (st.map (m_tr X L)) with stack := (st.drop (J.2.2.2.1 + 1)).map (m_tr X L) } : JFrame) = g := hg9
          rw [hgg]
          refine hsteps.trans ?_
          rw [ht]
          refine m_caught (by rw [hgm]; exact X'.here) (X'.warmed.alike.symm.trans hWv.alike) hfind ?_
          have hge : ({ g with pc := x.handlerPc, stack := [.ref ex] } : JFrame) = F0 m x.handlerPc ls [.ref ex] := by rw [← hg9]
          rw [hge]
          exact a1
        · cases h
      · cases h
    · cases h
  · cases h
end MCT
