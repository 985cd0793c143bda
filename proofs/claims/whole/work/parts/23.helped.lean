/-! Contracts of methods with handlers, and a call of such a method. -/
def m_TsW (H : mI) (hs : List (Nat × Nat × Nat × Nat)) : List Cond := Cond.codeWith H.1 H.2.1 H.2.2.1 H.2.2.2.2.1 hs :: m_gt
def m_MetW (l : Launch) (H : mI) (hs : List (Nat × Nat × Nat × Nat)) (as : List Value) (w : List mM) (r : mR) : Prop :=
  ∀ (D : va_G) (dA : Nat → ClassId) (X : Nat → Nat) (L : List Nat) (sz : Nat), L.length = w.length → m_okw w.length w →
    MetFree l H.1 (headSpec (m_TsW H hs) (m_room r)) (va_Pc (as.map (m_tr X L)) (m_PcT D dA X L sz w)) (fun _ _ _ _ _ => True) (fun a st o t => m_Qc D dA X L (va_A (m_wd X L dA w) sz) r.1 r.2.1 a st o t ∧ ∃ Ls, FrameEnd st o t Ls r.2.2.1 r.2.2.2.1 ∧ ∀ q ∈ Ls, va_A (m_wd X L dA w) sz q.base)
def m_body (l : Launch) (H : mI) (hs : List (Nat × Nat × Nat × Nat)) (as : List Value) (w : List mM) (r : mR) : Prop :=
  ∀ (p : Program) (e : Env) (s : State) (m : MethodId) (below : List Frame) (meth : Method) (c : Code) (ls : Array Slot) (D : va_G) (dA : Nat → ClassId) (X : Nat → Nat) (L : List Nat), p.tables.exec = Jvm.exec → c.code = H.2.1 → c.maxLocals = H.2.2.1 → s.vm.findClass H.1.cls = some m.cls → (∀ w ∈ m_gt, w.before (as.map (m_tr X L)).toArray s = true) → meth.name = H.1.name → meth.sig.returnType = H.2.2.2.2.1 → meth.locks = false →
    c.exceptionTable.toList.map (fun h => (h.startPc, h.endPc, h.handlerPc, h.catchType)) = hs → m_Kx D dA s → m_Ex X (va_A (m_wd X L dA w) s.heap.size) s s.heap → m_Tx (va_A (m_wd X L dA w) s.heap.size) s s.heap → m_St D dA X (va_A (m_wd X L dA w) s.heap.size) s.heap s.heap [] L w → lv_has ls H.2.2.1 (m_lvt X L (m_ent H as w).2.1) →
    W p l e (m_room r) s m (as.map (m_tr X L)).toArray below meth c s.heap [] 0 0 (MQ below (m_Qc D dA X L (va_A (m_wd X L dA w) s.heap.size) r.1 r.2.1) (as.map (m_tr X L)).toArray s r.2.2.1 r.2.2.2.1 (va_A (m_wd X L dA w) s.heap.size)) (F0 m 0 ls [])
theorem m_MetW_of {l : Launch} {H : mI} {hs : List (Nat × Nat × Nat × Nat)} {as : List Value} {w : List mM} {r : mR} (hpl : plainName H.1.cls = true) (hfit : (lg_sl as).length ≤ H.2.2.1) (hb : m_body l H hs as w r) : m_MetW l H hs as w r := by
  intro D dA X L sz hL hok
  refine MetFree.of_bodyS (code := H.2.1) (maxLocals := H.2.2.1) (ret := H.2.2.2.2.1) hpl ?_ ?_
  · intro args s m h hn
    obtain ⟨m', meth, c, g0, g1, g2, g3, g4, -, g5, g6, -⟩ := Cond.codeWith_spec (atoms_spec (ws := m_TsW H hs) h _ List.mem_cons_self)
    cases hn.symm.trans g0
    exact ⟨meth, c, g1, g2, g3, g4, g5, g6⟩
  · intro p e s m args below meth c s₁ B hml hP _
    obtain ⟨rfl, ⟨rfl, hPw, hD0, hK, hE⟩, hTx⟩ := hP
    have hts := atoms_spec (ws := m_TsW H hs) B.pre
    have hts2 : ∀ w ∈ m_gt, w.before (as.map (m_tr X L)).toArray s = true := fun w hw => hts w (List.mem_cons_of_mem _ hw)
    have X0 := Stand.of_body B
    obtain ⟨m', meth', c', g0, g1, g2, -, -, g3, -, -, -⟩ := Cond.codeWith_spec (hts _ List.mem_cons_self)
    cases B.named.symm.trans g0
    cases B.method.symm.trans g1
    cases X0.code.symm.trans g2
    have hl := lv_entry (as.map (m_tr X L)) (n := H.2.2.1) (by rw [m_lgsl]; exact hfit)
    have K : W p l e (m_room r) s m (as.map (m_tr X L)).toArray below meth c s.heap [] 0 0 (MQ below (m_Qc D dA X L (va_A (m_wd X L dA w) s.heap.size) r.1 r.2.1) (as.map (m_tr X L)).toArray s r.2.2.1 r.2.2.2.1 (va_A (m_wd X L dA w) s.heap.size)) (entryFrame m (as.map (m_tr X L)).toArray H.2.2.1) := by
      rw [lg_entry_eq]
      generalize (lg_sl (as.map (m_tr X L)) ++ List.replicate (H.2.2.1 - (lg_sl (as.map (m_tr X L))).length) Slot.unset).toArray = ls at hl ⊢
      rw [m_lvargs] at hl
      exact hb p e s m below meth c ls D dA X L B.exec B.bytes hml (findClass_of_methodNamed B.named) hts2 (name_of_methodNamed B.named B.method).1 B.returns B.notSynchronized g3 hK hE hTx ⟨hL, hok, hPw, hD0.self, va_S.rf⟩ hl
    have hh0 : s₁.heap = s.heap := by rw [B.state]; rfl
    obtain ⟨t, a1, o, b1, b2, b3, b4⟩ := K s₁ hh0 X0
    exact ⟨t, o, a1, b1, b2, b3, b4⟩
/-- the way without a throw -/
theorem m_MetW_good {l : Launch} {H : mI} {hs : List (Nat × Nat × Nat × Nat)} {as : List Value} {w : List mM} {r : mR} (hpl : plainName H.1.cls = true) (hfit : (lg_sl as).length ≤ H.2.2.1) (h : m_Good l H (m_ent H as w) r) : m_MetW l H hs as w r := by
  refine m_MetW_of hpl hfit ?_
  intro p e s m below meth c ls D dA X L hx hb hml hown hts hnm hret hlk _ hK hE _ hS hl
  have g := h p e (m_room r) s m (as.map (m_tr X L)).toArray below meth c s.heap [] 0 0 ls D dA X (va_A (m_wd X L dA w) s.heap.size) L [] hx hb hml hown hts hnm hret hlk hK hE (fun q hq => Or.inr hq) (by rw [List.append_nil]; exact hS) (by rw [List.append_nil]; exact hl) (by rw [Nat.zero_add]; exact Nat.le_refl _) (by rw [Nat.zero_add]; exact Nat.le_refl _) (Nat.le_refl _) (Nat.le_refl _)
  rw [Nat.zero_add, Nat.zero_add] at g
  exact g
set_option maxHeartbeats 1000000 in
/-- the way over a throw: the callee throws, the first handler puts the exception away and answers v -/
theorem m_MetW_thr {l : Launch} {H J : mI} {hs' : List (Nat × Nat × Nat × Nat)} {b0 b1 b2 b3 : Nat} {as : List Value} {w : List mM} (hpl : plainName H.1.cls = true) (hfit : (lg_sl as).length ≤ H.2.2.1) (hH : m_bOk H) {F1 : mF} {dc ds fr lo : Nat} (hstep : m_Step l H (m_ent H as w) F1 dc ds fr lo)
    {k : Nat} (hd : decode H.2.1 F1.1 = .ok (.invokevirtual k, 3)) {as1 rest : List Value} (hca : m_ca H (.invokevirtual k) F1.2.2.1 F1.2.2.2 = some (J, as1, rest)) {cls : String} {w' : List mM} {mc ms fr2 lo2 : Nat} (hM : m_MetT l J cls as1 F1.2.2.2 w' mc ms fr2 lo2)
    (hc0 : b0 ≤ F1.1) (hc1 : F1.1 < b1) (h3 : b3 ≠ 0) (hcl : Cond.classLink H.1.cls b3 cls ∈ m_gt) (hcast : Cond.castable cls cls ∈ m_nw) (hret : H.2.2.2.2.1 = some .int)
    {i len : Nat} {kc : Int} {v : Int32} (hh1 : (∃ q : Fin 4, (q : Nat) = i ∧ decode H.2.1 b2 = .ok (.astore_n q, 1) ∧ len = 1) ∨ (decode H.2.1 b2 = .ok (.astore i, 2) ∧ len = 2)) (hi : i < H.2.2.1) (hh2 : decode H.2.1 (b2 + len) = .ok (.iconst kc, 1)) (hv : Int32.ofInt kc = v) (hh3 : decode H.2.1 (b2 + len + 1) = .ok (.ireturn, 1))
    {f2 l2 : Nat} (g1 : fr ≤ f2) (g2 : fr2 + 1 ≤ f2) (g3 : lo ≤ l2) (g4 : 8 + (J.2.2.1 + 11) + lo2 ≤ l2) : m_MetW l H ((b0, b1, b2, b3) :: hs') as w (some (.int v), w', dc + mc, ds + ms, f2, l2) := by
  refine m_MetW_of hpl hfit ?_
  intro p e s m below meth c ls D dA X L hx hb hml hown hts hnm hrt hlk hex hK hE hTx hS hl
  obtain ⟨x, xs, hx1, hx2, hx3⟩ := List.map_eq_cons_iff.mp hex
  simp only [Prod.mk.injEq] at hx2
  obtain ⟨e0, e1, e2, e3⟩ := hx2
  refine hstep p e _ s m (as.map (m_tr X L)).toArray below meth c s.heap [] 0 0 ls D dA X (va_A (m_wd X L dA w) s.heap.size) L _ hx hb hml hown hts hnm hK hE (fun q hq => Or.inr hq) hS hl (by show 0 + dc ≤ dc + mc; omega) (by show 0 + ds ≤ ds + ms; omega) g1 g3 (fun H1 locs1 L2 ls' hS1 hl1 => ?_)
  have hcov : covers x F1.1 = true := by
    simp only [covers, Bool.and_eq_true, decide_eq_true_eq]
    rw [e0, e1]; exact ⟨hc0, hc1⟩
  refine m_catchV hx hb hml hl1.1 hown hts hK hE hTx (fun q hq => Or.inr hq) hH hS1 hd hca hM g2 g4 (by show 0 + dc + mc ≤ dc + mc; omega) (by show 0 + ds + ms ≤ ds + ms; omega) hx1 hcov (by rw [e3]; exact h3) (by rw [e3]; exact hcl) hcast (fun H2 locs2 L3 ex hS2 => ?_)
  rw [e2]
  have hend : ∀ ls9 : Array Slot, W p l e (m_room (some (.int v), w', dc + mc, ds + ms, f2, l2)) s m (as.map (m_tr X L)).toArray below meth c H2 locs2 (0 + dc + mc) (0 + ds + ms) (MQ below (m_Qc D dA X L (va_A (m_wd X L dA w) s.heap.size) (some (.int v)) w') (as.map (m_tr X L)).toArray s (dc + mc) (ds + ms) (va_A (m_wd X L dA w) s.heap.size)) (F0 m (b2 + len) ls9 []) := by
    intro ls9
    rw [Nat.zero_add, Nat.zero_add]
    refine lv_iconst hx hb hh2 hv ?_
    rw [List.append_assoc] at hS2
    exact W.iret hx hb (hrt.trans hret) (fun t ht _ => ⟨⟨L2 ++ L3, rfl, hS2.1, hS2.2.1, by rw [ht]; exact hS2.2.2.1, hS2.2.2.2.1⟩, hS2.2.2.2.2.F ht⟩) hS2.2.2.2.2.2.2 hh3 hlk
  rcases hh1 with ⟨q, hq, hdq, rfl⟩ | ⟨hdq, rfl⟩
  · exact lv_astore_n hx hb hdq hq hl1 hi rfl (fun ls9 _ => hend ls9)
  · exact lv_astore hx hb hdq hl1 hi rfl (fun ls9 _ => hend ls9)
section MCW
variable {p : Program} {l : Launch} {e : Env} {R : Room} {s : State} {m : MethodId} {args : Array Value} {below : List Frame} {meth : Method} {c : Code} {H : Heap} {locs : List Loc} {cells slots : Nat} {Q : State → Prop} {I J : mI} {X : Nat → Nat} {L : List Nat} {pc : Nat} {ls : Array Slot} {w w' : List mM} {D : va_G} {dA : Nat → ClassId} {A : Nat → Prop}
set_option maxHeartbeats 1000000 in
theorem m_callW (hx : p.tables.exec = Jvm.exec) (hb : c.code = I.2.1) (hml : c.maxLocals = I.2.2.1) (hls : ls.size = I.2.2.1) (hown : s.vm.findClass I.1.cls = some m.cls) (hts : ∀ w ∈ m_gt, w.before args s = true) (hK : m_Kx D dA s) (hE : m_Ex X A s s.heap) (hTx : m_Tx A s s.heap) (hA : ∀ q, s.heap.size ≤ q → A q) (hS : m_St D dA X A s.heap H locs L w)
    {k : Nat} (hd : decode I.2.1 pc = .ok (.invokestatic k, 3)) {as rest : List Value} {hs : List (Nat × Nat × Nat × Nat)} (hcat : (rest.map fun v => v.category).sum ≤ 8) (hlen : as.length = J.2.2.2.1) (hpar : (parseMethodDescriptor J.1.desc).map (fun d => d.parameters.length) = some J.2.2.2.1)
    (f1 : Cond.methodLink I.1.cls k J.1 ∈ m_gt) (f2 : Cond.static J.1 ∈ m_gt) (f3 : Cond.initialized J.1.cls ∈ m_gt) (f4 : Cond.codeWith J.1 J.2.1 J.2.2.1 J.2.2.2.2.1 hs ∈ m_gt) (hy : J.1.cls ≠ "java/lang/invoke/MethodHandle" ∧ J.1.cls ≠ "java/lang/invoke/VarHandle") {r : mR} (hM : m_MetW l J hs as w r)
    (hfr : r.2.2.2.2.1 + 1 ≤ R.frames) (hlo : 8 + (J.2.2.1 + 11) + r.2.2.2.2.2 ≤ R.locals) (hc : cells + r.2.2.1 ≤ R.cells) (hss : slots + r.2.2.2.1 ≤ R.slots)
    (kk : ∀ (H1 : Heap) (locs1 : List Loc) (L2 : List Nat), m_St D dA X A s.heap H1 locs1 (L ++ L2) r.2.1 → W p l e R s m args below meth c H1 locs1 (cells + r.2.2.1) (slots + r.2.2.2.1) Q (F0 m (pc + 3) ls ((r.1.map (m_tr X (L ++ L2))).toList ++ rest.map (m_tr X L)))) : W p l e R s m args below meth c H locs cells slots Q (F0 m pc ls ((as.reverse ++ rest).map (m_tr X L))) := by
  have hM2 := hM D dA X L H.size hS.1 hS.2.1
  have hsub := m_sub hA hS
  have hp := m_pre hA hS hK hE (as.map (m_tr X L))
  have hblind : FrameBlind (va_Pc (as.map (m_tr X L)) (m_PcT D dA X L H.size w)) := fun a U g mk h => ⟨h.1, (m_blind (as := as.map (m_tr X L)) a U g mk ⟨h.1, h.2.1⟩).2, m_Tx.moved (u := U) (Vm.Alike.refl _) h.2.2⟩
  have hK9 : Back l R p e below s args J.1 3 8 (PreOf R r.2.2.1 r.2.2.2.1 (va_Pc (as.map (m_tr X L)) (m_PcT D dA X L H.size w))) (PostOf (m_Qc D dA X L (va_A (m_wd X L dA w) H.size) r.1 r.2.1) r.2.2.1 r.2.2.2.1 (va_A (m_wd X L dA w) H.size)) := by
    refine Back.of_freeWith (handlers := hs) (bytes := J.2.1) (maxL := J.2.2.1) (ret := J.2.2.2.2.1) (E := fun a st o t Ls k n => k = r.2.2.1 ∧ n = r.2.2.2.1 ∧ ∀ q ∈ Ls, va_A (m_wd X L dA w) H.size q.base) hM2 hfr hlo ?_ ?_ (fun _ _ _ _ _ _ _ _ _ => trivial) ?_ ?_
    · intro m9 meth9 c9 A9 a9 X9 hp9
      have hw : ∀ w9 ∈ m_TsW J hs, w9.before a9 A9.U = true := fun w9 hw9 => by
        rcases List.mem_cons.mp hw9 with rfl | h9
        · exact word_at X9.warmed (good_of_word (m_gt_good f4)) (hts _ f4)
        · exact word_at X9.warmed (good_of_word (m_gt_good h9)) (hts _ h9)
      exact ⟨atoms_intro hw, hw _ List.mem_cons_self, word_at X9.warmed (good_of_word (m_gt_good f3)) (hts _ f3), hp9.1, hp9.2.1⟩
    · intro m9 meth9 c9 A9 a9 g9 mk9 X9 hp9
      exact hblind _ _ _ _ hp9.2.2
    · intro a9 st9 o9 t9 ⟨hq, Ls, hF, hL⟩
      exact ⟨Ls, r.2.2.1, r.2.2.2.1, hF, rfl, rfl, hL⟩
    · intro m9 meth9 c9 A9 a9 g9 mk9 v9 t9 L9 k9 n9 X9 hp9 hq hF ⟨e1, e2, hL⟩
      subst e1; subst e2
      exact ⟨g9, mk9, t9, L9, rfl, rfl, hq.1, rfl, hL, rfl, rfl⟩
  have hstk : (as.reverse ++ rest).map (m_tr X L) = (as.map (m_tr X L)).reverse ++ rest.map (m_tr X L) := by rw [List.map_append, List.map_reverse]
  refine m_go (v := r.1) (w' := r.2.1) (rest := rest.map (m_tr X L)) (mc := r.2.2.1) (ms := r.2.2.2.1) (as := (as.map (m_tr X L)).toArray) hA hS ?_ kk
  intro T hT X9
  obtain ⟨mk, methM, cM, hnamed, hmethM, -, -, -, -, -, -, hsigM⟩ := Cond.codeWith_spec (hts _ f4)
  have hstatic : methM.isStatic = true := Cond.static_spec hnamed hmethM (hts _ f2)
  obtain ⟨kP, hkP, -⟩ := className_of_methodNamed hnamed
  have hinitP : kP.init = .initialized := Cond.initialized_spec (findClass_of_methodNamed hnamed) hkP (hts _ f3)
  have hpl : (as.map (m_tr X L)).length = methM.sig.parameters.length := by
    rw [List.length_map, hlen]
    rw [hsigM] at hpar
    exact (Option.some.inj hpar).symm
  obtain ⟨vm₁, X₁, hstep₁⟩ := X9.invokestatic hx hown (hts _ f1) hnamed hmethM hstatic hkP hinitP hy (g := F0 m pc ls ((as.reverse ++ rest).map (m_tr X L))) rfl (argsL := as.map (m_tr X L)) (rest := rest.map (m_tr X L)) hpl hstk (by rw [hb]; exact hd)
  have hTx1 : m_Tx (va_A (m_wd X L dA w) H.size) (T.setVm vm₁) (T.setVm vm₁).heap := by
    have t1 : m_Tx A s H := hTx.kept (fun a h1 h2 => hS.2.2.2.2.2.1 a h1 h2)
    have t2 := (t1.narrow hsub).moved X₁.warmed.alike
    rw [← hT] at t2 ⊢
    exact t2
  have hp1 := hp.2 (T.setVm vm₁) hT X₁.warmed
  obtain ⟨v, ⟨U', l2, c2, s2⟩, X', ⟨g', mk', t, L', e1, e2, hq, h1, hL, h2, h3⟩, hsteps⟩ := hK9 m meth c ⟨T.setVm vm₁, locs, cells, slots⟩ (F0 m pc ls (rest.map (m_tr X L))) (.invokestatic k) mk (as.map (m_tr X L)).toArray X₁ rfl (by show ls.size = _; rw [hls]; exact hml.symm) (by rw [hb]; exact hd)
    (by rw [m_cat_sum]; show 2 * 0 + _ ≤ 8; omega) (X₁.named hnamed) ⟨hc, hss, hp1.1, hp1.2, hTx1⟩
  dsimp only [Pt.U, Pt.locs, Pt.cells, Pt.slots] at X' e1 e2 h1 h2 h3 hsteps
  subst h1; subst h2; subst h3
  exact ⟨v, _, t, U', L', hT, X', hL, e1, e2, hq, fun target h => hstep₁ _ fun acts => by rw [doInvoke_state]; exact hsteps.trans h⟩
end MCW
