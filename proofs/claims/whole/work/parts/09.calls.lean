/-! Calls: the contract of a run of the small machine, and a call by it. -/
def m_room (r : mR) : Room := { frames := r.2.2.2.2.1, cells := r.2.2.1, slots := r.2.2.2.1, locals := r.2.2.2.2.2 }
def m_Ts (J : mI) : List Cond := Cond.code J.1 J.2.1 J.2.2.1 J.2.2.2.2.1 :: m_gt
def m_Pc (D : va_G) (dA : Nat → ClassId) (X : Nat → Nat) (L : List Nat) (sz : Nat) (w : List mM) (U : State) : Prop := U.heap.size = sz ∧ va_P D m_cl (m_wd X L dA w) U.heap ∧ va_D (fun _ => True) (m_wd X L dA w) ∧ m_Kx D dA U ∧ m_Ex X (va_A (m_wd X L dA w) sz) U U.heap
def m_Qc (D : va_G) (dA : Nat → ClassId) (X : Nat → Nat) (L : List Nat) (A : Nat → Prop) (v : Option Value) (w : List mM) : Array Value → State → Outcome → State → Prop := fun _ st oc t =>
  (∃ L2 : List Nat, oc = .returned (v.map (m_tr X (L ++ L2))) ∧ (L ++ L2).length = w.length ∧ m_okw w.length w ∧ va_P D m_cl (m_wd X (L ++ L2) dA w) t.heap ∧ va_D A (m_wd X (L ++ L2) dA w)) ∧ va_F A st t
/-- the contract: from a world w and arguments as the method comes to the world and the answer of r, with its room -/
def m_Met (l : Launch) (J : mI) (as : List Value) (w : List mM) (r : mR) : Prop :=
  ∀ (D : va_G) (dA : Nat → ClassId) (X : Nat → Nat) (L : List Nat) (sz : Nat), L.length = w.length → m_okw w.length w →
    Met l J.1 (m_Ts J) (m_room r) (va_Pc (as.map (m_tr X L)) (m_Pc D dA X L sz w)) (m_Qc D dA X L (va_A (m_wd X L dA w) sz) r.1 r.2.1) r.2.2.1 r.2.2.2.1 (va_A (m_wd X L dA w) sz)
theorem m_good {ws : List Cond} (h : ∀ w ∈ ws, w ∈ m_gt) : GoodIn m_gt ws := fun w hw => ⟨h w hw, good_of_word (m_gt_good (h w hw))⟩
theorem m_Ts_in {J : mI} (hJ : m_mOk J) : ∀ w ∈ m_Ts J, w ∈ m_gt := fun w hw => (List.mem_cons.mp hw).elim (fun e => by rw [e]; exact hJ.1) id
theorem m_nw_warm {w : Cond} (hk : m_nwk w = true) {s U : State} (hW : s.WarmedH U.vm) (h : va_Nw w s) : va_Nw w U := by
  cases w <;> first | (exact va_Nw.warmM hW h) | (exact va_Nw.warmC hW h) | (exact va_Nw.warmD hW h) | (exact va_tabs rfl (rfl : (s.setVm U.vm).vm = U.vm) (by rw [Cond.privateMethod_setVm hW.alike]; exact h)) | (cases hk)
theorem m_nw_tab {w : Cond} (hk : m_nwk w = true) : w.onTables = true := by
  cases w <;> first | rfl | (cases hk)
theorem m_Kx.warm {D : va_G} {dA : Nat → ClassId} {s U : State} (hW : s.WarmedH U.vm) (h : m_Kx D dA s) : m_Kx D dA U :=
  ⟨va_K.moved hW.alike h.1, fun w hw => m_nw_warm (List.mem_filter.mp hw).2 hW (h.2.1 w hw), fun C hC => va_AO.moved hW.alike (h.2.2 C hC)⟩
theorem m_Kx.same {D : va_G} {dA : Nat → ClassId} {s U : State} (hv : s.vm = U.vm) (h : m_Kx D dA s) : m_Kx D dA U :=
  ⟨va_K.moved (by rw [hv]; exact Vm.Alike.refl _) h.1, fun w hw => va_Nw.same (m_nw_tab (List.mem_filter.mp hw).2) hv (h.2.1 w hw), fun C hC => va_AO.moved (by rw [hv]; exact Vm.Alike.refl _) (h.2.2 C hC)⟩
theorem m_Sx.moved {X : Nat → Nat} {A : Nat → Prop} {u U : State} {H : Heap} {k : Nat} (hvm : u.vm.Alike U.vm) (h : m_Sx X A u H k) : m_Sx X A U H k := ⟨h.1.moved hvm, h.2.1.moved hvm, h.2.2.1.moved hvm, h.2.2.2.moved hvm⟩
theorem m_Sx.kept {X : Nat → Nat} {A : Nat → Prop} {U : State} {H H1 : Heap} {k : Nat} (h : m_Sx X A U H k) (hq : ∀ a : Nat, a < H.size → ¬ A a → H1[a]? = H[a]?) : m_Sx X A U H1 k := ⟨h.1.kept hq, h.2.1.kept hq, h.2.2.1.kept hq, h.2.2.2.kept hq⟩
theorem m_Sx.narrow {X : Nat → Nat} {A B : Nat → Prop} {U : State} {H : Heap} {k : Nat} (h : m_Sx X A U H k) (hAB : ∀ q, B q → A q) : m_Sx X B U H k := ⟨h.1.narrow hAB, h.2.1.narrow hAB, h.2.2.1.narrow hAB, h.2.2.2.narrow hAB⟩
theorem m_Dg.moved {X : Nat → Nat} {A : Nat → Prop} {u U : State} {H : Heap} (hvm : u.vm.Alike U.vm) (h : m_Dg X A u H) : m_Dg X A U H := ⟨h.1.moved hvm, h.2.1.moved hvm, h.2.2.1.moved hvm, h.2.2.2.moved hvm⟩
theorem m_Dg.kept {X : Nat → Nat} {A : Nat → Prop} {U : State} {H H1 : Heap} (h : m_Dg X A U H) (hq : ∀ a : Nat, a < H.size → ¬ A a → H1[a]? = H[a]?) : m_Dg X A U H1 := ⟨h.1.kept hq, h.2.1.kept hq, h.2.2.1.kept hq, h.2.2.2.kept hq⟩
theorem m_Dg.narrow {X : Nat → Nat} {A B : Nat → Prop} {U : State} {H : Heap} (h : m_Dg X A U H) (hAB : ∀ q, B q → A q) : m_Dg X B U H := ⟨h.1.narrow hAB, h.2.1.narrow hAB, h.2.2.1.narrow hAB, h.2.2.2.narrow hAB⟩
theorem m_Ex.warm {X : Nat → Nat} {A : Nat → Prop} {u U : State} {H : Heap} (hW : u.WarmedH U.vm) (h : m_Ex X A u H) : m_Ex X A U H := ⟨fun q hq => (h.1 q hq).moved hW.alike, h.2.1, fun q hq => vk_R.warm hW (h.2.2.1 q hq), fun k h1 h2 => (h.2.2.2.1 k h1 h2).moved hW.alike, h.2.2.2.2.1.moved hW.alike, h.2.2.2.2.2.1.moved hW.alike, h.2.2.2.2.2.2.moved hW.alike⟩
theorem m_Ex.same {X : Nat → Nat} {A : Nat → Prop} {u U : State} {H : Heap} (hv : U.vm = u.vm) (h : m_Ex X A u H) : m_Ex X A U H :=
  have ha : u.vm.Alike U.vm := by rw [hv]; exact Vm.Alike.refl _
  ⟨fun q hq => (h.1 q hq).moved ha, h.2.1, fun q hq => vk_R.same hv (h.2.2.1 q hq), fun k h1 h2 => (h.2.2.2.1 k h1 h2).moved ha, h.2.2.2.2.1.moved ha, h.2.2.2.2.2.1.moved ha, h.2.2.2.2.2.2.moved ha⟩
theorem m_Ex.kept {X : Nat → Nat} {A : Nat → Prop} {U : State} {H H1 : Heap} (h : m_Ex X A U H) (hq : ∀ a : Nat, a < H.size → ¬ A a → H1[a]? = H[a]?) : m_Ex X A U H1 := ⟨fun q h9 => (h.1 q h9).kept hq, h.2.1, h.2.2.1, fun k h1 h2 => (h.2.2.2.1 k h1 h2).kept hq, h.2.2.2.2.1.kept hq, h.2.2.2.2.2.1, h.2.2.2.2.2.2.kept hq⟩
theorem m_Ex.narrow {X : Nat → Nat} {A B : Nat → Prop} {U : State} {H : Heap} (h : m_Ex X A U H) (hAB : ∀ q, B q → A q) : m_Ex X B U H := ⟨fun q h9 => (h.1 q h9).narrow hAB, fun k hk hb => h.2.1 k hk (hAB _ hb), h.2.2.1, fun k h1 h2 => (h.2.2.2.1 k h1 h2).narrow hAB, h.2.2.2.2.1.narrow hAB, h.2.2.2.2.2.1, h.2.2.2.2.2.2.narrow hAB⟩
theorem m_blind {D : va_G} {dA : Nat → ClassId} {X : Nat → Nat} {L : List Nat} {sz : Nat} {w : List mM} {as : List Value} : FrameBlind (va_Pc as (m_Pc D dA X L sz w)) :=
  fun _ U g mk h => ⟨h.1, h.2.1, h.2.2.1, h.2.2.2.1, m_Kx.same (s := U) rfl h.2.2.2.2.1, m_Ex.same (u := U) rfl h.2.2.2.2.2⟩
section MC
variable {p : Program} {l : Launch} {e : Env} {R : Room} {s : State} {m : MethodId} {args : Array Value} {below : List Frame} {meth : Method} {c : Code} {H : Heap} {locs : List Loc} {cells slots : Nat} {Q : State → Prop} {I J : mI} {X : Nat → Nat} {L : List Nat} {pc len : Nat} {ls : Array Slot} {i : Instr} {st st' : List Value} {w w' : List mM} {D : va_G} {dA : Nat → ClassId} {A : Nat → Prop}
theorem m_sub (hA : ∀ q, s.heap.size ≤ q → A q) (hS : m_St D dA X A s.heap H locs L w) : ∀ q, va_A (m_wd X L dA w) H.size q → A q := by
  rintro q (⟨k, e1, hk⟩ | hq)
  · exact hS.2.2.2.1.2 k _ hk
  · exact hA q (Nat.le_trans hS.2.2.2.2.1 hq)
theorem m_pre (hA : ∀ q, s.heap.size ≤ q → A q) (hS : m_St D dA X A s.heap H locs L w) (hK : m_Kx D dA s) (hE : m_Ex X A s s.heap) (as : List Value) : PreS s H (va_Pc as (m_Pc D dA X L H.size w)) as :=
  ⟨m_blind, fun U hU hW => ⟨rfl, by rw [hU], by rw [hU]; exact hS.2.2.1, ⟨hS.2.2.2.1.1, fun _ _ _ => trivial⟩, hK.warm hW, by
    rw [hU]
    exact ((hE.kept (fun a h1 h2 => hS.2.2.2.2.2.1 a h1 h2)).narrow (m_sub hA hS)).warm hW⟩⟩
/-- behind a call -/
theorem m_go {v : Option Value} {rest : List Value} {mc ms : Nat} {as : Array Value} {st0 : List Value} (hA : ∀ q, s.heap.size ≤ q → A q) (hS : m_St D dA X A s.heap H locs L w)
    (hr : va_Run p l e R s m args below meth c H locs cells slots mc ms (F0 m pc ls st0) rest (m_Qc D dA X L (va_A (m_wd X L dA w) H.size) v w' as) (va_A (m_wd X L dA w) H.size))
    (kk : ∀ (H1 : Heap) (locs1 : List Loc) (L2 : List Nat), m_St D dA X A s.heap H1 locs1 (L ++ L2) w' → W p l e R s m args below meth c H1 locs1 (cells + mc) (slots + ms) Q (F0 m (pc + 3) ls ((v.map (m_tr X (L ++ L2))).toList ++ rest))) : W p l e R s m args below meth c H locs cells slots Q (F0 m pc ls st0) := by
  intro T hT X9
  obtain ⟨v9, st₀, t, T', L9, h0, X', hL, e1, e2, ⟨⟨L2, hv, h1, h2, h3, h4⟩, hz, hk⟩, stp⟩ := hr T hT X9
  cases hv
  rw [h0] at hz hk
  have hsub := m_sub hA hS
  obtain ⟨t2, a1, b1⟩ := kk T'.heap (locs ++ L9) L2 ⟨h1, h2, by rw [e1]; exact h3, h4.weaken (fun _ _ _ hq => hsub _ hq),
    Nat.le_trans hS.2.2.2.2.1 (by rw [e1]; exact hz), fun q g1 g2 => by rw [e1, hk q (Nat.lt_of_lt_of_le g1 hS.2.2.2.2.1) (fun z => g2 (hsub q z))]; exact hS.2.2.2.2.2.1 q g1 g2, fun q hq => by
      rcases List.mem_append.mp hq with h | h
      · exact hS.2.2.2.2.2.2 q h
      · exact hsub _ (hL q h)⟩ T' rfl X'
  exact ⟨t2, stp t2 a1, b1⟩
theorem m_takeI_inv {r : mI × List Value × List Value} (h : m_takeI J st = some r) : ∃ a, r = (J, .ref a :: (st.take J.2.2.2.1).reverse, st.drop (J.2.2.2.1 + 1)) ∧ st = st.take J.2.2.2.1 ++ .ref a :: st.drop (J.2.2.2.1 + 1) ∧ (st.take J.2.2.2.1).length = J.2.2.2.1 ∧ st[J.2.2.2.1]? = some (.ref a) ∧ ((st.drop (J.2.2.2.1 + 1)).map fun v => v.category).sum ≤ 8 := by
  unfold m_takeI at h
  split at h
  · rename_i a ha
    split at h
    · rename_i h8
      cases h
      obtain ⟨hlt, hg⟩ := List.getElem?_eq_some_iff.mp ha
      refine ⟨a, rfl, ?_, by rw [List.length_take]; omega, ha, h8⟩
      rw [← hg, ← List.drop_eq_getElem_cons hlt, List.take_append_drop]
    · cases h
  · cases h
theorem m_takeS_inv {r : mI × List Value × List Value} (h : m_takeS J st = some r) : r = (J, (st.take J.2.2.2.1).reverse, st.drop J.2.2.2.1) ∧ st = st.take J.2.2.2.1 ++ st.drop J.2.2.2.1 ∧ (st.take J.2.2.2.1).length = J.2.2.2.1 ∧ ((st.drop J.2.2.2.1).map fun v => v.category).sum ≤ 8 := by
  unfold m_takeS at h
  split at h
  · rename_i h1
    cases h
    exact ⟨rfl, (List.take_append_drop _ _).symm, by rw [List.length_take]; omega, h1.2⟩
  · cases h
theorem m_cat_sum (X : Nat → Nat) (L : List Nat) (r : List Value) : (((r.map (m_tr X L)).map fun v => v.category).sum) = (r.map fun v => v.category).sum := by
  rw [List.map_map]
  congr 1
  apply List.map_congr_left
  intro v _
  exact m_tr_cat X L v
theorem m_ca_sound (hx : p.tables.exec = Jvm.exec) (hb : c.code = I.2.1) (hml : c.maxLocals = I.2.2.1) (hls : ls.size = I.2.2.1) (hown : s.vm.findClass I.1.cls = some m.cls) (hts : ∀ w ∈ m_gt, w.before args s = true) (hK : m_Kx D dA s) (hE : m_Ex X A s s.heap) (hA : ∀ q, s.heap.size ≤ q → A q) (hI : m_bOk I) (hS : m_St D dA X A s.heap H locs L w) (hd : decode I.2.1 pc = .ok (i, 3)) {as rest : List Value} (h : m_ca I i st w = some (J, as, rest)) {r : mR} (hM : m_Met l J as w r)
    (hfr : r.2.2.2.2.1 + 1 ≤ R.frames) (hlo : 8 + (J.2.2.1 + 11) + r.2.2.2.2.2 ≤ R.locals) (hc : cells + r.2.2.1 ≤ R.cells) (hs : slots + r.2.2.2.1 ≤ R.slots)
    (kk : ∀ (H1 : Heap) (locs1 : List Loc) (L2 : List Nat), m_St D dA X A s.heap H1 locs1 (L ++ L2) r.2.1 → W p l e R s m args below meth c H1 locs1 (cells + r.2.2.1) (slots + r.2.2.2.1) Q (F0 m (pc + 3) ls ((r.1.map (m_tr X (L ++ L2))).toList ++ rest.map (m_tr X L)))) : W p l e R s m args below meth c H locs cells slots Q (F0 m pc ls (st.map (m_tr X L))) := by
  have hM2 := hM D dA X L H.size hS.1 hS.2.1
  have hR : (m_room r).frames + 1 ≤ R.frames ∧ 8 + (J.2.2.1 + 11) + (m_room r).locals ≤ R.locals := ⟨hfr, hlo⟩
  unfold m_ca at h
  split at h
  · split at h
    · rename_i k x9 kd mid q3 hce
      split at h
      · rename_i hkd
        split at h
        · rename_i J2 hJ2
          obtain ⟨a, e1, e2, e3, e4, e5⟩ := m_takeI_inv h
          cases e1
          have hJ := m_mt_ok J (List.mem_of_getElem? hJ2)
          have hstk : st.map (m_tr X L) = (((st.take J.2.2.2.1).reverse).map (m_tr X L)).reverse ++ .ref (m_ad X L a) :: (st.drop (J.2.2.2.1 + 1)).map (m_tr X L) := by
            rw [List.map_reverse, List.reverse_reverse]
            conv => lhs; rw [e2]
            rw [List.map_append, List.map_cons]; rfl
          have hlen : ((((st.take J.2.2.2.1).reverse).map (m_tr X L))).length = J.2.2.2.1 := by rw [List.length_map, List.length_reverse, e3]
          have hcat : 2 * (F0 m pc ls (st.map (m_tr X L))).monitorRoom + (((st.drop (J.2.2.2.1 + 1)).map (m_tr X L)).map fun v => v.category).sum ≤ 8 := by
            rw [m_cat_sum]; show 2 * 0 + _ ≤ 8; omega
          have hp := m_pre hA hS hK hE ((.ref (m_ad X L a)) :: ((st.take J.2.2.2.1).reverse).map (m_tr X L))
          have hco := (hI.2.2.2.2.2.2.1 _ (m_ce_mem hce)).2.2.2
          obtain ⟨J3, g1, g2, -, -, g3⟩ := hco (by rcases hkd with rfl | rfl <;> exact Nat.le_of_ble_eq_true rfl)
          cases hJ2.symm.trans g1
          rcases hkd with rfl | rfl
          · obtain ⟨f1, f0, f2, f3⟩ := g2 rfl
            have hTs : m_Ts J = Cond.code J.1 J.2.1 J.2.2.1 none :: m_gt := by unfold m_Ts; rw [f0]
            exact m_go hA hS (va_runI (Ts := m_gt) (own := I.1.cls) (nL := I.2.2.1) (b := m_ad X L a) (As := ((st.take J.2.2.2.1).reverse).map (m_tr X L)) (rest := (st.drop (J.2.2.2.1 + 1)).map (m_tr X L)) ⟨hx, hb, hml, hown, hts⟩ hM2 (cwI J.2.2.2.1 hts (m_good (m_Ts_in hJ)) hTs rfl rfl (hts _ hJ.2.1) (hts _ f2) (hts _ f3) f1 ⟨hJ.2.2.2.1.1, hJ.2.2.2.1.2, hJ.2.2.2.2.1⟩ hR) hp rfl hlen hls hstk hcat hd ⟨hc, hs⟩) kk
          · obtain ⟨f1, f0, f2, host, f3⟩ := g3 rfl
            have hTs : m_Ts J = Cond.code J.1 J.2.1 J.2.2.1 none :: m_gt := by unfold m_Ts; rw [f0]
            exact m_go hA hS (va_runIN (Ts := m_gt) (own := I.1.cls) (host := host) (nL := I.2.2.1) (b := m_ad X L a) (As := ((st.take J.2.2.2.1).reverse).map (m_tr X L)) (rest := (st.drop (J.2.2.2.1 + 1)).map (m_tr X L)) ⟨hx, hb, hml, hown, hts⟩ hM2 ⟨va_cnB J.2.2.2.1 hts (m_good (m_Ts_in hJ)) hTs rfl rfl (hK.2.1 _ f3) (hts _ hJ.2.1) ⟨hJ.2.2.2.1.1, hJ.2.2.2.1.2, hJ.2.2.2.2.1⟩ hR, f1, hts _ f2⟩ hp rfl hlen hls hstk hcat hd ⟨hc, hs⟩) kk
        · cases h
      · cases h
    · cases h
  · split at h
    · rename_i k x9 kd mid ci hce
      split at h
      · rename_i hkd
        subst hkd
        split at h
        · rename_i J2 hJ2
          split at h
          · rename_i hrec
            obtain ⟨a, e1, e2, e3, e4, e5⟩ := m_takeI_inv h
            cases e1
            have hJ := m_mt_ok J (List.mem_of_getElem? hJ2)
            have hstk : st.map (m_tr X L) = (((st.take J.2.2.2.1).reverse).map (m_tr X L)).reverse ++ .ref (m_ad X L a) :: (st.drop (J.2.2.2.1 + 1)).map (m_tr X L) := by
              rw [List.map_reverse, List.reverse_reverse]
              conv => lhs; rw [e2]
              rw [List.map_append, List.map_cons]; rfl
            have hlen : ((((st.take J.2.2.2.1).reverse).map (m_tr X L))).length = J.2.2.2.1 := by rw [List.length_map, List.length_reverse, e3]
            have hcat : 2 * (F0 m pc ls (st.map (m_tr X L))).monitorRoom + (((st.drop (J.2.2.2.1 + 1)).map (m_tr X L)).map fun v => v.category).sum ≤ 8 := by
              rw [m_cat_sum]; show 2 * 0 + _ ≤ 8; omega
            have hp := m_pre hA hS hK hE ((.ref (m_ad X L a)) :: ((st.take J.2.2.2.1).reverse).map (m_tr X L))
            have hco := (hI.2.2.2.2.2.2.1 _ (m_ce_mem hce)).2.2.2
            obtain ⟨J3, g1, -, g2, -, -⟩ := hco (Nat.le_of_ble_eq_true rfl)
            cases hJ2.symm.trans g1
            obtain ⟨f1, f2, rr, f3, f4, f5⟩ := g2 rfl
            have hrv : ∃ cell : Cell, H[m_ad X L a]? = some cell ∧ cell.vm.isStatics = false ∧ s.vm.findClass rr.1 = some cell.cls := by
              unfold m_isRecv at hrec
              rw [e4] at hrec
              simp only at hrec
              split at hrec
              · rename_i cj fs hat
                have hcj := of_decide_eq_true hrec
                subst hcj
                obtain ⟨h5, h6⟩ := m_at_L (X := X) hS.1 hat
                exact va_recv hK.1 hS.2.2.1 f3 (m_wd_get (X := X) (dA := dA) h5 h6)
              · cases hrec
              · obtain ⟨rfl, ha1, ha2⟩ := of_decide_eq_true hrec
                cases f3
                have h9 : a < 512 := Nat.lt_of_le_of_lt ha2 (by decide)
                obtain ⟨cell, k1, k2, k3, -⟩ := (hE.2.2.2.1 a ha1 ha2).1.kept hS.2.2.2.2.2.1
                exact ⟨cell, by unfold m_ad; rw [if_pos h9]; exact k1, k2, k3⟩
            have hgo : GoodIn m_gt (wsV I.1.cls k J.1.cls J.1 (m_Ts J)) := m_good (fun w9 hw9 => by
              rcases List.mem_append.mp hw9 with h9 | h9
              · simp only [List.mem_cons, List.mem_nil_iff, or_false] at h9
                rcases h9 with rfl | rfl | rfl | rfl
                · exact f1
                · exact f2
                · exact f5
                · exact hJ.2.1
              · exact m_Ts_in hJ w9 h9)
            exact m_go hA hS (va_runV (Ts := m_gt) (own := I.1.cls) (C := J.1.cls) (nL := I.2.2.1) (b := m_ad X L a) (As := ((st.take J.2.2.2.1).reverse).map (m_tr X L)) (rest := (st.drop (J.2.2.2.1 + 1)).map (m_tr X L)) ⟨hx, hb, hml, hown, hts⟩ hM2 (cwV J.2.2.2.1 hts hgo rfl rfl rfl ⟨rfl, hJ.2.2.2.1.1, hJ.2.2.2.1.2, hJ.2.2.2.2.1⟩ hR) ⟨hp.1, by rw [← f4]; exact hrv, hp.2⟩ rfl hlen hls hstk hcat hd ⟨hc, hs⟩) kk
          · cases h
        · cases h
      · cases h
    · cases h
  · split at h
    · rename_i k x9 kd mid q3 hce
      split at h
      · rename_i hkd
        subst hkd
        split at h
        · rename_i J2 hJ2
          obtain ⟨e1, e2, e3, e5⟩ := m_takeS_inv h
          cases e1
          have hJ := m_mt_ok J (List.mem_of_getElem? hJ2)
          have hstk : st.map (m_tr X L) = (((st.take J.2.2.2.1).reverse).map (m_tr X L)).reverse ++ (st.drop J.2.2.2.1).map (m_tr X L) := by
            rw [List.map_reverse, List.reverse_reverse]
            conv => lhs; rw [e2]
            rw [List.map_append]
          have hlen : ((((st.take J.2.2.2.1).reverse).map (m_tr X L))).length = J.2.2.2.1 := by rw [List.length_map, List.length_reverse, e3]
          have hcat : 2 * (F0 m pc ls (st.map (m_tr X L))).monitorRoom + (((st.drop J.2.2.2.1).map (m_tr X L)).map fun v => v.category).sum ≤ 8 := by
            rw [m_cat_sum]; show 2 * 0 + _ ≤ 8; omega
          have hp := m_pre hA hS hK hE (((st.take J.2.2.2.1).reverse).map (m_tr X L))
          have hco := (hI.2.2.2.2.2.2.1 _ (m_ce_mem hce)).2.2.2
          obtain ⟨J3, g1, -, -, g2, -⟩ := hco (Nat.le_of_ble_eq_true rfl)
          cases hJ2.symm.trans g1
          obtain ⟨f1, f2⟩ := g2 rfl
          have hgo : GoodIn m_gt (va_wsS I.1.cls k J.1 (m_Ts J)) := m_good (fun w9 hw9 => by
            rcases List.mem_append.mp hw9 with h9 | h9
            · simp only [List.mem_cons, List.mem_nil_iff, or_false] at h9
              rcases h9 with rfl | rfl | rfl
              · exact f1
              · exact f2
              · exact hJ.2.1
            · exact m_Ts_in hJ w9 h9)
          exact m_go hA hS (va_runS (Ts := m_gt) (own := I.1.cls) (nL := I.2.2.1) (As := ((st.take J.2.2.2.1).reverse).map (m_tr X L)) (rest := (st.drop J.2.2.2.1).map (m_tr X L)) ⟨hx, hb, hml, hown, hts⟩ hM2 (va_cwS J.2.2.2.1 hts hgo rfl rfl rfl ⟨hJ.2.2.2.1.1, hJ.2.2.2.1.2, hJ.2.2.2.2.1⟩ hR) hp rfl hlen hls hstk hcat hd ⟨hc, hs⟩) kk
        · cases h
      · cases h
    · cases h
  · cases h
end MC
