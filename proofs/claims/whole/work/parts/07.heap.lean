/-! The small machine's steps on the world are steps of the machine. -/
/-- what a walk of a method needs of its own names (its code's word apart) -/
def m_bOk (I : mI) : Prop := True ∧ True ∧ True ∧ True ∧ True ∧ (∀ q ∈ I.2.2.2.2.2.1, m_fOk I.1 q) ∧ (∀ q ∈ I.2.2.2.2.2.2.1, m_cOk I.1 q) ∧ (∀ q ∈ I.2.2.2.2.2.2.2.1, m_oOk I.1 q) ∧ ∀ q ∈ I.2.2.2.2.2.2.2.2, decode I.2.1 q.1 = .ok (q.2.1, q.2.2)
theorem m_mOk.body {I : mI} (h : m_mOk I) : m_bOk I := ⟨trivial, trivial, trivial, trivial, trivial, h.2.2.2.2.2⟩
def m_tys (dA : Nat → ClassId) : List (ClassId × FieldType) := m_tyl.mapIdx (fun t ty => (dA t, ty))
theorem m_tys_get {dA : Nat → ClassId} {t : Nat} {ty : FieldType} (h : m_tyl[t]? = some ty) : (m_tys dA)[t]? = some (dA t, ty) := by
  unfold m_tys; rw [List.getElem?_mapIdx, h]; rfl
def m_Kx (D : va_G) (dA : Nat → ClassId) (U : State) : Prop := va_K D m_cl (m_tys dA) U ∧ (∀ w ∈ m_nw, va_Nw w U) ∧ (∀ C ∈ m_obl, va_AO C U)
/-- an outside text: its object X k, its bytes X (k + 200) -/
def m_Sx (X : Nat → Nat) (A : Nat → Prop) (U : State) (H : Heap) (k : Nat) : Prop := va_O "java/lang/String" (X k) A U H ∧ va_OF "java/lang/String" "coder" "B" (.int 0) (X k) A U H ∧ va_OF "java/lang/String" "value" "[B" (.ref (X (k + 200))) (X k) A U H ∧ va_T .byte (X (k + 200)) (m_xbl.getD (k - 1) []).length (fun j => .int ((m_xbl.getD (k - 1) []).getD j 0)) A U H
/-- the digits' tables of Integer: ones at X 1003, tens at X 1004 -/
def m_Dg (X : Nat → Nat) (A : Nat → Prop) (U : State) (H : Heap) : Prop := va_Z "java/lang/Integer" "DigitOnes" "[B" (.ref (X 1003)) A U H ∧ va_Z "java/lang/Integer" "DigitTens" "[B" (.ref (X 1004)) A U H ∧ va_T .byte (X 1003) 100 (fun j => .int (Int32.ofNat (48 + j % 10))) A U H ∧ va_T .byte (X 1004) 100 (fun j => .int (Int32.ofNat (48 + j / 10))) A U H
def m_Ex (X : Nat → Nat) (A : Nat → Prop) (U : State) (H : Heap) : Prop := (∀ q ∈ m_stl, va_Z q.1 q.2.1 q.2.2.1 (m_tr X [] q.2.2.2) A U H) ∧ (∀ k, k < 512 → ¬ A (X k)) ∧ (∀ q ∈ m_sxl, vk_R q.1 q.2.1 q.2.2.1 (X q.2.2.2) U) ∧ (∀ k, 1 ≤ k → k ≤ m_sN → m_Sx X A U H k) ∧ va_T (.object "java/lang/Object") (X 0) 0 (fun _ => .null) A U H ∧ va_Mi "[Ljava/lang/Object;" (X 1002) U ∧ m_Dg X A U H
def m_St (D : va_G) (dA : Nat → ClassId) (X : Nat → Nat) (A : Nat → Prop) (H0 H : Heap) (locs : List Loc) (L : List Nat) (w : List mM) : Prop := L.length = w.length ∧ m_okw w.length w ∧ va_P D m_cl (m_wd X L dA w) H ∧ va_D A (m_wd X L dA w) ∧ va_S A H0 H locs
theorem m_fe_mem {I : mI} {k : Nat} {q : Nat × Nat × Nat} (h : m_fe I k = some q) : (k, q) ∈ I.2.2.2.2.2.1 := by
  unfold m_fe at h
  obtain ⟨x, hx, rfl⟩ := Option.map_eq_some_iff.mp h
  have h1 : x.1 = k := by simpa using List.find?_some hx
  have h2 := List.mem_of_find?_eq_some hx
  rw [← h1]; exact h2
theorem m_ce_mem {I : mI} {k : Nat} {q : Nat × Nat × Nat} (h : m_ce I k = some q) : (k, q) ∈ I.2.2.2.2.2.2.1 := by
  unfold m_ce at h
  obtain ⟨x, hx, rfl⟩ := Option.map_eq_some_iff.mp h
  have h1 : x.1 = k := by simpa using List.find?_some hx
  have h2 := List.mem_of_find?_eq_some hx
  rw [← h1]; exact h2
theorem m_oe_mem {I : mI} {kd k : Nat} {q : Nat × Value} (h : m_oe I kd k = some q) : (k, kd, q) ∈ I.2.2.2.2.2.2.2.1 := by
  unfold m_oe at h
  obtain ⟨x, hx, rfl⟩ := Option.map_eq_some_iff.mp h
  have h1 : x.1 = k ∧ x.2.1 = kd := by simpa using List.find?_some hx
  have h2 := List.mem_of_find?_eq_some hx
  rw [← h1.1, ← h1.2]; exact h2
theorem m_de_ok {I : mI} {pc : Nat} {i : Instr} {len : Nat} (hI : m_bOk I) (h : m_de I pc = some (i, len)) : decode I.2.1 pc = .ok (i, len) := by
  unfold m_de at h
  obtain ⟨x, hx, e1⟩ := Option.map_eq_some_iff.mp h
  have h1 : x.1 = pc := by simpa using List.find?_some hx
  have h2 := hI.2.2.2.2.2.2.2.2 x (List.mem_of_find?_eq_some hx)
  rw [← h1, h2, e1]
theorem m_at_ok {w : List mM} {a : Nat} {q : mM} (h : m_at w a = some q) : ¬ a < 512 ∧ w[a - 512]? = some q := by
  unfold m_at at h
  split at h
  · cases h
  · rename_i h1; exact ⟨h1, h⟩
theorem m_at_L {X : Nat → Nat} {L : List Nat} {w : List mM} {a : Nat} {q : mM} (hL : L.length = w.length) (h : m_at w a = some q) : L[a - 512]? = some (m_ad X L a) ∧ w[a - 512]? = some q := by
  obtain ⟨h1, h2⟩ := m_at_ok h
  have h3 : a - 512 < L.length := by rw [hL]; exact (List.getElem?_eq_some_iff.mp h2).1
  refine ⟨?_, h2⟩
  unfold m_ad
  rw [if_neg h1, List.getD_eq_getElem?_getD, List.getElem?_eq_getElem h3]; rfl
theorem m_tr_stat {X : Nat → Nat} {L : List Nat} {v : Value} (h : m_okv 0 v = true) : m_tr X L v = m_tr X [] v := by
  have := m_tr_ext (X := X) (L := []) (L2 := L) (v := v) h
  simpa using this
theorem m_stl_ok : ∀ q ∈ m_stl, m_okv 0 q.2.2.2 = true := by decide
section MH
variable {p : Program} {l : Launch} {e : Env} {R : Room} {s : State} {m : MethodId} {args : Array Value} {below : List Frame} {meth : Method} {c : Code} {H : Heap} {locs : List Loc} {cells slots : Nat} {Q : State → Prop} {I : mI} {X : Nat → Nat} {L : List Nat} {pc len : Nat} {ls : Array Slot} {i : Instr} {st st' : List Value} {w w' : List mM} {D : va_G} {dA : Nat → ClassId} {A : Nat → Prop} {H0 : Heap} {dc ds : Nat}
theorem m_getf_sound (hx : p.tables.exec = Jvm.exec) (hb : c.code = I.2.1) (hown : s.vm.findClass I.1.cls = some m.cls) (hts : ∀ w ∈ m_gt, w.before args s = true) (hK : m_Kx D dA s) (hI : m_bOk I) (hS : m_St D dA X A H0 H locs L w) {k : Nat} (hd : decode I.2.1 pc = .ok (.getfield k, len)) (h : m_getf I k st w = some (len, st', w', dc, ds))
    (kk : w' = w → dc = 0 → ds = 0 → W p l e R s m args below meth c H locs cells slots Q (F0 m (pc + len) ls (st'.map (m_tr X L)))) : W p l e R s m args below meth c H locs cells slots Q (F0 m pc ls (st.map (m_tr X L))) := by
  unfold m_getf at h
  split at h
  · rename_i a r
    split at h
    · rename_i ci fk fl cj fs hf ha
      split at h
      · rename_i hc
        subst hc
        split at h
        · rename_i v hv
          cases h
          obtain ⟨rr, h1, h2, ⟨ref, h3, h4⟩, -, -⟩ := hI.2.2.2.2.2.1 _ (m_fe_mem hf)
          obtain ⟨h5, h6⟩ := m_at_L (X := X) hS.1 ha
          have ok := m_cl_ok ci rr h1
          refine va_get (C := rr.1) (T := rr.2.1) (N := rr.2.2) (ci := ci) (a := m_ad X L a) hx hb hts ok.1 hown hK.1 hS.2.2.1 (a - 512) (m_wd_get (dA := dA) h5 h6) h1 fk h2 (hts _ h3) ?_ (v := m_tr X L v) (by rw [List.getElem?_map, hv]; rfl) hd (kk rfl rfl rfl)
          rcases h4 with h4 | h4
          · intro x hx9; rw [h4]; exact hx9
          · exact u_same (hts _ h4)
        · cases h
      · cases h
    · cases h
  · cases h
theorem m_putf_sound (hx : p.tables.exec = Jvm.exec) (hb : c.code = I.2.1) (hown : s.vm.findClass I.1.cls = some m.cls) (hts : ∀ w ∈ m_gt, w.before args s = true) (hnm : meth.name = I.1.name) (hK : m_Kx D dA s) (hI : m_bOk I) (hS : m_St D dA X A H0 H locs L w) {k : Nat} (hd : decode I.2.1 pc = .ok (.putfield k, len)) (h : m_putf I k st w = some (len, st', w', dc, ds))
    (kk : ∀ (H1 : Heap) (locs1 : List Loc), m_St D dA X A H0 H1 locs1 L w' → dc = 0 → ds = 0 → W p l e R s m args below meth c H1 locs1 cells slots Q (F0 m (pc + len) ls (st'.map (m_tr X L)))) : W p l e R s m args below meth c H locs cells slots Q (F0 m pc ls (st.map (m_tr X L))) := by
  unfold m_putf at h
  split at h
  · rename_i v a r
    split at h
    · rename_i ci fk fl cj fs hf ha
      split at h
      · rename_i ty hty
        split at h
        · rename_i hc
          obtain ⟨rfl, hfl, hfs, hnar, hfit, hokv⟩ := hc
          cases h
          obtain ⟨rr, h1, h2, ⟨ref, h3, h4⟩, hq1, hq2⟩ := hI.2.2.2.2.2.1 _ (m_fe_mem hf)
          obtain ⟨h5, h6⟩ := m_at_L (X := X) hS.1 ha
          have ok := m_cl_ok ci rr h1
          have hty2 : (m_fl.getD ci []).getD fk .int = ty := by
            unfold m_ft at hty
            cases hci : m_fl[ci]? with
            | none => rw [hci] at hty; cases hty
            | some fl2 =>
              rw [hci] at hty
              have e0 : m_fl.getD ci [] = fl2 := by rw [List.getD_eq_getElem?_getD, hci]; rfl
              rw [e0, List.getD_eq_getElem?_getD, show fl2[fk]? = some ty from hty]; rfl
          have hd2 : parseFieldDescriptor (rr.2.1 fk).2.2.1 = some ty := by rw [ok.2.1 fk h2, hty2]
          have hsame : ∀ x, s.fieldFound? (rr.2.1 fk).1 (rr.2.1 fk).2.1 (rr.2.1 fk).2.2.1 = some x → s.fieldFound? ref (rr.2.1 fk).2.1 (rr.2.1 fk).2.2.1 = some x := by
            rcases h4 with h4 | h4
            · intro x hx9; rw [h4]; exact hx9
            · exact u_same (hts _ h4)
          have hfin : ∀ (H1 : Heap) (locs1 : List Loc), va_P D m_cl ((m_wd X L dA w).set (a - 512) (m_ad X L a, .inr (ci, (fs.map (m_tr X L)).set fk (m_tr X L v)))) H1 → va_D A ((m_wd X L dA w).set (a - 512) (m_ad X L a, .inr (ci, (fs.map (m_tr X L)).set fk (m_tr X L v)))) → va_S A H0 H1 locs1 → W p l e R s m args below meth c H1 locs1 cells slots Q (F0 m (pc + 3) ls (st'.map (m_tr X L))) := by
            intro H1 locs1 g1 g2 g3
            have e1 : m_cell X L dA (.inr (ci, fs.set fk v)) = .inr (ci, (fs.map (m_tr X L)).set fk (m_tr X L v)) := by
              show Sum.inr (ci, (fs.set fk v).map (m_tr X L)) = _
              rw [List.map_set]
            rw [← e1, ← m_wd_set h5] at g1 g2
            refine kk H1 locs1 ⟨by rw [List.length_set]; exact hS.1, ?_, g1, g2, g3⟩ rfl rfl
            rw [List.length_set]
            exact m_okw_set hS.2.1 (m_okc_set (hS.2.1 _ (List.mem_of_getElem? h6)) hokv)
          rcases hfl with hfl | hfl
          · exact va_put (C := rr.1) (T := rr.2.1) (N := rr.2.2) (ci := ci) (a := m_ad X L a) hx hb hts ok.1 (fun k => (m_fl.getD ci []).getD k .int) ok.2.1 ok.2.2.1 hown hK.1 hS.2.2.1 hS.2.2.2.1 hS.2.2.2.2 (a - 512) (m_wd_get (dA := dA) h5 h6) h1 fk h2 (hts _ h3) hsame (hq1 hfl) (v := m_tr X L v) hd2 (m_tr_narrow X L ty v hnar) (m_tr_fits X L ty v hfit) (by rw [List.length_map]; exact hfs) hd hfin
          · obtain ⟨g1, g2, g3⟩ := hq2 hfl
            exact va_putF (C := rr.1) (T := rr.2.1) (N := rr.2.2) (ci := ci) (a := m_ad X L a) hx hb hts ok.1 (fun k => (m_fl.getD ci []).getD k .int) ok.2.1 ok.2.2.1 hown hK.1 hS.2.2.1 hS.2.2.2.1 hS.2.2.2.2 (a - 512) (m_wd_get (dA := dA) h5 h6) h1 fk h2 (hts _ h3) hsame g1 (by rw [hnm]; exact g2) g3 (v := m_tr X L v) hd2 (m_tr_narrow X L ty v hnar) (m_tr_fits X L ty v hfit) (by rw [List.length_map]; exact hfs) hd hfin
        · cases h
      · cases h
    · cases h
  · cases h
theorem m_RA_uniq {U : State} {a b : ClassId} {ty : FieldType} (h1 : va_RA U a ty) (h2 : va_RA U b ty) : a = b := by
  cases ty with
  | object C =>
    obtain ⟨_, _, _, _, _, h4⟩ := h1
    obtain ⟨_, _, _, _, _, g4⟩ := h2
    exact Option.some.inj (h4.symm.trans g4)
  | _ => exact Option.some.inj (h1.symm.trans h2)
theorem m_new_sound (hx : p.tables.exec = Jvm.exec) (hb : c.code = I.2.1) (hown : s.vm.findClass I.1.cls = some m.cls) (hts : ∀ w ∈ m_gt, w.before args s = true) (hK : m_Kx D dA s) (hA : ∀ q, H0.size ≤ q → A q) (hI : m_bOk I) (hS : m_St D dA X A H0 H locs L w) {k : Nat} (hd : decode I.2.1 pc = .ok (.new k, len)) (h : m_new I k st w = some (len, st', w', dc, ds)) (hok : m_oks L.length st) (hc : cells + dc ≤ R.cells) (hs : slots + ds ≤ R.slots)
    (kk : ∀ (H1 : Heap) (a : Nat), m_St D dA X A H0 H1 locs (L ++ [a]) w' → W p l e R s m args below meth c H1 locs (cells + dc) (slots + ds) Q (F0 m (pc + len) ls (st'.map (m_tr X (L ++ [a]))))) : W p l e R s m args below meth c H locs cells slots Q (F0 m pc ls (st.map (m_tr X L))) := by
  unfold m_new at h
  split at h
  · rename_i ci v0 ho
    split at h
    · rename_i fs hfs
      cases h
      obtain ⟨rr, h1, h2, h3, h4⟩ := (hI.2.2.2.2.2.2.2.1 _ (m_oe_mem ho)).1 rfl
      have ok := m_cl_ok ci rr h1
      have e0 : m_fd.getD ci [] = fs := by rw [List.getD_eq_getElem?_getD, hfs]; rfl
      have hlen : fs.length = rr.2.2 := by rw [← e0]; exact ok.2.2.2.2.1
      have hall : fs.all (m_okv 0) = true := by rw [← e0]; exact ok.2.2.2.2.2.2
      rw [hlen] at hs kk
      refine va_new (C := rr.1) (T := rr.2.1) (N := rr.2.2) (ci := ci) (fs := fs.map (m_tr X L)) hx hb hts ok.1 (fun k => (m_fl.getD ci []).getD k .int) ok.2.1 hown (hts _ h2) (hts _ h3) (hts _ h4) hK.1 hS.2.2.1 hS.2.2.2.1 hS.2.2.2.2 hA h1 ?_ hc hs hd ?_
      · intro j hj
        rw [ok.2.2.2.2.2.1 j hj, e0]
        unfold vp_V
        rw [List.getD_eq_getElem?_getD, List.getD_eq_getElem?_getD, List.getElem?_map]
        cases hj2 : fs[j]? with
        | none => rfl
        | some v =>
          have hv := List.all_eq_true.mp hall v (List.mem_of_getElem? hj2)
          show v = m_tr X L v
          rw [m_tr_stat hv]
          have hdj := ok.2.2.2.2.2.1 j hj
          rw [e0] at hdj
          unfold vp_V at hdj
          rw [List.getD_eq_getElem?_getD (l := fs), hj2] at hdj
          have hdj : defaultValue ((m_fl.getD ci []).getD j .int) = v := hdj
          rw [← hdj]
          cases (m_fl.getD ci []).getD j .int <;> rfl
      · intro q H1 g1 g2 g3
        have hL : (L ++ [q]).length = (w ++ [Sum.inr (ci, fs)]).length := by rw [List.length_append, List.length_append, hS.1]; rfl
        have hokw : m_okw L.length w := by rw [hS.1]; exact hS.2.1
        have hall2 : ∀ n, fs.all (m_okv n) = true := fun n => List.all_eq_true.mpr (fun v hv => m_okv_mono (List.all_eq_true.mp hall v hv) (Nat.zero_le n))
        have e1 : m_cell X (L ++ [q]) dA (.inr (ci, fs)) = .inr (ci, fs.map (m_tr X L)) := m_cell_ext (q := .inr (ci, fs)) (hall2 L.length)
        have e2 : m_wd X (L ++ [q]) dA (w ++ [.inr (ci, fs)]) = m_wd X L dA w ++ [(q, .inr (ci, fs.map (m_tr X L)))] := by rw [m_wd_push hS.1 hokw, e1]
        have e3 : (Value.ref (512 + w.length) :: st).map (m_tr X (L ++ [q])) = .ref q :: st.map (m_tr X L) := by
          rw [List.map_cons, m_trs_ext hok]
          congr 1
          show Value.ref (m_ad X (L ++ [q]) (512 + w.length)) = .ref q
          congr 1
          unfold m_ad
          rw [if_neg (by omega), List.getD_eq_getElem?_getD, show 512 + w.length - 512 = L.length by rw [hS.1]; omega]
          simp
        have g := kk H1 q ⟨hL, ?_, by rw [e2]; exact g1, by rw [e2]; exact g2, g3⟩
        · rw [e3] at g; exact g
        · rw [List.length_append]
          exact m_okw_push hS.2.1 (hall2 _)
    · cases h
  · cases h
end MH
