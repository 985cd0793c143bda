/-! The main theorem on the small machine: what it runs, the machine runs; and the contract of a method out of a run. -/
def m_Good (l : Launch) (I : mI) (F : mF) (r : mR) : Prop := ∀ (p : Program) (e : Env) (R : Room) (s : State) (m : MethodId) (args : Array Value) (below : List Frame) (meth : Method) (c : Code) (H : Heap) (locs : List Loc) (cells slots : Nat) (ls : Array Slot) (D : va_G) (dA : Nat → ClassId) (X : Nat → Nat) (A : Nat → Prop) (L0 L1 : List Nat),
  p.tables.exec = Jvm.exec → c.code = I.2.1 → c.maxLocals = I.2.2.1 → s.vm.findClass I.1.cls = some m.cls → (∀ w ∈ m_gt, w.before args s = true) → meth.name = I.1.name → meth.sig.returnType = I.2.2.2.2.1 → meth.locks = false → m_Kx D dA s → m_Ex X A s s.heap → (∀ q, s.heap.size ≤ q → A q) →
  m_St D dA X A s.heap H locs (L0 ++ L1) F.2.2.2 → lv_has ls I.2.2.1 (m_lvt X (L0 ++ L1) F.2.1) → cells + r.2.2.1 ≤ R.cells → slots + r.2.2.2.1 ≤ R.slots → r.2.2.2.2.1 ≤ R.frames → r.2.2.2.2.2 ≤ R.locals →
  W p l e R s m args below meth c H locs cells slots (MQ below (m_Qc D dA X L0 A r.1 r.2.1) args s (cells + r.2.2.1) (slots + r.2.2.2.1) A) (F0 m F.1 ls (F.2.2.1.map (m_tr X (L0 ++ L1))))
theorem m_hs_len {I : mI} {i : Instr} {st st' : List Value} {w w' : List mM} {n dc ds : Nat} (h : m_hs I i st w = some (n, st', w', dc, ds)) (h0 : dc = 0) : w'.length = w.length := by
  unfold m_hs at h
  split at h
  · unfold m_getf at h
    repeat' split at h
    all_goals first | (cases h; done) | (cases h; first | rfl | exact List.length_set | (cases h0; done))
  · unfold m_putf at h
    repeat' split at h
    all_goals first | (cases h; done) | (cases h; first | rfl | exact List.length_set | (cases h0; done))
  · unfold m_new at h
    repeat' split at h
    all_goals first | (cases h; done) | (cases h; first | rfl | exact List.length_set | (cases h0; done))
  · unfold m_newa m_mka at h
    repeat' split at h
    all_goals first | (cases h; done) | (cases h; first | rfl | exact List.length_set | (cases h0; done))
  · unfold m_anew m_mka at h
    repeat' split at h
    all_goals first | (cases h; done) | (cases h; first | rfl | exact List.length_set | (cases h0; done))
  · unfold m_alen at h
    repeat' split at h
    all_goals first | (cases h; done) | (cases h; first | rfl | exact List.length_set | (cases h0; done))
  · unfold m_ald at h
    repeat' split at h
    all_goals first | (cases h; done) | (cases h; first | rfl | exact List.length_set | (cases h0; done))
  · unfold m_ald at h
    repeat' split at h
    all_goals first | (cases h; done) | (cases h; first | rfl | exact List.length_set | (cases h0; done))
  · unfold m_ald at h
    repeat' split at h
    all_goals first | (cases h; done) | (cases h; first | rfl | exact List.length_set | (cases h0; done))
  · unfold m_ald at h
    repeat' split at h
    all_goals first | (cases h; done) | (cases h; first | rfl | exact List.length_set | (cases h0; done))
  · unfold m_aald at h
    repeat' split at h
    all_goals first | (cases h; done) | (cases h; first | rfl | exact List.length_set | (cases h0; done))
  · unfold m_ast at h
    repeat' split at h
    all_goals first | (cases h; done) | (cases h; first | rfl | exact List.length_set | (cases h0; done))
  · unfold m_ast at h
    repeat' split at h
    all_goals first | (cases h; done) | (cases h; first | rfl | exact List.length_set | (cases h0; done))
  · unfold m_ast at h
    repeat' split at h
    all_goals first | (cases h; done) | (cases h; first | rfl | exact List.length_set | (cases h0; done))
  · unfold m_last at h
    repeat' split at h
    all_goals first | (cases h; done) | (cases h; first | rfl | exact List.length_set | (cases h0; done))
  · unfold m_aast at h
    repeat' split at h
    all_goals first | (cases h; done) | (cases h; first | rfl | exact List.length_set | (cases h0; done))
  · unfold m_gst at h
    repeat' split at h
    all_goals first | (cases h; done) | (cases h; first | rfl | exact List.length_set | (cases h0; done))
  · unfold m_ldc at h
    repeat' split at h
    all_goals first | (cases h; done) | (cases h; first | rfl | exact List.length_set | (cases h0; done))
  · unfold m_ldc at h
    repeat' split at h
    all_goals first | (cases h; done) | (cases h; first | rfl | exact List.length_set | (cases h0; done))
  · unfold m_ldc2 at h
    repeat' split at h
    all_goals first | (cases h; done) | (cases h; first | rfl | exact List.length_set | (cases h0; done))
  · cases h
theorem m_okf_st {F : mF} (h : m_okf F = true) : m_oks F.2.2.2.length F.2.2.1 ∧ ∀ q ∈ F.2.1, m_okv F.2.2.2.length q.2 = true := by
  unfold m_okf at h
  rw [Bool.and_eq_true, List.all_eq_true, List.all_eq_true] at h
  exact ⟨h.2, h.1⟩
theorem m_ca_as {I J : mI} {i : Instr} {st : List Value} {w : List mM} {as rest : List Value} (h : m_ca I i st w = some (J, as, rest)) : (∀ v ∈ rest, v ∈ st) ∧ J ∈ m_mt := by
  have hd : ∀ n, ∀ v ∈ st.drop n, v ∈ st := fun n v hv => List.mem_of_mem_drop hv
  unfold m_ca at h
  split at h
  · split at h
    · split at h
      · split at h
        · rename_i hJ
          obtain ⟨a, e1, -⟩ := m_takeI_inv h
          cases e1
          exact ⟨hd _, List.mem_of_getElem? hJ⟩
        · cases h
      · cases h
    · cases h
  · split at h
    · split at h
      · split at h
        · rename_i hJ
          split at h
          · obtain ⟨a, e1, -⟩ := m_takeI_inv h
            cases e1
            exact ⟨hd _, List.mem_of_getElem? hJ⟩
          · cases h
        · cases h
      · cases h
    · cases h
  · split at h
    · split at h
      · split at h
        · rename_i hJ
          obtain ⟨e1, -⟩ := m_takeS_inv h
          cases e1
          exact ⟨hd _, List.mem_of_getElem? hJ⟩
        · cases h
      · cases h
    · cases h
  · cases h
theorem m_Met_of {l : Launch} {J : mI} (hJ : m_mOk J) {as : List Value} {w : List mM} {r : mR} (hfit : (lg_sl as).length ≤ J.2.2.1) (h : m_Good l J (m_ent J as w) r) : m_Met l J as w r := by
  intro D dA X L sz hL hok
  refine Met.ofW (cc := J.2.1) (maxL := J.2.2.1) (ret := J.2.2.2.2.1) hJ.2.2.1 rfl ?_
  intro p e s m args below meth c s₁ B hml hv
  obtain ⟨rfl, rfl, hP, hD0, hK, hE⟩ := hv
  have hts := atoms_spec (ws := m_Ts J) B.pre
  have hts2 : ∀ w ∈ m_gt, w.before (as.map (m_tr X L)).toArray s = true := fun w hw => hts w (List.mem_cons_of_mem _ hw)
  have hl := lv_entry (as.map (m_tr X L)) (n := J.2.2.1) (by rw [m_lgsl]; exact hfit)
  rw [lg_entry_eq]
  generalize (lg_sl (as.map (m_tr X L)) ++ List.replicate (J.2.2.1 - (lg_sl (as.map (m_tr X L))).length) Slot.unset).toArray = ls at hl ⊢
  rw [m_lvargs] at hl
  have g := h p e (headSpec (m_Ts J) (m_room r)).room s m (as.map (m_tr X L)).toArray below meth c s.heap [] 0 0 ls D dA X (va_A (m_wd X L dA w) s.heap.size) L [] B.exec B.bytes hml (findClass_of_methodNamed B.named) hts2 (name_of_methodNamed B.named B.method).1 B.returns B.notSynchronized hK hE (fun q hq => Or.inr hq) (by rw [List.append_nil]; exact ⟨hL, hok, hP, hD0.self, va_S.rf⟩) (by rw [List.append_nil]; exact hl) (by rw [Nat.zero_add]; exact Nat.le_refl _) (by rw [Nat.zero_add]; exact Nat.le_refl _) (Nat.le_refl _) (Nat.le_refl _)
  rw [Nat.zero_add, Nat.zero_add] at g
  exact g
/-- from F the machine comes to F', with dc cells of ds slots, in the room of fr frames and lo words -/
def m_Step (l : Launch) (I : mI) (F F' : mF) (dc ds fr lo : Nat) : Prop := ∀ (p : Program) (e : Env) (R : Room) (s : State) (m : MethodId) (args : Array Value) (below : List Frame) (meth : Method) (c : Code) (H : Heap) (locs : List Loc) (cells slots : Nat) (ls : Array Slot) (D : va_G) (dA : Nat → ClassId) (X : Nat → Nat) (A : Nat → Prop) (L : List Nat) (Q : State → Prop),
  p.tables.exec = Jvm.exec → c.code = I.2.1 → c.maxLocals = I.2.2.1 → s.vm.findClass I.1.cls = some m.cls → (∀ w ∈ m_gt, w.before args s = true) → meth.name = I.1.name → m_Kx D dA s → m_Ex X A s s.heap → (∀ q, s.heap.size ≤ q → A q) →
  m_St D dA X A s.heap H locs L F.2.2.2 → lv_has ls I.2.2.1 (m_lvt X L F.2.1) → cells + dc ≤ R.cells → slots + ds ≤ R.slots → fr ≤ R.frames → lo ≤ R.locals →
  (∀ (H1 : Heap) (locs1 : List Loc) (L2 : List Nat) (ls' : Array Slot), m_St D dA X A s.heap H1 locs1 (L ++ L2) F'.2.2.2 → lv_has ls' I.2.2.1 (m_lvt X (L ++ L2) F'.2.1) → W p l e R s m args below meth c H1 locs1 (cells + dc) (slots + ds) Q (F0 m F'.1 ls' (F'.2.2.1.map (m_tr X (L ++ L2))))) →
  W p l e R s m args below meth c H locs cells slots Q (F0 m F.1 ls (F.2.2.1.map (m_tr X L)))
theorem m_nx_sound (l : Launch) {ic : mI → mF → Option mR} {I : mI} {F F' : mF} {dc ds fr lo : Nat} (hI : m_bOk I) (hic : ∀ J G r, m_bOk J → ic J G = some r → m_Good l J G r) (h : m_nx ic I F = some (F', dc, ds, fr, lo)) : m_Step l I F F' dc ds fr lo := by
  intro p e R s m args below meth c H locs cells slots ls D dA X A L Q hx hb hml hown hts hnm hK hE hA hS hl hc hs hfr hlo kk
  have hlen : L.length = F.2.2.2.length := hS.1
  have k0 : F'.2.2.2 = F.2.2.2 → dc = 0 → ds = 0 → ∀ ls' : Array Slot, lv_has ls' I.2.2.1 (m_lvt X L F'.2.1) → W p l e R s m args below meth c H locs cells slots Q (F0 m F'.1 ls' (F'.2.2.1.map (m_tr X L))) := by
    intro e1 e2 e3 ls' hl'
    subst e2 e3
    have g := kk H locs [] ls' (by rw [List.append_nil, e1]; exact hS) (by rw [List.append_nil]; exact hl')
    rw [List.append_nil] at g
    exact g
  unfold m_nx at h
  split at h
  · rename_i i len hde
    have hd := m_de_ok hI hde
    split at h
    · rename_i n st' hps
      split at h
      · rename_i hn
        subst hn
        cases h
        exact m_ps_sound hx hb hd hps (k0 rfl rfl rfl ls hl)
      · cases h
    · split at h
      · rename_i n lv' st' hlo9
        split at h
        · rename_i hn
          subst hn
          cases h
          exact m_lo_sound hx hb hl hd hlo9 (fun ls' hl' => k0 rfl rfl rfl ls' hl')
        · cases h
      · split at h
        · rename_i pc' st' hbr
          cases h
          refine m_br_sound hx hb ?_ ?_ hd (by rw [hlen]; exact hbr) (k0 rfl rfl rfl ls hl)
          · intro i9 j9 a9 h1 h2
            have w1 : i9 < F.2.2.2.length := by rw [← hlen]; exact (List.getElem?_eq_some_iff.mp h1).1
            have w2 : j9 < F.2.2.2.length := by rw [← hlen]; exact (List.getElem?_eq_some_iff.mp h2).1
            exact hS.2.2.2.1.1 i9 j9 _ _ (m_wd_get (X := X) (dA := dA) h1 (List.getElem?_eq_getElem w1)) (m_wd_get (X := X) (dA := dA) h2 (List.getElem?_eq_getElem w2)) rfl
          · intro k9 i9 a9 hk h1 he
            have w1 : i9 < F.2.2.2.length := by rw [← hlen]; exact (List.getElem?_eq_some_iff.mp h1).1
            have := hS.2.2.2.1.2 i9 _ (m_wd_get (X := X) (dA := dA) h1 (List.getElem?_eq_getElem w1))
            exact hE.2.1 k9 hk (by rw [← he]; exact this)
        · split at h
          · rename_i n st' w' dc9 ds9 hhs
            split at h
            · rename_i hn
              obtain ⟨rfl, hdc⟩ := hn
              cases h
              refine m_hs_sound hx hb hown hts hnm hK hE hA hI hS hd hhs (hdc.imp id (fun h9 => by rw [hlen]; exact (m_okf_st h9).1)) hc hs (fun H1 locs1 L2 hS1 => kk H1 locs1 L2 ls hS1 ?_)
              rcases hdc with h9 | h9
              · have hw9 : F.2.2.2.length = w'.length := (m_hs_len hhs h9).symm
                have h2 : L2 = [] := by
                  have := hS1.1
                  rw [List.length_append, hlen, hw9] at this
                  exact List.eq_nil_of_length_eq_zero (by omega)
                rw [h2, List.append_nil]; exact hl
              · rw [m_lvt_ext (fun q hq => by rw [hlen]; exact (m_okf_st h9).2 q hq)]; exact hl
            · cases h
          · split at h
            · rename_i n st' hxs
              split at h
              · rename_i hn
                subst hn
                cases h
                exact m_xs_sound hx hb hown hts hK hE hI hS hd hxs (k0 rfl rfl rfl ls hl)
              · cases h
            · split at h
              · rename_i st' f9 l9 hc0
                split at h
                · rename_i h3
                  subst h3
                  cases h
                  exact m_c0_sound hx hb hml hl.1 hown hts hI hd hc0 hfr hlo hc hs (k0 rfl rfl rfl ls hl)
                · cases h
              · split at h
                · rename_i J as rest hca
                  split at h
                  · rename_i h3
                    obtain ⟨rfl, hokf, hfit⟩ := h3
                    split at h
                    · rename_i r1 hr1
                      cases h
                      obtain ⟨hrest, hJm⟩ := m_ca_as hca
                      have hJ := m_mt_ok J hJm
                      have hM : m_Met l J as F.2.2.2 r1 := m_Met_of hJ hfit (hic J _ r1 hJ.body hr1)
                      refine m_ca_sound hx hb hml hl.1 hown hts hK hE hA hI hS hd hca hM hfr hlo hc hs (fun H1 locs1 L2 hS1 => ?_)
                      have g := kk H1 locs1 L2 ls hS1 (by rw [m_lvt_ext (fun q hq => by rw [hlen]; exact (m_okf_st hokf).2 q hq)]; exact hl)
                      have e9 : rest.map (m_tr X L) = rest.map (m_tr X (L ++ L2)) := (m_trs_ext (fun v hv => by rw [hlen]; exact (m_okf_st hokf).1 v (hrest v hv))).symm
                      have e8 : (r1.1.map (m_tr X (L ++ L2))).toList ++ rest.map (m_tr X L) = (r1.1.toList ++ rest).map (m_tr X (L ++ L2)) := by
                        rw [e9, List.map_append]
                        cases r1.1 <;> rfl
                      rw [e8]
                      exact g
                    · cases h
                  · cases h
                · cases h
  · cases h
theorem m_exec_good (l : Launch) : ∀ (f : Nat) (I : mI) (F : mF) (r : mR), m_bOk I → m_exec f I F = some r → m_Good l I F r := by
  intro f
  induction f with
  | zero => intro I F r _ h; cases h
  | succ f ih =>
    intro I F r hI h
    rw [m_exec_s] at h
    intro p e R s m args below meth c H locs cells slots ls D dA X A L0 L1 hx hb hml hown hts hnm hret hlk hK hE hA hS hl hc hs hfr hlo
    split at h
    · rename_i F' dc ds fr lo hnx
      obtain ⟨r', hr', rfl⟩ := Option.map_eq_some_iff.mp h
      have hc' : (cells + dc) + r'.2.2.1 ≤ R.cells := by rw [Nat.add_assoc]; exact hc
      have hs' : (slots + ds) + r'.2.2.2.1 ≤ R.slots := by rw [Nat.add_assoc]; exact hs
      refine m_nx_sound l hI (fun J G r hJ hr => ih J G r hJ hr) hnx p e R s m args below meth c H locs cells slots ls D dA X A (L0 ++ L1) _ hx hb hml hown hts hnm hK hE hA hS hl (by omega) (by omega) (Nat.le_trans (Nat.le_max_left _ _) hfr) (Nat.le_trans (Nat.le_max_left _ _) hlo) (fun H1 locs1 L2 ls' hS1 hl1 => ?_)
      have g := ih I F' r' hI hr' p e R s m args below meth c H1 locs1 (cells + dc) (slots + ds) ls' D dA X A L0 (L1 ++ L2) hx hb hml hown hts hnm hret hlk hK hE hA (by rw [← List.append_assoc]; exact hS1) (by rw [← List.append_assoc]; exact hl1) hc' hs' (Nat.le_trans (Nat.le_max_right _ _) hfr) (Nat.le_trans (Nat.le_max_right _ _) hlo)
      rw [← List.append_assoc] at g
      show W p l e R s m args below meth c H1 locs1 (cells + dc) (slots + ds) (MQ below (m_Qc D dA X L0 A r'.1 r'.2.1) args s (cells + (dc + r'.2.2.1)) (slots + (ds + r'.2.2.2.1)) A) _
      rw [← Nat.add_assoc, ← Nat.add_assoc]
      exact g
    · split at h
      · rename_i v hrt
        cases h
        unfold m_rt at hrt
        split at hrt
        · rename_i i len hde
          exact m_re_sound hx hb hret hlk (m_de_ok hI hde) hrt (fun t ht => ⟨⟨L1, rfl, hS.1, hS.2.1, by rw [ht]; exact hS.2.2.1, hS.2.2.2.1⟩, hS.2.2.2.2.F ht⟩) hS.2.2.2.2.2.2
        · cases hrt
      · cases h
/-- a stretch of a method -/
theorem m_seg_good (l : Launch) {stop g : Nat} {I : mI} (hI : m_bOk I) : ∀ (f : Nat) (F F' : mF) (dc ds fr lo : Nat), m_seg stop g f I F = some (F', dc, ds, fr, lo) → m_Step l I F F' dc ds fr lo ∧ F'.1 = stop := by
  intro f
  induction f with
  | zero => intro F F' dc ds fr lo h; cases h
  | succ f ih =>
    intro F F' dc ds fr lo h
    rw [m_seg_s] at h
    split at h
    · rename_i hst
      cases h
      refine ⟨?_, hst⟩
      intro p e R s m args below meth c H locs cells slots ls D dA X A L Q hx hb hml hown hts hnm hK hE hA hS hl hc hs hfr hlo kk
      have g := kk H locs [] ls (by rw [List.append_nil]; exact hS) (by rw [List.append_nil]; exact hl)
      rw [List.append_nil] at g
      exact g
    · split at h
      · rename_i F1 c1 s1 f1 l1 hnx
        obtain ⟨⟨F2, c2, s2, f2, l2⟩, h2, e1⟩ := Option.map_eq_some_iff.mp h
        cases e1
        obtain ⟨ih1, ih2⟩ := ih F1 _ c2 s2 f2 l2 h2
        refine ⟨?_, ih2⟩
        intro p e R s m args below meth c H locs cells slots ls D dA X A L Q hx hb hml hown hts hnm hK hE hA hS hl hc hs hfr hlo kk
        have hc : cells + (c1 + c2) ≤ R.cells := hc
        have hs : slots + (s1 + s2) ≤ R.slots := hs
        refine m_nx_sound l hI (fun J G r hJ hr => m_exec_good l g J G r hJ hr) hnx p e R s m args below meth c H locs cells slots ls D dA X A L Q hx hb hml hown hts hnm hK hE hA hS hl (by omega) (by omega) (Nat.le_trans (Nat.le_max_left _ _) hfr) (Nat.le_trans (Nat.le_max_left _ _) hlo) (fun H1 locs1 L2 ls1 hS1 hl1 => ?_)
        refine ih1 p e R s m args below meth c H1 locs1 (cells + c1) (slots + s1) ls1 D dA X A (L ++ L2) Q hx hb hml hown hts hnm hK hE hA hS1 hl1 (by omega) (by omega) (Nat.le_trans (Nat.le_max_right _ _) hfr) (Nat.le_trans (Nat.le_max_right _ _) hlo) (fun H2 locs2 L3 ls2 hS2 hl2 => ?_)
        have g := kk H2 locs2 (L2 ++ L3) ls2 (by rw [← List.append_assoc]; exact hS2) (by rw [← List.append_assoc]; exact hl2)
        rw [← List.append_assoc, ← Nat.add_assoc, ← Nat.add_assoc] at g
        exact g
      · cases h
/-- a method's contract out of a run of the small machine -/
theorem m_exec_met (l : Launch) {f : Nat} {J : mI} (hJ : J ∈ m_mt) {as : List Value} {w : List mM} {r : mR} (hfit : (lg_sl as).length ≤ J.2.2.1) (h : m_exec f J (m_ent J as w) = some r) : m_Met l J as w r := m_Met_of (m_mt_ok J hJ) hfit (m_exec_good l f J _ r (m_mt_ok J hJ).body h)
