/-! The small machine's steps on outside cells, texts and casts are steps of the machine. -/
theorem m_m200 {a : Nat} (h : 201 ≤ a) : a - 200 + 200 = a := by omega
theorem m_sci_ok : m_cl[m_sci]? = some (R_12, F_12, 4) := rfl
theorem m_ad_out {X : Nat → Nat} {L : List Nat} {a : Nat} (h : a < 512) : m_ad X L a = X a := by unfold m_ad; rw [if_pos h]
theorem m_xby_ok {a : Nat} {l : List Int32} (h : m_xby a = some l) : 201 ≤ a ∧ a < 512 ∧ 1 ≤ a - 200 ∧ a - 200 ≤ m_sN ∧ l = m_xbl.getD (a - 200 - 1) [] := by
  unfold m_xby at h
  split at h
  · rename_i h1
    obtain ⟨h1, h2⟩ := h1
    have h3 : m_sN < 300 := by decide
    refine ⟨h1, by omega, by omega, by omega, ?_⟩
    rw [List.getD_eq_getElem?_getD, show a - 200 - 1 = a - 201 by omega, h]; rfl
  · cases h
theorem m_sxl_lt : ∀ q ∈ m_sxl, q.2.2.2 < 512 := by decide +kernel
section MX
variable {p : Program} {l : Launch} {e : Env} {R : Room} {s : State} {m : MethodId} {args : Array Value} {below : List Frame} {meth : Method} {c : Code} {H : Heap} {locs : List Loc} {cells slots : Nat} {Q : State → Prop} {I : mI} {X : Nat → Nat} {L : List Nat} {pc len : Nat} {ls : Array Slot} {i : Instr} {st st' : List Value} {w : List mM} {D : va_G} {dA : Nat → ClassId} {A : Nat → Prop}
theorem m_ldcwS {cc : ByteArray} {rest : List Value} (hexec : p.tables.exec = Jvm.exec) (hb : c.code = cc) {own tx : String} {index q : Nat} (hown : s.vm.findClass own = some m.cls) (hZ : vk_R own index tx q s) (hdg : decode cc pc = .ok (.ldc_w index, 3))
    (k : W p l e R s m args below meth c H locs cells slots Q (F0 m (pc + 3) ls (.ref q :: rest))) : W p l e R s m args below meth c H locs cells slots Q (F0 m pc ls rest) := by
  intro T hT X9
  obtain ⟨t, a1, b1⟩ := k T hT X9
  refine ⟨t, ?_, b1⟩
  obtain ⟨k9, cf, i9, a', hk, hcf, hcp, -, hr, hev'⟩ := Cond.stringRef_spec (args := #[]) hown hZ.1
  cases hZ.2.symm.trans hev'
  obtain ⟨k', hk', he⟩ := X9.warmed.alike.2.2 _ _ hk
  have hr' : k'.resolved[index]? = some (some (.string q)) := by
    rcases X9.warmed.entry hk hk' index with h | ⟨h, -⟩
    · rw [h]; exact hr
    · rw [hr] at h; cases h
  have hdg2 : decode c.code (F0 m pc ls rest).pc = .ok (.ldc_w index, 3) := by rw [hb]; exact hdg
  jvm_step X9.here [hexec, hdg2, ldc_w.wp_string (e := e) (s := T) (f := F0 m pc ls rest) X9.here.top hk' (by rw [he]; exact hcf) hcp hr']
  exact a1
theorem m_xs_sound (hx : p.tables.exec = Jvm.exec) (hb : c.code = I.2.1) (hown : s.vm.findClass I.1.cls = some m.cls) (hts : ∀ w ∈ m_gt, w.before args s = true) (hK : m_Kx D dA s) (hE : m_Ex X A s s.heap) (hI : m_bOk I) (hS : m_St D dA X A s.heap H locs L w) (hd : decode I.2.1 pc = .ok (i, len)) (h : m_xs I i st w = some (len, st'))
    (kk : W p l e R s m args below meth c H locs cells slots Q (F0 m (pc + len) ls (st'.map (m_tr X L)))) : W p l e R s m args below meth c H locs cells slots Q (F0 m pc ls (st.map (m_tr X L))) := by
  unfold m_xs at h
  split at h
  · rename_i k
    unfold m_xg at h
    split at h
    · rename_i a r
      split at h
      · rename_i ci fk fl hf
        obtain ⟨v, hv, e1⟩ := Option.map_eq_some_iff.mp h
        cases e1
        unfold m_xget at hv
        split at hv
        · rename_i h1
          obtain ⟨rfl, ha1, ha2⟩ := h1
          obtain ⟨rr, h1, h2, ⟨ref, h3, h4⟩, -, -⟩ := hI.2.2.2.2.2.1 _ (m_fe_mem hf)
          cases h1.symm.trans m_sci_ok
          have h9 : a < 512 := Nat.lt_of_le_of_lt ha2 (by decide)
          have hsx := hE.2.2.2.1 a ha1 ha2
          have hsame : ∀ x, s.fieldFound? (F_12 fk).1 (F_12 fk).2.1 (F_12 fk).2.2.1 = some x → s.fieldFound? ref (F_12 fk).2.1 (F_12 fk).2.2.1 = some x := by
            rcases h4 with h4 | h4
            · intro x hx9; rw [h4]; exact hx9
            · exact u_same (hts _ h4)
          show W p l e R s m args below meth c H locs cells slots Q (F0 m pc ls (.ref (m_ad X L a) :: _))
          rw [m_ad_out h9]
          split at hv
          · rename_i hk0
            subst hk0
            cases hv
            have e9 : m_ad X L (a + 200) = X (a + 200) := m_ad_out (by have h3 : m_sN < 300 := by decide
                                                                       omega)
            refine vk_getf hx hb hsx.2.2.1 hS.2.2.2.2 hown (hts _ h3) hsame hd ?_
            rw [← e9]; exact kk
          · split at hv
            · rename_i hk1
              subst hk1
              cases hv
              exact vk_getf hx hb hsx.2.1 hS.2.2.2.2 hown (hts _ h3) hsame hd kk
            · cases hv
        · cases hv
      · cases h
    · cases h
  · unfold m_xl at h
    split at h
    · rename_i a r
      split at h
      · rename_i ha
        subst ha
        cases h
        show W p l e R s m args below meth c H locs cells slots Q (F0 m pc ls (.ref (m_ad X L 0) :: _))
        rw [m_ad_out (by decide)]
        exact va_tlen hx hb hE.2.2.2.2.1 hS.2.2.2.2 rfl hd kk
      · obtain ⟨bs, hbs, e1⟩ := Option.map_eq_some_iff.mp h
        cases e1
        obtain ⟨h1, h2, h3, h4, hl9⟩ := m_xby_ok hbs
        have hsx := (hE.2.2.2.1 (a - 200) h3 h4).2.2.2
        rw [m_m200 h1, ← hl9] at hsx
        show W p l e R s m args below meth c H locs cells slots Q (F0 m pc ls (.ref (m_ad X L a) :: _))
        rw [m_ad_out h2]
        exact va_tlen hx hb hsx hS.2.2.2.2 rfl hd kk
    · cases h
  · unfold m_xb at h
    split at h
    · rename_i j a r
      split at h
      · rename_i bs hbs
        split at h
        · rename_i hin
          cases h
          obtain ⟨h1, h2, h3, h4, hl9⟩ := m_xby_ok hbs
          have hsx := (hE.2.2.2.1 (a - 200) h3 h4).2.2.2
          rw [m_m200 h1, ← hl9] at hsx
          show W p l e R s m args below meth c H locs cells slots Q (F0 m pc ls (.int j :: .ref (m_ad X L a) :: _))
          rw [m_ad_out h2]
          exact va_tb hx hb hsx hS.2.2.2.2 hin rfl hd kk
        · cases h
      · cases h
    · cases h
  · rename_i k
    unfold m_xt at h
    obtain ⟨q, hq, e1⟩ := Option.map_eq_some_iff.mp h
    cases e1
    obtain ⟨tx, ht⟩ := (hI.2.2.2.2.2.2.2.1 _ (m_oe_mem hq)).2.2.2.2.2.1 rfl
    have h9 : q.1 < 512 := m_sxl_lt _ ht
    refine va_ldcS hx hb hown (hE.2.2.1 _ ht) hd ?_
    rw [List.map_cons, m_tr_ref, m_ad_out h9] at kk
    exact kk
  · rename_i k
    unfold m_xt at h
    obtain ⟨q, hq, e1⟩ := Option.map_eq_some_iff.mp h
    cases e1
    obtain ⟨tx, ht⟩ := (hI.2.2.2.2.2.2.2.1 _ (m_oe_mem hq)).2.2.2.2.2.1 rfl
    have h9 : q.1 < 512 := m_sxl_lt _ ht
    refine m_ldcwS hx hb hown (hE.2.2.1 _ ht) hd ?_
    rw [List.map_cons, m_tr_ref, m_ad_out h9] at kk
    exact kk
  · rename_i k
    unfold m_xc at h
    split at h
    · cases h
      exact lv_castN hx hb hd kk
    · rename_i a r
      split at h
      · rename_i ci q2 cj fs ho hat
        split at h
        · rename_i hc
          subst hc
          cases h
          obtain ⟨rr, h1, h2, h3⟩ := (hI.2.2.2.2.2.2.2.1 _ (m_oe_mem ho)).2.2.2.2.2.2.1 rfl
          obtain ⟨h5, h6⟩ := m_at_L (X := X) hS.1 hat
          exact va_castY (a := m_ad X L a) hx hb hown (hts _ h2) (hK.2.1 _ h3) (va_recv hK.1 hS.2.2.1 h1 (m_wd_get (X := X) (dA := dA) h5 h6)) hd kk
        · cases h
      · cases h
    · cases h
  · cases h
end MX
