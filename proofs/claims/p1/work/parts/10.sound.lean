/-! A run of the small machine is a run of the machine. -/
theorem m_lvargs (X : Nat → Nat) (L : List Nat) : ∀ (as : List Value) (n : Nat), lv_args n (as.map (m_tr X L)) = m_lvt X L (lv_args n as)
  | [], _ => rfl
  | v :: as, n => by
    show (n, m_tr X L v) :: lv_args (if (m_tr X L v).category = 2 then n + 2 else n + 1) (as.map (m_tr X L)) = (n, m_tr X L v) :: m_lvt X L (lv_args (if v.category = 2 then n + 2 else n + 1) as)
    rw [m_tr_cat, m_lvargs X L as]
theorem m_lgsl (X : Nat → Nat) (L : List Nat) (as : List Value) : (lg_sl (as.map (m_tr X L))).length = (lg_sl as).length := by
  unfold lg_sl
  induction as with
  | nil => rfl
  | cons v as ih =>
    rw [List.map_cons, List.flatMap_cons, List.flatMap_cons, List.length_append, List.length_append, ih, m_tr_cat]
    congr 1
    split <;> rfl
section MS
variable {p : Program} {l : Launch} {e : Env} {R : Room} {s : State} {m : MethodId} {args : Array Value} {below : List Frame} {meth : Method} {c : Code} {H : Heap} {locs : List Loc} {cells slots : Nat} {Q : State → Prop} {I J : mI} {X : Nat → Nat} {L : List Nat} {pc len : Nat} {ls : Array Slot} {i : Instr} {st st' : List Value} {w w' : List mM} {D : va_G} {dA : Nat → ClassId} {A : Nat → Prop} {dc ds : Nat}
theorem m_k0 (kk : ∀ (H1 : Heap) (locs1 : List Loc) (L2 : List Nat), m_St D dA X A s.heap H1 locs1 (L ++ L2) w' → W p l e R s m args below meth c H1 locs1 (cells + dc) (slots + ds) Q (F0 m (pc + len) ls (st'.map (m_tr X (L ++ L2))))) (h1 : dc = 0) (h2 : ds = 0) (H1 : Heap) (locs1 : List Loc) (hS : m_St D dA X A s.heap H1 locs1 L w') : W p l e R s m args below meth c H1 locs1 cells slots Q (F0 m (pc + len) ls (st'.map (m_tr X L))) := by
  subst h1 h2
  have g := kk H1 locs1 [] (by rw [List.append_nil]; exact hS)
  rw [List.append_nil] at g
  exact g
theorem m_hs_sound (hx : p.tables.exec = Jvm.exec) (hb : c.code = I.2.1) (hown : s.vm.findClass I.1.cls = some m.cls) (hts : ∀ w ∈ m_gt, w.before args s = true) (hnm : meth.name = I.1.name) (hK : m_Kx D dA s) (hE : m_Ex X A s s.heap) (hA : ∀ q, s.heap.size ≤ q → A q) (hI : m_bOk I) (hS : m_St D dA X A s.heap H locs L w) (hd : decode I.2.1 pc = .ok (i, len)) (h : m_hs I i st w = some (len, st', w', dc, ds)) (hok : dc = 0 ∨ m_oks L.length st) (hc : cells + dc ≤ R.cells) (hs : slots + ds ≤ R.slots)
    (kk : ∀ (H1 : Heap) (locs1 : List Loc) (L2 : List Nat), m_St D dA X A s.heap H1 locs1 (L ++ L2) w' → W p l e R s m args below meth c H1 locs1 (cells + dc) (slots + ds) Q (F0 m (pc + len) ls (st'.map (m_tr X (L ++ L2))))) : W p l e R s m args below meth c H locs cells slots Q (F0 m pc ls (st.map (m_tr X L))) := by
  unfold m_hs at h
  split at h
  · exact m_getf_sound hx hb hown hts hK hI hS hd h (fun e1 e2 e3 => m_k0 kk e2 e3 H locs (e1 ▸ hS))
  · exact m_putf_sound hx hb hown hts hnm hK hI hS hd h (fun H1 locs1 hS1 e2 e3 => m_k0 kk e2 e3 H1 locs1 hS1)
  · rename_i k
    have h1 : dc ≠ 0 := by
      unfold m_new at h
      split at h
      · split at h
        · cases h; decide
        · cases h
      · cases h
    exact m_new_sound hx hb hown hts hK hA hI hS hd h (hok.resolve_left h1) hc hs (fun H1 a hS1 => kk H1 locs [a] hS1)
  · rename_i k
    have h1 : dc ≠ 0 := by
      unfold m_newa at h
      split at h
      · unfold m_mka at h
        split at h
        · split at h
          · cases h
          · cases h; decide
        · cases h
      · cases h
    exact m_newa_sound hx hb hts hK hA hS hd h (hok.resolve_left h1) hc hs (fun H1 a hS1 => kk H1 locs [a] hS1)
  · rename_i k
    have h1 : dc ≠ 0 := by
      unfold m_anew at h
      split at h
      · unfold m_mka at h
        split at h
        · split at h
          · cases h
          · cases h; decide
        · cases h
      · cases h
    exact m_anew_sound hx hb hown hts hK hA hI hS hd h (hok.resolve_left h1) hc hs (fun H1 a hS1 => kk H1 locs [a] hS1)
  · exact m_alen_sound hx hb hK hS hd h (fun e1 e2 e3 => m_k0 kk e2 e3 H locs (e1 ▸ hS))
  · exact m_ald_sound hx hb hK hS hd (Or.inl ⟨rfl, rfl⟩) h (fun e1 e2 e3 => m_k0 kk e2 e3 H locs (e1 ▸ hS))
  · exact m_ald_sound hx hb hK hS hd (Or.inr (Or.inl ⟨rfl, rfl⟩)) h (fun e1 e2 e3 => m_k0 kk e2 e3 H locs (e1 ▸ hS))
  · exact m_ald_sound hx hb hK hS hd (Or.inr (Or.inr (Or.inl ⟨rfl, rfl⟩))) h (fun e1 e2 e3 => m_k0 kk e2 e3 H locs (e1 ▸ hS))
  · exact m_ald_sound hx hb hK hS hd (Or.inr (Or.inr (Or.inr ⟨rfl, rfl⟩))) h (fun e1 e2 e3 => m_k0 kk e2 e3 H locs (e1 ▸ hS))
  · exact m_aald_sound hx hb hK hS hd h (fun e1 e2 e3 => m_k0 kk e2 e3 H locs (e1 ▸ hS))
  · exact m_ast_sound hx hb hK hS hd (Or.inl ⟨rfl, rfl⟩) h (fun H1 locs1 hS1 e2 e3 => m_k0 kk e2 e3 H1 locs1 hS1)
  · exact m_ast_sound hx hb hK hS hd (Or.inr (Or.inl ⟨rfl, rfl⟩)) h (fun H1 locs1 hS1 e2 e3 => m_k0 kk e2 e3 H1 locs1 hS1)
  · exact m_ast_sound hx hb hK hS hd (Or.inr (Or.inr ⟨rfl, rfl⟩)) h (fun H1 locs1 hS1 e2 e3 => m_k0 kk e2 e3 H1 locs1 hS1)
  · exact m_last_sound hx hb hK hS hd h (fun H1 locs1 hS1 e2 e3 => m_k0 kk e2 e3 H1 locs1 hS1)
  · exact m_aast_sound hx hb hK hS hd h (fun H1 locs1 hS1 e2 e3 => m_k0 kk e2 e3 H1 locs1 hS1)
  · exact m_gst_sound hx hb hown hts hE hI hS hd h (fun e1 e2 e3 => m_k0 kk e2 e3 H locs (e1 ▸ hS))
  · exact m_ldc_sound hx hb hown hts hI hd (Or.inl ⟨rfl, rfl⟩) h (fun e1 e2 e3 => m_k0 kk e2 e3 H locs (e1 ▸ hS))
  · exact m_ldc_sound hx hb hown hts hI hd (Or.inr ⟨rfl, rfl⟩) h (fun e1 e2 e3 => m_k0 kk e2 e3 H locs (e1 ▸ hS))
  · exact m_ldc2_sound hx hb hown hts hI hd h (fun e1 e2 e3 => m_k0 kk e2 e3 H locs (e1 ▸ hS))
  · cases h
theorem m_c0_sound (hx : p.tables.exec = Jvm.exec) (hb : c.code = I.2.1) (hml : c.maxLocals = I.2.2.1) (hls : ls.size = I.2.2.1) (hown : s.vm.findClass I.1.cls = some m.cls) (hts : ∀ w ∈ m_gt, w.before args s = true) (hI : m_bOk I) (hd : decode I.2.1 pc = .ok (i, 3)) {f9 l9 : Nat} (h : m_c0 I i st = some (st', f9, l9)) (hf : f9 ≤ R.frames) (hl : l9 ≤ R.locals) (hc : cells ≤ R.cells) (hs : slots ≤ R.slots)
    (kk : W p l e R s m args below meth c H locs cells slots Q (F0 m (pc + 3) ls (st'.map (m_tr X L)))) : W p l e R s m args below meth c H locs cells slots Q (F0 m pc ls (st.map (m_tr X L))) := by
  unfold m_c0 at h
  split at h
  · split at h
    · rename_i hce
      split at h
      · rename_i h8
        cases h
        refine W.objInit hx hb hown (hts _ ((hI.2.2.2.2.2.2.1 _ (m_ce_mem hce)).1 rfl)) (hts _ m_oi_i) (hts _ m_oi_c) rfl (hls.trans hml.symm) rfl hd hf ?_ kk
        rw [m_cat_sum]
        show 2 * 0 + _ + 12 ≤ _
        omega
      · cases h
    · cases h
  · split at h
    · rename_i hce
      split at h
      · rename_i h8
        cases h
        refine va_mmax hx hb (hml.trans hls.symm) hown (hts _ ((hI.2.2.2.2.2.2.1 _ (m_ce_mem hce)).2.1 rfl)) (hts _ m_max_s) (hts _ m_math_i) (hts _ m_max_c) hf ?_ hc hs hd kk
        rw [m_cat_sum]
        omega
      · cases h
    · rename_i hce
      split at h
      · rename_i h8
        cases h
        refine va_mmin hx hb (hml.trans hls.symm) hown (hts _ ((hI.2.2.2.2.2.2.1 _ (m_ce_mem hce)).2.2.1 rfl)) (hts _ m_min_s) (hts _ m_math_i) (hts _ m_min_c) hf ?_ hc hs hd kk
        rw [m_cat_sum]
        omega
      · cases h
    · cases h
  · cases h
theorem m_re_sound (hx : p.tables.exec = Jvm.exec) (hb : c.code = I.2.1) (hr : meth.sig.returnType = I.2.2.2.2.1) (hlocks : meth.locks = false) {Qc : Array Value → State → Outcome → State → Prop} {v : Option Value} (hd : decode I.2.1 pc = .ok (i, len)) (h : m_re I i len st = some v) (hq : ∀ t : State, t.heap = H → Qc args s (.returned (v.map (m_tr X L))) t) (hf : ∀ q ∈ locs, A q.base) : W p l e R s m args below meth c H locs cells slots (MQ below Qc args s cells slots A) (F0 m pc ls (st.map (m_tr X L))) := by
  unfold m_re at h
  split at h
  · rename_i hret
    split at h
    · rename_i h1; subst h1; cases h
      exact W.vret hx hb (hr.trans hret) (fun t ht _ => hq t ht) hf hd hlocks
    · cases h
  · rename_i hret
    split at h
    · rename_i h1; obtain ⟨h1, h2⟩ := h1; subst h1; cases h
      exact W.zret hx hb (hr.trans hret) h2 (fun t ht _ => hq t ht) hf hd hlocks
    · cases h
  · rename_i hret
    split at h
    · rename_i h1; subst h1; cases h
      exact W.lret hx hb (hr.trans hret) (fun t ht _ => hq t ht) hf hd hlocks
    · cases h
  · rename_i hret
    split at h
    · rename_i h1; subst h1; cases h
      exact W.aret hx hb (hr.trans hret) (Or.inl ⟨_, rfl⟩) (Or.inl rfl) (fun t ht _ => hq t ht) hf hd hlocks
    · cases h
  · rename_i hret
    split at h
    · rename_i h1; subst h1; cases h
      exact W.aret hx hb (hr.trans hret) (Or.inl ⟨_, rfl⟩) (Or.inr ⟨_, rfl⟩) (fun t ht _ => hq t ht) hf hd hlocks
    · cases h
  · rename_i hret
    split at h
    · rename_i h1; subst h1; cases h
      exact W.aret hx hb (hr.trans hret) (Or.inr ⟨_, rfl⟩) (Or.inl rfl) (fun t ht _ => hq t ht) hf hd hlocks
    · cases h
  · rename_i hret
    split at h
    · rename_i h1; subst h1; cases h
      exact W.aret hx hb (hr.trans hret) (Or.inr ⟨_, rfl⟩) (Or.inr ⟨_, rfl⟩) (fun t ht _ => hq t ht) hf hd hlocks
    · cases h
  · cases h
end MS
