/-! The small machine's steps on arrays, statics and constants are steps of the machine. -/
theorem m_lt64 {k n : Nat} (h1 : ¬ k < 512) (h2 : k - 512 < n) : k < 512 + n := by omega
theorem m_el_nil (t j : Nat) : m_el t [] j = m_zero t := rfl
theorem m_acw {t : ArrayType} {k : Nat} (h : m_aty t = some k) : Cond.arrayClass (newarray.typeOf t) ∈ m_gt ∧ m_tyl[k]? = some (newarray.typeOf t) ∧ k < 6 := by
  cases t <;> cases h
  · exact ⟨m_ac_boolean, rfl, by decide⟩
  · exact ⟨m_ac_char, rfl, by decide⟩
  · exact ⟨m_ac_byte, rfl, by decide⟩
  · exact ⟨m_ac_int, rfl, by decide⟩
  · exact ⟨m_ac_long, rfl, by decide⟩
theorem m_arr0 {t : ArrayType} {k : Nat} (h : m_aty t = some k) (X : Nat → Nat) (L : List Nat) (N : Nat) (cA : ClassId) : vp_cell cA (m_arr X L k N []) = arrV cA N (fun _ => defaultValue (newarray.typeOf t)) := by
  cases t <;> cases h <;> rfl
theorem m_arrq0 {t : Nat} (h6 : ¬ t < 6) (X : Nat → Nat) (L : List Nat) (N : Nat) : m_arr X L t N [] = (N, .inr (.inr (.inr (.inr (fun _ => none))))) := by
  rw [m_arr_q h6]
  have e0 : m_zero t = .null := by unfold m_zero; rw [if_neg (by omega), if_neg h6]
  congr 5
  funext j
  rw [m_el_nil, e0]; rfl
theorem m_cb (ty : FieldType) : componentBytes ty ≤ 8 := by cases ty <;> exact Nat.le_of_ble_eq_true rfl
section MA
variable {p : Program} {l : Launch} {e : Env} {R : Room} {s : State} {m : MethodId} {args : Array Value} {below : List Frame} {meth : Method} {c : Code} {H : Heap} {locs : List Loc} {cells slots : Nat} {Q : State → Prop} {I : mI} {X : Nat → Nat} {L : List Nat} {pc len : Nat} {ls : Array Slot} {i : Instr} {st st' : List Value} {w w' : List mM} {D : va_G} {dA : Nat → ClassId} {A : Nat → Prop} {H0 : Heap} {dc ds : Nat}
/-- a new cell at the world's end -/
theorem m_St_push (hS : m_St D dA X A H0 H locs L w) {q : mM} {a : Nat} {H1 : Heap} {e1 : va_E} (he : m_cell X L dA q = e1) (hq : m_okc L.length q = true) (g1 : va_P D m_cl (m_wd X L dA w ++ [(a, e1)]) H1) (g2 : va_D A (m_wd X L dA w ++ [(a, e1)])) (g3 : va_S A H0 H1 locs) : m_St D dA X A H0 H1 locs (L ++ [a]) (w ++ [q]) := by
  have hokw : m_okw L.length w := by rw [hS.1]; exact hS.2.1
  have e2 : m_wd X (L ++ [a]) dA (w ++ [q]) = m_wd X L dA w ++ [(a, e1)] := by rw [m_wd_push hS.1 hokw, m_cell_ext hq, he]
  refine ⟨by rw [List.length_append, List.length_append, hS.1]; rfl, ?_, by rw [e2]; exact g1, by rw [e2]; exact g2, g3⟩
  rw [List.length_append]
  exact m_okw_push hS.2.1 (m_okc_mono hq (by rw [hS.1]; exact Nat.le_succ _))
theorem m_st_push {a : Nat} (hL : L.length = w.length) (hok : m_oks L.length st) : (Value.ref (512 + w.length) :: st).map (m_tr X (L ++ [a])) = .ref a :: st.map (m_tr X L) := by
  rw [List.map_cons, m_trs_ext hok]
  congr 1
  show Value.ref (m_ad X (L ++ [a]) (512 + w.length)) = .ref a
  congr 1
  unfold m_ad
  rw [if_neg (by omega), List.getD_eq_getElem?_getD, show 512 + w.length - 512 = L.length by rw [hL]; omega]
  simp
theorem m_mka_inv {t : Nat} (h : m_mka t len st w = some (len, st', w', dc, ds)) : ∃ (n : Int32) (r : List Value), st = .int n :: r ∧ ¬ n < 0 ∧ n.toNatClampNeg ≤ 65536 ∧ st' = .ref (512 + w.length) :: r ∧ w' = w ++ [.inl (t, n.toNatClampNeg, [])] ∧ dc = 1 ∧ ds = n.toNatClampNeg := by
  unfold m_mka at h
  split at h
  · split at h
    · cases h
    · rename_i h1
      cases h
      exact ⟨_, _, rfl, fun g => h1 (Or.inl g), by omega, rfl, rfl, rfl, rfl⟩
  · cases h
theorem m_newa_sound (hx : p.tables.exec = Jvm.exec) (hb : c.code = I.2.1) (hts : ∀ w ∈ m_gt, w.before args s = true) (hK : m_Kx D dA s) (hA : ∀ q, H0.size ≤ q → A q) (hS : m_St D dA X A H0 H locs L w) {t : ArrayType} (hd : decode I.2.1 pc = .ok (.newarray t, len)) (h : m_newa t st w = some (len, st', w', dc, ds)) (hok : m_oks L.length st) (hc : cells + dc ≤ R.cells) (hs : slots + ds ≤ R.slots)
    (kk : ∀ (H1 : Heap) (a : Nat), m_St D dA X A H0 H1 locs (L ++ [a]) w' → W p l e R s m args below meth c H1 locs (cells + dc) (slots + ds) Q (F0 m (pc + len) ls (st'.map (m_tr X (L ++ [a]))))) : W p l e R s m args below meth c H locs cells slots Q (F0 m pc ls (st.map (m_tr X L))) := by
  unfold m_newa at h
  split at h
  · rename_i k hk
    have hlen : len = 2 := by
      unfold m_mka at h; split at h
      · split at h <;> cases h; rfl
      · cases h
    subst hlen
    obtain ⟨n, r, rfl, h1, h2, rfl, rfl, rfl, rfl⟩ := m_mka_inv h
    obtain ⟨g1, g2, g6⟩ := m_acw hk
    refine va_newa hx hb (hts _ g1) rfl hK.1 hS.2.2.1 hS.2.2.2.1 hS.2.2.2.2 hA (a0 := m_arr X L k n.toNatClampNeg []) (m_arr0 hk X L _) h1 rfl ?_ hc hs hd ?_
    · calc n.toNatClampNeg * componentBytes (newarray.typeOf t) ≤ 65536 * 8 := Nat.mul_le_mul h2 (m_cb _)
        _ ≤ 536870912 := by decide
    · intro q cA H1 k1 k2 k3 k4
      have e1 : cA = dA k := m_RA_uniq (k1.2 (m_tys dA).length (cA, newarray.typeOf t) (by simp)).2 (hK.1.2 k _ (m_tys_get g2)).2
      subst e1
      have g := kk H1 q (m_St_push hS (q := .inl (k, n.toNatClampNeg, [])) rfl (by simp [m_okc]) k2 k3 k4)
      rw [m_st_push hS.1 (fun v hv => hok v (List.mem_cons_of_mem _ hv))] at g
      exact g
  · cases h
theorem m_anew_sound (hx : p.tables.exec = Jvm.exec) (hb : c.code = I.2.1) (hown : s.vm.findClass I.1.cls = some m.cls) (hts : ∀ w ∈ m_gt, w.before args s = true) (hK : m_Kx D dA s) (hA : ∀ q, H0.size ≤ q → A q) (hI : m_bOk I) (hS : m_St D dA X A H0 H locs L w) {k : Nat} (hd : decode I.2.1 pc = .ok (.anewarray k, len)) (h : m_anew I k st w = some (len, st', w', dc, ds)) (hok : m_oks L.length st) (hc : cells + dc ≤ R.cells) (hs : slots + ds ≤ R.slots)
    (kk : ∀ (H1 : Heap) (a : Nat), m_St D dA X A H0 H1 locs (L ++ [a]) w' → W p l e R s m args below meth c H1 locs (cells + dc) (slots + ds) Q (F0 m (pc + len) ls (st'.map (m_tr X (L ++ [a]))))) : W p l e R s m args below meth c H locs cells slots Q (F0 m pc ls (st.map (m_tr X L))) := by
  unfold m_anew at h
  split at h
  · rename_i t v0 ho
    have hlen : len = 3 := by
      unfold m_mka at h; split at h
      · split at h <;> cases h; rfl
      · cases h
    subst hlen
    obtain ⟨n, r, rfl, h1, h2, rfl, rfl, rfl, rfl⟩ := m_mka_inv h
    obtain ⟨g6, C, g1, g2, g3⟩ := (hI.2.2.2.2.2.2.2.1 _ (m_oe_mem ho)).2.1 rfl
    refine va_newq hx hb hown (hts _ g3) (hK.2.2 C g1) hK.1 hS.2.2.1 hS.2.2.2.1 hS.2.2.2.2 hA h1 rfl ?_ hc hs hd ?_
    · omega
    · intro q cA H1 k1 k2 k3 k4
      have e1 : cA = dA t := m_RA_uniq (k1.2 (m_tys dA).length (cA, .object C) (by simp)).2 (hK.1.2 t _ (m_tys_get g2)).2
      subst e1
      have g := kk H1 q (m_St_push hS (q := .inl (t, n.toNatClampNeg, [])) (by show Sum.inl (dA t, m_arr X L t n.toNatClampNeg []) = _; rw [m_arrq0 g6]) (by simp [m_okc]) k2 k3 k4)
      rw [m_st_push hS.1 (fun v hv => hok v (List.mem_cons_of_mem _ hv))] at g
      exact g
  · cases h
theorem m_alen_sound (hx : p.tables.exec = Jvm.exec) (hb : c.code = I.2.1) (hK : m_Kx D dA s) (hS : m_St D dA X A H0 H locs L w) (hd : decode I.2.1 pc = .ok (.arraylength, len)) (h : m_alen st w = some (len, st', w', dc, ds))
    (kk : w' = w → dc = 0 → ds = 0 → W p l e R s m args below meth c H locs cells slots Q (F0 m (pc + len) ls (st'.map (m_tr X L)))) : W p l e R s m args below meth c H locs cells slots Q (F0 m pc ls (st.map (m_tr X L))) := by
  unfold m_alen at h
  split at h
  · rename_i a r
    split at h
    · rename_i t n els ha
      split at h
      · rename_i ty hty
        cases h
        obtain ⟨h5, h6⟩ := m_at_L (X := X) hS.1 ha
        exact va_alen (a := m_ad X L a) hx hb hK.1 hS.2.2.1 (a - 512) t (m_wd_get (dA := dA) h5 h6) (m_tys_get hty) rfl hd (kk rfl rfl rfl)
      · cases h
    · cases h
  · cases h
theorem m_ald_inv {ok : Nat → Bool} (h : m_ald ok st w = some (len, st', w', dc, ds)) : ∃ (i : Int32) (a t n : Nat) (els : List (Nat × Value)) (r : List Value), st = .int i :: .ref a :: r ∧ m_at w a = some (.inl (t, n, els)) ∧ ok t = true ∧ vp_in i n ∧ len = 1 ∧ st' = (if t = 1 then .long (m_toL (m_el t els i.toNatClampNeg)) else .int (m_toI (m_el t els i.toNatClampNeg))) :: r ∧ w' = w ∧ dc = 0 ∧ ds = 0 := by
  unfold m_ald at h
  split at h
  · split at h
    · rename_i ha
      split at h
      · rename_i h1
        cases h
        exact ⟨_, _, _, _, _, _, rfl, ha, h1.1, h1.2, rfl, rfl, rfl, rfl, rfl⟩
      · cases h
    · cases h
  · cases h
theorem m_ald_sound (hx : p.tables.exec = Jvm.exec) (hb : c.code = I.2.1) (hK : m_Kx D dA s) (hS : m_St D dA X A H0 H locs L w) (hd : decode I.2.1 pc = .ok (i, len)) {ok : Nat → Bool} (hi : (i = .iaload ∧ ok = fun t => decide (t = 0)) ∨ (i = .laload ∧ ok = fun t => decide (t = 1)) ∨ (i = .caload ∧ ok = fun t => decide (t = 2)) ∨ (i = .baload ∧ ok = fun t => decide (t = 3 ∨ t = 4))) (h : m_ald ok st w = some (len, st', w', dc, ds))
    (kk : w' = w → dc = 0 → ds = 0 → W p l e R s m args below meth c H locs cells slots Q (F0 m (pc + len) ls (st'.map (m_tr X L)))) : W p l e R s m args below meth c H locs cells slots Q (F0 m pc ls (st.map (m_tr X L))) := by
  obtain ⟨j, a, t, n, els, r, rfl, ha, hok, hin, rfl, rfl, rfl, rfl, rfl⟩ := m_ald_inv h
  obtain ⟨h5, h6⟩ := m_at_L (X := X) hS.1 ha
  have k2 := kk rfl rfl rfl
  have hw := m_wd_get (X := X) (dA := dA) h5 h6
  rcases hi with ⟨rfl, rfl⟩ | ⟨rfl, rfl⟩ | ⟨rfl, rfl⟩ | ⟨rfl, rfl⟩
  · have ht : t = 0 := of_decide_eq_true hok
    subst ht
    exact va_iald (a := m_ad X L a) hx hb hK.1 hS.2.2.1 (a - 512) 0 hw (m_tys_get rfl) hin hd k2
  · have ht : t = 1 := of_decide_eq_true hok
    subst ht
    exact va_lald (a := m_ad X L a) hx hb hK.1 hS.2.2.1 (a - 512) 1 hw (m_tys_get rfl) hin hd k2
  · have ht : t = 2 := of_decide_eq_true hok
    subst ht
    exact va_cald (a := m_ad X L a) hx hb hK.1 hS.2.2.1 (a - 512) 2 hw (m_tys_get rfl) hin hd k2
  · have ht : t = 3 ∨ t = 4 := of_decide_eq_true hok
    rcases ht with rfl | rfl
    · exact va_bald (a := m_ad X L a) hx hb hK.1 hS.2.2.1 (a - 512) 3 hw (m_tys_get rfl) hin hd k2
    · exact va_zald (a := m_ad X L a) hx hb hK.1 hS.2.2.1 (a - 512) 4 hw (m_tys_get rfl) hin hd k2
theorem m_toR_tr {X : Nat → Nat} {L : List Nat} {v : Value} : (∃ k, v = .ref k ∧ va_rf (m_toR X L v) = m_tr X L v) ∨ va_rf (m_toR X L v) = .null := by
  cases v with
  | ref k => exact Or.inl ⟨k, rfl, rfl⟩
  | _ => exact Or.inr rfl
theorem m_aald_sound (hx : p.tables.exec = Jvm.exec) (hb : c.code = I.2.1) (hK : m_Kx D dA s) (hS : m_St D dA X A H0 H locs L w) (hd : decode I.2.1 pc = .ok (.aaload, len)) (h : m_aald st w = some (len, st', w', dc, ds))
    (kk : w' = w → dc = 0 → ds = 0 → W p l e R s m args below meth c H locs cells slots Q (F0 m (pc + len) ls (st'.map (m_tr X L)))) : W p l e R s m args below meth c H locs cells slots Q (F0 m pc ls (st.map (m_tr X L))) := by
  unfold m_aald at h
  split at h
  · rename_i j a r
    split at h
    · rename_i t n els ha
      split at h
      · rename_i C hC
        split at h
        case isFalse => cases h
        rename_i h1
        obtain ⟨h5, h6⟩ := m_at_L (X := X) hS.1 ha
        have hw := m_wd_get (X := X) (dA := dA) h5 h6
        have hw : (m_wd X L dA w)[a - 512]? = some (m_ad X L a, .inl (dA t, n, .inr (.inr (.inr (.inr (fun j => m_toR X L (m_el t els j))))))) := by
          rw [hw]; show some (_, Sum.inl (dA t, m_arr X L t n els)) = _; rw [m_arr_q h1.1]
        split at h
        · rename_i k hk
          cases h
          refine va_aldq (a := m_ad X L a) hx hb hK.1 hS.2.2.1 (a - 512) t hw (m_tys_get hC) h1.2 hd ?_
          have k2 := kk rfl rfl rfl
          show W p l e R s m args below meth c H locs cells slots Q (F0 m (pc + 1) ls (va_rf (m_toR X L (m_el t els j.toNatClampNeg)) :: _))
          rw [hk]; exact k2
        · rename_i hk
          cases h
          refine va_aldq (a := m_ad X L a) hx hb hK.1 hS.2.2.1 (a - 512) t hw (m_tys_get hC) h1.2 hd ?_
          have k2 := kk rfl rfl rfl
          show W p l e R s m args below meth c H locs cells slots Q (F0 m (pc + 1) ls (va_rf (m_toR X L (m_el t els j.toNatClampNeg)) :: _))
          rcases m_toR_tr (X := X) (L := L) (v := m_el t els j.toNatClampNeg) with ⟨k, hk2, -⟩ | hk2
          · exact absurd hk2 (hk k)
          · rw [hk2]; exact k2
      · cases h
    · cases h
  · cases h
/-- a cell that changes -/
theorem m_St_set (hS : m_St D dA X A H0 H locs L w) {a : Nat} {q q1 : mM} {H1 : Heap} {locs1 : List Loc} {e1 : va_E} (ha : m_at w a = some q) (he : m_cell X L dA q1 = e1) (hq : m_okc w.length q1 = true) (g1 : va_P D m_cl ((m_wd X L dA w).set (a - 512) (m_ad X L a, e1)) H1) (g2 : va_D A ((m_wd X L dA w).set (a - 512) (m_ad X L a, e1))) (g3 : va_S A H0 H1 locs1) : m_St D dA X A H0 H1 locs1 L (w.set (a - 512) q1) := by
  obtain ⟨h5, h6⟩ := m_at_L (X := X) hS.1 ha
  have e2 : m_wd X L dA (w.set (a - 512) q1) = (m_wd X L dA w).set (a - 512) (m_ad X L a, e1) := by rw [m_wd_set h5, he]
  refine ⟨by rw [List.length_set]; exact hS.1, ?_, by rw [e2]; exact g1, by rw [e2]; exact g2, g3⟩
  rw [List.length_set]
  exact m_okw_set hS.2.1 hq
theorem m_at_okc (hS : m_St D dA X A H0 H locs L w) {a : Nat} {q : mM} (ha : m_at w a = some q) : m_okc w.length q = true := hS.2.1 q (List.mem_of_getElem? (m_at_ok ha).2)
theorem m_ast_inv {ty : Nat → Option FieldType} (h : m_ast ty st w = some (len, st', w', dc, ds)) : ∃ (x i : Int32) (a t n : Nat) (els : List (Nat × Value)) (r : List Value) (f : FieldType), st = .int x :: .int i :: .ref a :: r ∧ m_at w a = some (.inl (t, n, els)) ∧ ty t = some f ∧ vp_in i n ∧ len = 1 ∧ st' = r ∧ w' = w.set (a - 512) (.inl (t, n, m_sel els i.toNatClampNeg (.int (vp_nar f x)))) ∧ dc = 0 ∧ ds = 0 := by
  unfold m_ast at h
  split at h
  · split at h
    · rename_i ha
      split at h
      · rename_i hf
        split at h
        · rename_i h1
          cases h
          exact ⟨_, _, _, _, _, _, _, _, rfl, ha, hf, h1, rfl, rfl, rfl, rfl, rfl⟩
        · cases h
      · cases h
    · cases h
  · cases h
theorem m_ast_sound (hx : p.tables.exec = Jvm.exec) (hb : c.code = I.2.1) (hK : m_Kx D dA s) (hS : m_St D dA X A H0 H locs L w) (hd : decode I.2.1 pc = .ok (i, len)) {ty : Nat → Option FieldType} (hi : (i = .iastore ∧ ty = fun t => if t = 0 then some .int else none) ∨ (i = .castore ∧ ty = fun t => if t = 2 then some .char else none) ∨ (i = .bastore ∧ ty = fun t => if t = 3 then some .byte else if t = 4 then some .boolean else none)) (h : m_ast ty st w = some (len, st', w', dc, ds))
    (kk : ∀ (H1 : Heap) (locs1 : List Loc), m_St D dA X A H0 H1 locs1 L w' → dc = 0 → ds = 0 → W p l e R s m args below meth c H1 locs1 cells slots Q (F0 m (pc + len) ls (st'.map (m_tr X L)))) : W p l e R s m args below meth c H locs cells slots Q (F0 m pc ls (st.map (m_tr X L))) := by
  obtain ⟨x, j, a, t, n, els, r, f, rfl, ha, hty, hin, rfl, rfl, rfl, rfl, rfl⟩ := m_ast_inv h
  obtain ⟨h5, h6⟩ := m_at_L (X := X) hS.1 ha
  have hw := m_wd_get (X := X) (dA := dA) h5 h6
  have hokc := m_okc_seta (k := j.toNatClampNeg) (v := .int (vp_nar f x)) (m_at_okc hS ha) rfl
  rcases hi with ⟨rfl, rfl⟩ | ⟨rfl, rfl⟩ | ⟨rfl, rfl⟩
  · by_cases ht : t = 0
    · subst ht
      cases hty
      exact va_iast (a := m_ad X L a) hx hb hK.1 hS.2.2.1 hS.2.2.2.1 hS.2.2.2.2 (a - 512) 0 hw (m_tys_get rfl) hin hd (fun H1 locs1 g1 g2 g3 => kk H1 locs1 (m_St_set hS ha (congrArg (fun z => Sum.inl (dA 0, z)) (m_arr_seti (t := 0) (by decide) (by decide))) hokc g1 g2 g3) rfl rfl)
    · simp [ht] at hty
  · by_cases ht : t = 2
    · subst ht
      cases hty
      exact va_cast (a := m_ad X L a) hx hb hK.1 hS.2.2.1 hS.2.2.2.1 hS.2.2.2.2 (a - 512) 2 hw (m_tys_get rfl) hin hd (fun H1 locs1 g1 g2 g3 => kk H1 locs1 (m_St_set hS ha (congrArg (fun z => Sum.inl (dA 2, z)) (m_arr_seti (t := 2) (by decide) (by decide))) hokc g1 g2 g3) rfl rfl)
    · simp [ht] at hty
  · by_cases ht : t = 3
    · subst ht
      cases hty
      exact va_bast (a := m_ad X L a) hx hb hK.1 hS.2.2.1 hS.2.2.2.1 hS.2.2.2.2 (a - 512) 3 hw (m_tys_get rfl) hin hd (fun H1 locs1 g1 g2 g3 => kk H1 locs1 (m_St_set hS ha (congrArg (fun z => Sum.inl (dA 3, z)) (m_arr_seti (t := 3) (by decide) (by decide))) hokc g1 g2 g3) rfl rfl)
    · by_cases ht4 : t = 4
      · subst ht4
        cases hty
        exact va_zast (a := m_ad X L a) hx hb hK.1 hS.2.2.1 hS.2.2.2.1 hS.2.2.2.2 (a - 512) 4 hw (m_tys_get rfl) hin hd (fun H1 locs1 g1 g2 g3 => kk H1 locs1 (m_St_set hS ha (congrArg (fun z => Sum.inl (dA 4, z)) (m_arr_seti (t := 4) (by decide) (by decide))) hokc g1 g2 g3) rfl rfl)
      · simp [ht, ht4] at hty
theorem m_last_sound (hx : p.tables.exec = Jvm.exec) (hb : c.code = I.2.1) (hK : m_Kx D dA s) (hS : m_St D dA X A H0 H locs L w) (hd : decode I.2.1 pc = .ok (.lastore, len)) (h : m_last st w = some (len, st', w', dc, ds))
    (kk : ∀ (H1 : Heap) (locs1 : List Loc), m_St D dA X A H0 H1 locs1 L w' → dc = 0 → ds = 0 → W p l e R s m args below meth c H1 locs1 cells slots Q (F0 m (pc + len) ls (st'.map (m_tr X L)))) : W p l e R s m args below meth c H locs cells slots Q (F0 m pc ls (st.map (m_tr X L))) := by
  unfold m_last at h
  split at h
  · rename_i x j a r
    split at h
    · rename_i t n els ha
      split at h
      · rename_i h1
        obtain ⟨rfl, hin⟩ := h1
        cases h
        obtain ⟨h5, h6⟩ := m_at_L (X := X) hS.1 ha
        have hw := m_wd_get (X := X) (dA := dA) h5 h6
        exact va_last (a := m_ad X L a) hx hb hK.1 hS.2.2.1 hS.2.2.2.1 hS.2.2.2.2 (a - 512) 1 hw (m_tys_get rfl) hin hd (fun H1 locs1 g1 g2 g3 => kk H1 locs1 (m_St_set hS ha (congrArg (fun z => Sum.inl (dA 1, z)) m_arr_setl) (m_okc_seta (m_at_okc hS ha) rfl) g1 g2 g3) rfl rfl)
      · cases h
    · cases h
  · cases h
theorem m_aast_sound (hx : p.tables.exec = Jvm.exec) (hb : c.code = I.2.1) (hK : m_Kx D dA s) (hS : m_St D dA X A H0 H locs L w) (hd : decode I.2.1 pc = .ok (.aastore, len)) (h : m_aast st w = some (len, st', w', dc, ds))
    (kk : ∀ (H1 : Heap) (locs1 : List Loc), m_St D dA X A H0 H1 locs1 L w' → dc = 0 → ds = 0 → W p l e R s m args below meth c H1 locs1 cells slots Q (F0 m (pc + len) ls (st'.map (m_tr X L)))) : W p l e R s m args below meth c H locs cells slots Q (F0 m pc ls (st.map (m_tr X L))) := by
  unfold m_aast at h
  split at h
  · rename_i v j a r
    split at h
    · rename_i t n els ha
      split at h
      · rename_i C hC
        split at h
        case isFalse => cases h
        rename_i h1
        obtain ⟨h5, h6⟩ := m_at_L (X := X) hS.1 ha
        have hw := m_wd_get (X := X) (dA := dA) h5 h6
        have hw : (m_wd X L dA w)[a - 512]? = some (m_ad X L a, .inl (dA t, n, .inr (.inr (.inr (.inr (fun j => m_toR X L (m_el t els j))))))) := by
          rw [hw]; show some (_, Sum.inl (dA t, m_arr X L t n els)) = _; rw [m_arr_q h1.1]
        split at h
        · cases h
          exact va_astqN (a := m_ad X L a) hx hb hK.1 hS.2.2.1 hS.2.2.2.1 hS.2.2.2.2 (a - 512) t hw (m_tys_get hC) h1.2 hd (fun H1 locs1 g1 g2 g3 => kk H1 locs1 (m_St_set hS ha (congrArg (fun z => Sum.inl (dA t, z)) (m_arr_setq (v := .null) h1.1)) (m_okc_seta (m_at_okc hS ha) rfl) g1 g2 g3) rfl rfl)
        · rename_i k
          split at h
          · rename_i ci fs hk
            split at h
            case isFalse => cases h
            rename_i hass
            cases h
            obtain ⟨k5, k6⟩ := m_at_L (X := X) hS.1 hk
            have hkw := m_wd_get (X := X) (dA := dA) k5 k6
            have hkk : m_okv w.length (.ref k) = true := by
              have q1 := (m_at_ok hk).1
              have q2 := (List.getElem?_eq_some_iff.mp (m_at_ok hk).2).1
              exact decide_eq_true (m_lt64 q1 q2)
            rcases hass with hass | hass
            · obtain ⟨rr, r1, r2⟩ := m_ass_ok _ hass
              exact va_astq (a := m_ad X L a) (v := m_ad X L k) hx hb hK.1 hS.2.2.1 hS.2.2.2.1 hS.2.2.2.2 (a - 512) t (k - 512) ci hw (m_tys_get r2) hkw r1 h1.2 hd (fun H1 locs1 g1 g2 g3 => kk H1 locs1 (m_St_set hS ha (congrArg (fun z => Sum.inl (dA t, z)) (m_arr_setq (v := .ref k) h1.1)) (m_okc_seta (m_at_okc hS ha) hkk) g1 g2 g3) rfl rfl)
            · obtain ⟨rr, C2, r1, r2, r3⟩ := m_asl_ok _ hass
              exact va_astqO (a := m_ad X L a) (v := m_ad X L k) hx hb hK.1 hS.2.2.1 hS.2.2.2.1 hS.2.2.2.2 (a - 512) t (k - 512) ci hw (m_tys_get r2) (hK.2.1 _ r3) hkw r1 h1.2 hd (fun H1 locs1 g1 g2 g3 => kk H1 locs1 (m_St_set hS ha (congrArg (fun z => Sum.inl (dA t, z)) (m_arr_setq (v := .ref k) h1.1)) (m_okc_seta (m_at_okc hS ha) hkk) g1 g2 g3) rfl rfl)
          · cases h
        · cases h
      · cases h
    · cases h
  · cases h
theorem m_gst_sound (hx : p.tables.exec = Jvm.exec) (hb : c.code = I.2.1) (hown : s.vm.findClass I.1.cls = some m.cls) (hts : ∀ w ∈ m_gt, w.before args s = true) (hE : m_Ex X A s s.heap) (hI : m_bOk I) (hS : m_St D dA X A s.heap H locs L w) {k : Nat} (hd : decode I.2.1 pc = .ok (.getstatic k, len)) (h : m_gst I k st w = some (len, st', w', dc, ds))
    (kk : w' = w → dc = 0 → ds = 0 → W p l e R s m args below meth c H locs cells slots Q (F0 m (pc + len) ls (st'.map (m_tr X L)))) : W p l e R s m args below meth c H locs cells slots Q (F0 m pc ls (st.map (m_tr X L))) := by
  unfold m_gst at h
  split at h
  · rename_i v0 v ho
    cases h
    obtain ⟨C, n, d, g1, g2⟩ := (hI.2.2.2.2.2.2.2.1 _ (m_oe_mem ho)).2.2.2.2.1 rfl
    have k2 := kk rfl rfl rfl
    refine va_gets hx hb (hE.1 _ g1) hS.2.2.2.2 hown (hts _ g2) (fun x h9 => h9) hd ?_
    rw [List.map_cons, m_tr_stat (m_stl_ok _ g1)] at k2
    exact k2
  · cases h
theorem m_ldc_sound (hx : p.tables.exec = Jvm.exec) (hb : c.code = I.2.1) (hown : s.vm.findClass I.1.cls = some m.cls) (hts : ∀ w ∈ m_gt, w.before args s = true) (hI : m_bOk I) {k n : Nat} (hd : decode I.2.1 pc = .ok (i, len)) (hi : (i = .ldc k ∧ n = 2) ∨ (i = .ldc_w k ∧ n = 3)) (h : m_ldc I k n st w = some (len, st', w', dc, ds))
    (kk : w' = w → dc = 0 → ds = 0 → W p l e R s m args below meth c H locs cells slots Q (F0 m (pc + len) ls (st'.map (m_tr X L)))) : W p l e R s m args below meth c H locs cells slots Q (F0 m pc ls (st.map (m_tr X L))) := by
  unfold m_ldc at h
  split at h
  · rename_i v0 v ho
    cases h
    obtain ⟨x, rfl, g2⟩ := (hI.2.2.2.2.2.2.2.1 _ (m_oe_mem ho)).2.2.1 rfl
    have k2 := kk rfl rfl rfl
    rcases hi with ⟨rfl, rfl⟩ | ⟨rfl, rfl⟩
    · exact lv_ldc hx hb hown (hts _ g2) hd k2
    · exact lv_ldcw hx hb hown (hts _ g2) hd k2
  · cases h
theorem m_ldc2_sound (hx : p.tables.exec = Jvm.exec) (hb : c.code = I.2.1) (hown : s.vm.findClass I.1.cls = some m.cls) (hts : ∀ w ∈ m_gt, w.before args s = true) (hI : m_bOk I) {k : Nat} (hd : decode I.2.1 pc = .ok (.ldc2_w k, len)) (h : m_ldc2 I k st w = some (len, st', w', dc, ds))
    (kk : w' = w → dc = 0 → ds = 0 → W p l e R s m args below meth c H locs cells slots Q (F0 m (pc + len) ls (st'.map (m_tr X L)))) : W p l e R s m args below meth c H locs cells slots Q (F0 m pc ls (st.map (m_tr X L))) := by
  unfold m_ldc2 at h
  split at h
  · rename_i v0 v ho
    cases h
    obtain ⟨x, rfl, g2⟩ := (hI.2.2.2.2.2.2.2.1 _ (m_oe_mem ho)).2.2.2.1 rfl
    exact lv_ldc2 hx hb hown (hts _ g2) hd (kk rfl rfl rfl)
  · cases h
end MA
