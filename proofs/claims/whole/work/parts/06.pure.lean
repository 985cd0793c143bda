/-! The small machine's steps on the stack, the locals and the places are steps of the machine. -/
theorem m_b2_inv {f : Int32 → Int32 → Int32} {st : List Value} {q : Nat × List Value} (h : m_b2 f st = some q) : ∃ x y r, st = .int y :: .int x :: r ∧ q = (1, .int (f x y) :: r) := by
  unfold m_b2 at h
  split at h
  · exact ⟨_, _, _, rfl, (Option.some.inj h).symm⟩
  · cases h
theorem m_b2n_inv {f : Int32 → Int32 → Int32} {st : List Value} {q : Nat × List Value} (h : m_b2n f st = some q) : ∃ x y r, st = .int y :: .int x :: r ∧ ¬ y = 0 ∧ q = (1, .int (f x y) :: r) := by
  unfold m_b2n at h
  split at h
  · split at h
    · cases h
    · rename_i h0
      exact ⟨_, _, _, rfl, h0, (Option.some.inj h).symm⟩
  · cases h
theorem m_u1_inv {f : Int32 → Int32} {st : List Value} {q : Nat × List Value} (h : m_u1 f st = some q) : ∃ x r, st = .int x :: r ∧ q = (1, .int (f x) :: r) := by
  unfold m_u1 at h
  split at h
  · exact ⟨_, _, rfl, (Option.some.inj h).symm⟩
  · cases h
theorem m_l2_inv {f : Int64 → Int64 → Int64} {st : List Value} {q : Nat × List Value} (h : m_l2 f st = some q) : ∃ x y r, st = .long y :: .long x :: r ∧ q = (1, .long (f x y) :: r) := by
  unfold m_l2 at h
  split at h
  · exact ⟨_, _, _, rfl, (Option.some.inj h).symm⟩
  · cases h
theorem m_ls_inv {f : Int64 → Int32 → Int64} {st : List Value} {q : Nat × List Value} (h : m_ls f st = some q) : ∃ x y r, st = .int y :: .long x :: r ∧ q = (1, .long (f x y) :: r) := by
  unfold m_ls at h
  split at h
  · exact ⟨_, _, _, rfl, (Option.some.inj h).symm⟩
  · cases h
section MP
variable {p : Program} {l : Launch} {e : Env} {R : Room} {s : State} {m : MethodId} {args : Array Value} {below : List Frame} {meth : Method} {c : Code} {H : Heap} {locs : List Loc} {cells slots : Nat} {Q : State → Prop} {cc : ByteArray} {X : Nat → Nat} {L : List Nat} {pc len : Nat} {ls : Array Slot} {i : Instr} {st st' : List Value}
theorem m_ps_sound (hx : p.tables.exec = Jvm.exec) (hb : c.code = cc) (hd : decode cc pc = .ok (i, len)) (h : m_ps i st = some (len, st'))
    (k : W p l e R s m args below meth c H locs cells slots Q (F0 m (pc + len) ls (st'.map (m_tr X L)))) : W p l e R s m args below meth c H locs cells slots Q (F0 m pc ls (st.map (m_tr X L))) := by
  unfold m_ps at h
  split at h
  · cases h; exact lv_iconst hx hb hd rfl k
  · cases h; exact lv_bipush hx hb hd rfl k
  · cases h; exact lv_sipush hx hb hd rfl k
  · cases h; exact lv_lconst hx hb hd rfl k
  · cases h; exact lv_null hx hb hd k
  · obtain ⟨x, y, r, rfl, e1⟩ := m_b2_inv h; cases e1; exact lv_iadd hx hb hd k
  · obtain ⟨x, y, r, rfl, e1⟩ := m_b2_inv h; cases e1; exact lv_isub hx hb hd k
  · obtain ⟨x, y, r, rfl, e1⟩ := m_b2_inv h; cases e1; exact lv_imul hx hb hd k
  · obtain ⟨x, y, r, rfl, e1⟩ := m_b2_inv h; cases e1; exact lv_iand hx hb hd k
  · obtain ⟨x, y, r, rfl, e1⟩ := m_b2_inv h; cases e1; exact lv_ior hx hb hd k
  · obtain ⟨x, y, r, rfl, e1⟩ := m_b2_inv h; cases e1; exact lv_ixor hx hb hd k
  · obtain ⟨x, y, r, rfl, h0, e1⟩ := m_b2n_inv h; cases e1; exact lv_idiv hx hb hd h0 k
  · obtain ⟨x, y, r, rfl, h0, e1⟩ := m_b2n_inv h; cases e1; exact lv_irem hx hb hd h0 k
  · obtain ⟨x, y, r, rfl, e1⟩ := m_b2_inv h; cases e1; exact lv_ishl hx hb hd k
  · obtain ⟨x, y, r, rfl, e1⟩ := m_b2_inv h; cases e1; exact lv_ishr hx hb hd k
  · obtain ⟨x, y, r, rfl, e1⟩ := m_b2_inv h; cases e1; exact lv_iushr hx hb hd rfl k
  · obtain ⟨x, r, rfl, e1⟩ := m_u1_inv h; cases e1; exact lv_ineg hx hb hd k
  · obtain ⟨x, r, rfl, e1⟩ := m_u1_inv h; cases e1; exact lv_i2b hx hb hd rfl k
  · obtain ⟨x, r, rfl, e1⟩ := m_u1_inv h; cases e1; exact lv_i2s hx hb hd rfl k
  · obtain ⟨x, r, rfl, e1⟩ := m_u1_inv h; cases e1; exact lv_i2c hx hb hd rfl k
  · obtain ⟨x, y, r, rfl, e1⟩ := m_l2_inv h; cases e1; exact lv_ladd hx hb hd k
  · obtain ⟨x, y, r, rfl, e1⟩ := m_l2_inv h; cases e1; exact lv_lsub hx hb hd k
  · obtain ⟨x, y, r, rfl, e1⟩ := m_l2_inv h; cases e1; exact lv_land hx hb hd k
  · obtain ⟨x, y, r, rfl, e1⟩ := m_l2_inv h; cases e1; exact lv_lor hx hb hd k
  · obtain ⟨x, y, r, rfl, e1⟩ := m_l2_inv h; cases e1; exact lv_lxor hx hb hd k
  · obtain ⟨x, y, r, rfl, e1⟩ := m_ls_inv h; cases e1; exact lv_lushr hx hb hd rfl k
  · obtain ⟨x, y, r, rfl, e1⟩ := m_ls_inv h; cases e1; exact lv_lshl hx hb hd rfl k
  · obtain ⟨x, y, r, rfl, e1⟩ := m_ls_inv h; cases e1; exact lv_lshr hx hb hd rfl k
  · unfold m_i2l at h; split at h
    · cases h; exact lv_i2l hx hb hd rfl k
    · cases h
  · unfold m_l2i at h; split at h
    · cases h; exact lv_l2i hx hb hd rfl k
    · cases h
  · unfold m_lcmp at h; split at h
    · cases h; exact W.lcmp hx hb hd k
    · cases h
  · unfold m_dup at h; split at h
    · split at h
      · rename_i h1
        cases h; exact lv_dup hx hb hd (by rw [m_tr_cat]; exact h1) k
      · cases h
    · cases h
  · unfold m_pop at h; split at h
    · split at h
      · rename_i h1
        cases h; exact lv_pop hx hb hd (by rw [m_tr_cat]; exact h1) k
      · cases h
    · cases h
  · unfold m_dupx1 at h; split at h
    · split at h
      · rename_i h1
        cases h; exact lv_dup_x1 hx hb hd (by rw [m_tr_cat]; exact h1.1) (by rw [m_tr_cat]; exact h1.2) k
      · cases h
    · cases h
  · unfold m_dupx2 at h; split at h
    · split at h
      · rename_i h1
        cases h; exact lv_dup_x2 hx hb hd (by rw [m_tr_cat]; exact h1.1) (by rw [m_tr_cat]; exact h1.2.1) (by rw [m_tr_cat]; exact h1.2.2) k
      · cases h
    · cases h
  · unfold m_dup2 at h; split at h
    · split at h
      · rename_i h1
        cases h; exact lv_dup2_11 hx hb hd (by rw [m_tr_cat]; exact h1.1) (by rw [m_tr_cat]; exact h1.2) k
      · cases h
    · cases h
  · cases h
def m_lvt (X : Nat → Nat) (L : List Nat) (lv : List (Nat × Value)) : List (Nat × Value) := lv.map (fun q => (q.1, m_tr X L q.2))
theorem m_lvt_ext {L2 : List Nat} {lv : List (Nat × Value)} (h : ∀ q ∈ lv, m_okv L.length q.2 = true) : m_lvt X (L ++ L2) lv = m_lvt X L lv :=
  List.map_congr_left (fun q hq => by rw [m_tr_ext (h q hq)])
theorem m_put1_t {lv : List (Nat × Value)} {k : Nat} {v : Value} : m_lvt X L (m_put1 lv k v) = (k, m_tr X L v) :: (m_lvt X L lv).filter (fun q => !(q.1 == k) && !(q.1 + 1 == k && q.2.category == 2)) := by
  unfold m_lvt m_put1
  rw [List.map_cons, List.filter_map]
  congr 2
  apply List.filter_congr
  intro q _
  simp [m_tr_cat]
theorem m_put2_t {lv : List (Nat × Value)} {k : Nat} {v : Value} : m_lvt X L (m_put2 lv k v) = (k, m_tr X L v) :: (m_lvt X L lv).filter (fun q => !(q.1 == k) && (!(q.1 == k + 1) && !(q.1 + 1 == k && q.2.category == 2))) := by
  unfold m_lvt m_put2
  rw [List.map_cons, List.filter_map]
  congr 2
  apply List.filter_congr
  intro q _
  simp [m_tr_cat]
theorem m_lv_get {nL k : Nat} {lv : List (Nat × Value)} {v : Value} (hl : lv_has ls nL (m_lvt X L lv)) (h : m_lv lv k = some v) : ls[k]? = some (.val (m_tr X L v)) := by
  unfold m_lv at h
  cases hf : lv.find? (fun q => q.1 == k) with
  | none => rw [hf] at h; cases h
  | some q =>
    rw [hf] at h
    cases h
    have h1 : q.1 = k := by simpa using List.find?_some hf
    have h2 := hl.2.2 (q.1, m_tr X L q.2) (List.mem_map.mpr ⟨q, List.mem_of_find?_eq_some hf, rfl⟩)
    rw [← h1]; exact h2
theorem m_lv_pos {k : Nat} {lv : List (Nat × Value)} {v : Value} (h : m_lv lv k = some v) : ∃ j : Nat, (m_lvt X L lv)[j]? = some (k, m_tr X L v) := by
  unfold m_lv at h
  cases hf : lv.find? (fun q => q.1 == k) with
  | none => rw [hf] at h; cases h
  | some q =>
    rw [hf] at h
    cases h
    have h1 : q.1 = k := by simpa using List.find?_some hf
    have h2 : (k, m_tr X L q.2) ∈ m_lvt X L lv := List.mem_map.mpr ⟨q, List.mem_of_find?_eq_some hf, by rw [h1]⟩
    exact List.mem_iff_getElem?.mp h2
theorem m_lo_sound (hx : p.tables.exec = Jvm.exec) (hb : c.code = cc) {nL : Nat} {lv lv' : List (Nat × Value)} (hl : lv_has ls nL (m_lvt X L lv)) (hd : decode cc pc = .ok (i, len)) (h : m_lo nL i lv st = some (len, lv', st'))
    (k : ∀ ls' : Array Slot, lv_has ls' nL (m_lvt X L lv') → W p l e R s m args below meth c H locs cells slots Q (F0 m (pc + len) ls' (st'.map (m_tr X L)))) : W p l e R s m args below meth c H locs cells slots Q (F0 m pc ls (st.map (m_tr X L))) := by
  unfold m_lo at h
  split at h
  · unfold m_ldi at h; split at h
    · rename_i h1; cases h; exact lv_iload hx hb hd (m_lv_get hl h1) (k ls hl)
    · cases h
  · unfold m_ldi at h; split at h
    · rename_i h1; cases h; exact lv_iload_n hx hb hd rfl (m_lv_get hl h1) (k ls hl)
    · cases h
  · unfold m_ldl at h; split at h
    · rename_i h1; cases h; exact lv_lload hx hb hd (m_lv_get hl h1) (k ls hl)
    · cases h
  · unfold m_ldl at h; split at h
    · rename_i h1; cases h; exact lv_lload_n hx hb hd rfl (m_lv_get hl h1) (k ls hl)
    · cases h
  · unfold m_lda at h; split at h
    · rename_i h1; cases h; exact lv_aload hx hb hd (m_lv_get hl h1) (k ls hl)
    · rename_i h1; cases h; exact lv_aloadN hx hb hd (m_lv_get hl h1) (k ls hl)
    · rename_i n h1; cases h
      have h2 := m_lv_get hl h1
      rw [show m_tr X L (.retAddr n) = m_op X n from rfl] at h2
      have k2 := k ls hl
      rw [List.map_cons, show m_tr X L (.retAddr n) = m_op X n from rfl] at k2
      rcases m_op_or X n with h3 | ⟨a, h3⟩ <;> rw [h3] at h2 k2
      · exact lv_aloadN hx hb hd h2 k2
      · exact lv_aload hx hb hd h2 k2
    · cases h
  · unfold m_lda at h; split at h
    · rename_i h1; cases h; exact lv_aload_n hx hb hd rfl (m_lv_get hl h1) (k ls hl)
    · rename_i h1; cases h; exact lv_aload_nN hx hb hd rfl (m_lv_get hl h1) (k ls hl)
    · rename_i n h1; cases h
      have h2 := m_lv_get hl h1
      rw [show m_tr X L (.retAddr n) = m_op X n from rfl] at h2
      have k2 := k ls hl
      rw [List.map_cons, show m_tr X L (.retAddr n) = m_op X n from rfl] at k2
      rcases m_op_or X n with h3 | ⟨a, h3⟩ <;> rw [h3] at h2 k2
      · exact lv_aload_nN hx hb hd rfl h2 k2
      · exact lv_aload_n hx hb hd rfl h2 k2
    · cases h
  · unfold m_sti at h; split at h
    · split at h
      · rename_i h1; cases h; exact lv_istore hx hb hd hl h1 (m_put1_t (v := Value.int _)).symm k
      · cases h
    · cases h
  · unfold m_sti at h; split at h
    · split at h
      · rename_i h1; cases h; exact lv_istore_n hx hb hd rfl hl h1 (m_put1_t (v := Value.int _)).symm k
      · cases h
    · cases h
  · unfold m_stl2 at h; split at h
    · split at h
      · rename_i h1; cases h; exact lv_lstore hx hb hd hl h1 (m_put2_t (v := Value.long _)).symm k
      · cases h
    · cases h
  · unfold m_stl2 at h; split at h
    · split at h
      · rename_i h1; cases h; exact lv_lstore_n hx hb hd rfl hl h1 (m_put2_t (v := Value.long _)).symm k
      · cases h
    · cases h
  · unfold m_sta at h; split at h
    · split at h
      · rename_i h1; cases h; exact lv_astore hx hb hd hl h1 (m_put1_t (v := Value.ref _)).symm k
      · cases h
    · split at h
      · rename_i h1; cases h; exact lv_astoreN hx hb hd hl h1 (m_put1_t (v := Value.null)).symm k
      · cases h
    · split at h
      · rename_i n r h1; cases h
        have e9 : m_tr X L (.retAddr n) = m_op X n := rfl
        rw [List.map_cons, e9]
        rcases m_op_or X n with h3 | ⟨a, h3⟩
        · rw [h3]; exact lv_astoreN hx hb hd hl h1 (by rw [m_put1_t, e9, h3]) k
        · rw [h3]; exact lv_astore hx hb hd hl h1 (by rw [m_put1_t, e9, h3]) k
      · cases h
    · cases h
  · unfold m_sta at h; split at h
    · split at h
      · rename_i h1; cases h; exact lv_astore_n hx hb hd rfl hl h1 (m_put1_t (v := Value.ref _)).symm k
      · cases h
    · split at h
      · rename_i h1; cases h; exact lv_astore_nN hx hb hd rfl hl h1 (m_put1_t (v := Value.null)).symm k
      · cases h
    · split at h
      · rename_i n r h1; cases h
        have e9 : m_tr X L (.retAddr n) = m_op X n := rfl
        rw [List.map_cons, e9]
        rcases m_op_or X n with h3 | ⟨a, h3⟩
        · rw [h3]; exact lv_astore_nN hx hb hd rfl hl h1 (by rw [m_put1_t, e9, h3]) k
        · rw [h3]; exact lv_astore_n hx hb hd rfl hl h1 (by rw [m_put1_t, e9, h3]) k
      · cases h
    · cases h
  · unfold m_inc at h; split at h
    · rename_i h0
      split at h
      · rename_i h1
        cases h
        obtain ⟨j, hj⟩ := m_lv_pos (X := X) (L := L) h0
        exact lv_iinc hx hb hd hl hj rfl h1 (m_put1_t (v := Value.int _)).symm k
      · cases h
    · cases h
  · cases h
theorem m_jmp_ok {off : Int} {t : Nat} (h : m_jmp pc off = some t) : (pc : Int) + off = (t : Int) := by
  unfold m_jmp at h
  split at h
  · rename_i h1; cases h; exact h1.symm
  · cases h
theorem m_mapj {off : Int} {r : List Value} {q : Nat × List Value} (h : (m_jmp pc off).map (fun t => (t, r)) = some q) : ∃ t, m_jmp pc off = some t ∧ q = (t, r) := by
  cases hj : m_jmp pc off with
  | none => rw [hj] at h; cases h
  | some t => rw [hj] at h; exact ⟨t, rfl, (Option.some.inj h).symm⟩
end MP
section MB
variable {p : Program} {l : Launch} {e : Env} {R : Room} {s : State} {m : MethodId} {args : Array Value} {below : List Frame} {meth : Method} {c : Code} {H : Heap} {locs : List Loc} {cells slots : Nat} {Q : State → Prop} {cc : ByteArray} {X : Nat → Nat} {L : List Nat} {pc len pc' : Nat} {ls : Array Slot} {i : Instr} {st st' : List Value}
theorem m_b1_inv {off : Int} {f : Int32 → Bool} (h : m_b1 pc off len f st = some (pc', st')) : ∃ (x : Int32) (r : List Value) (t : Nat), st = .int x :: r ∧ len = 3 ∧ (pc : Int) + off = (t : Int) ∧ st' = r ∧ pc' = if f x = true then t else pc + 3 := by
  unfold m_b1 at h
  split at h
  · split at h
    · rename_i h3
      obtain ⟨t, ht, e1⟩ := Option.map_eq_some_iff.mp h
      cases e1
      exact ⟨_, _, t, rfl, h3, m_jmp_ok ht, rfl, rfl⟩
    · cases h
  · cases h
theorem m_bb_inv {off : Int} {f : Int32 → Int32 → Bool} (h : m_bb pc off len f st = some (pc', st')) : ∃ (x y : Int32) (r : List Value) (t : Nat), st = .int y :: .int x :: r ∧ len = 3 ∧ (pc : Int) + off = (t : Int) ∧ st' = r ∧ pc' = if f x y = true then t else pc + 3 := by
  unfold m_bb at h
  split at h
  · split at h
    · rename_i h3
      obtain ⟨t, ht, e1⟩ := Option.map_eq_some_iff.mp h
      cases e1
      exact ⟨_, _, _, t, rfl, h3, m_jmp_ok ht, rfl, rfl⟩
    · cases h
  · cases h
theorem m_c1_sound {cnd : ClassFile.Cond} {off : Int} {x : Int32} {r : List Value} (hx : p.tables.exec = Jvm.exec) (hb : c.code = cc) (hd : decode cc pc = .ok (.ifCond cnd off, 3)) {tgt : Nat} (ht : (pc : Int) + off = (tgt : Int))
    (kt : m_c1 cnd x = true → W p l e R s m args below meth c H locs cells slots Q (F0 m tgt ls r)) (kf : m_c1 cnd x = false → W p l e R s m args below meth c H locs cells slots Q (F0 m (pc + 3) ls r)) : W p l e R s m args below meth c H locs cells slots Q (F0 m pc ls (.int x :: r)) := by
  cases cnd
  · exact lv_if_eq hx hb hd ht (fun h => kt (decide_eq_true h)) (fun h => kf (decide_eq_false h))
  · exact lv_if_ne hx hb hd ht (fun h => kt (decide_eq_true h)) (fun h => kf (decide_eq_false (fun g => g h)))
  · exact lv_if_lt hx hb hd ht (fun h => kt (decide_eq_true h)) (fun h => kf (decide_eq_false h))
  · exact lv_if_ge hx hb hd ht (fun h => kt (decide_eq_true h)) (fun h => kf (decide_eq_false h))
  · exact lv_if_gt hx hb hd ht (fun h => kt (decide_eq_true h)) (fun h => kf (decide_eq_false h))
  · exact lv_if_le hx hb hd ht (fun h => kt (decide_eq_true h)) (fun h => kf (decide_eq_false h))
theorem m_c2_sound {cnd : ClassFile.Cond} {off : Int} {x y : Int32} {r : List Value} (hx : p.tables.exec = Jvm.exec) (hb : c.code = cc) (hd : decode cc pc = .ok (.if_icmp cnd off, 3)) {tgt : Nat} (ht : (pc : Int) + off = (tgt : Int))
    (kt : m_c2 cnd x y = true → W p l e R s m args below meth c H locs cells slots Q (F0 m tgt ls r)) (kf : m_c2 cnd x y = false → W p l e R s m args below meth c H locs cells slots Q (F0 m (pc + 3) ls r)) : W p l e R s m args below meth c H locs cells slots Q (F0 m pc ls (.int y :: .int x :: r)) := by
  cases cnd
  · exact lv_icmp_eq hx hb hd ht (fun h => kt (decide_eq_true h)) (fun h => kf (decide_eq_false h))
  · exact lv_icmp_ne hx hb hd ht (fun h => kt (decide_eq_true h)) (fun h => kf (decide_eq_false (fun g => g h)))
  · exact lv_icmp_lt hx hb hd ht (fun h => kt (decide_eq_true h)) (fun h => kf (decide_eq_false h))
  · exact lv_icmp_ge hx hb hd ht (fun h => kt (decide_eq_true h)) (fun h => kf (decide_eq_false h))
  · exact lv_icmp_gt hx hb hd ht (fun h => kt (decide_eq_true h)) (fun h => kf (decide_eq_false h))
  · exact lv_icmp_le hx hb hd ht (fun h => kt (decide_eq_true h)) (fun h => kf (decide_eq_false h))
theorem m_rf_t {v : Value} {x : Option Nat} (h : m_rf v = some x) : m_tr X L v = va_rf (x.map (m_ad X L)) := by
  cases v <;> cases h <;> rfl
theorem m_ad_ne {x y : Nat} (hN : ∀ (i j a : Nat), L[i]? = some a → L[j]? = some a → i = j) (hE : ∀ (k i a : Nat), k < 512 → L[i]? = some a → a ≠ X k) (hne : ¬ x = y) (h : m_apart L.length (some x) (some y) = true) : m_ad X L x ≠ m_ad X L y := by
  simp only [m_apart, Bool.and_eq_true, Bool.or_eq_true, decide_eq_true_eq] at h
  obtain ⟨⟨h0, hx⟩, hy⟩ := h
  have key : ∀ z : Nat, ¬ z < 512 → z < 512 + L.length → L[z - 512]? = some (m_ad X L z) := fun z h1 h2 => by
    unfold m_ad
    rw [if_neg h1, List.getD_eq_getElem?_getD]
    cases hz : L[z - 512]? with
    | none => rw [List.getElem?_eq_none_iff] at hz; omega
    | some a => rfl
  intro e1
  by_cases h1 : x < 512
  · by_cases h2 : y < 512
    · omega
    · exact hE x _ _ h1 (key y h2 hy) (by rw [← e1]; unfold m_ad; rw [if_pos h1])
  · by_cases h2 : y < 512
    · exact hE y _ _ h2 (key x h1 hx) (by rw [e1]; unfold m_ad; rw [if_pos h2])
    · have := hN _ _ _ (key x h1 hx) (by rw [e1]; exact key y h2 hy)
      omega
theorem m_br_sound (hx : p.tables.exec = Jvm.exec) (hb : c.code = cc) (hN : ∀ (i j a : Nat), L[i]? = some a → L[j]? = some a → i = j) (hE : ∀ (k i a : Nat), k < 512 → L[i]? = some a → a ≠ X k) (hd : decode cc pc = .ok (i, len)) (h : m_br L.length pc i len st = some (pc', st'))
    (k : W p l e R s m args below meth c H locs cells slots Q (F0 m pc' ls (st'.map (m_tr X L)))) : W p l e R s m args below meth c H locs cells slots Q (F0 m pc ls (st.map (m_tr X L))) := by
  unfold m_br at h
  split at h
  · obtain ⟨x, r, t, rfl, rfl, ht, rfl, rfl⟩ := m_b1_inv h
    exact m_c1_sound hx hb hd ht (fun h1 => by rw [if_pos h1] at k; exact k) (fun h1 => by rw [if_neg (by rw [h1]; decide)] at k; exact k)
  · obtain ⟨x, y, r, t, rfl, rfl, ht, rfl, rfl⟩ := m_bb_inv h
    exact m_c2_sound hx hb hd ht (fun h1 => by rw [if_pos h1] at k; exact k) (fun h1 => by rw [if_neg (by rw [h1]; decide)] at k; exact k)
  · unfold m_bn at h
    split at h
    · split at h
      · rename_i h3; subst h3
        obtain ⟨t, ht, e1⟩ := Option.map_eq_some_iff.mp h
        cases e1
        exact lv_ifnullN hx hb hd (m_jmp_ok ht) k
      · cases h
    · split at h
      · rename_i h3; subst h3
        obtain ⟨t, ht, e1⟩ := Option.map_eq_some_iff.mp h
        cases e1
        exact lv_ifnull hx hb hd k
      · cases h
    · cases h
  · unfold m_bn at h
    split at h
    · split at h
      · rename_i h3; subst h3
        obtain ⟨t, ht, e1⟩ := Option.map_eq_some_iff.mp h
        cases e1
        exact lv_ifnonnullN hx hb hd k
      · cases h
    · split at h
      · rename_i h3; subst h3
        obtain ⟨t, ht, e1⟩ := Option.map_eq_some_iff.mp h
        cases e1
        exact lv_ifnonnull hx hb hd (m_jmp_ok ht) k
      · cases h
    · cases h
  · unfold m_ba at h
    split at h
    · rename_i vb va r
      split at h
      · rename_i x y hxa hyb
        split at h
        · rename_i h3
          obtain ⟨rfl, h4⟩ := h3
          obtain ⟨t, ht, e1⟩ := Option.map_eq_some_iff.mp h
          cases e1
          show W p l e R s m args below meth c H locs cells slots Q (F0 m pc ls (m_tr X L vb :: m_tr X L va :: st'.map (m_tr X L)))
          rw [m_rf_t hxa, m_rf_t hyb]
          refine lv_acmp_eq hx hb hd (m_jmp_ok ht) (fun h1 => ?_) (fun h1 => ?_)
          · by_cases hxy : x = y
            · simpa [hxy] using k
            · exfalso
              have h5 := h4.resolve_left hxy
              cases x with
              | none => cases y with
                | none => exact hxy rfl
                | some b => cases h1
              | some a => cases y with
                | none => cases h1
                | some b => exact m_ad_ne hN hE (fun e2 => hxy (by rw [e2])) h5 (Option.some.inj h1)
          · have hxy : ¬ x = y := fun e2 => h1 (by rw [e2])
            simpa [hxy] using k
        · cases h
      · cases h
    · cases h
  · unfold m_ba at h
    split at h
    · rename_i vb va r
      split at h
      · rename_i x y hxa hyb
        split at h
        · rename_i h3
          obtain ⟨rfl, h4⟩ := h3
          obtain ⟨t, ht, e1⟩ := Option.map_eq_some_iff.mp h
          cases e1
          show W p l e R s m args below meth c H locs cells slots Q (F0 m pc ls (m_tr X L vb :: m_tr X L va :: st'.map (m_tr X L)))
          rw [m_rf_t hxa, m_rf_t hyb]
          refine lv_acmp_ne hx hb hd (m_jmp_ok ht) (fun h1 => ?_) (fun h1 => ?_)
          · have hxy : ¬ x = y := fun e2 => h1 (by rw [e2])
            simpa [hxy] using k
          · by_cases hxy : x = y
            · simpa [hxy] using k
            · exfalso
              have h5 := h4.resolve_left hxy
              cases x with
              | none => cases y with
                | none => exact hxy rfl
                | some b => cases h1
              | some a => cases y with
                | none => cases h1
                | some b => exact m_ad_ne hN hE (fun e2 => hxy (by rw [e2])) h5 (Option.some.inj h1)
        · cases h
      · cases h
    · cases h
  · split at h
    · rename_i h3; subst h3
      obtain ⟨t, ht, e1⟩ := Option.map_eq_some_iff.mp h
      cases e1
      exact lv_goto hx hb hd (m_jmp_ok ht) k
    · cases h
  · unfold m_tsw at h
    split at h
    · split at h
      · rename_i h1
        obtain ⟨t, ht, e1⟩ := Option.map_eq_some_iff.mp h
        cases e1
        exact lv_tableOut hx hb hd h1 (m_jmp_ok ht) k
      · rename_i h1
        split at h
        · rename_i ho
          obtain ⟨t, ht, e1⟩ := Option.map_eq_some_iff.mp h
          cases e1
          exact lv_tableIn hx hb hd (fun g => h1 (Or.inl g)) (fun g => h1 (Or.inr g)) ho (m_jmp_ok ht) k
        · cases h
    · cases h
  · unfold m_lsw at h
    split at h
    · split at h
      · rename_i h1
        obtain ⟨t, ht, e1⟩ := Option.map_eq_some_iff.mp h
        cases e1
        exact lv_lookup hx hb hd h1 rfl (m_jmp_ok ht) k
      · cases h
    · cases h
  · cases h
end MB
