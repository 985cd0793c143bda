/-! Steps that make cells; casts, texts, references handed back; calls of constructors. -/
theorem m_at_app {w : List mM} {a : Nat} {c : mM} {x : List mM} (h : m_at w a = some c) : m_at (w ++ x) a = some c := by
  unfold m_at at h ⊢
  split at h
  · cases h
  · rename_i h1
    rw [if_neg h1, List.getElem?_append_left (List.getElem?_eq_some_iff.mp h).1]
    exact h
theorem m_at_new {w : List mM} {c : mM} : m_at (w ++ [c]) (512 + w.length) = some c := by
  unfold m_at
  rw [if_neg (by omega), show 512 + w.length - 512 = w.length by omega, List.getElem?_append_right (Nat.le_refl _), Nat.sub_self]
  rfl
section
variable {ic : mI → mF → Option mR} {I J : mI} {pc pc' n k a b ci N j : Nat} {lv lv' : List (Nat × Value)} {st r as rest : List Value} {w : List mM} {x y z : Int32} {v : Value} {els : List (Nat × Value)} {fs : List Value}
theorem x_hsa {i : Instr} {w' : List mM} {st' : List Value} {ds : Nat} (hd : m_dn I pc i n pc') (h0 : m_ps i st = none) (h1 : m_lo I.2.2.1 i lv st = none) (h2 : m_br w.length pc i n st = none) (h : m_hs I i st w = some (n, st', w', 1, ds)) (ho : m_okf (pc, lv, st, w) = true) : m_nx ic I (pc, lv, st, w) = some ((pc', lv, st', w'), 1, ds, 0, 0) := by
  obtain ⟨h9, rfl⟩ := hd
  unfold m_nx
  simp only [h9, h0, h1, h2, h, ho, or_true, and_true, if_true]
theorem x_new {kk : Value} (hd : m_dn I pc (.new k) 3 pc') (ho : m_oe I 0 k = some (ci, kk)) (hf : m_fd[ci]? = some fs) (hok : m_okf (pc, lv, st, w) = true) : m_nx ic I (pc, lv, st, w) = some ((pc', lv, .ref (512 + w.length) :: st, w ++ [.inr (ci, fs)]), 1, fs.length, 0, 0) := by
  refine x_hsa hd rfl rfl rfl ?_ hok
  simp only [m_hs, m_new, ho, hf]
theorem x_newa {t : ArrayType} {t9 : Nat} (hd : m_dn I pc (.newarray t) 2 pc') (ht : m_aty t = some t9) (h0 : ¬ y < 0) (hN : y.toNatClampNeg = N) (h1 : ¬ 65536 < N) (hok : m_okf (pc, lv, .int y :: st, w) = true) : m_nx ic I (pc, lv, .int y :: st, w) = some ((pc', lv, .ref (512 + w.length) :: st, w ++ [.inl (t9, N, [])]), 1, N, 0, 0) := by
  refine x_hsa hd rfl rfl rfl ?_ hok
  simp only [m_hs, m_newa, ht, m_mka, hN]
  rw [if_neg (fun h => h.elim h0 h1)]
theorem x_anew {t9 : Nat} {kk : Value} (hd : m_dn I pc (.anewarray k) 3 pc') (ht : m_oe I 1 k = some (t9, kk)) (h0 : ¬ y < 0) (hN : y.toNatClampNeg = N) (h1 : ¬ 65536 < N) (hok : m_okf (pc, lv, .int y :: st, w) = true) : m_nx ic I (pc, lv, .int y :: st, w) = some ((pc', lv, .ref (512 + w.length) :: st, w ++ [.inl (t9, N, [])]), 1, N, 0, 0) := by
  refine x_hsa hd rfl rfl rfl ?_ hok
  simp only [m_hs, m_anew, ht, m_mka, hN]
  rw [if_neg (fun h => h.elim h0 h1)]
theorem x_aastore {t : Nat} {C : String} (hd : m_dn I pc .aastore 1 pc') (hw : m_at w a = some (.inl (t, N, els))) (ht : m_tyl[t]? = some (.object C)) (h6 : ¬ t < 6) (hi : ¬ y < 0) (hj : y.toNatClampNeg = j) (hN : j < N) (hb : m_at w b = some (.inr (ci, fs))) (hc : (ci, t) ∈ m_ass ∨ (ci, t) ∈ m_asl) : m_nx ic I (pc, lv, .ref b :: .int y :: .ref a :: r, w) = some ((pc', lv, r, w.set (a - 512) (.inl (t, N, m_sel els j (.ref b)))), 0, 0, 0, 0) := by
  refine x_hs hd rfl rfl rfl ?_
  have h2 : ¬ (y < 0 ∨ N ≤ j) := fun h => h.elim hi (fun h => absurd hN (Nat.not_lt.mpr h))
  simp only [m_hs, m_aast, hw, ht, hj]
  rw [if_pos ⟨h6, h2⟩]
  simp only [hb]
  rw [if_pos hc]
theorem x_aastore0 {t : Nat} {C : String} (hd : m_dn I pc .aastore 1 pc') (hw : m_at w a = some (.inl (t, N, els))) (ht : m_tyl[t]? = some (.object C)) (h6 : ¬ t < 6) (hi : ¬ y < 0) (hj : y.toNatClampNeg = j) (hN : j < N) : m_nx ic I (pc, lv, .null :: .int y :: .ref a :: r, w) = some ((pc', lv, r, w.set (a - 512) (.inl (t, N, m_sel els j .null))), 0, 0, 0, 0) := by
  refine x_hs hd rfl rfl rfl ?_
  have h2 : ¬ (y < 0 ∨ N ≤ j) := fun h => h.elim hi (fun h => absurd hN (Nat.not_lt.mpr h))
  simp only [m_hs, m_aast, hw, ht, hj]
  rw [if_pos ⟨h6, h2⟩]
theorem x_xs {i : Instr} {st' : List Value} (hd : m_dn I pc i n pc') (h0 : m_ps i st = none) (h1 : m_lo I.2.2.1 i lv st = none) (h2 : m_br w.length pc i n st = none) (h3 : m_hs I i st w = none) (h : m_xs I i st w = some (n, st')) : m_nx ic I (pc, lv, st, w) = some ((pc', lv, st', w), 0, 0, 0, 0) := by
  obtain ⟨h9, rfl⟩ := hd
  unfold m_nx
  simp only [h9, h0, h1, h2, h3, h, if_true]
theorem x_cast {kk : Value} (hd : m_dn I pc (.checkcast k) 3 pc') (ho : m_oe I 6 k = some (ci, kk)) (hw : m_at w a = some (.inr (ci, fs))) : m_nx ic I (pc, lv, .ref a :: r, w) = some ((pc', lv, .ref a :: r, w), 0, 0, 0, 0) := by
  refine x_xs hd rfl rfl rfl rfl ?_
  simp only [m_xs, m_xc, ho, hw, if_true]
theorem x_cast0 (hd : m_dn I pc (.checkcast k) 3 pc') : m_nx ic I (pc, lv, .null :: r, w) = some ((pc', lv, .null :: r, w), 0, 0, 0, 0) := x_xs hd rfl rfl rfl rfl rfl
theorem x_text {kk : Value} (hd : m_dn I pc (.ldc k) 2 pc') (h2 : m_oe I 2 k = none) (ho : m_oe I 5 k = some (a, kk)) : m_nx ic I (pc, lv, st, w) = some ((pc', lv, .ref a :: st, w), 0, 0, 0, 0) := by
  refine x_xs hd rfl rfl rfl ?_ ?_
  · simp only [m_hs, m_ldc, h2]
  · simp only [m_xs, m_xt, ho, Option.map_some]
theorem x_textw {kk : Value} (hd : m_dn I pc (.ldc_w k) 3 pc') (h2 : m_oe I 2 k = none) (ho : m_oe I 5 k = some (a, kk)) : m_nx ic I (pc, lv, st, w) = some ((pc', lv, .ref a :: st, w), 0, 0, 0, 0) := by
  refine x_xs hd rfl rfl rfl ?_ ?_
  · simp only [m_hs, m_ldc, h2]
  · simp only [m_xs, m_xt, ho, Option.map_some]
theorem x_lsw {d : Int} {ps : Array (Int × Int)} {t : Nat} (hd : m_dn I pc (.lookupswitch d ps) n pc') (h : m_lsw pc d ps (.int x :: r) = some (t, r)) : m_nx ic I (pc, lv, .int x :: r, w) = some ((t, lv, r, w), 0, 0, 0, 0) := x_br hd rfl rfl h
theorem x_caload {t : Nat} (hd : m_dn I pc .caload 1 pc') (hw : m_at w a = some (.inl (t, N, els))) (ht : decide (t = 2) = true) (hi : ¬ y < 0) (hj : y.toNatClampNeg = j) (hN : j < N) (hv : m_el t els j = .int x) : m_nx ic I (pc, lv, .int y :: .ref a :: r, w) = some ((pc', lv, .int x :: r, w), 0, 0, 0, 0) := by
  refine x_hs hd rfl rfl rfl ?_
  have h1 : ¬ t = 1 := by
    intro e
    subst e
    revert ht
    decide
  have h2 : ¬ (y < 0 ∨ N ≤ j) := fun h => h.elim hi (fun h => absurd hN (Nat.not_lt.mpr h))
  simp only [m_hs, m_ald, hw, hj, hv, m_toI]
  rw [if_pos ⟨ht, h2⟩, if_neg h1]
theorem x_c0 {i : Instr} {st' : List Value} {f9 l9 : Nat} (hd : m_dn I pc i 3 pc') (h0 : m_ps i st = none) (h1 : m_lo I.2.2.1 i lv st = none) (h2 : m_br w.length pc i 3 st = none) (h3 : m_hs I i st w = none) (h4 : m_xs I i st w = none) (h : m_c0 I i st = some (st', f9, l9)) : m_nx ic I (pc, lv, st, w) = some ((pc', lv, st', w), 0, 0, f9, l9) := by
  obtain ⟨h9, rfl⟩ := hd
  unfold m_nx
  simp only [h9, h0, h1, h2, h3, h4, h, if_true]
theorem x_oinit {q1 q2 : Nat} (hd : m_dn I pc (.invokespecial k) 3 pc') (hc : m_ce I k = some (4, q1, q2)) (h8 : (r.map fun v => v.category).sum ≤ 8) : m_nx ic I (pc, lv, .ref a :: r, w) = some ((pc', lv, r, w), 0, 0, 1, 20) := by
  refine x_c0 hd rfl rfl rfl rfl rfl ?_
  simp only [m_c0, hc]
  rw [if_pos h8]
theorem x_max {q1 q2 : Nat} (hd : m_dn I pc (.invokestatic k) 3 pc') (hc : m_ce I k = some (5, q1, q2)) (h8 : (r.map fun v => v.category).sum ≤ 8) (hz : (if x < y then y else x) = z) : m_nx ic I (pc, lv, .int y :: .int x :: r, w) = some ((pc', lv, .int z :: r, w), 0, 0, 1, 21) := by
  refine x_c0 hd rfl rfl rfl rfl rfl ?_
  simp only [m_c0, hc]
  rw [if_pos h8, hz]
theorem x_min {q1 q2 : Nat} (hd : m_dn I pc (.invokestatic k) 3 pc') (hc : m_ce I k = some (6, q1, q2)) (h8 : (r.map fun v => v.category).sum ≤ 8) (hz : (if y < x then y else x) = z) : m_nx ic I (pc, lv, .int y :: .int x :: r, w) = some ((pc', lv, .int z :: r, w), 0, 0, 1, 21) := by
  refine x_c0 hd rfl rfl rfl rfl rfl ?_
  simp only [m_c0, hc]
  rw [if_pos h8, hz]
theorem x_ci {kd mid x9 : Nat} (hd : m_dn I pc (.invokespecial k) 3 pc') (hc : m_ce I k = some (kd, mid, x9)) (hk : kd = 0 ∨ kd = 3) (hJ : m_mt[mid]? = some J) (ht : m_takeI J st = some (J, as, rest)) (ho : m_okf (pc, lv, st, w) = true) (ha : decide ((lg_sl as).length ≤ J.2.2.1) = true) : m_at1 I (pc, lv, st, w) = some (J, as, rest) := by
  unfold m_at1
  have h0 : m_c0 I (.invokespecial k) st = none := by
    rcases hk with rfl | rfl <;> simp only [m_c0, hc]
  have h1 : m_ps (.invokespecial k) st = none := rfl
  have h2 : m_lo I.2.2.1 (.invokespecial k) lv st = none := rfl
  have h3 : m_br w.length pc (.invokespecial k) 3 st = none := rfl
  have h4 : m_hs I (.invokespecial k) st w = none := rfl
  have h5 : m_xs I (.invokespecial k) st w = none := rfl
  have h6 : m_ca I (.invokespecial k) st w = some (J, as, rest) := by
    unfold m_ca
    simp only [hc, if_pos hk, hJ, ht]
  simp only [hd.1, h1, h2, h3, h4, h5, h0, h6]
  rw [if_pos ⟨trivial, ho, of_decide_eq_true ha⟩]
end
theorem m_rt_ar {I : mI} {pc pc' a : Nat} {lv : List (Nat × Value)} {c9 : String} {w : List mM} (hd : m_dn I pc .areturn 1 pc') (hty : I.2.2.2.2.1 = some (.object c9)) : m_rt I (pc, lv, [.ref a], w) = some (some (.ref a)) := by
  unfold m_rt
  simp only [hd.1]
  unfold m_re
  simp only [hty]
  rfl
theorem m_rt_aa {I : mI} {pc pc' a : Nat} {lv : List (Nat × Value)} {c9 : FieldType} {w : List mM} (hd : m_dn I pc .areturn 1 pc') (hty : I.2.2.2.2.1 = some (.array c9)) : m_rt I (pc, lv, [.ref a], w) = some (some (.ref a)) := by
  unfold m_rt
  simp only [hd.1]
  unfold m_re
  simp only [hty]
  rfl
theorem m_rt_ir {I : mI} {pc pc' : Nat} {lv : List (Nat × Value)} {x : Int32} {w : List mM} {ty : FieldType} (hd : m_dn I pc .ireturn 1 pc') (hty : I.2.2.2.2.1 = some ty) (hn : narrow ty (.int x) = .int x) : m_rt I (pc, lv, [.int x], w) = some (some (.int x)) := by
  unfold m_rt
  simp only [hd.1]
  unfold m_re
  simp only [hty]
  rw [if_pos ⟨trivial, hn⟩]
theorem m_rt_vr {I : mI} {pc pc' : Nat} {lv : List (Nat × Value)} {w : List mM} (hd : m_dn I pc .return_ 1 pc') (hty : I.2.2.2.2.1 = none) : m_rt I (pc, lv, [], w) = some none := by
  unfold m_rt
  simp only [hd.1]
  unfold m_re
  simp only [hty]
  rfl
