/-! use, in the class and in the reference. -/
theorem map_erase {L : List (Nat × Nat)} {i : Nat} : (L.map Prod.fst).eraseIdx i = (L.eraseIdx i).map Prod.fst := by
  induction L generalizing i with
  | nil => rfl
  | cons a L ih =>
    cases i with
    | zero => rfl
    | succ i => simp only [List.map_cons, List.eraseIdx_cons_succ, ih]
section
variable {T : tT} {S : mS} {F n U : Nat} {X Y : List (Nat × Nat)} {q : Nat × Nat}
theorem m_usec (hq : q.2 < 7168) (hU : S.1 58 = Int32.ofNat U) : ∃ S3, (bput 7168 S 602 (Int32.ofNat q.2) 1).bind (fun S1 => D_m_newest F (Int32.ofNat q.2) S1) = some S3 ∧ (∀ a k, rd S3 a k = if a = 608 ∧ k = q.2 then Int32.ofNat (U + 1) else if a = 602 ∧ k = q.2 then 1 else rd S a k) ∧ ∀ i, S3.1 i = if i = 58 then Int32.ofNat (U + 1) else S.1 i := by
  refine ⟨up2 (up1 (up2 S 602 q.2 1) 58 (Int32.ofNat (U + 1))) 608 q.2 (Int32.ofNat (U + 1)), ?_, fun a k => ?_, fun i => ?_⟩
  · rw [bput_n hq (by decide) (Or.inr rfl), Option.bind_some]
    unfold D_m_newest
    simp only [fput, Option.bind_some, up2_1, hU, p1]
    rw [aput_n hq (by decide), up1_1, if_pos rfl]
    rfl
  · rw [rd_up2, rd_up1, rd_up2]
  · rw [up2_1, up1_1, up2_1]
/-- a list without its place i -/
theorem tlr_i {l c i : Nat} {L : List (Nat × Nat)} (hl : T.1 l = some (.inr (.inr (c, L.map Prod.fst)))) (hi : L[i]? = some q) (h4 : L.length < 400) : tlr T l (Int32.ofNat i) = some (q.1, tset T l (.inr (.inr (c, (L.eraseIdx i).map Prod.fst)))) := by
  have hi9 := (List.getElem?_eq_some_iff.mp hi).1
  simp only [tlr, tl, hl, Option.bind_some]
  rw [if_neg (m_n_neg (by omega)), m_n_cl (by omega), List.getElem?_map, hi, map_erase]
  rfl
theorem tla_e {l c : Nat} {L : List Nat} {fs : List Value} (hl : T.1 l = some (.inr (.inr (c, L)))) (hq : T.1 q.1 = some (.inl (11, fs))) (h4 : L.length < 366) : tla T l q.1 = some ((tset T l (.inr (.inr (l_cap c L.length, L ++ [q.1])))).1, T.2.1 + (if L.length < c then 0 else 1), T.2.2 + (if L.length < c then 0 else l_cap c L.length)) := by
  simp only [tla, tl, hl, Option.bind_some, hq]
  rw [if_pos ⟨h4, by decide⟩]
theorem ne_m1 {i : Nat} (h : i < 2147483648) : m_c2 .ne (Int32.ofNat i) (-1) = true := by
  refine decide_eq_true ?_
  intro z
  have := congrArg Int32.toInt z
  rw [Int32.toInt_ofNat_of_lt h] at this
  have h9 : (-1 : Int32).toInt = -1 := by decide
  omega
/-- the class's part before balance -/
theorem c_use_pre (hF : 400 ≤ F) (h : RS T S n X Y) (hU : RTn S U) (hU2 : U + 1 < 2147483648) (hl : X.length + Y.length < 365) (hq : q ∈ X ++ Y) (h5 : 512 ≤ q.1) {S3 : mS} (s1 : ∀ a k, rd S3 a k = if a = 608 ∧ k = q.2 then Int32.ofNat (U + 1) else if a = 602 ∧ k = q.2 then 1 else rd S a k) (s2 : ∀ i, S3.1 i = if i = 58 then Int32.ofNat (U + 1) else S.1 i) : ∃ T3 X' Y', D_c_Store_use F (528 + 8 * n) (some q.1) T = (D_c_Store_balance F (528 + 8 * n) T3).bind (fun T29 => some T29) ∧ RS T3 S3 n X' Y' ∧ RTn S3 (U + 1) ∧ FrT n [q.1] T T3 ∧ FrS n S S3 ∧ (∀ r, r ∈ X' ∨ r ∈ Y' → r ∈ X ∨ r ∈ Y) ∧ X'.length + Y'.length = X.length + Y.length ∧ Y'.length ≤ Y.length + 1 ∧ q ∈ Y' := by
  obtain ⟨e1, e2, e3, e4, e5, e6, e7, e8⟩ := h.stC
  obtain ⟨a8, a9, a10⟩ := h.addr (List.mem_append.mp hq)
  have hpX := h.2.2.2.2.2.2.1
  have hpY := h.2.2.2.2.2.2.2.1
  obtain ⟨n1, n2, n3⟩ := h.nodup
  obtain ⟨hn, h2, ⟨cX, h3⟩, ⟨cY, h4⟩, g5, g6, -⟩ := id h
  rcases List.mem_append.mp hq with hx | hy
  · obtain ⟨i, hi⟩ := List.mem_iff_getElem?.mp hx
    have hi9 := (List.getElem?_eq_some_iff.mp hi).1
    obtain ⟨t, c1, c2, c3⟩ := (g5 q hx).full
    let T4 : tT := tset T (529 + 8 * n) (.inr (.inr (cX, (X.eraseIdx i).map Prod.fst)))
    let T11 : tT := tset T4 q.1 (cEntry (Int32.ofNat (eP q.2)) (Int32.ofNat (eV q.2)) t (Int32.ofNat (q.2 % 8)) (rd S 604 q.2) (rd S 605 q.2) (rd S 606 q.2) (rd S 607 q.2) 1)
    have t4q : T4.1 q.1 = some (cEntry (Int32.ofNat (eP q.2)) (Int32.ofNat (eV q.2)) t (Int32.ofNat (q.2 % 8)) (rd S 604 q.2) (rd S 605 q.2) (rd S 606 q.2) (rd S 607 q.2) 0) := by
      show (tset _ _ _).1 _ = _
      rw [tset_1, if_neg a9]
      exact c1
    have t11 : ∀ b, T11.1 b = if b = q.1 then some (cEntry (Int32.ofNat (eP q.2)) (Int32.ofNat (eV q.2)) t (Int32.ofNat (q.2 % 8)) (rd S 604 q.2) (rd S 605 q.2) (rd S 606 q.2) (rd S 607 q.2) 1) else if b = 529 + 8 * n then some (.inr (.inr (cX, (X.eraseIdx i).map Prod.fst))) else T.1 b := fun b => rfl
    have z1 : T11.1 (530 + 8 * n) = some (.inr (.inr (cY, Y.map Prod.fst))) := by rw [t11, if_neg (fun z => a10 z.symm), if_neg (by omega)]; exact h4
    have z2 : T11.1 (528 + 8 * n) = some (.inl (5, [.ref (529 + 8 * n), .ref (530 + 8 * n), .int (rd S 592 n)])) := by rw [t11, if_neg (fun z => a8 z.symm), if_neg (by omega)]; exact h2
    obtain ⟨fs9, z3⟩ : ∃ fs, T11.1 q.1 = some (.inl (11, fs)) := ⟨_, (t11 q.1).trans (if_pos rfl)⟩
    let T3 : tT := ((tset T11 (530 + 8 * n) (.inr (.inr (l_cap cY (Y.map Prod.fst).length, Y.map Prod.fst ++ [q.1])))).1, T11.2.1 + (if (Y.map Prod.fst).length < cY then 0 else 1), T11.2.2 + (if (Y.map Prod.fst).length < cY then 0 else l_cap cY (Y.map Prod.fst).length))
    have hT : ∀ b, T3.1 b = if b = 529 + 8 * n then some (.inr (.inr (cX, (X.eraseIdx i).map Prod.fst))) else if b = 530 + 8 * n then some (.inr (.inr (l_cap cY (Y.map Prod.fst).length, (Y ++ [q]).map Prod.fst))) else if b = q.1 then some (cEntry (Int32.ofNat (eP q.2)) (Int32.ofNat (eV q.2)) t (Int32.ofNat (q.2 % 8)) (rd S 604 q.2) (rd S 605 q.2) (rd S 606 q.2) (rd S 607 q.2) 1) else T.1 b := by
      intro b
      show (tset _ _ _).1 b = _
      rw [tset_1, t11, List.map_append]
      by_cases w1 : b = 529 + 8 * n
      · simp only [if_pos w1, if_neg (show ¬ b = 530 + 8 * n by omega), if_neg (show ¬ b = q.1 from fun z => a9 (by rw [← z]; exact w1))]
      · by_cases w2 : b = 530 + 8 * n
        · simp only [if_neg w1, if_pos w2]
          rfl
        · by_cases w3 : b = q.1
          · simp only [if_neg w1, if_neg w2, if_pos w3]
          · simp only [if_neg w1, if_neg w2, if_neg w3]
    have me := mem_erase hpX hi
    obtain ⟨r1, r2, r3, r4⟩ := h.rebuild hU hU2 (q := q) (Or.inl hx) (k' := 1) (X' := X.eraseIdx i) (Y' := Y ++ [q]) (T' := T3) (S' := S3) ⟨0, c1⟩ hT ⟨Nat.le_add_right _ _, Nat.le_add_right _ _⟩ s1 s2
      (fun r hr => Or.inr ⟨((me r).mp hr).2, ((me r).mp hr).1⟩)
      (fun r hr => by
        rcases List.mem_append.mp hr with hr | hr
        · exact Or.inr ⟨fun e => n3 q hx r hr e.symm, hr⟩
        · exact Or.inl ⟨List.mem_singleton.mp hr, rfl⟩)
      (fun r hr => by
        rcases hr with hr | hr
        · by_cases e : r.2 = q.2
          · have : r = q := by
              obtain ⟨j, hj⟩ := List.mem_iff_getElem?.mp hr
              have := pw_inj hpX hj hi e
              subst this
              rw [hi] at hj
              exact (Option.some.inj hj).symm
            exact Or.inr (List.mem_append_right _ (by rw [this]; exact List.mem_singleton.mpr rfl))
          · exact Or.inl ((me r).mpr ⟨hr, e⟩)
        · exact Or.inr (List.mem_append_left _ hr))
      (List.Pairwise.imp_of_mem (fun {a b} ha hb z => ⟨((me a).mp ha).2, Or.inr ⟨((me b).mp hb).2, z⟩⟩) (hpX.sublist (List.eraseIdx_sublist _ _)))
      (List.pairwise_append.mpr ⟨List.Pairwise.imp_of_mem (fun {a b} ha hb z => ⟨fun e => n3 q hx a ha e.symm, Or.inr ⟨fun e => n3 q hx b hb e.symm, z⟩⟩) hpY, List.pairwise_singleton _ _, fun a ha b hb => ⟨fun e => n3 q hx a ha e.symm, Or.inl (List.mem_singleton.mp hb)⟩⟩)
    refine ⟨T3, X.eraseIdx i, Y ++ [q], ?_, r1, r2, r3, r4, fun r hr => ?_, ?_, by simp, List.mem_append_right _ (List.mem_singleton.mpr rfl)⟩
    · have rm : D_c_Store_remove F (528 + 8 * n) (some q.1) T = some T4 := by
        simp only [D_c_Store_remove, e1, e2, e3, c_placeX hF h (by omega) hi h5, Option.bind_some, ne_m1 (show i < 2147483648 by omega), cond_true, tgi_o (k := 8) c1 rfl, show m_c1 .eq (0 : Int32) = true from rfl, bd2, tlr_i h3 hi (by omega)]
        rfl
      have tz : tpz T4 q.1 11 8 1 = some T11 := by
        show (if (1 : Int32) = 0 ∨ (1 : Int32) = 1 then tp T4 q.1 11 8 (.int 1) else none) = _
        rw [if_pos (Or.inr rfl), tp_o t4q (show 8 < 9 by decide)]
        rfl
      have ta9 : tla T11 (530 + 8 * n) q.1 = some T3 := tla_e z1 z3 (by rw [List.length_map]; omega)
      have cl3 : tcl T3 (528 + 8 * n) 5 = some () := r1.stC.1
      simp only [D_c_Store_use, e1, rm, Option.bind_some, tz, tgr_o (k := 1) (x := some (530 + 8 * n)) z2 rfl, ta9, cl3]
    · rcases hr with hr | hr
      · exact Or.inl ((me r).mp hr).1
      · rcases List.mem_append.mp hr with hr | hr
        · exact Or.inr hr
        · exact Or.inl (by rw [List.mem_singleton.mp hr]; exact hx)
    · rw [List.length_eraseIdx_of_lt hi9, List.length_append]
      simp
      omega
  · obtain ⟨i, hi⟩ := List.mem_iff_getElem?.mp hy
    have hi9 := (List.getElem?_eq_some_iff.mp hi).1
    obtain ⟨t, c1, c2, c3⟩ := (g6 q hy).full
    let T4 : tT := tset T (530 + 8 * n) (.inr (.inr (cY, (Y.eraseIdx i).map Prod.fst)))
    let T11 : tT := tset T4 q.1 (cEntry (Int32.ofNat (eP q.2)) (Int32.ofNat (eV q.2)) t (Int32.ofNat (q.2 % 8)) (rd S 604 q.2) (rd S 605 q.2) (rd S 606 q.2) (rd S 607 q.2) 1)
    have t4q : T4.1 q.1 = some (cEntry (Int32.ofNat (eP q.2)) (Int32.ofNat (eV q.2)) t (Int32.ofNat (q.2 % 8)) (rd S 604 q.2) (rd S 605 q.2) (rd S 606 q.2) (rd S 607 q.2) 1) := by
      show (tset _ _ _).1 _ = _
      rw [tset_1, if_neg a10]
      exact c1
    have t11 : ∀ b, T11.1 b = if b = q.1 then some (cEntry (Int32.ofNat (eP q.2)) (Int32.ofNat (eV q.2)) t (Int32.ofNat (q.2 % 8)) (rd S 604 q.2) (rd S 605 q.2) (rd S 606 q.2) (rd S 607 q.2) 1) else if b = 530 + 8 * n then some (.inr (.inr (cY, (Y.eraseIdx i).map Prod.fst))) else T.1 b := fun b => rfl
    have z1 : T11.1 (530 + 8 * n) = some (.inr (.inr (cY, (Y.eraseIdx i).map Prod.fst))) := by rw [t11, if_neg (fun z => a10 z.symm), if_pos rfl]
    have z2 : T11.1 (528 + 8 * n) = some (.inl (5, [.ref (529 + 8 * n), .ref (530 + 8 * n), .int (rd S 592 n)])) := by rw [t11, if_neg (fun z => a8 z.symm), if_neg (by omega)]; exact h2
    obtain ⟨fs9, z3⟩ : ∃ fs, T11.1 q.1 = some (.inl (11, fs)) := ⟨_, (t11 q.1).trans (if_pos rfl)⟩
    let T3 : tT := ((tset T11 (530 + 8 * n) (.inr (.inr (l_cap cY ((Y.eraseIdx i).map Prod.fst).length, (Y.eraseIdx i).map Prod.fst ++ [q.1])))).1, T11.2.1 + (if ((Y.eraseIdx i).map Prod.fst).length < cY then 0 else 1), T11.2.2 + (if ((Y.eraseIdx i).map Prod.fst).length < cY then 0 else l_cap cY ((Y.eraseIdx i).map Prod.fst).length))
    have hT : ∀ b, T3.1 b = if b = 529 + 8 * n then some (.inr (.inr (cX, X.map Prod.fst))) else if b = 530 + 8 * n then some (.inr (.inr (l_cap cY ((Y.eraseIdx i).map Prod.fst).length, (Y.eraseIdx i ++ [q]).map Prod.fst))) else if b = q.1 then some (cEntry (Int32.ofNat (eP q.2)) (Int32.ofNat (eV q.2)) t (Int32.ofNat (q.2 % 8)) (rd S 604 q.2) (rd S 605 q.2) (rd S 606 q.2) (rd S 607 q.2) 1) else T.1 b := by
      intro b
      show (tset _ _ _).1 b = _
      rw [tset_1, t11, List.map_append]
      by_cases w1 : b = 529 + 8 * n
      · simp only [if_pos w1, if_neg (show ¬ b = 530 + 8 * n by omega), if_neg (show ¬ b = q.1 from fun z => a9 (by rw [← z]; exact w1))]
        rw [w1]
        exact h3
      · by_cases w2 : b = 530 + 8 * n
        · simp only [if_neg w1, if_pos w2]
          rfl
        · by_cases w3 : b = q.1
          · simp only [if_neg w1, if_neg w2, if_pos w3]
          · simp only [if_neg w1, if_neg w2, if_neg w3]
    have me := mem_erase hpY hi
    obtain ⟨r1, r2, r3, r4⟩ := h.rebuild hU hU2 (q := q) (Or.inr hy) (k' := 1) (X' := X) (Y' := Y.eraseIdx i ++ [q]) (T' := T3) (S' := S3) ⟨1, c1⟩ hT ⟨Nat.le_add_right _ _, Nat.le_add_right _ _⟩ s1 s2
      (fun r hr => Or.inr ⟨fun e => n3 r hr q hy e, hr⟩)
      (fun r hr => by
        rcases List.mem_append.mp hr with hr | hr
        · exact Or.inr ⟨((me r).mp hr).2, ((me r).mp hr).1⟩
        · exact Or.inl ⟨List.mem_singleton.mp hr, rfl⟩)
      (fun r hr => by
        rcases hr with hr | hr
        · exact Or.inl hr
        · by_cases e : r.2 = q.2
          · have : r = q := by
              obtain ⟨j, hj⟩ := List.mem_iff_getElem?.mp hr
              have := pw_inj hpY hj hi e
              subst this
              rw [hi] at hj
              exact (Option.some.inj hj).symm
            exact Or.inr (List.mem_append_right _ (by rw [this]; exact List.mem_singleton.mpr rfl))
          · exact Or.inr (List.mem_append_left _ ((me r).mpr ⟨hr, e⟩)))
      (List.Pairwise.imp_of_mem (fun {a b} ha hb z => ⟨fun e => n3 a ha q hy e, Or.inr ⟨fun e => n3 b hb q hy e, z⟩⟩) hpX)
      (List.pairwise_append.mpr ⟨List.Pairwise.imp_of_mem (fun {a b} ha hb z => ⟨((me a).mp ha).2, Or.inr ⟨((me b).mp hb).2, z⟩⟩) (hpY.sublist (List.eraseIdx_sublist _ _)), List.pairwise_singleton _ _, fun a ha b hb => ⟨((me a).mp ha).2, Or.inl (List.mem_singleton.mp hb)⟩⟩)
    refine ⟨T3, X, Y.eraseIdx i ++ [q], ?_, r1, r2, r3, r4, fun r hr => ?_, ?_, ?_, List.mem_append_right _ (List.mem_singleton.mpr rfl)⟩
    · have rm : D_c_Store_remove F (528 + 8 * n) (some q.1) T = some T4 := by
        simp only [D_c_Store_remove, e1, e2, e3, c_placeY hF h (by omega) hi h5, Option.bind_some, ne_m1 (show i < 2147483648 by omega), cond_true, tgi_o (k := 8) c1 rfl, show m_c1 .eq (1 : Int32) = false from rfl, cond_false, bd2, tlr_i h4 hi (by omega)]
        rfl
      have tz : tpz T4 q.1 11 8 1 = some T11 := by
        show (if (1 : Int32) = 0 ∨ (1 : Int32) = 1 then tp T4 q.1 11 8 (.int 1) else none) = _
        rw [if_pos (Or.inr rfl), tp_o t4q (show 8 < 9 by decide)]
        rfl
      have ta9 : tla T11 (530 + 8 * n) q.1 = some T3 := tla_e z1 z3 (by rw [List.length_map, List.length_eraseIdx_of_lt hi9]; omega)
      have cl3 : tcl T3 (528 + 8 * n) 5 = some () := r1.stC.1
      simp only [D_c_Store_use, e1, rm, Option.bind_some, tz, tgr_o (k := 1) (x := some (530 + 8 * n)) z2 rfl, ta9, cl3]
    · rcases hr with hr | hr
      · exact Or.inl hr
      · rcases List.mem_append.mp hr with hr | hr
        · exact Or.inr ((me r).mp hr).1
        · exact Or.inr (by rw [List.mem_singleton.mp hr]; exact hy)
    · rw [List.length_append, List.length_eraseIdx_of_lt hi9]
      show X.length + (Y.length - 1 + 1) = _
      omega
    · rw [List.length_append, List.length_eraseIdx_of_lt hi9]
      show Y.length - 1 + 1 ≤ _
      omega
/-- use beside use -/
theorem use_both (hF : 1100 ≤ F) (h : RS T S n X Y) (hU : RTn S U) (hU2 : U + Y.length + 2 < 2147483648) (hl : X.length + Y.length < 365) (hq : q ∈ X ++ Y) (h5 : 512 ≤ q.1) : ∃ T' S' X' Y' U' Z, D_c_Store_use F (528 + 8 * n) (some q.1) T = some T' ∧ D_m_use F (Int32.ofNat n) (Int32.ofNat q.2) S = some S' ∧ RS T' S' n X' Y' ∧ RTn S' U' ∧ U' + Y'.length ≤ U + Y.length + 2 ∧ FrT n Z T T' ∧ FrS n S S' ∧ (∀ r, r ∈ X' ∨ r ∈ Y' → r ∈ X ∨ r ∈ Y) ∧ (∀ a ∈ Z, ∃ r, (r ∈ X ∨ r ∈ Y) ∧ r.1 = a) ∧ X'.length + Y'.length ≤ 125 := by
  obtain ⟨k, hk⟩ := h.ent hq
  have hq7 := (hk.rng h.1.2).2.2
  obtain ⟨S3, m1, m2, m3⟩ := m_usec (F := F) hq7 hU.1
  obtain ⟨T3, X3, Y3, c1, c2, c3, c4, c5, c6, c7, c8, c9⟩ := c_use_pre (F := F) (by omega) h hU (by omega) hl hq h5 m2 m3
  obtain ⟨T', S', X', Y', U', b1, b2, ⟨b3, b4, b5, b6, b7, b8, b9⟩, b10⟩ := balance hF (by omega) c2 c3 (by omega)
  have hz : ∀ a ∈ q.1 :: Y3.map Prod.fst, ∃ r, (r ∈ X ∨ r ∈ Y) ∧ r.1 = a := by
    intro a ha
    rcases List.mem_cons.mp ha with rfl | ha
    · exact ⟨q, List.mem_append.mp hq, rfl⟩
    · obtain ⟨r, hr, rfl⟩ := List.mem_map.mp ha
      exact ⟨r, c6 r (Or.inr hr), rfl⟩
  have hl9 : ∀ a ∈ q.1 :: Y3.map Prod.fst, ¬ a = 529 + 8 * n ∧ ¬ a = 530 + 8 * n := by
    intro a ha
    obtain ⟨r, hr, rfl⟩ := hz a ha
    exact (h.addr hr).2
  refine ⟨T', S', X', Y', U', q.1 :: Y3.map Prod.fst, by rw [c1, b1]; rfl, ?_, b3, b4, by omega, (c4.mono (fun a ha => by rw [List.mem_singleton.mp ha]; exact List.mem_cons_self) (fun a ha _ => hl9 a ha)).trans (b6.mono (fun a ha => List.mem_cons_of_mem _ ha) (fun a ha _ => hl9 a ha)), c5.trans b7, fun r hr => c6 r (b8 r hr), hz, b10⟩
  unfold D_m_use
  obtain ⟨S1, d1, d2⟩ := bS m1
  rw [d1, Option.bind_some, d2, Option.bind_some, b2]
  rfl
end
