/-! An entry is removed by its cell; a new one is placed. -/
section
variable {T T' : tT} {S S' : mS} {X Y : List (Nat × Nat)} {F n : Nat} {q : Nat × Nat}
theorem RS.remove (hF : 400 ≤ F) (h : RS T S n X Y) (hl : X.length + Y.length < 399) (hq : q ∈ X ++ Y) (h5 : 512 ≤ q.1) : ∃ T1 X1 Y1, D_c_Store_remove F (528 + 8 * n) (some q.1) T = some T1 ∧ RS T1 (up2 S 601 q.2 0) n X1 Y1 ∧ X1.Sublist X ∧ Y1.Sublist Y ∧ (∀ r ∈ X1 ++ Y1, ¬ r.2 = q.2) ∧ (∀ U, RTn S U → RTn (up2 S 601 q.2 0) U) ∧ FrT n [] T T1 ∧ FrS n S (up2 S 601 q.2 0) ∧ Cs T T1 0 0 := by
  obtain ⟨e1, e2, e3, e4, e5, e6, e7, e8⟩ := h.stC
  obtain ⟨n1, n2, n3⟩ := h.nodup
  have hpX := h.2.2.2.2.2.2.1
  have hpY := h.2.2.2.2.2.2.2.1
  obtain ⟨hn, h2, ⟨cX, h3⟩, ⟨cY, h4⟩, hx5, hy6, -⟩ := id h
  have nm : ∀ {i : Nat}, i < 400 → m_c2 .ne (Int32.ofNat i) ((-1) : Int32) = true := fun hi => ne_m1 (by omega)
  rcases List.mem_append.mp hq with hx | hx
  · obtain ⟨i, hi⟩ := List.mem_iff_getElem?.mp hx
    have hil := (List.getElem?_eq_some_iff.mp hi).1
    have me := mem_erase hpX hi
    obtain ⟨t, c1, _, _⟩ := (hx5 q hx).full
    have pl := c_placeX hF h (by omega) hi h5
    have cs : Cs T (tset T (529 + 8 * n) (.inr (.inr (cX, (X.eraseIdx i).map Prod.fst)))) 0 0 := by
      intro h0
      have := h0.2 _ _ _ h3
      exact Cs.list (n := cX) (xs := X.map Prod.fst) (n' := cX) (xs' := (X.eraseIdx i).map Prod.fst) h3 (fun _ => rfl) this.2.1 this.2.2 (Nat.le_refl _) (fun _ => Nat.le_refl _) (fun _ => Nat.le_refl _) h0
    obtain ⟨r1, r2, r3, r4⟩ := h.del (q := q) (X1 := X.eraseIdx i) (Y1 := Y) (cX := cX) (cY := cY) (T1 := tset T (529 + 8 * n) (.inr (.inr (cX, (X.eraseIdx i).map Prod.fst)))) (Or.inl hx) (fun b => by
      rw [tset_1]
      by_cases w1 : b = 529 + 8 * n
      · simp only [if_pos w1]
      · by_cases w2 : b = 530 + 8 * n
        · simp only [if_neg w1, if_pos w2]
          rw [w2]
          exact h4
        · simp only [if_neg w1, if_neg w2]) rfl (List.eraseIdx_sublist _ _) (List.Sublist.refl _) (fun r hr => ((me r).mp hr).2) (fun r hr e => n3 q hx r hr e.symm) (fun r hr hne => hr.imp (fun z => (me r).mpr ⟨z, hne⟩) id)
    refine ⟨_, X.eraseIdx i, Y, ?_, r1, List.eraseIdx_sublist _ _, List.Sublist.refl _, fun r hr => ?_, r2, r3, r4, cs⟩
    · unfold D_c_Store_remove
      simp only [e1, e2, pl, nm (show i < 400 by omega), Option.bind_some, cond_true, Eg8 c1, show m_c1 .eq (0 : Int32) = true from rfl, bd2, tlr_i h3 hi (by omega)]
    · rcases List.mem_append.mp hr with w | w
      · exact ((me r).mp w).2
      · exact fun e => n3 q hx r w e.symm
  · obtain ⟨i, hi⟩ := List.mem_iff_getElem?.mp hx
    have hil := (List.getElem?_eq_some_iff.mp hi).1
    have me := mem_erase hpY hi
    obtain ⟨t, c1, _, _⟩ := (hy6 q hx).full
    have pl := c_placeY hF h (by omega) hi h5
    have cs : Cs T (tset T (530 + 8 * n) (.inr (.inr (cY, (Y.eraseIdx i).map Prod.fst)))) 0 0 := by
      intro h0
      have := h0.2 _ _ _ h4
      exact Cs.list (n := cY) (xs := Y.map Prod.fst) (n' := cY) (xs' := (Y.eraseIdx i).map Prod.fst) h4 (fun _ => rfl) this.2.1 this.2.2 (Nat.le_refl _) (fun _ => Nat.le_refl _) (fun _ => Nat.le_refl _) h0
    obtain ⟨r1, r2, r3, r4⟩ := h.del (q := q) (X1 := X) (Y1 := Y.eraseIdx i) (cX := cX) (cY := cY) (T1 := tset T (530 + 8 * n) (.inr (.inr (cY, (Y.eraseIdx i).map Prod.fst)))) (Or.inr hx) (fun b => by
      rw [tset_1]
      by_cases w1 : b = 529 + 8 * n
      · simp only [if_pos w1, if_neg (show ¬ b = 530 + 8 * n by omega)]
        rw [w1]
        exact h3
      · by_cases w2 : b = 530 + 8 * n
        · simp only [if_neg w1, if_pos w2]
        · simp only [if_neg w1, if_neg w2]) rfl (List.Sublist.refl _) (List.eraseIdx_sublist _ _) (fun r hr e => n3 r hr q hx e) (fun r hr => ((me r).mp hr).2) (fun r hr hne => hr.imp id (fun z => (me r).mpr ⟨z, hne⟩))
    refine ⟨_, X, Y.eraseIdx i, ?_, r1, List.Sublist.refl _, List.eraseIdx_sublist _ _, fun r hr => ?_, r2, r3, r4, cs⟩
    · unfold D_c_Store_remove
      simp only [e1, e3, pl, nm (show i < 400 by omega), Option.bind_some, cond_true, Eg8 c1, show m_c1 .eq (1 : Int32) = false from rfl, cond_false, bd2, tlr_i h4 hi (by omega)]
    · rcases List.mem_append.mp hr with w | w
      · exact fun e => n3 r w q hx e
      · exact ((me r).mp w).2
theorem cTold9 {p : Int32} {d d' : Nat → Int32} (h : ∀ i, i < 9 → d' i = d i) : cTold p d' = cTold p d := by
  unfold cTold
  rw [h 0 (by decide), h 1 (by decide), h 2 (by decide), h 3 (by decide), h 4 (by decide), h 5 (by decide), h 6 (by decide), h 7 (by decide), h 8 (by decide)]
theorem okT9 {d d' : Nat → Int32} (h : ∀ i, i < 9 → d' i = d i) (hd : okT d) : okT d' := by
  unfold okT
  rw [h 0 (by decide), h 1 (by decide), h 2 (by decide), h 3 (by decide), h 4 (by decide), h 5 (by decide), h 6 (by decide), h 7 (by decide), h 8 (by decide)]
  exact hd
theorem isEnt.fr9 {k : Int32} (h : isEnt T S n q k) (h1 : T'.1 q.1 = T.1 q.1) (h2 : Same [13] T T') (h3 : ∀ i, i < 9 → rd S' 603 (9 * q.2 + i) = rd S 603 (9 * q.2 + i)) (h4 : ∀ a, 601 ≤ a ∧ a ≤ 607 → ¬ a = 603 → rd S' a q.2 = rd S a q.2) : isEnt T' S' n q k := by
  obtain ⟨p, v, hh, t, g1, g2, g3, g4, g5, g6, g7, g8, g9⟩ := h
  refine ⟨p, v, hh, t, g1, g2, g3, g4, ?_, ?_, okT9 h3 g7, ?_, ?_⟩
  · rw [h1, h4 604 (by omega) (by omega), h4 605 (by omega) (by omega), h4 606 (by omega) (by omega), h4 607 (by omega) (by omega)]
    exact g5
  · refine Eq.trans ?_ (congrArg some (cTold9 (p := Int32.ofNat p) (d := eT S q.2) (d' := eT S' q.2) h3).symm)
    exact h2 t _ g6 (show (13 : Nat) ∈ [13] by decide)
  · rw [h4 601 (by omega) (by omega)]
    exact g8
  · rw [h4 602 (by omega) (by omega)]
    exact g9
/-- a new entry comes to the end of a list -/
theorem RS.place {U : Nat} (h : RS T S n X Y) (hU : RTn S U) (hU2 : U + 1 < 2147483648) {kp : Int32} {cX cY : Nat} {X' Y' : List (Nat × Nat)} (hno : ∀ r ∈ X ++ Y, ¬ r.2 = q.2 ∧ ¬ r.1 = q.1) (hq : isEnt T S' n q kp) (hk : (kp = 0 ∧ X' = X ++ [q] ∧ Y' = Y) ∨ (kp = 1 ∧ X' = X ∧ Y' = Y ++ [q])) (st : ∀ b x, T.1 b = some x → ¬ b = 529 + 8 * n → ¬ b = 530 + 8 * n → T'.1 b = some x) (tX : T'.1 (529 + 8 * n) = some (.inr (.inr (cX, X'.map Prod.fst)))) (tY : T'.1 (530 + 8 * n) = some (.inr (.inr (cY, Y'.map Prod.fst)))) (hr : ∀ a k, ¬ ((601 ≤ a ∧ a ≤ 608) ∧ ¬ a = 603 ∧ k = q.2) → ¬ (a = 603 ∧ 9 * q.2 ≤ k ∧ k < 9 * q.2 + 9) → rd S' a k = rd S a k) (h8 : rd S' 608 q.2 = Int32.ofNat (U + 1)) (h58 : S'.1 58 = Int32.ofNat (U + 1)) : RS T' S' n X' Y' ∧ RTn S' (U + 1) := by
  obtain ⟨hn, h2, ⟨dX, h3⟩, ⟨dY, h4⟩, h5, h6, h7, h8', h9, hb⟩ := id h
  have rq := hq.rng hn.2
  have nl : ∀ {b x}, T.1 b = some x → ¬ kd x = 21 → T'.1 b = some x := fun hb hk => st _ _ hb (fun w => by rw [w, h3] at hb; cases hb; exact hk rfl) (fun w => by rw [w, h4] at hb; cases hb; exact hk rfl)
  have sm : Same [13] T T' := fun x cc hx hk => nl hx (by rw [List.mem_singleton.mp hk]; decide)
  have keep : ∀ r k, r ∈ X ++ Y → isEnt T S n r k → isEnt T' S' n r k := fun r k hr' he => by
    obtain ⟨w1, w2⟩ := hno r hr'
    obtain ⟨fs, hc⟩ := he.cell
    refine he.fr9 (by rw [hc]; exact nl hc (show ¬ (11 : Nat) = 21 by decide)) sm (fun i hi => hr 603 _ (by omega) (by omega)) (fun a ha1 ha2 => hr a _ (fun z => w1 z.2.2) (fun z => ha2 z.1))
  have hq' : isEnt T' S' n q kp := by
    obtain ⟨fs, hc⟩ := hq.cell
    exact hq.fr9 (by rw [hc]; exact nl hc (show ¬ (11 : Nat) = 21 by decide)) sm (fun _ _ => rfl) (fun _ _ _ => rfl)
  have r92 : rd S' 592 n = rd S 592 n := hr 592 n (by omega) (by omega)
  have tnq : tn S' q.2 = U + 1 := by unfold tn; rw [h8, m_n_cl (by omega)]
  have tnr : ∀ r, r ∈ X ++ Y → tn S' r.2 = tn S r.2 := fun r hr' => by
    unfold tn
    rw [hr 608 _ (fun z => (hno r hr').1 z.2.2) (by omega)]
  have tle9 : ∀ r, r ∈ X ++ Y → tn S r.2 ≤ U := fun r hr' => by
    obtain ⟨k, hk9⟩ := h.ent hr'
    obtain ⟨t, t1, t2⟩ := hU.2 r.2 (hk9.rng hn.2).2.2 hk9.there.1
    unfold tn
    rw [t2, m_n_cl (by omega)]
    exact t1
  have pw : ∀ (L : List (Nat × Nat)), (∀ r ∈ L, r ∈ X ++ Y) → L.Pairwise (fun a b => tn S a.2 < tn S b.2) → L.Pairwise (fun a b => tn S' a.2 < tn S' b.2) := fun L hL hp => List.Pairwise.imp_of_mem (fun ha hb hab => by rw [tnr _ (hL _ ha), tnr _ (hL _ hb)]; exact hab) hp
  have pw1 : ∀ (L : List (Nat × Nat)), (∀ r ∈ L, r ∈ X ++ Y) → L.Pairwise (fun a b => tn S a.2 < tn S b.2) → (L ++ [q]).Pairwise (fun a b => tn S' a.2 < tn S' b.2) := fun L hL hp => List.pairwise_append.mpr ⟨pw L hL hp, List.pairwise_singleton _ _, fun a ha b hb => by
    rw [List.mem_singleton.mp hb, tnq, tnr a (hL a ha)]
    have := tle9 a (hL a ha)
    omega⟩
  have inX : ∀ r ∈ X, r ∈ X ++ Y := fun r hr' => List.mem_append_left _ hr'
  have inY : ∀ r ∈ Y, r ∈ X ++ Y := fun r hr' => List.mem_append_right _ hr'
  have cov : ∀ e, 1024 * n ≤ e → e < 1024 * n + 1024 → ¬ rd S' 601 e = 0 → e = q.2 ∨ ∃ r, (r ∈ X ∨ r ∈ Y) ∧ r.2 = e := fun e e1 e2 e3 => by
    by_cases w : e = q.2
    · exact Or.inl w
    · rw [hr 601 e (fun z => w z.2.2) (by omega)] at e3
      exact Or.inr (h9 e e1 e2 e3)
  refine ⟨⟨hn, by rw [r92]; exact nl h2 (show ¬ (5 : Nat) = 21 by decide), ⟨cX, tX⟩, ⟨cY, tY⟩, ?_, ?_, ?_, ?_, fun e e1 e2 e3 => ?_, by rw [r92]; exact hb⟩, h58, fun e he e3 => ?_⟩
  · rcases hk with ⟨rfl, rfl, rfl⟩ | ⟨rfl, rfl, rfl⟩
    · intro r hr'
      rcases List.mem_append.mp hr' with w | w
      · exact keep r 0 (inX r w) (h5 r w)
      · rw [List.mem_singleton.mp w]; exact hq'
    · exact fun r hr' => keep r 0 (inX r hr') (h5 r hr')
  · rcases hk with ⟨rfl, rfl, rfl⟩ | ⟨rfl, rfl, rfl⟩
    · exact fun r hr' => keep r 1 (inY r hr') (h6 r hr')
    · intro r hr'
      rcases List.mem_append.mp hr' with w | w
      · exact keep r 1 (inY r w) (h6 r w)
      · rw [List.mem_singleton.mp w]; exact hq'
  · rcases hk with ⟨rfl, rfl, rfl⟩ | ⟨rfl, rfl, rfl⟩
    · exact pw1 X inX h7
    · exact pw _ inX h7
  · rcases hk with ⟨rfl, rfl, rfl⟩ | ⟨rfl, rfl, rfl⟩
    · exact pw _ inY h8'
    · exact pw1 Y inY h8'
  · rcases hk with ⟨rfl, rfl, rfl⟩ | ⟨rfl, rfl, rfl⟩
    · rcases cov e e1 e2 e3 with w | ⟨r, w1, w2⟩
      · exact ⟨q, Or.inl (List.mem_append_right _ (List.mem_singleton.mpr rfl)), w.symm⟩
      · exact ⟨r, w1.imp (fun z => List.mem_append_left _ z) id, w2⟩
    · rcases cov e e1 e2 e3 with w | ⟨r, w1, w2⟩
      · exact ⟨q, Or.inr (List.mem_append_right _ (List.mem_singleton.mpr rfl)), w.symm⟩
      · exact ⟨r, w1.imp id (fun z => List.mem_append_left _ z), w2⟩
  · by_cases w : e = q.2
    · exact ⟨U + 1, Nat.le_refl _, by rw [w]; exact h8⟩
    · rw [hr 601 e (fun z => w z.2.2) (by omega)] at e3
      obtain ⟨t, t1, t2⟩ := hU.2 e he e3
      exact ⟨t, by omega, by rw [hr 608 e (fun z => w z.2.2) (by omega)]; exact t2⟩
end
