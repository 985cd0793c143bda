/-! balance and trim, step by step. -/
theorem eT_ext {S S' : mS} {e : Nat} (h : ∀ j, rd S' 603 j = rd S 603 j) : eT S' e = eT S e := by
  funext i
  exact h _
theorem isEnt.fr {T T' : tT} {S S' : mS} {n : Nat} {q : Nat × Nat} {k : Int32} (h : isEnt T S n q k) (h1 : T'.1 q.1 = T.1 q.1) (h2 : Same [13] T T') (h3 : ∀ j, rd S' 603 j = rd S 603 j) (h4 : ∀ a, 601 ≤ a ∧ a ≤ 607 → ¬ a = 603 → rd S' a q.2 = rd S a q.2) : isEnt T' S' n q k := by
  obtain ⟨p, v, hh, t, g1, g2, g3, g4, g5, g6, g7, g8, g9⟩ := h
  refine ⟨p, v, hh, t, g1, g2, g3, g4, ?_, ?_, ?_, ?_, ?_⟩
  · rw [h1, h4 604 (by omega) (by omega), h4 605 (by omega) (by omega), h4 606 (by omega) (by omega), h4 607 (by omega) (by omega)]
    exact g5
  · rw [eT_ext h3]
    exact h2 t _ g6 (show (13 : Nat) ∈ [13] by decide)
  · rw [eT_ext h3]
    exact g7
  · rw [h4 601 (by omega) (by omega)]
    exact g8
  · rw [h4 602 (by omega) (by omega)]
    exact g9
theorem isEnt.cell {T : tT} {S : mS} {n : Nat} {q : Nat × Nat} {k : Int32} (h : isEnt T S n q k) : ∃ fs, T.1 q.1 = some (.inl (11, fs)) := by
  obtain ⟨p, v, hh, t, -, -, -, -, g5, -⟩ := h
  exact ⟨_, g5⟩
/-- a cell of another kind lies elsewhere -/
theorem kd_ne {T : tT} {a b : Nat} {c d : tC} (ha : T.1 a = some c) (hb : T.1 b = some d) (h : ¬ kd c = kd d) : ¬ a = b := by
  rintro rfl
  rw [ha] at hb
  exact h (congrArg kd (Option.some.inj hb))
theorem RS.addr {T : tT} {S : mS} {n : Nat} {X Y : List (Nat × Nat)} (h : RS T S n X Y) {q : Nat × Nat} (hq : q ∈ X ∨ q ∈ Y) : ¬ q.1 = 528 + 8 * n ∧ ¬ q.1 = 529 + 8 * n ∧ ¬ q.1 = 530 + 8 * n := by
  obtain ⟨hn, h2, ⟨c, h3⟩, ⟨c', h4⟩, h5, h6, -⟩ := h
  obtain ⟨fs, hc⟩ : ∃ fs, T.1 q.1 = some (.inl (11, fs)) := by
    rcases hq with hq | hq
    · exact (h5 q hq).cell
    · exact (h6 q hq).cell
  exact ⟨kd_ne hc h2 (show ¬ (11 : Nat) = 5 by decide), kd_ne hc h3 (show ¬ (11 : Nat) = 21 by decide), kd_ne hc h4 (show ¬ (11 : Nat) = 21 by decide)⟩
/-- two entries of a node that are not the same have other cells -/
theorem RS.adr_ne {T : tT} {S : mS} {n : Nat} {X Y : List (Nat × Nat)} (h : RS T S n X Y) {q r : Nat × Nat} (hq : q ∈ X ∨ q ∈ Y) (hr : r ∈ X ∨ r ∈ Y) (e : ¬ q.2 = r.2) : ¬ q.1 = r.1 := by
  obtain ⟨hn, -, -, -, h5, h6, -⟩ := h
  intro z
  apply e
  rcases hq with hq | hq <;> rcases hr with hr | hr
  · exact (h5 q hq).inj (h5 r hr) z
  · exact (h5 q hq).inj (h6 r hr) z
  · exact (h6 q hq).inj (h5 r hr) z
  · exact (h6 q hq).inj (h6 r hr) z
def setKp (c : tC) (k : Int32) : tC := match c with
  | .inl (11, [a, b, t, w, m, g, e, l, _]) => .inl (11, [a, b, t, w, m, g, e, l, .int k])
  | c => c
theorem setKp_e {p v : Int32} {t : Nat} {wh mk ag cm bl kp k : Int32} : setKp (cEntry p v t wh mk ag cm bl kp) k = cEntry p v t wh mk ag cm bl k := rfl
section
variable {T : tT} {S : mS} {F n U : Nat} {X Y : List (Nat × Nat)} {q : Nat × Nat}
/-- the oldest of KEPT becomes the newest of NEW -/
theorem RS.move (h : RS T S n X (q :: Y)) (hU : RTn S U) (hU2 : U + 1 < 2147483648) (hl : X.length < 366) (hF : 10 ≤ F) : ∃ T1 T2 T3 S3 v, tlr T (530 + 8 * n) 0 = some (q.1, T1) ∧ tcc T1 (some q.1) 11 = some () ∧ tcl T1 q.1 11 = some () ∧ D_c_Entry_size F q.1 T1 = some (Int32.ofNat (sz (rd S 607 q.2))) ∧ tpz T1 q.1 11 8 0 = some T2 ∧ tgr T2 (528 + 8 * n) 5 0 = some (some (529 + 8 * n)) ∧ tla T2 (529 + 8 * n) q.1 = some T3 ∧
    v = Int32.ofNat q.2 ∧ (∃ S1, bput 7168 S 602 v 0 = some S1 ∧ D_m_newest F v S1 = some S3) ∧ RS T3 S3 n (X ++ [q]) Y ∧ RTn S3 (U + 1) ∧ FrT n [q.1] T T3 ∧ FrS n S S3 := by
  have hq : q ∈ X ∨ q ∈ q :: Y := Or.inr List.mem_cons_self
  obtain ⟨a8, a9, a10⟩ := h.addr hq
  have hne : ∀ r, (r ∈ X ∨ r ∈ Y) → ¬ r.1 = q.1 ∧ ¬ r.2 = q.2 := by
    intro r hr
    have e2 : ¬ r.2 = q.2 := by
      rcases hr with hr | hr
      · exact (h.nodup).2.2 r hr q List.mem_cons_self
      · have := (List.pairwise_cons.mp h.2.2.2.2.2.2.2.1).1 r hr
        intro e
        rw [e] at this
        omega
    exact ⟨h.adr_ne (hr.imp id (List.mem_cons_of_mem _)) hq e2, e2⟩
  obtain ⟨hn, h2, ⟨cX, h3⟩, ⟨cY, h4⟩, h5, h6, h7, h8, h9, hb⟩ := id h
  obtain ⟨p, v, hh, t, g1, g2, g3, g4, g5, g6, g7, g8, g9⟩ := id (h6 q List.mem_cons_self)
  have hq7 := ((h6 q List.mem_cons_self).rng hn.2)
  have ht : ¬ t = q.1 := kd_ne g6 g5 (show ¬ (13 : Nat) = 11 by decide)
  have c1 : (tset T (530 + 8 * n) (.inr (.inr (cY, Y.map Prod.fst)))).1 q.1 = some (cEntry (Int32.ofNat p) (Int32.ofNat v) t (Int32.ofNat hh) (rd S 604 q.2) (rd S 605 q.2) (rd S 606 q.2) (rd S 607 q.2) 1) := by rw [tset_1, if_neg a10]; exact g5
  have hS58 : S.1 58 = Int32.ofNat U := hU.1
  let T1 : tT := tset T (530 + 8 * n) (.inr (.inr (cY, Y.map Prod.fst)))
  let T2 : tT := tset T1 q.1 (cEntry (Int32.ofNat p) (Int32.ofNat v) t (Int32.ofNat hh) (rd S 604 q.2) (rd S 605 q.2) (rd S 606 q.2) (rd S 607 q.2) 0)
  let T3 : tT := ((tset T2 (529 + 8 * n) (.inr (.inr (l_cap cX X.length, X.map Prod.fst ++ [q.1])))).1, T2.2.1 + (if X.length < cX then 0 else 1), T2.2.2 + (if X.length < cX then 0 else l_cap cX X.length))
  let S3 : mS := up2 (up1 (up2 S 602 q.2 0) 58 (Int32.ofNat (U + 1))) 608 q.2 (Int32.ofNat (U + 1))
  have e3 : ∀ b, T3.1 b = if b = 529 + 8 * n then some (.inr (.inr (l_cap cX X.length, X.map Prod.fst ++ [q.1]))) else if b = q.1 then some (cEntry (Int32.ofNat p) (Int32.ofNat v) t (Int32.ofNat hh) (rd S 604 q.2) (rd S 605 q.2) (rd S 606 q.2) (rd S 607 q.2) 0) else if b = 530 + 8 * n then some (.inr (.inr (cY, Y.map Prod.fst))) else T.1 b := fun b => rfl
  have s3 : ∀ a k, rd S3 a k = if a = 608 ∧ k = q.2 then Int32.ofNat (U + 1) else if a = 602 ∧ k = q.2 then 0 else rd S a k := fun a k => by
    show rd (up2 _ _ _ _) a k = _
    rw [rd_up2, rd_up1, rd_up2]
  have sm13 : Same [13] T T3 := by
    intro x c hx hk
    have k1 : ¬ x = 529 + 8 * n := kd_ne hx h3 (by intro e; rw [e] at hk; exact absurd hk (show (21 : Nat) ∉ [13] by decide))
    have k2 : ¬ x = q.1 := kd_ne hx g5 (by intro e; rw [e] at hk; exact absurd hk (show (11 : Nat) ∉ [13] by decide))
    have k3 : ¬ x = 530 + 8 * n := kd_ne hx h4 (by intro e; rw [e] at hk; exact absurd hk (show (21 : Nat) ∉ [13] by decide))
    rw [e3, if_neg k1, if_neg k2, if_neg k3]
    exact hx
  have ent : ∀ r k, (r ∈ X ∨ r ∈ Y) → isEnt T S n r k → isEnt T3 S3 n r k := by
    intro r k hr he
    obtain ⟨r1, r2⟩ := hne r hr
    obtain ⟨-, r9, r10⟩ := h.addr (hr.imp id (List.mem_cons_of_mem _))
    refine he.fr ?_ sm13 (fun j => ?_) (fun a ha1 ha2 => ?_)
    · rw [e3, if_neg r9, if_neg r1, if_neg r10]
    · rw [s3, if_neg (by omega), if_neg (by omega)]
    · rw [s3, if_neg (by omega), if_neg (fun z => r2 z.2)]
  have tnr : ∀ r, (r ∈ X ∨ r ∈ Y) → tn S3 r.2 = tn S r.2 := by
    intro r hr
    unfold tn
    rw [s3, if_neg (fun z => (hne r hr).2 z.2), if_neg (by omega)]
  have tnq : tn S3 q.2 = U + 1 := by
    unfold tn
    rw [s3, if_pos ⟨rfl, rfl⟩]
    exact m_n_cl hU2
  have tle : ∀ r, (r ∈ X ∨ r ∈ Y) → tn S r.2 ≤ U := by
    intro r hr
    have : 1024 * n ≤ r.2 ∧ r.2 < 1024 * n + 1024 ∧ r.2 < 7168 ∧ ¬ rd S 601 r.2 = 0 := by
      rcases hr with hr | hr
      · have := (h5 r hr).rng hn.2
        exact ⟨this.1, this.2.1, this.2.2, (h5 r hr).there.1⟩
      · have := (h6 r (List.mem_cons_of_mem _ hr)).rng hn.2
        exact ⟨this.1, this.2.1, this.2.2, (h6 r (List.mem_cons_of_mem _ hr)).there.1⟩
    obtain ⟨t9, z1, z2⟩ := hU.2 r.2 this.2.2.1 this.2.2.2
    unfold tn
    rw [z2, m_n_cl (by omega)]
    exact z1
  have hd : ∀ r ∈ X ++ [q], r ∈ X ∨ r = q := fun r hr => by
    rcases List.mem_append.mp hr with z | z
    · exact Or.inl z
    · exact Or.inr (List.mem_singleton.mp z)
  refine ⟨T1, T2, T3, S3, Int32.ofNat q.2, ?_, ?_, ?_, ?_, ?_, ?_, ?_, rfl, ?_, ?_, ?_, ?_, ?_⟩
  · simp only [tlr, tl, h4, Option.bind_some]
    rw [if_neg (by decide)]
    rfl
  · exact tcl_o c1
  · exact tcl_o c1
  · rw [c_esize c1, (sz_eq _).1]
  · show (if (0 : Int32) = 0 ∨ (0 : Int32) = 1 then tp T1 q.1 11 8 (.int 0) else none) = _
    rw [if_pos (Or.inl rfl), tp_o c1 (show 8 < 9 by decide)]
    rfl
  · have : T2.1 (528 + 8 * n) = some (.inl (5, [.ref (529 + 8 * n), .ref (530 + 8 * n), .int (rd S 592 n)])) := by
      show (tset _ _ _).1 _ = _
      rw [tset_1, if_neg (fun z => a8 z.symm)]
      show (tset _ _ _).1 _ = _
      rw [tset_1, if_neg (by omega)]
      exact h2
    exact tgr_o (x := some (529 + 8 * n)) this rfl
  · have z1 : T2.1 (529 + 8 * n) = some (.inr (.inr (cX, X.map Prod.fst))) := by
      show (tset _ _ _).1 _ = _
      rw [tset_1, if_neg (fun z => a9 z.symm)]
      show (tset _ _ _).1 _ = _
      rw [tset_1, if_neg (by omega)]
      exact h3
    have z2 : T2.1 q.1 = some (cEntry (Int32.ofNat p) (Int32.ofNat v) t (Int32.ofNat hh) (rd S 604 q.2) (rd S 605 q.2) (rd S 606 q.2) (rd S 607 q.2) 0) := by
      show (tset _ _ _).1 _ = _
      rw [tset_1, if_pos rfl]
    simp only [tla, tl, z1, Option.bind_some, z2, cEntry, List.length_map]
    rw [if_pos ⟨hl, by decide⟩]
  · refine ⟨up2 S 602 q.2 0, bput_n hq7.2.2 (by decide) (Or.inl rfl), ?_⟩
    unfold D_m_newest
    simp only [fput, Option.bind_some, up2_1, hS58, p1]
    rw [aput_n hq7.2.2 (by decide), up1_1, if_pos rfl]
    rfl
  · refine ⟨hn, ?_, ⟨l_cap cX X.length, ?_⟩, ⟨cY, ?_⟩, ?_, ?_, ?_, ?_, ?_, ?_⟩
    · rw [e3, if_neg (by omega), if_neg (fun z => a8 z.symm), if_neg (by omega), s3, if_neg (by omega), if_neg (by omega)]
      exact h2
    · rw [e3, if_pos rfl, List.map_append]
      rfl
    · rw [e3, if_neg (by omega), if_neg (fun z => a10 z.symm), if_pos rfl]
    · intro r hr
      rcases hd r hr with hr | rfl
      · exact ent r 0 (Or.inl hr) (h5 r hr)
      · refine ⟨p, v, hh, t, g1, g2, g3, g4, ?_, ?_, ?_, ?_, ?_⟩
        · rw [e3, if_neg a9, if_pos rfl, s3 604, if_neg (by omega), if_neg (by omega), s3 605, if_neg (by omega), if_neg (by omega), s3 606, if_neg (by omega), if_neg (by omega), s3 607, if_neg (by omega), if_neg (by omega)]
        · rw [eT_ext (S := S) (fun j => by rw [s3, if_neg (by omega), if_neg (by omega)])]
          exact sm13 t _ g6 (show (13 : Nat) ∈ [13] by decide)
        · rw [eT_ext (S := S) (fun j => by rw [s3, if_neg (by omega), if_neg (by omega)])]
          exact g7
        · rw [s3, if_neg (by omega), if_neg (by omega)]
          exact g8
        · rw [s3, if_neg (by omega), if_pos ⟨rfl, rfl⟩]
    · intro r hr
      exact ent r 1 (Or.inr hr) (h6 r (List.mem_cons_of_mem _ hr))
    · refine List.pairwise_append.mpr ⟨?_, List.pairwise_singleton _ _, ?_⟩
      · exact List.Pairwise.imp_of_mem (fun {a b} ha hb2 z => by rw [tnr a (Or.inl ha), tnr b (Or.inl hb2)]; exact z) h7
      · intro a ha b hb2
        rw [List.mem_singleton.mp hb2, tnq, tnr a (Or.inl ha)]
        have := tle a (Or.inl ha)
        omega
    · exact List.Pairwise.imp_of_mem (fun {a b} ha hb2 z => by rw [tnr a (Or.inr ha), tnr b (Or.inr hb2)]; exact z) (List.pairwise_cons.mp h8).2
    · intro e e1 e2 e3'
      rw [s3, if_neg (by omega), if_neg (by omega)] at e3'
      obtain ⟨r, hr, z⟩ := h9 e e1 e2 e3'
      refine ⟨r, ?_, z⟩
      rcases hr with hr | hr
      · exact Or.inl (List.mem_append_left _ hr)
      · rcases List.mem_cons.mp hr with rfl | hr
        · exact Or.inl (List.mem_append_right _ (List.mem_singleton.mpr rfl))
        · exact Or.inr hr
    · obtain ⟨b, b1, b2, b3⟩ := hb
      exact ⟨b, b1, b2, by rw [s3, if_neg (by omega), if_neg (by omega)]; exact b3⟩
  · refine ⟨?_, fun e he hthere => ?_⟩
    · show (up2 _ _ _ _).1 58 = _
      rw [up2_1, up1_1, if_pos rfl]
    · rw [s3, if_neg (by omega), if_neg (by omega)] at hthere
      by_cases z : e = q.2
      · subst z
        exact ⟨U + 1, Nat.le_refl _, by rw [s3, if_pos ⟨rfl, rfl⟩]⟩
      · obtain ⟨t9, z1, z2⟩ := hU.2 e he hthere
        exact ⟨t9, by omega, by rw [s3, if_neg (fun w => z w.2), if_neg (by omega)]; exact z2⟩
  · refine ⟨fun b c k1 k2 k3 k4 => ?_, fun a ha p' v' t' wh mk ag cm bl kp k1 => ?_, fun hN b c k1 => ?_, Nat.le_add_right _ _, Nat.le_add_right _ _⟩
    · rw [e3, if_neg k2, if_neg (fun z => k4 (List.mem_singleton.mpr z)), if_neg k3]
      exact k1
    · have z := List.mem_singleton.mp ha
      subst z
      rw [g5] at k1
      cases k1
      exact ⟨0, by rw [e3, if_neg a9, if_pos rfl]⟩
    · have : b < T.2.1 := by
        rw [e3] at k1
        by_cases z1 : b = 529 + 8 * n
        · rw [z1]; exact hN _ _ h3
        · by_cases z2 : b = q.1
          · rw [z2]; exact hN _ _ g5
          · by_cases z3 : b = 530 + 8 * n
            · rw [z3]; exact hN _ _ h4
            · rw [if_neg z1, if_neg z2, if_neg z3] at k1
              exact hN _ _ k1
      exact Nat.lt_of_lt_of_le this (Nat.le_add_right _ _)
  · refine ⟨fun i hi => ?_, fun a k ha => ?_, fun a k hk => ?_⟩
    · show (up2 _ _ _ _).1 i = _
      rw [up2_1, up1_1, if_neg hi, up2_1]
    · rw [s3, if_neg (fun z => ha (Or.inr (Or.inr z.1))), if_neg (fun z => ha (Or.inr (Or.inl z.1)))]
    · rw [s3, if_neg (by omega), if_neg (by omega)]
/-- the head of a list goes -/
theorem RS.dropX (h : RS T S n (q :: X) Y) : ∃ T1, tlr T (529 + 8 * n) 0 = some (q.1, T1) ∧ tcc T1 (some q.1) 11 = some () ∧ tcl T1 q.1 11 = some () ∧ D_c_Entry_size F q.1 T1 = some (Int32.ofNat (sz (rd S 607 q.2))) ∧ bput 7168 S 601 (Int32.ofNat q.2) 0 = some (up2 S 601 q.2 0) ∧ RS T1 (up2 S 601 q.2 0) n X Y ∧ (∀ U, RTn S U → RTn (up2 S 601 q.2 0) U) ∧ FrT n [] T T1 ∧ FrS n S (up2 S 601 q.2 0) := by
  have hq : q ∈ q :: X ∨ q ∈ Y := Or.inl List.mem_cons_self
  obtain ⟨a8, a9, a10⟩ := h.addr hq
  have hne : ∀ r, (r ∈ X ∨ r ∈ Y) → ¬ r.2 = q.2 := by
    intro r hr
    rcases hr with hr | hr
    · have := (List.pairwise_cons.mp h.2.2.2.2.2.2.1).1 r hr
      intro e
      rw [e] at this
      omega
    · exact fun e => (h.nodup).2.2 q List.mem_cons_self r hr e.symm
  obtain ⟨hn, h2, ⟨cX, h3⟩, ⟨cY, h4⟩, h5, h6, h7, h8, h9, hb⟩ := id h
  obtain ⟨p, v, hh, t, g1, g2, g3, g4, g5, g6, g7, g8, g9⟩ := id (h5 q List.mem_cons_self)
  have hq7 := ((h5 q List.mem_cons_self).rng hn.2)
  have c1 : (tset T (529 + 8 * n) (.inr (.inr (cX, X.map Prod.fst)))).1 q.1 = some (cEntry (Int32.ofNat p) (Int32.ofNat v) t (Int32.ofNat hh) (rd S 604 q.2) (rd S 605 q.2) (rd S 606 q.2) (rd S 607 q.2) 0) := by rw [tset_1, if_neg a9]; exact g5
  have s3 : ∀ a k, rd (up2 S 601 q.2 0) a k = if a = 601 ∧ k = q.2 then 0 else rd S a k := fun a k => rd_up2
  have sm13 : Same [13] T (tset T (529 + 8 * n) (.inr (.inr (cX, X.map Prod.fst)))) := Same.set h3 (show (21 : Nat) ∉ [13] by decide)
  have ent : ∀ r k, (r ∈ X ∨ r ∈ Y) → isEnt T S n r k → isEnt (tset T (529 + 8 * n) (.inr (.inr (cX, X.map Prod.fst)))) (up2 S 601 q.2 0) n r k := by
    intro r k hr he
    obtain ⟨-, r9, r10⟩ := h.addr (hr.imp (List.mem_cons_of_mem _) id)
    refine he.fr ?_ sm13 (fun j => ?_) (fun a ha1 ha2 => ?_)
    · rw [tset_1, if_neg r9]
    · rw [s3, if_neg (by omega)]
    · rw [s3, if_neg (fun z => hne r hr z.2)]
  have tnr : ∀ r, tn (up2 S 601 q.2 0) r = tn S r := by
    intro r
    unfold tn
    rw [s3, if_neg (by omega)]
  refine ⟨tset T (529 + 8 * n) (.inr (.inr (cX, X.map Prod.fst))), ?_, tcl_o c1, tcl_o c1, ?_, bput_n hq7.2.2 (by decide) (Or.inl rfl), ?_, ?_, ?_, ?_⟩
  · simp only [tlr, tl, h3, Option.bind_some]
    rw [if_neg (by decide)]
    rfl
  · rw [c_esize c1, (sz_eq _).1]
  · refine ⟨hn, ?_, ⟨cX, by rw [tset_1, if_pos rfl]⟩, ⟨cY, by rw [tset_1, if_neg (by omega)]; exact h4⟩, ?_, ?_, ?_, ?_, ?_, ?_⟩
    · rw [tset_1, if_neg (by omega), s3, if_neg (by omega)]
      exact h2
    · exact fun r hr => ent r 0 (Or.inl hr) (h5 r (List.mem_cons_of_mem _ hr))
    · exact fun r hr => ent r 1 (Or.inr hr) (h6 r hr)
    · simp only [tnr]
      exact (List.pairwise_cons.mp h7).2
    · simp only [tnr]
      exact h8
    · intro e e1 e2 e3'
      rw [s3] at e3'
      split at e3'
      · exact absurd rfl e3'
      · rename_i z9
        obtain ⟨r, hr, z⟩ := h9 e e1 e2 e3'
        refine ⟨r, ?_, z⟩
        rcases hr with hr | hr
        · rcases List.mem_cons.mp hr with rfl | hr
          · exact absurd ⟨rfl, z.symm⟩ z9
          · exact Or.inl hr
        · exact Or.inr hr
    · obtain ⟨b, b1, b2, b3⟩ := hb
      exact ⟨b, b1, b2, by rw [s3, if_neg (by omega)]; exact b3⟩
  · intro U hU
    refine ⟨hU.1, fun e he ht => ?_⟩
    rw [s3] at ht
    split at ht
    · exact absurd rfl ht
    · obtain ⟨t9, z1, z2⟩ := hU.2 e he ht
      exact ⟨t9, z1, by rw [s3, if_neg (by omega)]; exact z2⟩
  · refine ⟨fun b c k1 k2 k3 k4 => by rw [tset_1, if_neg k2]; exact k1, fun a ha => (by cases ha), fun hN b c k1 => ?_, Nat.le_refl _, Nat.le_refl _⟩
    rw [tset_1] at k1
    split at k1
    · rename_i z
      rw [z]
      exact hN _ _ h3
    · exact hN _ _ k1
  · refine ⟨fun i hi => up2_1, fun a k ha => ?_, fun a k hk => ?_⟩
    · rw [s3, if_neg (fun z => ha (Or.inl z.1))]
    · rw [s3, if_neg (by omega)]
theorem RS.dropY (h : RS T S n [] (q :: Y)) : ∃ T1, tlr T (530 + 8 * n) 0 = some (q.1, T1) ∧ tcc T1 (some q.1) 11 = some () ∧ tcl T1 q.1 11 = some () ∧ D_c_Entry_size F q.1 T1 = some (Int32.ofNat (sz (rd S 607 q.2))) ∧ bput 7168 S 601 (Int32.ofNat q.2) 0 = some (up2 S 601 q.2 0) ∧ RS T1 (up2 S 601 q.2 0) n [] Y ∧ (∀ U, RTn S U → RTn (up2 S 601 q.2 0) U) ∧ FrT n [] T T1 ∧ FrS n S (up2 S 601 q.2 0) := by
  have hq : q ∈ [] ∨ q ∈ q :: Y := Or.inr List.mem_cons_self
  obtain ⟨a8, a9, a10⟩ := h.addr hq
  have hne : ∀ r, r ∈ Y → ¬ r.2 = q.2 := by
    intro r hr
    have := (List.pairwise_cons.mp h.2.2.2.2.2.2.2.1).1 r hr
    intro e
    rw [e] at this
    omega
  obtain ⟨hn, h2, ⟨cX, h3⟩, ⟨cY, h4⟩, h5, h6, h7, h8, h9, hb⟩ := id h
  obtain ⟨p, v, hh, t, g1, g2, g3, g4, g5, g6, g7, g8, g9⟩ := id (h6 q List.mem_cons_self)
  have hq7 := ((h6 q List.mem_cons_self).rng hn.2)
  have c1 : (tset T (530 + 8 * n) (.inr (.inr (cY, Y.map Prod.fst)))).1 q.1 = some (cEntry (Int32.ofNat p) (Int32.ofNat v) t (Int32.ofNat hh) (rd S 604 q.2) (rd S 605 q.2) (rd S 606 q.2) (rd S 607 q.2) 1) := by rw [tset_1, if_neg a10]; exact g5
  have s3 : ∀ a k, rd (up2 S 601 q.2 0) a k = if a = 601 ∧ k = q.2 then 0 else rd S a k := fun a k => rd_up2
  have sm13 : Same [13] T (tset T (530 + 8 * n) (.inr (.inr (cY, Y.map Prod.fst)))) := Same.set h4 (show (21 : Nat) ∉ [13] by decide)
  have ent : ∀ r k, r ∈ Y → isEnt T S n r k → isEnt (tset T (530 + 8 * n) (.inr (.inr (cY, Y.map Prod.fst)))) (up2 S 601 q.2 0) n r k := by
    intro r k hr he
    obtain ⟨-, r9, r10⟩ := h.addr (Or.inr (List.mem_cons_of_mem _ hr))
    refine he.fr ?_ sm13 (fun j => ?_) (fun a ha1 ha2 => ?_)
    · rw [tset_1, if_neg r10]
    · rw [s3, if_neg (by omega)]
    · rw [s3, if_neg (fun z => hne r hr z.2)]
  have tnr : ∀ r, tn (up2 S 601 q.2 0) r = tn S r := by
    intro r
    unfold tn
    rw [s3, if_neg (by omega)]
  refine ⟨tset T (530 + 8 * n) (.inr (.inr (cY, Y.map Prod.fst))), ?_, tcl_o c1, tcl_o c1, ?_, bput_n hq7.2.2 (by decide) (Or.inl rfl), ?_, ?_, ?_, ?_⟩
  · simp only [tlr, tl, h4, Option.bind_some]
    rw [if_neg (by decide)]
    rfl
  · rw [c_esize c1, (sz_eq _).1]
  · refine ⟨hn, ?_, ⟨cX, by rw [tset_1, if_neg (by omega)]; exact h3⟩, ⟨cY, by rw [tset_1, if_pos rfl]⟩, fun r hr => (by cases hr), ?_, List.Pairwise.nil, ?_, ?_, ?_⟩
    · rw [tset_1, if_neg (by omega), s3, if_neg (by omega)]
      exact h2
    · exact fun r hr => ent r 1 hr (h6 r (List.mem_cons_of_mem _ hr))
    · simp only [tnr]
      exact (List.pairwise_cons.mp h8).2
    · intro e e1 e2 e3'
      rw [s3] at e3'
      split at e3'
      · exact absurd rfl e3'
      · rename_i z9
        obtain ⟨r, hr, z⟩ := h9 e e1 e2 e3'
        refine ⟨r, ?_, z⟩
        rcases hr with hr | hr
        · cases hr
        · rcases List.mem_cons.mp hr with rfl | hr
          · exact absurd ⟨rfl, z.symm⟩ z9
          · exact Or.inr hr
    · obtain ⟨b, b1, b2, b3⟩ := hb
      exact ⟨b, b1, b2, by rw [s3, if_neg (by omega)]; exact b3⟩
  · intro U hU
    refine ⟨hU.1, fun e he ht => ?_⟩
    rw [s3] at ht
    split at ht
    · exact absurd rfl ht
    · obtain ⟨t9, z1, z2⟩ := hU.2 e he ht
      exact ⟨t9, z1, by rw [s3, if_neg (by omega)]; exact z2⟩
  · refine ⟨fun b c k1 k2 k3 k4 => by rw [tset_1, if_neg k3]; exact k1, fun a ha => (by cases ha), fun hN b c k1 => ?_, Nat.le_refl _, Nat.le_refl _⟩
    rw [tset_1] at k1
    split at k1
    · rename_i z
      rw [z]
      exact hN _ _ h4
    · exact hN _ _ k1
  · refine ⟨fun i hi => up2_1, fun a k ha => ?_, fun a k hk => ?_⟩
    · rw [s3, if_neg (fun z => ha (Or.inl z.1))]
    · rw [s3, if_neg (by omega)]
end
