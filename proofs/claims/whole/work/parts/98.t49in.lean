/-! Between takeFetch and take: a cell more, flags of places, the entry's cell. -/
section
variable {T T' : tT} {S S' : mS} {X Y : Nat → List (Nat × Nat)} {Z : Nat → List Fz} {Q : List Rq} {c F n f : Nat} {rs : List Nat}
/-- all cells stand -/
theorem RBx.ext0 (h : RBx T S X Y Z Q rs c f) (hL : okL T') (st : ∀ b x, T.1 b = some x → T'.1 b = some x) : RBx T' S X Y Z Q rs c f := by
  obtain ⟨⟨r1, r2, r3, r4, r5, r6, r9, r10⟩, r7, r8⟩ := h
  have kq : ∀ {A K : List Nat}, Kq A K T T' := fun b x hb _ => st b x hb
  exact ⟨⟨hL, r2.fr kq Ag.refl, r3.fr kq Ag.refl, r4.fr kq, r5.fr kq Ag.refl, r6.fr kq Ag.refl, r9.fr kq Ag.refl, r10.fr kq Ag.refl (fun k k1 k2 k3 => ⟨k, ⟨k1, k2⟩, k3, rfl, rfl, rfl⟩)⟩, r7.fr kq Ag.refl, r8.fr kq Ag.refl⟩
/-- flags of places: only whether they are there counts -/
theorem RS.norm {X Y : List (Nat × Nat)} (h : RS T S n X Y) (hr : ∀ a k, ¬ a = 601 → rd S' a k = rd S a k) (h6 : ∀ k, rd S' 601 k = 0 ↔ rd S 601 k = 0) : RS T S' n X Y := by
  obtain ⟨h1, h2, h3, h4, h5, h6', h7, h8, h9, h10⟩ := h
  have et : ∀ e, eT S' e = eT S e := fun e => by funext i; exact hr 603 _ (by decide)
  have en : ∀ q k, isEnt T S n q k → isEnt T S' n q k := by
    rintro q k ⟨p, v, w, t, a1, a2, a3, a4, a5, a6, a7, a8, a9⟩
    refine ⟨p, v, w, t, a1, a2, a3, a4, ?_, ?_, ?_, fun z => a8 ((h6 _).mp z), ?_⟩
    · rw [hr 604 _ (by decide), hr 605 _ (by decide), hr 606 _ (by decide), hr 607 _ (by decide)]; exact a5
    · rw [et]; exact a6
    · rw [et]; exact a7
    · rw [hr 602 _ (by decide)]; exact a9
  have etn : ∀ e, tn S' e = tn S e := fun e => by simp only [tn, hr 608 _ (show ¬ (608 = 601) by decide)]
  refine ⟨h1, by rw [hr 592 _ (by decide)]; exact h2, h3, h4, fun q hq => en q 0 (h5 q hq), fun q hq => en q 1 (h6' q hq), ?_, ?_, fun e e1 e2 e3 => h9 e e1 e2 (fun z => e3 ((h6 e).mpr z)), by rw [hr 592 _ (by decide)]; exact h10⟩
  · simp only [etn]; exact h7
  · simp only [etn]; exact h8
theorem RBx.norm (h : RBx T S X Y Z Q rs c f) (hr : ∀ a k, ¬ a = 601 → rd S' a k = rd S a k) (h6 : ∀ k, rd S' 601 k = 0 ↔ rd S 601 k = 0) (hi : ∀ i, S'.1 i = S.1 i) : RBx T S' X Y Z Q rs c f ∧ vM S' = vM S ∧ vE S' = vE S ∧ vS S' = vS S := by
  obtain ⟨⟨r1, r2, r3, r4, r5, r6, r9, r10⟩, r7, r8⟩ := h
  have ag : ∀ as is, (∀ a ∈ as, ¬ a = 601) → Ag as is S S' := fun as is q => ⟨fun a ha k => hr a k (q a ha), fun i _ => hi i⟩
  obtain ⟨s1, s2, s3, U, s4, s5⟩ := r6
  have et : ∀ e, eT S' e = eT S e := fun e => by funext i; exact hr 603 _ (by decide)
  refine ⟨⟨⟨r1, r2.fr Kq.refl (ag _ _ (by decide)), r3.fr Kq.refl (ag _ _ (by decide)), r4, r5.fr Kq.refl (ag _ _ (by decide)), ⟨fun m m1 m2 => ⟨(s1 m m1 m2).1.norm hr h6, (s1 m m1 m2).2⟩, s2, fun e e' he he' t1 t2 e3 => ?_, U, ⟨(hi 58).trans s4.1, fun e he t => ?_⟩, s5⟩, r9.fr Kq.refl (ag _ _ (by decide)), r10.fr Kq.refl (ag _ _ (by decide)) (fun k x1 x2 x3 => ?_)⟩, r7.fr Kq.refl (ag _ _ (by decide)), r8.fr Kq.refl (ag _ _ (by decide))⟩, vM_ag (ag _ _ (by decide)), ?_, vS_ag (ag _ _ (by decide))⟩
  · rw [et, et]
    exact s3 e e' he he' (fun z => t1 ((h6 e).mpr z)) (fun z => t2 ((h6 e').mpr z)) e3
  · rw [hr 608 _ (by decide)]
    exact s4.2 e he (fun z => t ((h6 e).mpr z))
  · have e9 : ∀ i, mRow S' k i = mRow S k i := fun i => hr _ _ (by decide)
    exact ⟨k, ⟨by rw [hi] at x1; exact x1, x2⟩, (e9 0).symm.trans x3, e9 3, e9 5, e9 4⟩
  · funext e
    unfold vE
    simp only [h6, hr 603 _ (show ¬ (603 = 601) by decide), hr 604 _ (show ¬ (604 = 601) by decide), hr 605 _ (show ¬ (605 = 601) by decide), hr 606 _ (show ¬ (606 = 601) by decide), hr 607 _ (show ¬ (607 = 601) by decide)]
/-- the cell of an entry that is in no list changes -/
theorem RBx.cell11 (h : RBx T S X Y Z Q rs c f) {a : Nat} {fs fs' : List Value} (hc : T.1 a = some (.inl (11, fs))) (ha : ∀ m, 1 ≤ m → m < 7 → ∀ q ∈ X m ++ Y m, ¬ q.1 = a) : RBx (tset T a (.inl (11, fs'))) S X Y Z Q rs c f ∧ Cs T (tset T a (.inl (11, fs'))) 0 0 := by
  have cs : Cs T (tset T a (.inl (11, fs'))) 0 0 := Cs.cell hc rfl rfl
  have st : ∀ b x, T.1 b = some x → ¬ b = a → (tset T a (.inl (11, fs'))).1 b = some x := fun b x hb hne => tset_o hb hne
  have st11 : ∀ b x, T.1 b = some x → ¬ kd x = 11 → (tset T a (.inl (11, fs'))).1 b = some x := fun b x hb hk => st b x hb (fun w => by rw [w, hc] at hb; cases hb; exact hk rfl)
  obtain ⟨⟨r1, r2, r3, r4, r5, r6, r9, r10⟩, r7, r8⟩ := id h
  have at9 : ∀ {b x}, T.1 b = some x → ¬ kd x = 11 → ∀ y, T.1 b = some y → (tset T a (.inl (11, fs'))).1 b = some y := fun hb hk y hy => by rw [hb] at hy; cases hy; exact st11 _ _ hb hk
  have kq0 : ∀ {K : List Nat}, 11 ∉ K → Kq [] K T (tset T a (.inl (11, fs'))) := fun hK b x hb hk => by
    rcases hk with hk | hk
    · exact st11 b x hb (fun w => hK (w ▸ hk))
    · cases hk
  have kq1 : ∀ {K : List Nat} {A : List Nat}, 11 ∉ K → (∀ b ∈ A, ∀ y, T.1 b = some y → (tset T a (.inl (11, fs'))).1 b = some y) → Kq A K T (tset T a (.inl (11, fs'))) := fun hK hA b x hb hk => by
    rcases hk with hk | hk
    · exact st11 b x hb (fun w => hK (w ▸ hk))
    · exact hA b hk x hb
  obtain ⟨f1, f2, f3, L, y2, y5, y6, y7, y8, y9, y10, y11, y13, y14, y15, e13, _⟩ := id r10.2.2.2.1
  obtain ⟨_, _, _, _, _, e23, _⟩ := id r3
  have l31 : ∀ m, 1 ≤ m → m < 7 → ∃ q, T.1 (531 + 8 * m) = some (.inr (.inr q)) := fun m m1 m2 => by obtain ⟨⟨cp, l⟩, _⟩ := r7.1 m m1 m2; exact ⟨_, l⟩
  refine ⟨⟨⟨(cs r1).1, r2.fr (kq1 (by decide) (fun b hb => ?_)) Ag.refl, r3.fr (kq1 (by decide) (fun b hb => ?_)) Ag.refl, r4.fr (kq1 (by decide) (fun b hb => ?_)), r5.fr (kq1 (by decide) (fun b hb => ?_)) Ag.refl, ?_, r9.fr (kq1 (by decide) (fun b hb => ?_)) Ag.refl, r10.fr (kq1 (by decide) (fun b hb => ?_)) Ag.refl (fun k k1 k2 k3 => ⟨k, ⟨k1, k2⟩, k3, rfl, rfl, rfl⟩)⟩, r7.fr (kq1 (by decide) (fun b hb => ?_)) Ag.refl, r8.fr (kq0 (by decide)) Ag.refl⟩, cs⟩
  · rw [List.mem_singleton.mp hb]; exact at9 (show T.1 512 = some (house S.1) from r2) (show ¬ (0 : Nat) = 11 by decide)
  · rw [List.mem_singleton.mp hb]; exact at9 e23 (show ¬ (21 : Nat) = 11 by decide)
  · rw [List.mem_singleton.mp hb]; exact at9 r4.choose_spec.1 (show ¬ (20 : Nat) = 11 by decide)
  · rw [List.mem_singleton.mp hb]; exact at9 r5.1.choose_spec.1 (show ¬ (20 : Nat) = 11 by decide)
  · obtain ⟨s1, s2, s3, s4⟩ := r6
    refine ⟨fun m m1 m2 => ?_, s2, s3, s4⟩
    obtain ⟨t1, t2, t3⟩ := s1 m m1 m2
    refine ⟨?_, t2, t3⟩
    obtain ⟨y1, y2, ⟨dX, y3⟩, ⟨dY, y4⟩, y5, y6, y7, y8, y9, y10⟩ := t1
    have ent : ∀ q k, q ∈ X m ++ Y m → isEnt T S m q k → isEnt (tset T a (.inl (11, fs'))) S m q k := fun q k hq he => he.fr (by rw [tset_1, if_neg (ha m m1 m2 q hq)]) (fun x cc hx hk => st11 x cc hx (by rw [List.mem_singleton.mp hk]; decide)) (fun _ => rfl) (fun _ _ _ => rfl)
    exact ⟨y1, st11 _ _ y2 (show ¬ (5 : Nat) = 11 by decide), ⟨dX, st11 _ _ y3 (show ¬ (21 : Nat) = 11 by decide)⟩, ⟨dY, st11 _ _ y4 (show ¬ (21 : Nat) = 11 by decide)⟩, fun q hq => ent q 0 (List.mem_append_left _ hq) (y5 q hq), fun q hq => ent q 1 (List.mem_append_right _ hq) (y6 q hq), y7, y8, y9, y10⟩
  · rw [List.mem_singleton.mp hb]; exact at9 r9.1.choose_spec (show ¬ (21 : Nat) = 11 by decide)
  · rw [List.mem_singleton.mp hb]; exact at9 e13 (show ¬ (1 : Nat) = 11 by decide)
  · have : ∃ m, 1 ≤ m ∧ m < 7 ∧ b = 531 + 8 * m := by
      simp only [List.mem_cons, List.mem_nil_iff, or_false] at hb
      exact ⟨(b - 531) / 8, by omega, by omega, by omega⟩
    obtain ⟨m, m1, m2, m3⟩ := this
    obtain ⟨l9, hl9⟩ := l31 m m1 m2
    rw [m3]
    exact at9 hl9 (show ¬ (21 : Nat) = 11 by decide)
end
