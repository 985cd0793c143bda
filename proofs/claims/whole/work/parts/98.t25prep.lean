/-! A fetch is made ready. -/
section
variable {T T1 : tT} {S S1 : mS} {X Y : Nat → List (Nat × Nat)} {Z : Nat → List Fz} {Q cz Pd : List Rq} {j0 c F n : Nat} {rs : List Nat}
theorem RQ.cells (h : RQ T S rs Q cz Pd j0) : ∀ x ∈ Q ++ (cz ++ Pd), isQt T S rs x := by
  obtain ⟨_, b1, b2, b3, _⟩ := h
  intro x hx
  rcases List.mem_append.mp hx with w | w
  · obtain ⟨k, hk⟩ := List.mem_iff_getElem?.mp w
    exact (b1 k x hk).1
  · rcases List.mem_append.mp w with w | w
    · exact (b2 x w).1
    · obtain ⟨k, hk⟩ := List.mem_iff_getElem?.mp w
      exact (b3 k x hk).1
theorem isQt.cell {x : Rq} (hx : isQt T S rs x) : ∃ c r b, T.1 x.1 = some (cReq x.2.2.2.1 c r b) := by
  obtain ⟨q, f, ro, g, cd⟩ := x
  cases ro with
  | none =>
    cases cd with
    | none => obtain ⟨b, hx⟩ := hx; exact ⟨_, _, _, hx⟩
    | some k => exact absurd hx (fun w => w)
  | some r =>
    cases cd with
    | none => exact absurd hx (fun w => w)
    | some k => obtain ⟨⟨ca, ra, s, b, hx, _⟩, _⟩ := hx; exact ⟨_, _, _, hx⟩
theorem RB.prep (h : RB T S X Y Z Q cz Pd j0 rs c) (hL : okL T1) (hst : ∀ b x, T.1 b = some x → ¬ kd x = 4 → (∀ z ∈ cz, ¬ b = z.1) → T1.1 b = some x) (hcz : ∀ z ∈ cz, ∀ g c r b, T.1 z.1 = some (cReq g c r b) → ∃ b', T1.1 z.1 = some (cReq g c r b')) (hnode : ∀ m, 1 ≤ m → m < 7 → T1.1 (527 + 8 * m) = some (nodeC S1 m)) (hi : ∀ i, S1.1 i = S.1 i) (hr : ∀ a k, ¬ a = 594 → ¬ a = 595 → ¬ (610 ≤ a ∧ a ≤ 617 ∧ rd S 609 k = 0) → rd S1 a k = rd S a k) : RB T1 S1 X Y Z Q cz Pd j0 rs c := by
  obtain ⟨r1, r2, r3, r4, r5, r6, r7, r8, r9, r10⟩ := id h
  have qk := r8.cells
  have cze : ∀ b x, T.1 b = some x → ¬ kd x = 6 → ∀ z ∈ cz, ¬ b = z.1 := by
    intro b x hb hk z hz e
    obtain ⟨c1, r1', b1', hc⟩ := (qk z (List.mem_append_right _ (List.mem_append_left _ hz))).cell
    rw [e, hc] at hb
    cases hb
    exact hk rfl
  have st : ∀ b x, T.1 b = some x → ¬ kd x = 4 → ¬ kd x = 6 → T1.1 b = some x := fun b x hb k4 k6 => hst b x hb k4 (cze b x hb k6)
  have ag : ∀ as is, (∀ a ∈ as, ¬ a = 594 ∧ ¬ a = 595 ∧ ¬ (610 ≤ a ∧ a ≤ 617)) → Ag as is S S1 := fun as is q => ⟨fun a ha k => hr a k (q a ha).1 (q a ha).2.1 (fun w => (q a ha).2.2 ⟨w.1, w.2.1⟩), fun i _ => hi i⟩
  have kq : ∀ {A K : List Nat}, (4 ∉ K ∧ 6 ∉ K) → (∀ b ∈ A, ∀ x, T.1 b = some x → ¬ kd x = 4 ∧ ¬ kd x = 6) → Kq A K T T1 := by
    intro A K hK hA b x hb hk
    rcases hk with hk | hk
    · exact st b x hb (fun w => hK.1 (w ▸ hk)) (fun w => hK.2 (w ▸ hk))
    · exact st b x hb (hA b hk x hb).1 (hA b hk x hb).2
  have aset : ∀ b k, T.1 b = some (.inr (.inr k)) → ∀ x, T.1 b = some x → ¬ kd x = 4 ∧ ¬ kd x = 6 := fun b k hb x hx => by rw [hb] at hx; cases hx; exact ⟨show ¬ (21 : Nat) = 4 by decide, show ¬ (21 : Nat) = 6 by decide⟩
  have aarr : ∀ b k, T.1 b = some (.inr (.inl k)) → ∀ x, T.1 b = some x → ¬ kd x = 4 ∧ ¬ kd x = 6 := fun b k hb x hx => by rw [hb] at hx; cases hx; exact ⟨show ¬ (20 : Nat) = 4 by decide, show ¬ (20 : Nat) = 6 by decide⟩
  have k523 : Kq [523] [9, 13] T T1 := by
    obtain ⟨_, _, _, _, _, e3, _⟩ := id r3
    exact kq (by decide) (fun b hb => by rw [List.mem_singleton.mp hb]; exact aset _ _ e3)
  have k512 : Kq [512] [] T T1 := kq (by decide) (fun b hb x hx => by rw [List.mem_singleton.mp hb, show T.1 512 = some (house S.1) from r2] at hx; cases hx; exact ⟨show ¬ (0 : Nat) = 4 by decide, show ¬ (0 : Nat) = 6 by decide⟩)
  have k513 : Kq [513] [13, 20] T T1 := by
    obtain ⟨f1, f2, f3, L, x2, x5, x6, x7, x8, x9, x10, x11, y13, y14, y15, e1, _⟩ := r10.2.2.2.1
    exact kq (by decide) (fun b hb x hx => by rw [List.mem_singleton.mp hb, e1] at hx; cases hx; exact ⟨show ¬ (1 : Nat) = 4 by decide, show ¬ (1 : Nat) = 6 by decide⟩)
  have kSt : Kq [537, 538, 545, 546, 553, 554, 561, 562, 569, 570, 577, 578] [5, 11, 13] T T1 := by
    refine kq (by decide) (fun b hb => ?_)
    have : ∃ n, 1 ≤ n ∧ n < 7 ∧ (b = 529 + 8 * n ∨ b = 530 + 8 * n) := by
      simp only [List.mem_cons, List.mem_nil_iff, or_false] at hb
      exact ⟨(b - 529) / 8, by omega, by omega, by omega⟩
    obtain ⟨m, m1, m2, m3⟩ := this
    obtain ⟨⟨_, _, ⟨cX, e1⟩, ⟨cY, e2⟩, _⟩, _⟩ := r6.1 m m1 m2
    rcases m3 with m3 | m3
    · rw [m3]; exact aset _ _ e1
    · rw [m3]; exact aset _ _ e2
  refine ⟨hL, r2.fr k512 (ag _ _ (by decide)), r3.fr k523 (ag _ _ (by decide)), r4.fr (kq (by decide) (fun b hb => by rw [List.mem_singleton.mp hb]; exact aarr _ _ r4.choose_spec.1)), ?_, r6.fr kSt (ag _ _ (by decide)), ?_, ?_, r9.fr (kq (by decide) (fun b hb => by rw [List.mem_singleton.mp hb]; exact aset _ _ r9.1.choose_spec)) (ag _ _ (by decide)), r10.fr k513 (ag _ _ (by decide)) (fun k k1 k2 k3 => ?_)⟩
  · obtain ⟨⟨f9, y1, y2⟩, y3, y4⟩ := id r5
    have e91 := (ag [591] [] (by decide)).1 591 (by decide)
    have e19 := (ag [619] [] (by decide)).1 619 (by decide)
    refine ⟨⟨f9, st _ _ y1 (show ¬ (20 : Nat) = 4 by decide) (show ¬ (20 : Nat) = 6 by decide), y2⟩, fun m m1 m2 => ⟨hnode m m1 m2, by rw [e91]; exact (y3 m m1 m2).2⟩, fun m m1 m2 => ?_⟩
    obtain ⟨f8, z1, z2, z3⟩ := y4 m m1 m2
    exact ⟨f8, st _ _ z1 (show ¬ (20 : Nat) = 4 by decide) (show ¬ (20 : Nat) = 6 by decide), by rw [e19]; exact z2, by rw [e19]; exact z3⟩
  · refine ⟨fun m m1 m2 => ?_, r7.2⟩
    obtain ⟨⟨cp, e1⟩, e2, e3, e4⟩ := r7.1 m m1 m2
    refine ⟨⟨cp, st _ _ e1 (show ¬ (21 : Nat) = 4 by decide) (show ¬ (21 : Nat) = 6 by decide)⟩, fun x hx => ?_, e3, fun f f1 f2 => by rw [hr 609 _ (by decide) (by decide) (by omega)]; exact e4 f f1 f2⟩
    have old := e2 x hx
    have o1 : rd S 609 x.2.1 = 1 := old.2.2.2.2.2.2.2.2.2.2.2.2.2.2.2
    refine old.congr ?_ (fun a ha => hr a _ (by omega) (by omega) (fun w => by rw [o1] at w; exact absurd w.2.2 (by decide)))
    rw [old.1]
    exact st _ _ old.1 (show ¬ (10 : Nat) = 4 by decide) (show ¬ (10 : Nat) = 6 by decide)
  · obtain ⟨⟨a1, a2, a3, a4⟩, b1, b2, b3, c1, c2, d1, dP, d2⟩ := id r8
    have e20 := (ag [620] [] (by decide)).1 620 (by decide)
    have e21 := (ag [621] [] (by decide)).1 621 (by decide)
    have e22 := (ag [622] [] (by decide)).1 622 (by decide)
    have e23 := (ag [623] [] (by decide)).1 623 (by decide)
    -- cells of other requests
    have oth : ∀ x ∈ Q ++ Pd, ∀ y, T.1 x.1 = some y → T1.1 x.1 = some y := by
      intro x hx y hy
      have hx2 : x ∈ Q ++ (cz ++ Pd) := by
        rcases List.mem_append.mp hx with w | w
        · exact List.mem_append_left _ w
        · exact List.mem_append_right _ (List.mem_append_right _ w)
      obtain ⟨cc, rr, bb, hc⟩ := (qk x hx2).cell
      rw [hc] at hy
      cases hy
      refine hst _ _ hc (show ¬ (6 : Nat) = 4 by decide) (fun z hz e => ?_)
      rw [List.map_append, List.nodup_append, List.map_append, List.nodup_append] at c1
      rcases List.mem_append.mp hx with w | w
      · exact c1.2.2 x.1 (List.mem_map.mpr ⟨x, w, rfl⟩) z.1 (List.mem_append_left _ (List.mem_map.mpr ⟨z, hz, rfl⟩)) e
      · exact c1.2.1.2.2 z.1 (List.mem_map.mpr ⟨z, hz, rfl⟩) x.1 (List.mem_map.mpr ⟨x, w, rfl⟩) e.symm
    have anyb : ∀ x ∈ Q ++ (cz ++ Pd), ∀ g cc r b, T.1 x.1 = some (cReq g cc r b) → ∃ b', T1.1 x.1 = some (cReq g cc r b') := by
      intro x hx g cc r b hb
      rcases List.mem_append.mp hx with w | w
      · exact ⟨b, oth x (List.mem_append_left _ w) _ hb⟩
      · rcases List.mem_append.mp w with w | w
        · exact hcz x w _ _ _ _ hb
        · exact ⟨b, oth x (List.mem_append_right _ w) _ hb⟩
    have isq : ∀ x ∈ Q ++ (cz ++ Pd), ∀ row, isQr T S rs x row → ∀ row', (∀ i, i < 12 → row' i = row i) → isQr T1 S1 rs x row' := by
      intro x hm row hx row' hrr
      obtain ⟨x1, m, x2, x3⟩ := hx
      refine ⟨?_, m, ?_, x3.fr e20 hrr⟩
      · have hb := anyb x hm
        obtain ⟨q, f, ro, g, cd⟩ := x
        cases ro with
        | none =>
          cases cd with
          | none => obtain ⟨b, x1⟩ := x1; exact hb _ _ _ _ x1
          | some k => exact x1
        | some r =>
          cases cd with
          | none => exact x1
          | some k =>
            obtain ⟨⟨ca, ra, s, b, e1, e2, e3, e4⟩, e5⟩ := x1
            obtain ⟨b', e1'⟩ := hb _ _ _ _ e1
            exact ⟨⟨ca, ra, s, b', e1', st _ _ e2 (show ¬ (7 : Nat) = 4 by decide) (show ¬ (7 : Nat) = 6 by decide), e3.ag (kq (by decide) (fun b hb => by cases hb)) e20, e4⟩, (e21 r).trans e5⟩
      · unfold isQa at x2 ⊢
        simp only [hrr 0 (by decide), hrr 1 (by decide), hrr 10 (by decide), hrr 11 (by decide)]
        exact x2
    refine ⟨⟨(hi 74).trans a1, a2, a3, a4⟩, fun k x hk => isq x (List.mem_append_left _ (List.mem_of_getElem? hk)) _ (b1 k x hk) _ (fun i _ => e22 _), fun x hx => isq x (List.mem_append_right _ (List.mem_append_left _ hx)) _ (b2 x hx) _ (fun i _ => e22 _), fun k x hk => isq x (List.mem_append_right _ (List.mem_append_right _ (List.mem_of_getElem? hk))) _ (b3 k x hk) _ (fun i _ => e23 _), c1, c2, fun f => (d1 f).ext (fun x hx y hy => ?_), dP.ext (fun x hx y hy => ?_), fun x hx => by rw [hr 609 _ (by decide) (by decide) (by omega)]; exact d2 x hx⟩
    · obtain ⟨x', x1, x2, _⟩ := ch_mem hx
      subst x2
      exact oth x' (List.mem_append_left _ x1) y hy
    · obtain ⟨x', x1, x2⟩ := List.mem_map.mp hx
      subst x2
      exact oth x' (List.mem_append_right _ x1) y hy
  · have e9 : ∀ i, mRow S1 k i = mRow S k i := fun i => hr _ _ (by decide) (by decide) (by omega)
    exact ⟨k, ⟨by rw [← hi 77]; exact k1, k2⟩, (e9 0).symm.trans k3, e9 3, e9 5, e9 4⟩
theorem prep_views (hi : ∀ i, S1.1 i = S.1 i) (hr : ∀ a k, ¬ a = 594 → ¬ a = 595 → ¬ (610 ≤ a ∧ a ≤ 617 ∧ rd S 609 k = 0) → rd S1 a k = rd S a k) : vM S1 = vM S ∧ vE S1 = vE S ∧ vS S1 = vS S := by
  have ag : ∀ as is, (∀ a ∈ as, ¬ a = 594 ∧ ¬ a = 595 ∧ ¬ (610 ≤ a ∧ a ≤ 617)) → Ag as is S S1 := fun as is q => ⟨fun a ha k => hr a k (q a ha).1 (q a ha).2.1 (fun w => (q a ha).2.2 ⟨w.1, w.2.1⟩), fun i _ => hi i⟩
  exact ⟨vM_ag (ag _ _ (by decide)), vE_ag (ag _ _ (by decide)), vS_ag (ag _ _ (by decide))⟩
/-- the ints of a fetch that is made for a request -/
def newG (g : Nat → Int32) (mi : Int32) : Nat → Int32 := fun i => if i = 0 then g 0 else if i = 1 then g 1 else if i = 2 then g 2 else if i = 3 then g 3 else if i = 4 then g 6 else if i = 5 then (if mi = 0 then g 4 else v_ntz mi) else if i = 6 then (if mi = 0 then g 5 else 31 - v_nlz mi) else 0
theorem cFetch_ext {g g' : Nat → Int32} {h t : Option Nat} (e : ∀ i, i < 12 → g i = g' i) : cFetch g h t = cFetch g' h t := by
  unfold cFetch
  rw [e 0 (by decide), e 1 (by decide), e 2 (by decide), e 3 (by decide), e 4 (by decide), e 5 (by decide), e 6 (by decide), e 7 (by decide), e 8 (by decide), e 9 (by decide), e 10 (by decide), e 11 (by decide)]
theorem new_fetch (hN : okN T) : tnw T 10 = some (T.2.1, tadd T (cFetch (fun _ => 0) none none) 14) ∧ (tadd T (cFetch (fun _ => 0) none none) 14).1 T.2.1 = some (cFetch (fun _ => 0) none none) ∧ T.1 T.2.1 = none := by
  refine ⟨rfl, tadd_eq, ?_⟩
  cases e : T.1 T.2.1 with
  | none => rfl
  | some c => exact absurd (hN _ _ e) (Nat.lt_irrefl _)
theorem c_newF (hN : okN T) {q : Nat} {g : Nat → Int32} {cc r b : Option Nat} (hq : T.1 q = some (cReq g cc r b)) (g6 : flag (g 6)) : D_c_Fetch_init F T.2.1 (some q) (tadd T (cFetch (fun _ => 0) none none) 14) = some (tset (tadd T (cFetch (fun _ => 0) none none) 14) T.2.1 (cFetch (newG g 0) none none)) := by
  obtain ⟨m1, m2, m3⟩ := new_fetch hN
  have hqa : ¬ q = T.2.1 := fun z => by rw [z, m3] at hq; cases hq
  have q0 : (tadd T (cFetch (fun _ => 0) none none) 14).1 q = some (cReq g cc r b) := by rw [tadd_1, if_neg hqa]; exact hq
  have qq : ∀ X, (tset (tadd T (cFetch (fun _ => 0) none none) 14) T.2.1 X).1 q = some (cReq g cc r b) := fun X => tset_o q0 hqa
  have pz : ∀ (Y : tT) (M : Nat → Int32) (h t : Option Nat), Y.1 T.2.1 = some (cFetch M h t) → tpz Y T.2.1 10 4 (g 6) = some (tset Y T.2.1 (cFetch (fup M 4 (g 6)) h t)) := by
    intro Y M h t hX
    unfold tpz
    rw [if_pos (show g 6 = 0 ∨ g 6 = 1 from g6)]
    exact Fp4 hX
  simp only [D_c_Fetch_init, Option.bind_some, Qg0 q0, Fp0 m2, Qg1 (qq _), Fp1 tset_at, tset_tset, Qg2 (qq _), Fp2 tset_at, Qg3 (qq _), Fp3 tset_at, Qg6 (qq _), pz _ _ _ _ tset_at, Qg4 (qq _), Fp5 tset_at, Qg5 (qq _), Fp6 tset_at]
  rfl
end
