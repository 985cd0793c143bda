/-! A request waits: the whole relation stands. -/
section
variable {T T' : tT} {S S' : mS} {X Y : Nat → List (Nat × Nat)} {Z : Nat → List Fz} {Q Pd : List Rq} {j0 c F n : Nat} {rs : List Nat} {z : Rq} {y : Fz}
theorem RF.adr {C : Nat → List Nat} (h : RF T S Z C) {m : Nat} {x : Fz} (h1 : 1 ≤ n) (h2 : n < 7) (m1 : 1 ≤ m) (m2 : m < 7) (hy : y ∈ Z n) (hx : x ∈ Z m) (e : y.1 = x.1) : y = x := by
  have en := h.2 n m y x h1 h2 m1 m2 hy hx e
  subst en
  refine h.same h1 h2 hy hx ?_
  obtain ⟨a1, ⟨p, v, p1, p2, p3, p4, p5⟩, _⟩ := (h.1 n h1 h2).2.1 y hy
  obtain ⟨b1, ⟨p', v', q1', q2', q3', q4', q5'⟩, _⟩ := (h.1 n h1 h2).2.1 x hx
  rw [e, b1] at a1
  have ee := cFetch_g (Option.some.inj a1)
  have e0 : y.2.2 0 = x.2.2 0 := (ee 0 (by decide)).symm
  have e1 : y.2.2 1 = x.2.2 1 := (ee 1 (by decide)).symm
  rw [p4, q4'] at e0
  rw [p5, q5'] at e1
  have k0 := congrArg Int32.toNatClampNeg e0
  have k1 := congrArg Int32.toNatClampNeg e1
  rw [m_n_cl (by omega), m_n_cl (by omega)] at k0 k1
  omega
theorem P_stay (hF : 400 ≤ F) (h : RB T S X Y Z Q [z] Pd j0 rs c) (h1 : 1 ≤ n) (h2 : n < 7) (hy : y ∈ Z n) (hf : y.2.1 = z.2.1) : ∃ T' S', D_c_Fetch_join F y.1 (some z.1) T = some T' ∧ D_m_stay F (Int32.ofNat (wOf Q)) S = some S' ∧ RB T' S' X Y Z (Q ++ [z]) [] Pd j0 rs c ∧ vM S' = vM S ∧ vE S' = vE S ∧ vS S' = vS S ∧ Cs T T' 0 0 := by
  obtain ⟨r1, r2, r3, r4, r5, r6, r7, r8, r9, r10⟩ := id h
  obtain ⟨⟨a1, a2, a3, a4⟩, b1, b2, b3, c1, c2, d1, dP, d2⟩ := id r8
  have fe := (r7.1 n h1 h2).2.1 y hy
  have hw := h.w
  -- the cells of the requests
  have cell : ∀ x : Rq, isQt T S rs x → ∃ c r b, T.1 x.1 = some (cReq x.2.2.2.1 c r b) := by
    intro x hx
    obtain ⟨q, f, ro, g, cd⟩ := x
    cases ro with
    | none =>
      cases cd with
      | none => obtain ⟨b, hx⟩ := hx; exact ⟨_, _, _, hx⟩
      | some k => exact absurd hx (fun w => w)
    | some r =>
      cases cd with
      | none => exact absurd hx (fun w => w)
      | some k => obtain ⟨⟨ca, ra, s, b, hx, _⟩, _⟩ := hx; exact ⟨_, _, _, hx⟩
  have qc : ∀ x ∈ Q ++ ([z] ++ Pd), isQt T S rs x := by
    intro x hx
    rcases List.mem_append.mp hx with w | w
    · obtain ⟨k, hk⟩ := List.mem_iff_getElem?.mp w
      exact (b1 k x hk).1
    · rcases List.mem_append.mp w with w | w
      · exact (b2 x w).1
      · obtain ⟨k, hk⟩ := List.mem_iff_getElem?.mp w
        exact (b3 k x hk).1
  obtain ⟨cz, rz, bz, hz0⟩ := cell z (qc z (by simp))
  have nd : ∀ x ∈ Q, ¬ x.1 = z.1 := by
    intro x hx e
    rw [List.map_append, List.nodup_append] at c1
    exact c1.2.2 x.1 (List.mem_map.mpr ⟨x, hx, rfl⟩) z.1 (by simp) e
  have ndP : ∀ x ∈ Pd, ¬ x.1 = z.1 := by
    intro x hx e
    rw [List.map_append, List.nodup_append, List.map_append, List.nodup_append] at c1
    exact c1.2.1.2.2 z.1 (by simp) x.1 (List.mem_map.mpr ⟨x, hx, rfl⟩) e.symm
  have nQP : ∀ x ∈ Q, ∀ x' ∈ Pd, ¬ x.1 = x'.1 := by
    intro x hx x' hx' e
    rw [List.map_append, List.nodup_append] at c1
    exact c1.2.2 x.1 (List.mem_map.mpr ⟨x, hx, rfl⟩) x'.1 (List.mem_map.mpr ⟨x', by simp [hx'], rfl⟩) e
  have ndQ : (Q.map Prod.fst).Nodup := by
    rw [List.map_append, List.nodup_append] at c1
    exact c1.1
  have hn9 : z.1 ∉ ch Q y.2.1 := fun w => by
    obtain ⟨x, x1, x2, _⟩ := ch_mem w
    exact nd x x1 x2
  obtain ⟨T', t1, t2, t3, t4, t5, t6⟩ := c_join (F := F) fe.1 hz0 (fun x hx => by
    obtain ⟨x', x1, x2, _⟩ := ch_mem (List.mem_of_getLast? hx)
    obtain ⟨cx, rx, bx, hx0⟩ := cell x' (qc x' (List.mem_append_left _ x1))
    rw [x2] at hx0
    exact ⟨_, _, _, _, hx0⟩) hn9
  obtain ⟨S', s1, s2, s3⟩ := m_stay (F := F) (S := S) (w := wOf Q) (n := Q.length) (by omega) a1 (by have := hw.1; omega) (by unfold wOf; omega)
  have cs : Cs T T' 0 0 := K_c_Fetch_join (F := F) _ t1
  -- what stands
  have st : ∀ b x, T.1 b = some x → ¬ kd x = 6 → ¬ kd x = 10 → T'.1 b = some x := by
    intro b x hb k6 k10
    refine t5 b x hb (fun w => ?_) (fun w => ?_) (fun w => ?_)
    · rw [w, fe.1] at hb; cases hb; exact k10 rfl
    · rw [w, hz0] at hb; cases hb; exact k6 rfl
    · obtain ⟨x', x1, x2, _⟩ := ch_mem (List.mem_of_getLast? w)
      obtain ⟨cx, rx, bx, hx0⟩ := cell x' (qc x' (List.mem_append_left _ x1))
      rw [x2, hb] at hx0
      cases hx0
      exact k6 rfl
  have kq : ∀ {A K : List Nat}, (6 ∉ K ∧ 10 ∉ K) → (∀ b ∈ A, ∀ x, T.1 b = some x → ¬ kd x = 6 ∧ ¬ kd x = 10) → Kq A K T T' := by
    intro A K hK hA b x hb hk
    rcases hk with hk | hk
    · exact st b x hb (fun w => hK.1 (w ▸ hk)) (fun w => hK.2 (w ▸ hk))
    · exact st b x hb (hA b hk x hb).1 (hA b hk x hb).2
  have rq : ∀ a g cc r b, T.1 a = some (cReq g cc r b) → ∃ b', T'.1 a = some (cReq g cc r b') := by
    intro a g cc r b ha
    by_cases e1 : a = z.1
    · rw [e1] at ha ⊢
      rw [hz0] at ha
      exact ⟨none, by rw [t3, cReq_b (Option.some.inj ha) none]⟩
    · by_cases e2 : (ch Q y.2.1).getLast? = some a
      · exact ⟨_, t4 a _ _ _ _ e2 ha⟩
      · exact ⟨b, t5 a _ ha (kd_ne ha fe.1 (show ¬ (6 : Nat) = 10 by decide)) e1 e2⟩
  have hag : ∀ as is, (∀ a ∈ as, ¬ a = 622) → (∀ i ∈ is, ¬ i = 74) → Ag as is S S' := fun as is q1' q2' => ⟨fun a ha k => by rw [s3, if_neg (fun w => q1' a ha w.1)], fun i hi => by rw [s2, if_neg (q2' i hi)]⟩
  have isq : ∀ x : Rq, ∀ row, isQr T S rs x row → ∀ row', (∀ i, i < 12 → row' i = row i) → isQr T' S' rs x row' := by
    intro x row hx row' hr
    obtain ⟨x1, m, x2, x3⟩ := hx
    refine ⟨?_, m, ?_, x3.fr ((hag [620] [] (by decide) (by decide)).1 620 (by decide)) hr⟩
    · obtain ⟨q, f, ro, g, cd⟩ := x
      cases ro with
      | none =>
        cases cd with
        | none => obtain ⟨b, x1⟩ := x1; exact rq _ _ _ _ _ x1
        | some k => exact x1
      | some r =>
        cases cd with
        | none => exact x1
        | some k =>
          obtain ⟨⟨ca, ra, s, b, e1, e2, e3, e4⟩, e5⟩ := x1
          obtain ⟨b', e1'⟩ := rq _ _ _ _ _ e1
          exact ⟨⟨ca, ra, s, b', e1', st _ _ e2 (show ¬ (7 : Nat) = 6 by decide) (show ¬ (7 : Nat) = 10 by decide), e3.ag (kq (by decide) (fun b hb => by cases hb)) ((hag [620] [] (by decide) (by decide)).1 620 (by decide)), e4⟩, ((hag [621] [] (by decide) (by decide)).1 621 (by decide) r).trans e5⟩
    · unfold isQa at x2 ⊢
      simp only [hr 0 (by decide), hr 1 (by decide), hr 10 (by decide), hr 11 (by decide)]
      exact x2
  have out : rd S 609 z.2.1 = 1 := by rw [← hf]; exact fe.2.2.2.2.2.2.2.2.2.2.2.2.2.2.2
  have aset : ∀ b k, T.1 b = some (.inr (.inr k)) → ∀ x, T.1 b = some x → ¬ kd x = 6 ∧ ¬ kd x = 10 := fun b k hb x hx => by rw [hb] at hx; cases hx; exact ⟨show ¬ (21 : Nat) = 6 by decide, show ¬ (21 : Nat) = 10 by decide⟩
  have aarr : ∀ b k, T.1 b = some (.inr (.inl k)) → ∀ x, T.1 b = some x → ¬ kd x = 6 ∧ ¬ kd x = 10 := fun b k hb x hx => by rw [hb] at hx; cases hx; exact ⟨show ¬ (20 : Nat) = 6 by decide, show ¬ (20 : Nat) = 10 by decide⟩
  have k520 : Kq [520] [] T T' := kq (by decide) (fun b hb => by rw [List.mem_singleton.mp hb]; exact aarr _ _ r4.choose_spec.1)
  have k519 : Kq [519] [4, 20] T T' := kq (by decide) (fun b hb => by rw [List.mem_singleton.mp hb]; exact aarr _ _ r5.1.choose_spec.1)
  have k512 : Kq [512] [] T T' := kq (by decide) (fun b hb x hx => by rw [List.mem_singleton.mp hb, show T.1 512 = some (house S.1) from r2] at hx; cases hx; exact ⟨show ¬ (0 : Nat) = 6 by decide, show ¬ (0 : Nat) = 10 by decide⟩)
  have k523 : Kq [523] [9, 13] T T' := by
    obtain ⟨_, _, _, _, _, e3, _⟩ := id r3
    exact kq (by decide) (fun b hb => by rw [List.mem_singleton.mp hb]; exact aset _ _ e3)
  have k524 : Kq [524] [8, 12, 20] T T' := kq (by decide) (fun b hb => by rw [List.mem_singleton.mp hb]; exact aset _ _ r9.1.choose_spec)
  have k513 : Kq [513] [13, 20] T T' := by
    obtain ⟨f1, f2, f3, L, x2, x5, x6, x7, x8, x9, x10, x11, y13, y14, y15, e1, _⟩ := r10.2.2.2.1
    exact kq (by decide) (fun b hb x hx => by rw [List.mem_singleton.mp hb, e1] at hx; cases hx; exact ⟨show ¬ (1 : Nat) = 6 by decide, show ¬ (1 : Nat) = 10 by decide⟩)
  have kSt : Kq [537, 538, 545, 546, 553, 554, 561, 562, 569, 570, 577, 578] [5, 11, 13] T T' := by
    refine kq (by decide) (fun b hb => ?_)
    have : ∃ n, 1 ≤ n ∧ n < 7 ∧ (b = 529 + 8 * n ∨ b = 530 + 8 * n) := by
      simp only [List.mem_cons, List.mem_nil_iff, or_false] at hb
      exact ⟨(b - 529) / 8, by omega, by omega, by omega⟩
    obtain ⟨m, m1, m2, m3⟩ := this
    obtain ⟨⟨_, _, ⟨cX, e1⟩, ⟨cY, e2⟩, _⟩, _⟩ := r6.1 m m1 m2
    rcases m3 with m3 | m3
    · rw [m3]; exact aset _ _ e1
    · rw [m3]; exact aset _ _ e2
  refine ⟨T', S', t1, s1, ⟨(cs r1).1, r2.fr k512 (hag _ _ (by decide) (by decide)), r3.fr k523 (hag _ _ (by decide) (by decide)), r4.fr k520, r5.fr k519 (hag _ _ (by decide) (by decide)), r6.fr kSt (hag _ _ (by decide) (by decide)), ?_, ?_, r9.fr k524 (hag _ _ (by decide) (by decide)), r10.fr k513 (hag _ _ (by decide) (by decide)) (fun k k1 k2 k3 => ?_)⟩, vM_ag (hag _ _ (by decide) (by decide)), vE_ag (hag _ _ (by decide) (by decide)), vS_ag (hag _ _ (by decide) (by decide)), cs⟩
  · -- fetches
    refine ⟨fun m m1 m2 => ?_, r7.2⟩
    obtain ⟨⟨cp, e1⟩, e2, e3, e4⟩ := r7.1 m m1 m2
    refine ⟨⟨cp, st _ _ e1 (show ¬ (21 : Nat) = 6 by decide) (show ¬ (21 : Nat) = 10 by decide)⟩, fun x hx => ?_, e3, fun f f1 f2 => by rw [s3, if_neg (by omega)]; exact e4 f f1 f2⟩
    have old := e2 x hx
    have frS : ∀ L, isFe T S m x L → T'.1 x.1 = some (cFetch (fup x.2.2 11 (Int32.ofNat (ch (Q ++ [z]) x.2.1).length)) (ch (Q ++ [z]) x.2.1).head? (ch (Q ++ [z]) x.2.1).getLast?) → isFe T' S' m x (ch (Q ++ [z]) x.2.1) := by
      intro L hL hT
      have := hL.fr (T' := T) (S' := S') Kq.refl (hag _ _ (by decide) (by decide))
      exact ⟨hT, this.2⟩
    by_cases e : x.1 = y.1
    · have : x = y := r7.adr m1 m2 h1 h2 hx hy e
      subst this
      refine frS _ old ?_
      rw [ch_app, if_pos hf.symm]
      exact t2
    · have ef : ¬ z.2.1 = x.2.1 := by
        intro w
        apply e
        have em : m = n := by
          obtain ⟨_, ⟨p, v, p1, p2, p3, _⟩, _⟩ := old
          obtain ⟨_, ⟨p', v', q1', q2', q3', _⟩, _⟩ := fe
          omega
        subst em
        rw [r7.same m1 m2 hx hy (by rw [hf, w])]
      refine frS _ old ?_
      rw [ch_app, if_neg ef, List.append_nil]
      exact t5 _ _ old.1 e (kd_ne old.1 hz0 (show ¬ (10 : Nat) = 6 by decide)) (fun w => by
        obtain ⟨x', x1, x2, _⟩ := ch_mem (List.mem_of_getLast? w)
        obtain ⟨cx, rx, bx, hx0⟩ := cell x' (qc x' (List.mem_append_left _ x1))
        exact kd_ne old.1 hx0 (show ¬ (10 : Nat) = 6 by decide) x2.symm)
  · -- rows
    have as : (Q ++ [z]) ++ ([] ++ Pd) = Q ++ ([z] ++ Pd) := by simp
    refine ⟨⟨by rw [s2, if_pos rfl, List.length_append]; rfl, by rw [as]; exact a2, a3, Nat.zero_le _⟩, fun k x hk => ?_, fun x hx => (by cases hx), fun k x hk => ?_, by rw [as]; exact c1, by rw [as]; exact c2, fun f => ?_, ?_, fun x hx => ?_⟩
    · by_cases hkl : k < Q.length
      · rw [List.getElem?_append_left hkl] at hk
        exact isq x _ (b1 k x hk) _ (fun i hi => by rw [s3, if_neg (by omega)])
      · have hkl2 : k = Q.length := by
          have := (List.getElem?_eq_some_iff.mp hk).1
          rw [List.length_append] at this
          simp at this
          omega
        rw [hkl2, List.getElem?_append_right (Nat.le_refl _), Nat.sub_self] at hk
        have : x = z := by simpa using hk.symm
        subst this
        refine isq x _ (b2 x (List.mem_singleton.mpr rfl)) _ (fun i hi => ?_)
        rw [s3, if_pos ⟨rfl, by omega, by omega⟩]
        congr 1
        unfold wOf
        omega
    · exact isq x _ (b3 k x hk) _ (fun i hi => by rw [s3, if_neg (by omega)])
    · rw [ch_app]
      by_cases e : z.2.1 = f
      · rw [if_pos e]
        have ey : y.2.1 = f := hf.trans e
        rw [ey] at t4 t5
        refine lnk.snoc ⟨_, _, _, t3⟩ (d1 f) (ch_nodup ndQ) (fun x hx w x' hx' => ?_) (fun x w g cc r b hx' => t4 x _ _ _ _ w hx')
        obtain ⟨q9, q91, q92, _⟩ := ch_mem hx
        obtain ⟨cx, rx, bx, hx0⟩ := cell q9 (qc q9 (List.mem_append_left _ q91))
        rw [q92] at hx0
        exact t5 x x' hx' (kd_ne hx0 fe.1 (show ¬ (6 : Nat) = 10 by decide)) (fun w => nd q9 q91 (q92.trans w)) w
      · rw [if_neg e, List.append_nil]
        refine (d1 f).ext (fun x hx x' hx' => ?_)
        obtain ⟨q9, q91, q92, q93⟩ := ch_mem hx
        obtain ⟨cx, rx, bx, hx0⟩ := cell q9 (qc q9 (List.mem_append_left _ q91))
        rw [q92] at hx0
        refine t5 x x' hx' (kd_ne hx0 fe.1 (show ¬ (6 : Nat) = 10 by decide)) (fun w => nd q9 q91 (q92.trans w)) (fun w => ?_)
        obtain ⟨q8, q81, q82, q83⟩ := ch_mem (List.mem_of_getLast? w)
        have : q8 = q9 := by
          obtain ⟨i, hi⟩ := List.mem_iff_getElem?.mp q81
          obtain ⟨j, hj⟩ := List.mem_iff_getElem?.mp q91
          obtain ⟨i1, i2⟩ := List.getElem?_eq_some_iff.mp hi
          obtain ⟨j1, j2⟩ := List.getElem?_eq_some_iff.mp hj
          have : (Q.map Prod.fst)[i]'(by rw [List.length_map]; exact i1) = (Q.map Prod.fst)[j]'(by rw [List.length_map]; exact j1) := by
            rw [List.getElem_map, List.getElem_map, i2, j2, q82, q92]
          have hij := (List.getElem_inj ndQ).mp this
          subst hij
          rw [hj] at hi
          cases hi
          rfl
        rw [this, q93] at q83
        exact e (by rw [← hf, ← q83])
    · refine dP.ext (fun x hx x' hx' => ?_)
      obtain ⟨q9, q91, q92⟩ := List.mem_map.mp hx
      obtain ⟨cx, rx, bx, hx0⟩ := cell q9 (qc q9 (List.mem_append_right _ (List.mem_append_right _ q91)))
      rw [q92] at hx0
      refine t5 x x' hx' (kd_ne hx0 fe.1 (show ¬ (6 : Nat) = 10 by decide)) (fun w => ndP q9 q91 (q92.trans w)) (fun w => ?_)
      obtain ⟨q8, q81, q82, q83⟩ := ch_mem (List.mem_of_getLast? w)
      exact nQP q8 q81 q9 q91 (q82.trans q92.symm)
    · rw [s3, if_neg (by omega)]
      rcases List.mem_append.mp hx with w | w
      · exact d2 x w
      · rw [List.mem_singleton.mp w]; exact out
  · have e9 : ∀ i, mRow S' k i = mRow S k i := fun i => by show rd S' 624 _ = rd S 624 _; rw [s3, if_neg (by omega)]
    exact ⟨k, ⟨by rw [s2, if_neg (by decide)] at k1; exact k1, k2⟩, (e9 0).symm.trans k3, e9 3, e9 5, e9 4⟩
end
