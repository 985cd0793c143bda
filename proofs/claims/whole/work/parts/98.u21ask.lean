/-! A reply is made; a reply is closed whose request waits nowhere. -/
section
variable {T T' : tT} {S S' : mS} {X Y : Nat → List (Nat × Nat)} {Z : Nat → List Fz} {Q cz Pd : List Rq} {j0 c F : Nat} {rs : List Nat}
theorem RB.closed0 {r ra : Nat} {G : Nat → Int32} (h : RB T S X Y Z Q [] Pd j0 rs c) (hn : ∀ y ∈ Q ++ Pd, ¬ y.2.2.1 = some r) (hra : rs[r]? = some ra) (hL : okL T') (hH : RHouse T' S') (hF : FrC [512, ra] T T') (hR : T'.1 ra = some (cReply G 31)) (hi : ∀ i, ¬ i = 71 → ¬ (84 ≤ i ∧ i ≤ 87) → S'.1 i = S.1 i) (hr : ∀ a q, ¬ a = 621 → ¬ a = 627 → rd S' a q = rd S a q) (h21 : ∀ q, rd S' 621 q = if q = r then 0 else rd S 621 q) (h27 : ∀ q, ¬ aRow r q → rd S' 627 q = rd S 627 q) (hA : isAns S' r G) (hE : G 0 = rd S' 627 (9 * r + 6)) : RB T' S' X Y Z Q [] Pd j0 rs c := by
  have h0 := h
  obtain ⟨_, _, h3, h4, h5, h6, h7, h8, h9, h10⟩ := id h
  obtain ⟨g9, s9, hg9, _⟩ := h9.2.2.2.2 r ra hra
  have kq : ∀ {A K : List Nat}, (512 ∉ A ∧ (∀ b ∈ A, ∀ g s, ¬ T.1 b = some (cReply g s))) → (0 ∉ K ∧ 8 ∉ K) → Kq A K T T' := by
    intro A K hA hK
    refine hF.kq (fun b hb x hx => ?_)
    simp only [List.mem_cons, List.mem_nil_iff, or_false] at hb
    rcases hb with rfl | rfl
    · rw [show T.1 512 = some (house S.1) from h.2.1] at hx
      cases hx
      exact ⟨hK.1, hA.1⟩
    · rw [hg9] at hx
      cases hx
      exact ⟨hK.2, fun w => hA.2 _ w _ _ hg9⟩
  have ag : ∀ as is, (∀ a ∈ as, ¬ a = 621 ∧ ¬ a = 627) → (∀ i ∈ is, ¬ i = 71 ∧ ¬ (84 ≤ i ∧ i ≤ 87)) → Ag as is S S' := fun as is p q => ⟨fun a ha k => hr a k (p a ha).1 (p a ha).2, fun i hi' => hi i (q i hi').1 (q i hi').2⟩
  obtain ⟨n, cap, ms, z1, z2, z3, z4, z5⟩ := id h3
  have n523 : ∀ g s, ¬ T.1 523 = some (cReply g s) := fun g s w => by rw [z3] at w; cases w
  have nL : ∀ {b k : Nat} {xs : List Nat}, T.1 b = some (.inr (.inr (k, xs))) → ∀ g s, ¬ T.1 b = some (cReply g s) := fun hb g s w => by rw [hb] at w; cases w
  have nA : ∀ {b t k : Nat} {f : Nat → Value}, T.1 b = some (.inr (.inl (t, k, f))) → ∀ g s, ¬ T.1 b = some (cReply g s) := fun hb g s w => by rw [hb] at w; cases w
  have a520 : Kq [520] [] T T' := by
    obtain ⟨f, e1, e2⟩ := id h4
    exact kq ⟨by decide, fun b hb => by rw [List.mem_singleton.mp hb]; exact nA e1⟩ (by decide)
  have a519 : Kq [519] [4, 20] T T' := by
    obtain ⟨⟨f, e1, e2⟩, _⟩ := id h5
    exact kq ⟨by decide, fun b hb => by rw [List.mem_singleton.mp hb]; exact nA e1⟩ (by decide)
  have a523 : Kq [523] [9, 13] T T' := kq ⟨by decide, fun b hb => by rw [List.mem_singleton.mp hb]; exact n523⟩ (by decide)
  have aSt : Kq [537, 538, 545, 546, 553, 554, 561, 562, 569, 570, 577, 578] [5, 11, 13] T T' := by
    refine kq ⟨by decide, fun b hb => ?_⟩ (by decide)
    have : ∃ n, 1 ≤ n ∧ n < 7 ∧ (b = 529 + 8 * n ∨ b = 530 + 8 * n) := by
      simp only [List.mem_cons, List.mem_nil_iff, or_false] at hb
      exact ⟨(b - 529) / 8, by omega, by omega, by omega⟩
    obtain ⟨n, n1, n2, n3⟩ := this
    obtain ⟨⟨_, _, ⟨cX, e1⟩, ⟨cY, e2⟩, _⟩, _⟩ := h6.1 n n1 n2
    rcases n3 with n3 | n3
    · rw [n3]; exact nL e1
    · rw [n3]; exact nL e2
  have aF : Kq [539, 547, 555, 563, 571, 579] [10] T T' := by
    refine kq ⟨by decide, fun b hb => ?_⟩ (by decide)
    have : ∃ n, 1 ≤ n ∧ n < 7 ∧ b = 531 + 8 * n := by
      simp only [List.mem_cons, List.mem_nil_iff, or_false] at hb
      exact ⟨(b - 531) / 8, by omega, by omega, by omega⟩
    obtain ⟨n, n1, n2, n3⟩ := this
    obtain ⟨⟨cX, e1⟩, _⟩ := h7.1 n n1 n2
    rw [n3]
    exact nL e1
  have a513 : Kq [513] [13, 20] T T' := by
    obtain ⟨f1, f2, f3, L, x2, x5, x6, x7, x8, x9, x10, x11, y13, y14, y15, e1, _⟩ := h10.2.2.2.1
    exact kq ⟨by decide, fun b hb g s w => by rw [List.mem_singleton.mp hb, e1] at w; cases w⟩ (by decide)
  have aQ : Kq [] [6, 7, 20] T T' := kq ⟨by decide, fun b hb => by cases hb⟩ (by decide)
  refine ⟨hL, hH, h3.fr a523 (ag _ _ (by decide) (by decide)), h4.fr a520, h5.fr a519 (ag _ _ (by decide) (by decide)), h6.fr aSt (ag _ _ (by decide) (by decide)), h7.fr aF (ag _ _ (by decide) (by decide)), ?_, ?_, h10.fr a513 (ag _ _ (by decide) (by decide)) ?_⟩
  · refine h0.2.2.2.2.2.2.2.1.fr aQ (ag _ _ (by decide) (by decide)) (fun y hy r' hr' => ?_) (fun k _ => hr _ _ (by decide) (by decide))
    have : ¬ r' = r := fun e => hn y (by simpa using hy) (e ▸ hr')
    rw [h21, if_neg this]
  · obtain ⟨⟨cR, e1⟩, e2, e3, e4, e5⟩ := id h9
    have n524 : ¬ (524 : Nat) = ra := kd_ne e1 hg9 (show ¬ (21 : Nat) = 8 by decide)
    refine ⟨⟨cR, hF.1 _ _ e1 (by simp; exact n524)⟩, e2, (hi 70 (by decide) (by decide)).trans e3, ⟨e4.1, fun r' hr' => (h27 _ (fun w => ?_)).trans (e4.2.1 r' hr'), fun r' hr' => by rw [hr 620 _ (by decide) (by decide)]; exact e4.2.2 r' hr'⟩, fun r' a' hr' => ?_⟩
    · have := (List.getElem?_eq_some_iff.mp hra).1
      unfold aRow at w
      omega
    by_cases e : r' = r
    · subst e
      rw [hra] at hr'
      cases hr'
      refine ⟨G, 31, hR, Or.inl (by rw [h21, if_pos rfl]), hE, fun w => ?_, fun _ => ⟨hA, Or.inl rfl⟩⟩
      rw [h21, if_pos rfl] at w
      cases w
    · have na : ¬ a' = ra := by
        intro w
        subst w
        obtain ⟨i1, j1⟩ := List.getElem?_eq_some_iff.mp hr'
        obtain ⟨i2, j2⟩ := List.getElem?_eq_some_iff.mp hra
        exact e ((List.getElem_inj e4.1).mp (j1.trans j2.symm))
      have hrep := e5 r' a' hr'
      refine hrep.fr (fun x hx => ?_) (kq ⟨by decide, fun b hb => by cases hb⟩ (by decide)) (fun j => hr _ _ (by decide) (by decide)) (by rw [h21, if_neg e]) (fun j hj => h27 j (fun w => e ?_))
      · obtain ⟨g, s, q1, _⟩ := hrep
        rw [q1] at hx
        cases hx
        have n512 : ¬ a' = 512 := kd_ne q1 (show T.1 512 = some (house S.1) from h.2.1) (show ¬ (8 : Nat) = 0 by decide)
        exact hF.1 _ _ q1 (by simp; exact ⟨n512, na⟩)
      · unfold aRow at hj w
        omega
  · intro k k1 k2 k3
    have e9 : ∀ i, mRow S' k i = mRow S k i := fun i => hr _ _ (by decide) (by decide)
    exact ⟨k, ⟨by rw [← hi 77 (by decide) (by decide)]; exact k1, k2⟩, (e9 0).symm.trans k3, e9 3, e9 5, e9 4⟩
theorem P_close0 {r ra : Nat} {st : Int32} (h : RB T S X Y Z Q [] Pd j0 rs c) (hn : ∀ y ∈ Q ++ Pd, ¬ y.2.2.1 = some r) (hr : r < 300) (a4 : rs[r]? = some ra) (a5 : rd S 621 r = 1) (hst : st = 400 ∨ st = 404 ∨ st = 502 ∨ st = 503 ∨ st = 504) : ∃ T' S', D_c_EdgeHouse_close F 512 (some ra) st T = some T' ∧ D_m_close F (Int32.ofNat r) st 0 0 S = some S' ∧ RB T' S' X Y Z Q [] Pd j0 rs c ∧ vM S' = vM S ∧ vE S' = vE S ∧ vS S' = vS S ∧ Cs T T' 0 0 := by
  obtain ⟨gr, sr, r1, r2, r3, r4, r5⟩ := h.2.2.2.2.2.2.2.2.1.2.2.2.2 r ra a4
  obtain ⟨q4, rfl⟩ := r4 a5
  have hH : T.1 512 = some (house S.1) := h.2.1
  have n5 : ¬ 512 = ra := kd_ne hH r1 (show ¬ (0 : Nat) = 8 by decide)
  obtain ⟨S', s1, s2, s3, s4, s5, s6, s7, s8, s9, s10, s11, s12, s13, s14⟩ := m_close (F := F) (S := S) (st := st) (how := 0) (fr := 0) hr (Or.inl rfl)
  have e1 := c_close (F := F) (x := st) hH r1
  have fr : FrC [512, ra] T (tset (tset T ra (cReply (fup (fup gr 1 st) 12 (S.1 36)) 31)) 512 (house (fup S.1 71 (S.1 71 + 1)))) := ((FrC.set r1).trans (FrC.set (tset_o hH n5))).mono (fun b hb => Or.inl (by simp at hb ⊢; rcases hb with hb | hb <;> simp [hb]))
  have cs : Cs T _ 0 0 := K_c_EdgeHouse_close (F := F) _ e1
  simp only [show ¬ ((0 : Int32) = 1) by decide, if_false] at s7 s8 s9 s10 s13 s14
  refine ⟨_, S', e1, s1, ?_, ?_, ?_, ?_, cs⟩
  · refine h.closed0 (G := fup (fup gr 1 st) 12 (S.1 36)) hn a4 (cs h.1).1 ?_ fr ?_ (fun i i1 _ => by rw [s2, if_neg i1]) (fun a q i1 i2 => s3 a q i1 i2) s4 s5 ?_ ?_
    · show (tset _ _ _).1 512 = some (house S'.1)
      rw [tset_at]
      congr 2
      funext i
      rw [s2]
      rfl
    · exact tset_o tset_at (fun w => n5 w.symm)
    · refine ⟨by rw [s6]; rfl, by rw [s7]; exact q4 3 (by decide) (by decide), by rw [s8]; exact q4 6 (by decide) (by decide), by rw [s10]; exact q4 7 (by decide) (by decide), by rw [s11]; rfl, by rw [s13]; exact q4 4 (by decide) (by decide), by rw [s14]; exact q4 5 (by decide) (by decide), Or.inl ⟨q4 3 (by decide) (by decide), hst, q4 4 (by decide) (by decide), q4 5 (by decide) (by decide), q4 6 (by decide) (by decide), q4 7 (by decide) (by decide), q4 10 (by decide) (by decide), q4 9 (by decide) (by decide), s9⟩⟩
    · rw [s12]
      exact r3
  · exact vM_ag ⟨fun a ha k => s3 _ _ (by rw [List.mem_singleton.mp ha]; decide) (by rw [List.mem_singleton.mp ha]; decide), fun i hi => by rw [s2, if_neg (by rw [List.mem_singleton.mp hi]; decide)]⟩
  · exact vE_ag ⟨fun a ha k => s3 _ _ (by revert a; decide) (by revert a; decide), fun i hi => by cases hi⟩
  · exact vS_ag ⟨fun a ha k => s3 _ _ (by revert a; decide) (by revert a; decide), fun i hi => by rw [s2, if_neg (by revert i; decide)]⟩
/-- a request whose number's row stands -/
theorem isQr.row {rs' : List Nat} {z : Rq} {row row' : Nat → Int32} (h : isQr T S rs z row) (hT : Kq [] [6, 7, 20] T T') (hS : ∀ r, z.2.2.1 = some r → ∀ j, j < 23 → rd S' 620 (23 * r + j) = rd S 620 (23 * r + j)) (h6 : ∀ r, z.2.2.1 = some r → rd S' 621 r = rd S 621 r) (hrs : ∀ (r a : Nat), rs[r]? = some a → rs'[r]? = some a) (hr : ∀ i, i < 12 → row' i = row i) : isQr T' S' rs' z row' := by
  obtain ⟨h1, n, h2, h3⟩ := h
  have h2' : isQa z.2.1 z.2.2.2.1 row' n := by
    unfold isQa at h2 ⊢
    simp only [hr 0 (by decide), hr 1 (by decide), hr 10 (by decide), hr 11 (by decide)]
    exact h2
  obtain ⟨q, f, ro, g, cd⟩ := z
  cases ro with
  | none =>
    cases cd with
    | none =>
      obtain ⟨b, h⟩ := h1
      refine ⟨⟨b, hT.k h (show (6 : Nat) ∈ [6, 7, 20] by decide)⟩, n, h2', ?_⟩
      unfold isQs isQf at h3 ⊢
      simp only [hr 2 (by decide), hr 3 (by decide), hr 4 (by decide), hr 5 (by decide), hr 6 (by decide), hr 7 (by decide), hr 8 (by decide), hr 9 (by decide)]
      exact h3
    | some k => exact absurd h1 id
  | some r =>
    cases cd with
    | none => exact absurd h1 id
    | some k =>
      have e := hS r rfl
      have e0 : rd S' 620 (23 * r) = rd S 620 (23 * r) := e 0 (by decide)
      obtain ⟨⟨ca, ra, s, b, g1, g2, g3, g4⟩, g5⟩ := h1
      refine ⟨⟨⟨ca, ra, s, b, hT.k g1 (show (6 : Nat) ∈ [6, 7, 20] by decide), hT.k g2 (show (7 : Nat) ∈ [6, 7, 20] by decide), ?_, hrs _ _ g4⟩, (h6 r rfl).trans g5⟩, n, h2', ?_⟩
      · obtain ⟨t1, f9, m, t2, t3, t4, t5⟩ := g3
        refine ⟨t1, f9, m, t2, t3, hT.k t4 (show (20 : Nat) ∈ [6, 7, 20] by decide), fun i hi => (t5 i hi).trans ?_⟩
        have := e (8 + i) (by omega)
        rw [← Nat.add_assoc] at this
        exact this.symm
      · unfold isQs isQc isBl isCl at h3 ⊢
        simp only [hr 2 (by decide), hr 7 (by decide), hr 8 (by decide), e0, e 1 (by decide), e 2 (by decide), e 3 (by decide), e 4 (by decide), e 5 (by decide), e 6 (by decide), e 7 (by decide), e 16 (by decide), e 17 (by decide), e 18 (by decide), e 19 (by decide), e 20 (by decide), e 21 (by decide)]
        exact h3
theorem isAns.row {r : Nat} {g : Nat → Int32} (h : isAns S r g) (e : ∀ j, j < 23 → rd S' 620 (23 * r + j) = rd S 620 (23 * r + j)) (h9 : few 9 (rd S 620 (23 * r + 7))) (h7 : ∀ j, j < 9 → rd S' 627 (9 * r + j) = rd S 627 (9 * r + j)) : isAns S' r g := by
  obtain ⟨a1, a2, a3, a4, a5, a6, a7, a8⟩ := h
  have z0 : rd S' 627 (9 * r) = rd S 627 (9 * r) := h7 0 (by decide)
  have e0 : rd S' 620 (23 * r) = rd S 620 (23 * r) := e 0 (by decide)
  refine ⟨by rw [z0]; exact a1, by rw [h7 1 (by decide)]; exact a2, by rw [h7 2 (by decide)]; exact a3, by rw [h7 4 (by decide)]; exact a4, by rw [h7 5 (by decide)]; exact a5, by rw [h7 7 (by decide)]; exact a6, by rw [h7 8 (by decide)]; exact a7, ?_⟩
  rw [h7 3 (by decide)]
  rcases a8 with w | ⟨k, d, wh, z, b1, b2⟩
  · exact Or.inl w
  · right
    obtain ⟨m, m1, m2⟩ := h9
    have k6 : (k 6).toNatClampNeg ≤ 8 := by
      rw [b1.2.2.2.1, m2, m_n_cl (by omega)]
      omega
    have ea : ∀ tag n, n ≤ 8 → v_tags S' r tag n = v_tags S r tag n := fun tag n hn => by
      unfold v_tags
      have go : ∀ l : List Nat, (∀ i ∈ l, i < 8) → l.any (fun i => decide (rd S' 620 (23 * r + 8 + i) = tag)) = l.any (fun i => decide (rd S 620 (23 * r + 8 + i) = tag)) := by
        intro l
        induction l with
        | nil => intro _; rfl
        | cons i l ih =>
          intro hl
          rw [List.any_cons, List.any_cons, ih (fun j hj => hl j (List.mem_cons_of_mem _ hj))]
          have := e (8 + i) (by have := hl i List.mem_cons_self; omega)
          rw [← Nat.add_assoc] at this
          rw [this]
      exact go _ (fun i hi => by have := List.mem_range.mp hi; omega)
    have eb : ∀ tag, v_match S' r k tag = v_match S r k tag := fun tag => by
      unfold v_match
      rw [ea _ _ k6]
    have ec : ∀ d wh z, v_status S' r k d wh z = v_status S r k d wh z := fun d wh z => by simp only [v_status, eb]
    have ed : ∀ d wh z, v_count S' r k d wh z = v_count S r k d wh z := fun d wh z => by simp only [v_count, eb]
    refine ⟨k, d, wh, z, ?_, ?_⟩
    · unfold isCl at b1 ⊢
      simp only [e 2 (by decide), e 3 (by decide), e 4 (by decide), e 5 (by decide), e 6 (by decide), e 7 (by decide), e 21 (by decide)]
      exact b1
    · rw [ec, ed, e0, e 1 (by decide)]
      exact b2
/-- a reply is made; the row of its request is written -/
theorem RB.newrep {a : Nat} {v : Int32} (h : RB T S X Y Z Q [] [] j0 rs c) (hl : rs.length < 300) (hL : okL T') (st : ∀ b x, T.1 b = some x → ¬ b = 524 → T'.1 b = some x) (h5 : ∃ cap, T'.1 524 = some (.inr (.inr (cap, rs ++ [a])))) (ha : T'.1 a = some (cReply (fup (fun _ => 0) 0 v) 31)) (hn : T.1 a = none) (hi : ∀ i, ¬ i = 70 → S'.1 i = S.1 i) (h70 : S'.1 70 = Int32.ofNat (rs.length + 1)) (hr : ∀ b k, ¬ (b = 621 ∧ k = rs.length) → ¬ (b = 627 ∧ k = 9 * rs.length + 6) → ¬ (b = 620 ∧ 23 * rs.length ≤ k ∧ k < 23 * rs.length + 23) → rd S' b k = rd S b k) (h21 : rd S' 621 rs.length = 1) (h27 : rd S' 627 (9 * rs.length + 6) = v) (h7 : few 9 (rd S' 620 (23 * rs.length + 7))) : RB T' S' X Y Z Q [] [] j0 (rs ++ [a]) c := by
  obtain ⟨r1, r2, r3, r4, r5, r6, r7, r8, r9, r10⟩ := id h
  obtain ⟨⟨cR, e1⟩, e2, e3, e4, e5⟩ := id r9
  have kq : ∀ {A K : List Nat}, 524 ∉ A → 21 ∉ K → Kq A K T T' := by
    intro A K hA hK b x hb hk
    refine st b x hb (fun q => ?_)
    rw [q, e1] at hb
    cases hb
    rcases hk with w | w
    · exact hK w
    · exact hA (q ▸ w)
  have ag : ∀ as is, (∀ a ∈ as, ¬ a = 620 ∧ ¬ a = 621 ∧ ¬ a = 627) → (∀ i ∈ is, ¬ i = 70) → Ag as is S S' := fun as is p q => ⟨fun a ha k => hr a k (fun w => (p a ha).2.1 w.1) (fun w => (p a ha).2.2 w.1) (fun w => (p a ha).1 w.1), fun i hi' => hi i (q i hi')⟩
  have ap : ∀ (r b : Nat), rs[r]? = some b → (rs ++ [a])[r]? = some b := fun r b hb => by
    rw [List.getElem?_append_left (List.getElem?_eq_some_iff.mp hb).1]
    exact hb
  refine ⟨hL, r2.fr (kq (by decide) (by decide)) (ag _ _ (by decide) (by decide)), r3.fr (kq (by decide) (by decide)) (ag _ _ (by decide) (by decide)), r4.fr (kq (by decide) (by decide)), r5.fr (kq (by decide) (by decide)) (ag _ _ (by decide) (by decide)), r6.fr (kq (by decide) (by decide)) (ag _ _ (by decide) (by decide)), r7.fr (kq (by decide) (by decide)) (ag _ _ (by decide) (by decide)), ?_, ?_, r10.fr (kq (by decide) (by decide)) (ag _ _ (by decide) (by decide)) (fun k k1 k2 k3 => ?_)⟩
  · obtain ⟨⟨a1, a2, a3, a4⟩, b1, b2, b3, c1, c2, d1, dP, d2⟩ := r8
    refine ⟨⟨(hi 74 (by decide)).trans a1, a2, a3, a4⟩, fun k z hz => ?_, fun z hz => (by cases hz), fun k z hz => (by simp at hz), c1, c2, fun f => (d1 f).fr (kq (by decide) (by decide)), trivial, fun z hz => by rw [hr 609 _ (by omega) (by omega) (by omega)]; exact d2 z hz⟩
    have lt : ∀ r, z.2.2.1 = some r → r < rs.length := fun r hr' => by
      obtain ⟨k', ca, ra, s, b, n, _, _, _, _, q4, _⟩ := (b1 k z hz).client hr'
      exact (List.getElem?_eq_some_iff.mp q4).1
    exact (b1 k z hz).row (kq (by decide) (by decide)) (fun r hr' j hj => hr 620 _ (by omega) (by omega) (by have := lt r hr'; omega)) (fun r hr' => hr 621 _ (by have := lt r hr'; omega) (by omega) (by omega)) ap (fun i hi' => hr _ _ (by omega) (by omega) (by omega))
  · have na : ¬ a ∈ rs := fun w => by
      obtain ⟨k, hk⟩ := List.mem_iff_getElem?.mp w
      obtain ⟨g, s, q, _⟩ := e5 k a hk
      rw [hn] at q
      cases q
    refine ⟨h5, by rw [List.length_append]; exact hl, by rw [List.length_append]; exact h70, ⟨?_, fun r hr' => ?_, fun r hr' => ?_⟩, fun r b hb => ?_⟩
    · rw [List.nodup_append]
      refine ⟨e4.1, by simp, fun x hx y hy e => ?_⟩
      rw [List.mem_singleton.mp hy] at e
      exact na (e ▸ hx)
    · rw [List.length_append] at hr'
      have : rs.length + 1 ≤ r := hr'
      rw [hr 627 _ (by omega) (by omega) (by omega)]
      exact e4.2.1 r (by omega)
    · by_cases w : r = rs.length
      · rw [w]; exact h7
      · rw [hr 620 _ (by omega) (by omega) (by omega)]
        exact e4.2.2 r hr'
    · by_cases w : r < rs.length
      · rw [List.getElem?_append_left w] at hb
        obtain ⟨g, s, q1, q2, q3, q4, q5⟩ := e5 r b hb
        have k1 : rd S' 621 r = rd S 621 r := hr 621 _ (by omega) (by omega) (by omega)
        have k7 : ∀ j, j < 9 → rd S' 627 (9 * r + j) = rd S 627 (9 * r + j) := fun j hj => hr 627 _ (by omega) (by omega) (by omega)
        refine ⟨g, s, st _ _ q1 (fun q => by rw [q, e1] at q1; cases q1), by rw [k1]; exact q2, by rw [k7 6 (by decide)]; exact q3, by rw [k1]; exact q4, by rw [k1]; exact fun z => ⟨(q5 z).1.row (fun j hj => hr 620 _ (by omega) (by omega) (by omega)) (e4.2.2 r (by omega)) k7, (q5 z).2.fr (kq (by decide) (by decide))⟩⟩
      · have e : r = rs.length := by
          have := (List.getElem?_eq_some_iff.mp hb).1
          rw [List.length_append] at this
          have : r < rs.length + 1 := this
          omega
        subst e
        rw [List.getElem?_append_right (Nat.le_refl _), Nat.sub_self] at hb
        cases hb
        refine ⟨_, 31, ha, by rw [h21]; exact Or.inr rfl, by rw [fup_eq, h27], fun _ => ⟨fun i i1 _ => fup_ne (by omega), rfl⟩, fun q => ?_⟩
        rw [h21] at q
        exact absurd q (by decide)
  · have e9 : ∀ i, mRow S' k i = mRow S k i := fun i => hr _ _ (by omega) (by omega) (by omega)
    exact ⟨k, ⟨by rw [← hi 77 (by decide)]; exact k1, k2⟩, (e9 0).symm.trans k3, e9 3, e9 5, e9 4⟩
end
