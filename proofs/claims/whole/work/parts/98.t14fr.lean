/-! What stands as long as its cells and places do. -/
def Kq (A K : List Nat) (T T' : tT) : Prop := ∀ b c, T.1 b = some c → (kd c ∈ K ∨ b ∈ A) → T'.1 b = some c
def Ag (as is : List Nat) (S S' : mS) : Prop := (∀ a ∈ as, ∀ k, rd S' a k = rd S a k) ∧ ∀ i ∈ is, S'.1 i = S.1 i
theorem Kq.mono {A K A' K' : List Nat} {T T' : tT} (h : Kq A K T T') (hA : ∀ b ∈ A', b ∈ A) (hK : ∀ k ∈ K', k ∈ K) : Kq A' K' T T' := fun b c hb hk => h b c hb (hk.imp (hK _) (hA _))
theorem Kq.refl {A K : List Nat} {T : tT} : Kq A K T T := fun _ _ h _ => h
theorem Kq.trans {A K : List Nat} {T T1 T2 : tT} (h : Kq A K T T1) (h2 : Kq A K T1 T2) : Kq A K T T2 := fun b c hb hk => h2 b c (h b c hb hk) hk
theorem Kq.a {A K : List Nat} {T T' : tT} (h : Kq A K T T') {b : Nat} {c : tC} (hb : T.1 b = some c) (hA : b ∈ A) : T'.1 b = some c := h b c hb (Or.inr hA)
theorem Kq.k {A K : List Nat} {T T' : tT} (h : Kq A K T T') {b : Nat} {c : tC} (hb : T.1 b = some c) (hK : kd c ∈ K) : T'.1 b = some c := h b c hb (Or.inl hK)
theorem Ag.refl {as is : List Nat} {S : mS} : Ag as is S S := ⟨fun _ _ _ => rfl, fun _ _ => rfl⟩
theorem Ag.trans {as is : List Nat} {S S1 S2 : mS} (h : Ag as is S S1) (h2 : Ag as is S1 S2) : Ag as is S S2 := ⟨fun a ha k => (h2.1 a ha k).trans (h.1 a ha k), fun i hi => (h2.2 i hi).trans (h.2 i hi)⟩
theorem Ag.mono {as is as' is' : List Nat} {S S' : mS} (h : Ag as is S S') (h1 : ∀ a ∈ as', a ∈ as) (h2 : ∀ a ∈ is', a ∈ is) : Ag as' is' S S' := ⟨fun a ha => h.1 a (h1 a ha), fun i hi => h.2 i (h2 i hi)⟩
section
variable {T T' : tT} {S S' : mS}
theorem RHouse.fr (h : RHouse T S) (hT : Kq [512] [] T T') (hS : Ag [] [71, 39, 38, 37, 36] S S') : RHouse T' S' := by
  have e := hT.a h (by decide)
  rw [RHouse, e]
  simp only [house, hS.2 71 (by decide), hS.2 39 (by decide), hS.2 38 (by decide), hS.2 37 (by decide), hS.2 36 (by decide)]
theorem RPost.fr (h : RPost T S) (hT : Kq [523] [9, 13] T T') (hS : Ag [624] [77] S S') : RPost T' S' := by
  obtain ⟨n, cap, ms, h1, h2, h3, h4, h5⟩ := h
  refine ⟨n, cap, ms, (hS.2 77 (by decide)).trans h1, h2, hT.a h3 (by decide), h4, fun k a hk => ?_⟩
  have := (h5 k a hk).same (T' := T') (fun x c hx hc => hT.k hx hc)
  exact this.ext (fun i _ => hS.1 624 (by decide) _)
theorem RPts.fr (h : RPts T) (hT : Kq [520] [] T T') : RPts T' := by
  obtain ⟨f, h1, h2⟩ := h
  exact ⟨f, hT.a h1 (by decide), h2⟩
theorem RNodes.fr (h : RNodes T S) (hT : Kq [519] [4, 20] T T') (hS : Ag [591, 593, 594, 595, 596, 619] [] S S') : RNodes T' S' := by
  obtain ⟨⟨f, h1, h2⟩, h3, h4⟩ := h
  have e : ∀ n, nodeC S' n = nodeC S n := fun n => by
    simp only [nodeC, hS.1 591 (by decide), hS.1 593 (by decide), hS.1 594 (by decide), hS.1 595 (by decide), hS.1 596 (by decide)]
  refine ⟨⟨f, hT.a h1 (by decide), h2⟩, fun n a b => ?_, fun n a b => ?_⟩
  · rw [e, hS.1 591 (by decide)]
    exact ⟨hT.k (h3 n a b).1 (show (4 : Nat) ∈ [4, 20] by decide), (h3 n a b).2⟩
  · obtain ⟨g, g1, g2, g3⟩ := h4 n a b
    rw [← hS.1 619 (by decide)] at g2 g3
    exact ⟨g, hT.k g1 (show (20 : Nat) ∈ [4, 20] by decide), g2, g3⟩
theorem tn_ag (hS : Ag [608] [] S S') (e : Nat) : tn S' e = tn S e := by simp only [tn, hS.1 608 (by decide)]
theorem RS.fr {n : Nat} {X Y : List (Nat × Nat)} (h : RS T S n X Y) (hT : Kq [529 + 8 * n, 530 + 8 * n] [5, 11, 13] T T') (hS : Ag [592, 601, 602, 603, 604, 605, 606, 607, 608] [] S S') : RS T' S' n X Y := by
  have h1 := h.frC (T' := T') (fun b c hb hk => by
    rcases hk with hk | hk | hk | hk | hk
    · exact hT.k hb (by rw [hk]; decide)
    · exact hT.k hb (by rw [hk]; decide)
    · exact hT.k hb (by rw [hk]; decide)
    · exact hT.a hb (by rw [hk]; exact List.mem_cons_self)
    · exact hT.a hb (by rw [hk]; exact List.mem_cons_of_mem _ List.mem_cons_self))
  obtain ⟨hn, h2, h3, h4, h5, h6, h7, h8, h9, hb⟩ := h1
  have ent : ∀ q k, isEnt T' S n q k → isEnt T' S' n q k := fun q k he => he.fr rfl Same.refl (fun j => hS.1 603 (by decide) j) (fun a ha _ => hS.1 a (by
    have : a = 601 ∨ a = 602 ∨ a = 603 ∨ a = 604 ∨ a = 605 ∨ a = 606 ∨ a = 607 := by omega
    rcases this with z | z | z | z | z | z | z <;> (rw [z]; decide)) _)
  have tt : ∀ e, tn S' e = tn S e := tn_ag (hS.mono (by decide) (by decide))
  rw [← hS.1 592 (by decide)] at h2 hb
  refine ⟨hn, h2, h3, h4, fun q hq => ent q 0 (h5 q hq), fun q hq => ent q 1 (h6 q hq), ?_, ?_, fun e a b => ?_, hb⟩
  · exact h7.imp (fun {a b} hab => by rw [tt, tt]; exact hab)
  · exact h8.imp (fun {a b} hab => by rw [tt, tt]; exact hab)
  · rw [hS.1 601 (by decide)]
    exact h9 e a b
theorem RV.fr (h : RV S) (hS : Ag [601, 603] [] S S') : RV S' := by
  intro e e' h1 h2
  simp only [eT, hS.1 601 (by decide), hS.1 603 (by decide)]
  exact h e e' h1 h2
theorem RTn.fr {U : Nat} (h : RTn S U) (hS : Ag [601, 608] [58] S S') : RTn S' U := by
  obtain ⟨h1, h2⟩ := h
  refine ⟨(hS.2 58 (by decide)).trans h1, fun e he => ?_⟩
  rw [hS.1 601 (by decide), hS.1 608 (by decide)]
  exact h2 e he
theorem RSt.fr {X Y : Nat → List (Nat × Nat)} {c : Nat} (h : RSt T S X Y c) (hT : Kq [537, 538, 545, 546, 553, 554, 561, 562, 569, 570, 577, 578] [5, 11, 13] T T') (hS : Ag [592, 601, 602, 603, 604, 605, 606, 607, 608] [58] S S') : RSt T' S' X Y c := by
  obtain ⟨h1, h2, h3, U, h4, h5⟩ := h
  refine ⟨fun n a b => ?_, h2, h3.fr (hS.mono (by decide) (by decide)), U, h4.fr (hS.mono (by decide) (by decide)), h5⟩
  obtain ⟨g1, g2, g3⟩ := h1 n a b
  refine ⟨g1.fr (hT.mono (fun x hx => ?_) (by decide)) (hS.mono (by decide) (by decide)), g2, g3⟩
  have : n = 1 ∨ n = 2 ∨ n = 3 ∨ n = 4 ∨ n = 5 ∨ n = 6 := by omega
  rcases this with z | z | z | z | z | z <;> (subst z; revert x; decide)
theorem isFe.fr {n : Nat} {z : Fz} {L : List Nat} (h : isFe T S n z L) (hT : Kq [] [10] T T') (hS : Ag [609, 610, 611, 612, 613, 614, 615, 616, 617] [] S S') : isFe T' S' n z L := by
  unfold isFe at h ⊢
  rw [hS.1 609 (by decide), hS.1 610 (by decide), hS.1 611 (by decide), hS.1 612 (by decide), hS.1 613 (by decide), hS.1 614 (by decide), hS.1 615 (by decide), hS.1 616 (by decide), hS.1 617 (by decide)]
  exact ⟨hT.k h.1 (show (10 : Nat) ∈ [10] by decide), h.2⟩
theorem RF.fr {Z : Nat → List Fz} {C : Nat → List Nat} (h : RF T S Z C) (hT : Kq [539, 547, 555, 563, 571, 579] [10] T T') (hS : Ag [609, 610, 611, 612, 613, 614, 615, 616, 617] [] S S') : RF T' S' Z C := by
  refine ⟨fun n a b => ?_, h.2⟩
  obtain ⟨⟨c, h1⟩, h2, h3, h4⟩ := h.1 n a b
  refine ⟨⟨c, hT.a h1 ?_⟩, fun z hz => (h2 z hz).fr (hT.mono (fun _ hx => by cases hx) (fun _ hx => hx)) hS, h3, fun f f1 f2 => ?_⟩
  · have : n = 1 ∨ n = 2 ∨ n = 3 ∨ n = 4 ∨ n = 5 ∨ n = 6 := by omega
    rcases this with z | z | z | z | z | z <;> (subst z; decide)
  · rw [hS.1 609 (by decide)]
    exact h4 f f1 f2
theorem isCl.ag {r : Nat} {k : Nat → Int32} (h : isCl S r k) (hS : ∀ j, rd S' 620 j = rd S 620 j) : isCl S' r k := by
  unfold isCl at h ⊢
  simp only [hS]
  exact h
theorem isTags.ag {r s : Nat} {k : Nat → Int32} (h : isTags T S r s k) (hT : Kq [] [20] T T') (hS : ∀ j, rd S' 620 j = rd S 620 j) : isTags T' S' r s k := by
  obtain ⟨h1, f, n, h2, h3, h4, h5⟩ := h
  exact ⟨h1, f, n, h2, h3, hT.k h4 (show (20 : Nat) ∈ [20] by decide), fun i hi => (h5 i hi).trans (hS _).symm⟩
theorem isQt.fr {rs : List Nat} {z : Rq} (h : isQt T S rs z) (hT : Kq [] [6, 7, 20] T T') (hS : Ag [620] [] S S') (h6 : ∀ r, z.2.2.1 = some r → rd S' 621 r = rd S 621 r) : isQt T' S' rs z := by
  obtain ⟨q, f, ro, g, cd⟩ := z
  cases ro with
  | none =>
    cases cd with
    | none =>
      obtain ⟨b, h⟩ := h
      exact ⟨b, hT.k h (show (6 : Nat) ∈ [6, 7, 20] by decide)⟩
    | some k => exact h
  | some r =>
    cases cd with
    | none => exact h
    | some k =>
      obtain ⟨⟨ca, ra, s, b, h1, h2, h3, h4⟩, h5⟩ := h
      exact ⟨⟨ca, ra, s, b, hT.k h1 (show (6 : Nat) ∈ [6, 7, 20] by decide), hT.k h2 (show (7 : Nat) ∈ [6, 7, 20] by decide), h3.ag (hT.mono (fun _ hx => by cases hx) (by decide)) (hS.1 620 (by decide)), h4⟩, (h6 r rfl).trans h5⟩
theorem isQs.fr {z : Rq} {row row' : Nat → Int32} {n : Nat} (h : isQs S z row n) (hS : ∀ j, rd S' 620 j = rd S 620 j) (hr : ∀ i, i < 12 → row' i = row i) : isQs S' z row' n := by
  obtain ⟨q, f, ro, g, cd⟩ := z
  cases ro with
  | none =>
    cases cd with
    | none =>
      unfold isQs isQf at h ⊢
      simp only [hr 2 (by decide), hr 3 (by decide), hr 4 (by decide), hr 5 (by decide), hr 6 (by decide), hr 7 (by decide), hr 8 (by decide), hr 9 (by decide)]
      exact h
    | some k => exact h
  | some r =>
    cases cd with
    | none => exact h
    | some k =>
      unfold isQs isQc isBl isCl at h ⊢
      simp only [hr 2 (by decide), hr 7 (by decide), hr 8 (by decide), hS]
      exact h
theorem isQr.fr {rs : List Nat} {z : Rq} {row row' : Nat → Int32} (h : isQr T S rs z row) (hT : Kq [] [6, 7, 20] T T') (hS : Ag [620] [] S S') (h6 : ∀ r, z.2.2.1 = some r → rd S' 621 r = rd S 621 r) (hr : ∀ i, i < 12 → row' i = row i) : isQr T' S' rs z row' := by
  obtain ⟨h1, n, h2, h3⟩ := h
  refine ⟨h1.fr hT hS h6, n, ?_, h3.fr (hS.1 620 (by decide)) hr⟩
  unfold isQa at h2 ⊢
  simp only [hr 0 (by decide), hr 1 (by decide), hr 10 (by decide), hr 11 (by decide)]
  exact h2
theorem lnk.fr (hT : Kq [] [6] T T') : ∀ {L : List Nat}, lnk T L → lnk T' L
  | [], _ => trivial
  | _ :: _, ⟨⟨g, c, r, h⟩, h2⟩ => ⟨⟨g, c, r, hT.k h (show (6 : Nat) ∈ [6] by decide)⟩, lnk.fr hT h2⟩
theorem RQ.fr {rs : List Nat} {Q cz Pd : List Rq} {j0 : Nat} (h : RQ T S rs Q cz Pd j0) (hT : Kq [] [6, 7, 20] T T') (hS : Ag [609, 620, 623] [74] S S') (h6 : ∀ z ∈ Q ++ (cz ++ Pd), ∀ r, z.2.2.1 = some r → rd S' 621 r = rd S 621 r) (h22 : ∀ k, k < 12 * (Q.length + 2) → rd S' 622 k = rd S 622 k) : RQ T' S' rs Q cz Pd j0 := by
  obtain ⟨⟨a1, a2, a3, a4⟩, b1, b2, b3, c1, c2, d1, dP, d2⟩ := h
  have hT' : Kq [] [6] T T' := hT.mono (fun _ hx => by cases hx) (by decide)
  have hS' : Ag [620] [] S S' := hS.mono (by decide) (by decide)
  refine ⟨⟨(hS.2 74 (by decide)).trans a1, a2, a3, a4⟩, fun k z hz => ?_, fun z hz => ?_, fun k z hz => ?_, c1, c2, fun f => (d1 f).fr hT', dP.fr hT', fun z hz => by rw [hS.1 609 (by decide)]; exact d2 z hz⟩
  · have hk : k < Q.length := (List.getElem?_eq_some_iff.mp hz).1
    exact (b1 k z hz).fr hT hS' (h6 z (List.mem_append_left _ (List.mem_of_getElem? hz))) (fun i hi => h22 _ (by omega))
  · exact (b2 z hz).fr hT hS' (h6 z (List.mem_append_right _ (List.mem_append_left _ hz))) (fun i hi => h22 _ (by omega))
  · exact (b3 k z hz).fr hT hS' (h6 z (List.mem_append_right _ (List.mem_append_right _ (List.mem_of_getElem? hz)))) (fun i hi => hS.1 623 (by decide) _)
theorem isAns.ag {r : Nat} {g : Nat → Int32} (h : isAns S r g) (hS : ∀ j, rd S' 620 j = rd S 620 j) (h7 : ∀ j, aRow r j → rd S' 627 j = rd S 627 j) : isAns S' r g := by
  have e : ∀ j, j < 9 → rd S' 627 (9 * r + j) = rd S 627 (9 * r + j) := fun j hj => h7 _ ⟨by omega, by omega⟩
  have e0 : rd S' 627 (9 * r) = rd S 627 (9 * r) := e 0 (by decide)
  have ea : ∀ tag n, v_tags S' r tag n = v_tags S r tag n := fun tag n => by simp only [v_tags, hS]
  have eb : ∀ k tag, v_match S' r k tag = v_match S r k tag := fun k tag => by simp only [v_match, ea]
  have ec : ∀ k d wh z, v_status S' r k d wh z = v_status S r k d wh z := fun k d wh z => by simp only [v_status, eb]
  have ed : ∀ k d wh z, v_count S' r k d wh z = v_count S r k d wh z := fun k d wh z => by simp only [v_count, eb]
  have ef : ∀ k, isCl S' r k ↔ isCl S r k := fun k => by unfold isCl; simp only [hS]
  unfold isAns at h ⊢
  simp only [e0, e 1 (by decide), e 2 (by decide), e 3 (by decide), e 4 (by decide), e 5 (by decide), e 7 (by decide), e 8 (by decide), ec, ed, ef, hS]
  exact h
theorem TX.fr {g : Nat → Int32} {s : Nat} (h : TX T g s) (hT : Kq [] [12, 20] T T') : TX T' g s := by
  rcases h with h | ⟨b, n, f, h0, h1, a1, a2, a3, a4⟩
  · exact Or.inl h
  · exact Or.inr ⟨b, n, f, h0, h1, a1, hT.k a2 (show (12 : Nat) ∈ [12, 20] by decide), hT.k a3 (show (20 : Nat) ∈ [12, 20] by decide), a4⟩
theorem isRep.fr {r a : Nat} (h : isRep T S r a) (ha : ∀ c, T.1 a = some c → T'.1 a = some c) (hT : Kq [] [12, 20] T T') (hS : ∀ j, rd S' 620 j = rd S 620 j) (h6 : rd S' 621 r = rd S 621 r) (h7 : ∀ j, aRow r j → rd S' 627 j = rd S 627 j) : isRep T' S' r a := by
  obtain ⟨g, s, h1, h2, h3, h4, h5⟩ := h
  refine ⟨g, s, ha _ h1, by rw [h6]; exact h2, by rw [h7 _ ⟨by omega, by omega⟩]; exact h3, by rw [h6]; exact h4, by rw [h6]; exact fun z => ⟨(h5 z).1.ag hS h7, (h5 z).2.fr hT⟩⟩
theorem RRep.fr {rs : List Nat} (h : RRep T S rs) (hT : Kq [524] [8, 12, 20] T T') (hS : Ag [620, 621, 627] [70] S S') : RRep T' S' rs := by
  obtain ⟨⟨c, h1⟩, h2, h3, h4, h5⟩ := h
  refine ⟨⟨c, hT.a h1 (by decide)⟩, h2, (hS.2 70 (by decide)).trans h3, ⟨h4.1, fun r hr => (hS.1 627 (by decide) _).trans (h4.2.1 r hr), fun r hr => by rw [hS.1 620 (by decide)]; exact h4.2.2 r hr⟩, fun r a hr => ?_⟩
  have h := h5 r a hr
  refine h.fr (fun c hc => ?_) (hT.mono (fun _ hx => by cases hx) (by decide)) (hS.1 620 (by decide)) (hS.1 621 (by decide) _) (fun j _ => hS.1 627 (by decide) j)
  obtain ⟨g, s, hg, _⟩ := h
  rw [hg] at hc
  cases hc
  exact hT.k hg (show (8 : Nat) ∈ [8, 12, 20] by decide)
theorem RTh.fr (h : RTh T S) (hT : Kq [517, 518] [13] T T') (hS : Ag [589, 590] [] S S') : RTh T' S' := by
  obtain ⟨⟨f, h1, h2⟩, g, h3, h4⟩ := h
  refine ⟨⟨f, hT.a h1 (by decide), fun p hp => ?_⟩, g, hT.a h3 (by decide), fun p hp => by rw [hS.1 590 (by decide)]; exact h4 p hp⟩
  simp only [hS.1 589 (by decide)]
  rcases h2 p hp with h | ⟨t, a, b, c⟩
  · exact Or.inl h
  · exact Or.inr ⟨t, a, hT.k b (show (13 : Nat) ∈ [13] by decide), c⟩
theorem RPk.fr {fb fw : Nat → Value} {o n : Nat} (h : RPk T S fb fw o n) (hT : Kq [] [20] T T') (hS : Ag [593, 597, 598, 599, 600] [] S S') : RPk T' S' fb fw o n := by
  obtain ⟨fk, K, h1, h2⟩ := h
  refine ⟨fk, K, hT.k h1 (show (20 : Nat) ∈ [20] by decide), ?_⟩
  simp only [hS.1 593 (by decide), hS.1 597 (by decide), hS.1 598 (by decide), hS.1 599 (by decide), hS.1 600 (by decide)]
  exact h2
theorem RPu.fr (h : RPu T S) (hT : Kq [] [20] T T') (hS : Ag [593, 597, 598, 599, 600] [37] S S') (hM : ∀ k, Int32.ofNat k < S'.1 77 → k < 100 → mRow S' k 0 = 2 → ∃ k', (Int32.ofNat k' < S.1 77 ∧ k' < 100) ∧ mRow S k' 0 = 2 ∧ mRow S' k 3 = mRow S k' 3 ∧ mRow S' k 5 = mRow S k' 5 ∧ mRow S' k 4 = mRow S k' 4) : RPu T' S' := by
  obtain ⟨o, fb, fw, h1, h2, h3, h4, h5, h6, h7⟩ := h
  refine ⟨o, fb, fw, (hS.2 37 (by decide)).trans h1, h2, hT.k h3 (show (20 : Nat) ∈ [20] by decide), hT.k h4 (show (20 : Nat) ∈ [20] by decide), h5, fun n a b => (h6 n a b).fr hT (hS.mono (by decide) (by decide)), fun k a b c => ?_⟩
  obtain ⟨k', ⟨e1, e2⟩, e3, e4, e5, e6⟩ := hM k a b c
  rw [e4, e5, e6]
  exact h7 k' e1 e2 e3
theorem RSk.fr (h : RSk T S) (hT : Kq [] [20] T T') (hS : Ag [618, 619] [] S S') : RSk T' S' := by
  intro n a b
  obtain ⟨f, g, h1, h2, h3⟩ := h n a b
  refine ⟨f, g, hT.k h1 (show (20 : Nat) ∈ [20] by decide), hT.k h2 (show (20 : Nat) ∈ [20] by decide), ?_⟩
  simp only [hS.1 618 (by decide), hS.1 619 (by decide)]
  exact h3
theorem RRd.fr (h : RRd T S) (hT : Kq [513] [20] T T') (hS : Ag [584] [2, 3] S S') : RRd T' S' := by
  obtain ⟨f1, f2, f3, L, x2, x5, x6, x7, x8, x9, x10, x11, y13, y14, y15, h1, h2, h3, h4, h5, h6, h7⟩ := h
  refine ⟨f1, f2, f3, L, x2, x5, x6, x7, x8, x9, x10, x11, y13, y14, y15, ?_, h2, (hS.2 2 (by decide)).trans h3, hT.k h4 (show (20 : Nat) ∈ [20] by decide), hT.k h5 (show (20 : Nat) ∈ [20] by decide), hT.k h6 (show (20 : Nat) ∈ [20] by decide), ?_⟩
  · rw [hS.2 3 (by decide)]
    exact hT.a h1 (by decide)
  · intro i hi
    rw [hS.1 584 (by decide)]
    exact h7 i hi
/-- all but the messages stands -/
theorem RX.fr9 (h : RX T S) (hT : Kq [513] [13, 20] T T') (hS : Ag [584, 589, 590, 593, 597, 598, 599, 600, 618, 619] [2, 3, 37] S S') (hM : ∀ k, Int32.ofNat k < S'.1 77 → k < 100 → mRow S' k 0 = 2 → ∃ k', (Int32.ofNat k' < S.1 77 ∧ k' < 100) ∧ mRow S k' 0 = 2 ∧ mRow S' k 3 = mRow S k' 3 ∧ mRow S' k 5 = mRow S k' 5 ∧ mRow S' k 4 = mRow S k' 4) (hN : few 256 (rd S' 626 1)) : RX T' S' := by
  obtain ⟨h1, h2, h3, h4, _⟩ := h
  refine ⟨?_, h2.fr (hT.mono (fun _ hx => by cases hx) (by decide)) (hS.mono (by decide) (by decide)) hM, h3.fr (hT.mono (fun _ hx => by cases hx) (by decide)) (hS.mono (by decide) (by decide)), h4.fr (hT.mono (fun _ hx => hx) (by decide)) (hS.mono (by decide) (by decide)), hN⟩
  obtain ⟨⟨f, a1, a2⟩, g, a3, a4⟩ := h1
  exact RTh.fr ⟨⟨f, a1, a2⟩, g, a3, a4⟩ (fun b c hb hk => by
    rcases hk with hk | hk
    · exact hT.k hb (by rw [List.mem_singleton.mp hk]; decide)
    · rcases List.mem_cons.mp hk with z | z
      · rw [z, a1] at hb
        cases hb
        rw [z]
        exact hT.k a1 (show (20 : Nat) ∈ [13, 20] by decide)
      · rw [List.mem_singleton.mp z, a3] at hb
        cases hb
        rw [List.mem_singleton.mp z]
        exact hT.k a3 (show (20 : Nat) ∈ [13, 20] by decide)) (hS.mono (by decide) (by decide))
theorem RX.fr (h : RX T S) (hT : Kq [513] [13, 20] T T') (hS : Ag [584, 589, 590, 593, 597, 598, 599, 600, 618, 619, 626] [2, 3, 37] S S') (hM : ∀ k, Int32.ofNat k < S'.1 77 → k < 100 → mRow S' k 0 = 2 → ∃ k', (Int32.ofNat k' < S.1 77 ∧ k' < 100) ∧ mRow S k' 0 = 2 ∧ mRow S' k 3 = mRow S k' 3 ∧ mRow S' k 5 = mRow S k' 5 ∧ mRow S' k 4 = mRow S k' 4) : RX T' S' := h.fr9 hT (hS.mono (by decide) (by decide)) hM (by rw [hS.1 626 (by decide)]; exact h.2.2.2.2)
theorem vE_ag (hS : Ag [601, 603, 604, 605, 606, 607] [] S S') : vE S' = vE S := by
  funext e
  simp only [vE, hS.1 601 (by decide), hS.1 603 (by decide), hS.1 604 (by decide), hS.1 605 (by decide), hS.1 606 (by decide), hS.1 607 (by decide)]
theorem vM_ag (hS : Ag [624] [77] S S') : vM S' = vM S := by
  simp only [vM, hS.1 624 (by decide), hS.2 77 (by decide)]
theorem vS_ag (hS : Ag [593, 596, 589, 590, 597] [37, 70, 36] S S') : vS S' = vS S := by
  funext j k
  simp only [vS, hS.1 593 (by decide), hS.1 596 (by decide), hS.1 589 (by decide), hS.1 590 (by decide), hS.1 597 (by decide), hS.2 37 (by decide), hS.2 70 (by decide), hS.2 36 (by decide)]
end
