/-! What stands while only the page's bytes change. -/
def b31 (c : tC) : Bool := match c with
  | .inr (.inl (t, _, _)) => decide (t = 3 ∨ t = 1)
  | _ => false
def Kr (A K : List Nat) (T T' : tT) : Prop := ∀ b c, T.1 b = some c → (kd c ∈ K ∨ b ∈ A) → b31 c = false → T'.1 b = some c
theorem Kr.mono {A K A' K' : List Nat} {T T' : tT} (h : Kr A K T T') (hA : ∀ b ∈ A', b ∈ A) (hK : ∀ k ∈ K', k ∈ K) : Kr A' K' T T' := fun b c hb hk => h b c hb (hk.imp (hK _) (hA _))
theorem Kr.a {A K : List Nat} {T T' : tT} (h : Kr A K T T') {b : Nat} {c : tC} (hb : T.1 b = some c) (hA : b ∈ A) (h3 : b31 c = false := by rfl) : T'.1 b = some c := h b c hb (Or.inr hA) h3
theorem Kr.k {A K : List Nat} {T T' : tT} (h : Kr A K T T') {b : Nat} {c : tC} (hb : T.1 b = some c) (hK : kd c ∈ K) (h3 : b31 c = false := by rfl) : T'.1 b = some c := h b c hb (Or.inl hK) h3
section
variable {T T' : tT} {S S' : mS}
theorem RNodes.f3 (h : RNodes T S) (hT : Kr [519] [4, 20] T T') (hS : Ag [591, 593, 594, 595, 596, 619] [] S S') : RNodes T' S' := by
  obtain ⟨⟨f, h1, h2⟩, h3, h4⟩ := h
  have e : ∀ n, nodeC S' n = nodeC S n := fun n => by
    simp only [nodeC, hS.1 591 (by decide), hS.1 593 (by decide), hS.1 594 (by decide), hS.1 595 (by decide), hS.1 596 (by decide)]
  refine ⟨⟨f, hT.a h1 (by decide), h2⟩, fun n a b => ?_, fun n a b => ?_⟩
  · rw [e, hS.1 591 (by decide)]
    exact ⟨hT.k (h3 n a b).1 (show (4 : Nat) ∈ [4, 20] by decide), (h3 n a b).2⟩
  · obtain ⟨g, g1, g2, g3⟩ := h4 n a b
    rw [← hS.1 619 (by decide)] at g2 g3
    exact ⟨g, hT.k g1 (show (20 : Nat) ∈ [4, 20] by decide), g2, g3⟩
theorem isTags.f3 {r s : Nat} {k : Nat → Int32} (h : isTags T S r s k) (hT : Kr [] [20] T T') (hS : ∀ j, rd S' 620 j = rd S 620 j) : isTags T' S' r s k := by
  obtain ⟨h1, f, n, h2, h3, h4, h5⟩ := h
  exact ⟨h1, f, n, h2, h3, hT.k h4 (show (20 : Nat) ∈ [20] by decide), fun i hi => (h5 i hi).trans (hS _).symm⟩
theorem isQt.f3 {rs : List Nat} {z : Rq} (h : isQt T S rs z) (hT : Kr [] [6, 7, 20] T T') (hS : Ag [620] [] S S') (h6 : ∀ r, z.2.2.1 = some r → rd S' 621 r = rd S 621 r) : isQt T' S' rs z := by
  obtain ⟨q, f, ro, g, cd⟩ := z
  cases ro with
  | none =>
    cases cd with
    | none =>
      obtain ⟨b, h⟩ := h
      exact ⟨b, hT.k h (show (6 : Nat) ∈ [6, 7, 20] by decide)⟩
    | some k => exact h
  | some r =>
    cases cd with
    | none => exact h
    | some k =>
      obtain ⟨⟨ca, ra, s, b, h1, h2, h3, h4⟩, h5⟩ := h
      exact ⟨⟨ca, ra, s, b, hT.k h1 (show (6 : Nat) ∈ [6, 7, 20] by decide), hT.k h2 (show (7 : Nat) ∈ [6, 7, 20] by decide), h3.f3 (hT.mono (fun _ hx => by cases hx) (by decide)) (hS.1 620 (by decide)), h4⟩, (h6 r rfl).trans h5⟩
theorem isQr.f3 {rs : List Nat} {z : Rq} {row row' : Nat → Int32} (h : isQr T S rs z row) (hT : Kr [] [6, 7, 20] T T') (hS : Ag [620] [] S S') (h6 : ∀ r, z.2.2.1 = some r → rd S' 621 r = rd S 621 r) (hr : ∀ i, i < 12 → row' i = row i) : isQr T' S' rs z row' := by
  obtain ⟨h1, n, h2, h3⟩ := h
  refine ⟨h1.f3 hT hS h6, n, ?_, h3.fr (hS.1 620 (by decide)) hr⟩
  unfold isQa at h2 ⊢
  simp only [hr 0 (by decide), hr 1 (by decide), hr 10 (by decide), hr 11 (by decide)]
  exact h2
theorem lnk.f3 (hT : Kr [] [6] T T') : ∀ {L : List Nat}, lnk T L → lnk T' L
  | [], _ => trivial
  | _ :: _, ⟨⟨g, c, r, h⟩, h2⟩ => ⟨⟨g, c, r, hT.k h (show (6 : Nat) ∈ [6] by decide)⟩, lnk.f3 hT h2⟩
theorem RQ.f3 {rs : List Nat} {Q cz Pd : List Rq} {j0 : Nat} (h : RQ T S rs Q cz Pd j0) (hT : Kr [] [6, 7, 20] T T') (hS : Ag [609, 620, 623] [74] S S') (h6 : ∀ z ∈ Q ++ (cz ++ Pd), ∀ r, z.2.2.1 = some r → rd S' 621 r = rd S 621 r) (h22 : ∀ k, k < 12 * (Q.length + 2) → rd S' 622 k = rd S 622 k) : RQ T' S' rs Q cz Pd j0 := by
  obtain ⟨⟨a1, a2, a3, a4⟩, b1, b2, b3, c1, c2, d1, dP, d2⟩ := h
  have hT' : Kr [] [6] T T' := hT.mono (fun _ hx => by cases hx) (by decide)
  have hS' : Ag [620] [] S S' := hS.mono (by decide) (by decide)
  refine ⟨⟨(hS.2 74 (by decide)).trans a1, a2, a3, a4⟩, fun k z hz => ?_, fun z hz => ?_, fun k z hz => ?_, c1, c2, fun f => (d1 f).f3 hT', dP.f3 hT', fun z hz => by rw [hS.1 609 (by decide)]; exact d2 z hz⟩
  · have hk : k < Q.length := (List.getElem?_eq_some_iff.mp hz).1
    exact (b1 k z hz).f3 hT hS' (h6 z (List.mem_append_left _ (List.mem_of_getElem? hz))) (fun i hi => h22 _ (by omega))
  · exact (b2 z hz).f3 hT hS' (h6 z (List.mem_append_right _ (List.mem_append_left _ hz))) (fun i hi => h22 _ (by omega))
  · exact (b3 k z hz).f3 hT hS' (h6 z (List.mem_append_right _ (List.mem_append_right _ (List.mem_of_getElem? hz)))) (fun i hi => hS.1 623 (by decide) _)
theorem RTh.f3 (h : RTh T S) (hT : Kr [] [13, 20] T T') (hS : Ag [589, 590] [] S S') : RTh T' S' := by
  obtain ⟨⟨f, h1, h2⟩, g, h3, h4⟩ := h
  refine ⟨⟨f, hT.k h1 (show (20 : Nat) ∈ [13, 20] by decide), fun p hp => ?_⟩, g, hT.k h3 (show (20 : Nat) ∈ [13, 20] by decide), fun p hp => by rw [hS.1 590 (by decide)]; exact h4 p hp⟩
  simp only [hS.1 589 (by decide)]
  rcases h2 p hp with h | ⟨t, a, b, c⟩
  · exact Or.inl h
  · exact Or.inr ⟨t, a, hT.k b (show (13 : Nat) ∈ [13, 20] by decide), c⟩
theorem RPk.f3 {fb fw : Nat → Value} {o n : Nat} (h : RPk T S fb fw o n) (hT : Kr [] [20] T T') (hS : Ag [593, 597, 598, 599, 600] [] S S') : RPk T' S' fb fw o n := by
  obtain ⟨fk, K, h1, h2⟩ := h
  refine ⟨fk, K, hT.k h1 (show (20 : Nat) ∈ [20] by decide), ?_⟩
  simp only [hS.1 593 (by decide), hS.1 597 (by decide), hS.1 598 (by decide), hS.1 599 (by decide), hS.1 600 (by decide)]
  exact h2
theorem RPu.f3 (h : RPu T S) (hT : Kr [] [20] T T') (hS : Ag [593, 597, 598, 599, 600] [37] S S') (hM : ∀ k, Int32.ofNat k < S'.1 77 → k < 100 → mRow S' k 0 = 2 → ∃ k', (Int32.ofNat k' < S.1 77 ∧ k' < 100) ∧ mRow S k' 0 = 2 ∧ mRow S' k 3 = mRow S k' 3 ∧ mRow S' k 5 = mRow S k' 5 ∧ mRow S' k 4 = mRow S k' 4) : RPu T' S' := by
  obtain ⟨o, fb, fw, h1, h2, h3, h4, h5, h6, h7⟩ := h
  refine ⟨o, fb, fw, (hS.2 37 (by decide)).trans h1, h2, hT.k h3 (show (20 : Nat) ∈ [20] by decide), hT.k h4 (show (20 : Nat) ∈ [20] by decide), h5, fun n a b => (h6 n a b).f3 hT (hS.mono (by decide) (by decide)), fun k a b c => ?_⟩
  obtain ⟨k', ⟨e1, e2⟩, e3, e4, e5, e6⟩ := hM k a b c
  rw [e4, e5, e6]
  exact h7 k' e1 e2 e3
theorem RSk.f3 (h : RSk T S) (hT : Kr [] [20] T T') (hS : Ag [618, 619] [] S S') : RSk T' S' := by
  intro n a b
  obtain ⟨f, g, h1, h2, h3⟩ := h n a b
  refine ⟨f, g, hT.k h1 (show (20 : Nat) ∈ [20] by decide), hT.k h2 (show (20 : Nat) ∈ [20] by decide), ?_⟩
  simp only [hS.1 618 (by decide), hS.1 619 (by decide)]
  exact h3
theorem RRd.f3 (h : RRd T S) (hT : Kr [513] [20] T T') (hS : Ag [584] [2, 3] S S') : RRd T' S' := by
  obtain ⟨f1, f2, f3, L, x2, x5, x6, x7, x8, x9, x10, x11, y13, y14, y15, h1, h2, h3, h4, h5, h6, h7⟩ := h
  refine ⟨f1, f2, f3, L, x2, x5, x6, x7, x8, x9, x10, x11, y13, y14, y15, ?_, h2, (hS.2 2 (by decide)).trans h3, hT.k h4 (show (20 : Nat) ∈ [20] by decide), hT.k h5 (show (20 : Nat) ∈ [20] by decide), hT.k h6 (show (20 : Nat) ∈ [20] by decide), ?_⟩
  · rw [hS.2 3 (by decide)]
    exact hT.a h1 (by decide)
  · intro i hi
    rw [hS.1 584 (by decide)]
    exact h7 i hi
theorem RX.f3 (h : RX T S) (hT : Kr [513] [13, 20] T T') (hS : Ag [584, 589, 590, 593, 597, 598, 599, 600, 618, 619, 626] [2, 3, 37] S S') (hM : ∀ k, Int32.ofNat k < S'.1 77 → k < 100 → mRow S' k 0 = 2 → ∃ k', (Int32.ofNat k' < S.1 77 ∧ k' < 100) ∧ mRow S k' 0 = 2 ∧ mRow S' k 3 = mRow S k' 3 ∧ mRow S' k 5 = mRow S k' 5 ∧ mRow S' k 4 = mRow S k' 4) : RX T' S' := by
  obtain ⟨h1, h2, h3, h4, h5⟩ := h
  exact ⟨h1.f3 (hT.mono (fun _ hx => by cases hx) (by decide)) (hS.mono (by decide) (by decide)), h2.f3 (hT.mono (fun _ hx => by cases hx) (by decide)) (hS.mono (by decide) (by decide)) hM, h3.f3 (hT.mono (fun _ hx => by cases hx) (by decide)) (hS.mono (by decide) (by decide)), h4.f3 (hT.mono (fun _ hx => hx) (by decide)) (hS.mono (by decide) (by decide)), by rw [hS.1 626 (by decide)]; exact h5⟩
end
