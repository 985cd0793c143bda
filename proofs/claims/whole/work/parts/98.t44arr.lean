/-! Arrays of other forms than tags and texts change. -/
/-- tags and texts stand -/
def K8 (T T' : tT) : Prop := ∀ b t m f, T.1 b = some (.inr (.inl (t, m, f))) → (t = 0 ∧ m = 8) ∨ t = 3 → T'.1 b = some (.inr (.inl (t, m, f)))
section
variable {T T' : tT} {S S' : mS} {X Y : Nat → List (Nat × Nat)} {Z : Nat → List Fz} {Q cz Pd : List Rq} {c F n f j0 : Nat} {rs : List Nat}
theorem isQt.fa {z : Rq} (h : isQt T S rs z) (hT : Kq [] [6, 7] T T') (k8 : K8 T T') (hS : Ag [620] [] S S') (h6 : ∀ r, z.2.2.1 = some r → rd S' 621 r = rd S 621 r) : isQt T' S' rs z := by
  obtain ⟨q, f, ro, g, cd⟩ := z
  cases ro with
  | none =>
    cases cd with
    | none =>
      obtain ⟨b, h⟩ := h
      exact ⟨b, hT.k h (show (6 : Nat) ∈ [6, 7] by decide)⟩
    | some k => exact h
  | some r =>
    cases cd with
    | none => exact h
    | some k =>
      obtain ⟨⟨ca, ra, s, b, h1, h2, ⟨g1, f, n, g2, g3, g4, g5⟩, h4⟩, h5⟩ := h
      exact ⟨⟨ca, ra, s, b, hT.k h1 (show (6 : Nat) ∈ [6, 7] by decide), hT.k h2 (show (7 : Nat) ∈ [6, 7] by decide), ⟨g1, f, n, g2, g3, k8 _ _ _ _ g4 (Or.inl ⟨rfl, rfl⟩), fun i hi => (g5 i hi).trans (hS.1 620 (by decide) _).symm⟩, h4⟩, (h6 r rfl).trans h5⟩
theorem isQr.fa {z : Rq} {row row' : Nat → Int32} (h : isQr T S rs z row) (hT : Kq [] [6, 7] T T') (k8 : K8 T T') (hS : Ag [620] [] S S') (h6 : ∀ r, z.2.2.1 = some r → rd S' 621 r = rd S 621 r) (hr : ∀ i, i < 12 → row' i = row i) : isQr T' S' rs z row' := by
  obtain ⟨h1, n, h2, h3⟩ := h
  refine ⟨h1.fa hT k8 hS h6, n, ?_, h3.fr (hS.1 620 (by decide)) hr⟩
  unfold isQa at h2 ⊢
  simp only [hr 0 (by decide), hr 1 (by decide), hr 10 (by decide), hr 11 (by decide)]
  exact h2
theorem RQ.fa (h : RQ T S rs Q cz Pd j0) (hT : Kq [] [6, 7] T T') (k8 : K8 T T') (hS : Ag [609, 620, 621, 622, 623] [74] S S') : RQ T' S' rs Q cz Pd j0 := by
  obtain ⟨⟨a1, a2, a3, a4⟩, b1, b2, b3, c1, c2, d1, dP, d2⟩ := h
  have hT' : Kq [] [6] T T' := hT.mono (fun _ hx => by cases hx) (by decide)
  have hS' : Ag [620] [] S S' := hS.mono (by decide) (by decide)
  exact ⟨⟨(hS.2 74 (by decide)).trans a1, a2, a3, a4⟩, fun k z hz => (b1 k z hz).fa hT k8 hS' (fun r _ => hS.1 621 (by decide) r) (fun i hi => hS.1 622 (by decide) _), fun z hz => (b2 z hz).fa hT k8 hS' (fun r _ => hS.1 621 (by decide) r) (fun i hi => hS.1 622 (by decide) _), fun k z hz => (b3 k z hz).fa hT k8 hS' (fun r _ => hS.1 621 (by decide) r) (fun i hi => hS.1 623 (by decide) _), c1, c2, fun f => (d1 f).fr hT', dP.fr hT', fun z hz => by rw [hS.1 609 (by decide)]; exact d2 z hz⟩
theorem RQx.fa (h : RQx T S rs Q f) (hT : Kq [] [6, 7] T T') (k8 : K8 T T') (hS : Ag [609, 620, 621, 622] [74] S S') : RQx T' S' rs Q f := by
  obtain ⟨⟨a1, a2⟩, b1, c1, c2, d1, d2⟩ := h
  exact ⟨⟨(hS.2 74 (by decide)).trans a1, a2⟩, fun k z hk => (b1 k z hk).fa hT k8 (hS.mono (by decide) (by decide)) (fun r _ => hS.1 621 (by decide) r) (fun i _ => hS.1 622 (by decide) _), c1, c2, fun f => (d1 f).fr (hT.mono (fun _ hx => by cases hx) (by decide)), fun z hz hne => by rw [hS.1 609 (by decide)]; exact d2 z hz hne⟩
theorem RRep.fa (h : RRep T S rs) (hT : Kq [524] [8, 12] T T') (k8 : K8 T T') (hS : Ag [620, 621, 627] [70] S S') : RRep T' S' rs := by
  obtain ⟨⟨c, h1⟩, h2, h3, h4, h5⟩ := h
  refine ⟨⟨c, hT.a h1 (by decide)⟩, h2, (hS.2 70 (by decide)).trans h3, ⟨h4.1, fun r hr => (hS.1 627 (by decide) _).trans (h4.2.1 r hr), fun r hr => by rw [hS.1 620 (by decide)]; exact h4.2.2 r hr⟩, fun r a hr => ?_⟩
  obtain ⟨g, s, y1, y2, y3, y4, y5⟩ := h5 r a hr
  have tx : rd S 621 r = 0 → TX T' g s := fun z => by
    rcases (y5 z).2 with h | ⟨b, n, f, h0, h1, a1, a2, a3, a4⟩
    · exact Or.inl h
    · exact Or.inr ⟨b, n, f, h0, h1, a1, hT.k a2 (show (12 : Nat) ∈ [8, 12] by decide), k8 _ _ _ _ a3 (Or.inr rfl), a4⟩
  exact ⟨g, s, hT.k y1 (show (8 : Nat) ∈ [8, 12] by decide), by rw [hS.1 621 (by decide)]; exact y2, by rw [hS.1 627 (by decide)]; exact y3, by rw [hS.1 621 (by decide)]; exact y4, by rw [hS.1 621 (by decide)]; exact fun z => ⟨(y5 z).1.ag (hS.1 620 (by decide)) (fun j _ => hS.1 627 (by decide) j), tx z⟩⟩
theorem RPk.fa {fb fw : Nat → Value} {o n : Nat} (h : RPk T S fb fw o n) (hT : Kq [532 + 8 * n] [] T T') (hS : Ag [593, 597, 598, 599, 600] [] S S') : RPk T' S' fb fw o n := by
  obtain ⟨fk, K, h1, h2⟩ := h
  refine ⟨fk, K, hT.a h1 (List.mem_singleton.mpr rfl), ?_⟩
  simp only [hS.1 593 (by decide), hS.1 597 (by decide), hS.1 598 (by decide), hS.1 599 (by decide), hS.1 600 (by decide)]
  exact h2
theorem RPu.fa (h : RPu T S) (hT : Kq [521, 522, 540, 548, 556, 564, 572, 580] [] T T') (hS : Ag [593, 597, 598, 599, 600, 624] [37, 77] S S') : RPu T' S' := by
  obtain ⟨o, fb, fw, h1, h2, h3, h4, h5, h6, h7⟩ := h
  refine ⟨o, fb, fw, (hS.2 37 (by decide)).trans h1, h2, hT.a h3 (by decide), hT.a h4 (by decide), h5, fun n a b => (h6 n a b).fa (hT.mono (fun x hx => ?_) (fun _ hx => hx)) (hS.mono (by decide) (by decide)), fun k a b c => ?_⟩
  · rw [List.mem_singleton.mp hx]
    have : n = 1 ∨ n = 2 ∨ n = 3 ∨ n = 4 ∨ n = 5 ∨ n = 6 := by omega
    rcases this with z | z | z | z | z | z <;> (subst z; decide)
  · have e9 : ∀ i, mRow S' k i = mRow S k i := fun i => hS.1 624 (by decide) _
    rw [e9 3, e9 5, e9 4]
    rw [hS.2 77 (by decide)] at a
    exact h7 k a b ((e9 0).symm.trans c)
theorem RRd.fa (h : RRd T S) (hT : Kq [513, 514, 515, 516] [] T T') (hS : Ag [584] [2, 3] S S') : RRd T' S' := by
  obtain ⟨f1, f2, f3, L, x2, x5, x6, x7, x8, x9, x10, x11, y13, y14, y15, h1, h2, h3, h4, h5, h6, h7⟩ := h
  refine ⟨f1, f2, f3, L, x2, x5, x6, x7, x8, x9, x10, x11, y13, y14, y15, ?_, h2, (hS.2 2 (by decide)).trans h3, hT.a h4 (by decide), hT.a h5 (by decide), hT.a h6 (by decide), ?_⟩
  · rw [hS.2 3 (by decide)]
    exact hT.a h1 (by decide)
  · intro i hi
    rw [hS.1 584 (by decide)]
    exact h7 i hi
/-- addresses of what is no array of the kind that may change -/
def aFix : List Nat := [512, 523, 524, 520, 537, 538, 545, 546, 553, 554, 561, 562, 569, 570, 577, 578, 539, 547, 555, 563, 571, 579]
theorem RBm.arr {B : Nat → Prop} (h : RBm T S X Y rs c) (hL : okL T') (st : ∀ b x, T.1 b = some x → ¬ B b → T'.1 b = some x) (hB : ∀ b, B b → ∃ t m f, T.1 b = some (.inr (.inl (t, m, f))) ∧ ¬ ((t = 0 ∧ m = 8) ∨ t = 3)) (hA : ∀ b ∈ aFix, ¬ B b) (hS : Ag [624, 592, 601, 602, 603, 604, 605, 606, 607, 608, 620, 621, 627] [71, 39, 38, 37, 36, 77, 58, 70] S S') (hN : RNodes T' S') (hX : RX T' S') : RBm T' S' X Y rs c := by
  obtain ⟨r1, r2, r3, r4, r5, r6, r9, r10⟩ := id h
  have k8 : K8 T T' := fun b t m f hb hf => st b _ hb (fun w => by
    obtain ⟨t', m', f', a1, a2⟩ := hB b w
    rw [a1] at hb
    cases hb
    exact a2 hf)
  have kq : ∀ {A K : List Nat}, 20 ∉ K → (∀ b ∈ A, b ∈ aFix) → Kq A K T T' := by
    intro A K hK hA' b x hb hk
    rcases hk with hk | hk
    · refine st b x hb (fun w => ?_)
      obtain ⟨t', m', f', a1, _⟩ := hB b w
      rw [a1] at hb
      cases hb
      exact hK hk
    · exact st b x hb (hA b (hA' b hk))
  exact ⟨hL, r2.fr (kq (by decide) (by decide)) (hS.mono (by decide) (by decide)), r3.fr (kq (by decide) (by decide)) (hS.mono (by decide) (by decide)), r4.fr (kq (by decide) (by decide)), hN, r6.fr (kq (by decide) (by decide)) (hS.mono (by decide) (by decide)), r9.fa (kq (by decide) (by decide)) k8 (hS.mono (by decide) (by decide)), hX⟩
theorem RBx.arr {B : Nat → Prop} (h : RBx T S X Y Z Q rs c f) (hL : okL T') (st : ∀ b x, T.1 b = some x → ¬ B b → T'.1 b = some x) (hB : ∀ b, B b → ∃ t m f, T.1 b = some (.inr (.inl (t, m, f))) ∧ ¬ ((t = 0 ∧ m = 8) ∨ t = 3)) (hA : ∀ b ∈ aFix, ¬ B b) (hS : Ag [624, 592, 601, 602, 603, 604, 605, 606, 607, 608, 620, 621, 627] [71, 39, 38, 37, 36, 77, 58, 70] S S') (hS2 : Ag [609, 610, 611, 612, 613, 614, 615, 616, 617, 622] [74] S S') (hN : RNodes T' S') (hX : RX T' S') : RBx T' S' X Y Z Q rs c f := by
  have k8 : K8 T T' := fun b t m f hb hf => st b _ hb (fun w => by
    obtain ⟨t', m', f', a1, a2⟩ := hB b w
    rw [a1] at hb
    cases hb
    exact a2 hf)
  have kq : ∀ {A K : List Nat}, 20 ∉ K → (∀ b ∈ A, b ∈ aFix) → Kq A K T T' := by
    intro A K hK hA' b x hb hk
    rcases hk with hk | hk
    · refine st b x hb (fun w => ?_)
      obtain ⟨t', m', f', a1, _⟩ := hB b w
      rw [a1] at hb
      cases hb
      exact hK hk
    · exact st b x hb (hA b (hA' b hk))
  exact ⟨h.1.arr hL st hB hA hS hN hX, h.2.1.fr (kq (by decide) (by decide)) (hS2.mono (by decide) (by decide)), h.2.2.fa (kq (by decide) (by decide)) k8 ⟨fun a ha k => by
    rcases List.mem_cons.mp ha with w | ha
    · rw [w]; exact hS2.1 609 (by decide) k
    · rcases List.mem_cons.mp ha with w | ha
      · rw [w]; exact hS.1 620 (by decide) k
      · rcases List.mem_cons.mp ha with w | ha
        · rw [w]; exact hS.1 621 (by decide) k
        · rw [List.mem_singleton.mp ha]; exact hS2.1 622 (by decide) k, fun i hi => hS2.2 i hi⟩⟩
theorem RB.arr {B : Nat → Prop} (h : RB T S X Y Z Q cz Pd j0 rs c) (hL : okL T') (st : ∀ b x, T.1 b = some x → ¬ B b → T'.1 b = some x) (hB : ∀ b, B b → ∃ t m f, T.1 b = some (.inr (.inl (t, m, f))) ∧ ¬ ((t = 0 ∧ m = 8) ∨ t = 3)) (hA : ∀ b ∈ aFix, ¬ B b) (hS : Ag [624, 592, 601, 602, 603, 604, 605, 606, 607, 608, 620, 621, 627] [71, 39, 38, 37, 36, 77, 58, 70] S S') (hS2 : Ag [609, 610, 611, 612, 613, 614, 615, 616, 617, 620, 621, 622, 623] [74] S S') (hN : RNodes T' S') (hX : RX T' S') : RB T' S' X Y Z Q cz Pd j0 rs c := by
  obtain ⟨r1, r2, r3, r4, r5, r6, r7, r8, r9, r10⟩ := id h
  have k8 : K8 T T' := fun b t m f hb hf => st b _ hb (fun w => by
    obtain ⟨t', m', f', a1, a2⟩ := hB b w
    rw [a1] at hb
    cases hb
    exact a2 hf)
  have kq : ∀ {A K : List Nat}, 20 ∉ K → (∀ b ∈ A, b ∈ aFix) → Kq A K T T' := by
    intro A K hK hA' b x hb hk
    rcases hk with hk | hk
    · refine st b x hb (fun w => ?_)
      obtain ⟨t', m', f', a1, _⟩ := hB b w
      rw [a1] at hb
      cases hb
      exact hK hk
    · exact st b x hb (hA b (hA' b hk))
  obtain ⟨m1, m2, m3, m4, m5, m6, m9, m10⟩ := RBm.arr ⟨r1, r2, r3, r4, r5, r6, r9, r10⟩ hL st hB hA hS hN hX
  exact ⟨m1, m2, m3, m4, m5, m6, r7.fr (kq (by decide) (by decide)) (hS2.mono (by decide) (by decide)), r8.fa (kq (by decide) (by decide)) k8 (hS2.mono (by decide) (by decide)), m9, m10⟩
end
