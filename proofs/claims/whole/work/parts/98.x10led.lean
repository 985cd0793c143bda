/-! The ledger: a node fails; purges go out. -/
section
variable {κ : Ko} {G : Gh} {hc : Nat → Nat → Bool} {mo : Nat → Nat → Nat} {τ ν lam b1 b2 k1 k2 n i f : Nat} {M M1 M2 : List (Nat → Int32)} {Q R Pd : List Rq} {Z : Nat → List Fz} {E E' : Nat → Option (Nat → Int32)} {N N' : Nat → Nat → Int32} {y : Fz} {z : Rq} {m : Nat → Int32}
theorem qw_filt (p : Nat → Bool) : ∀ (Q : List Rq) (seen : List Nat), qw κ mo Z seen (Q.filter (fun z => p z.2.1)) ≤ qw κ mo Z seen Q := by
  intro Q
  induction Q with
  | nil => intro seen; exact Nat.le_refl _
  | cons x Q ih =>
    intro seen
    have h1 := ih (x.2.1 :: seen)
    rw [List.filter_cons]
    by_cases w : p x.2.1 = true
    · rw [if_pos w]
      show cif (x.2.1 ∉ seen ∧ ownZ mo Z x) (wBs κ x) (wFu κ x) + qw κ mo Z (x.2.1 :: seen) (Q.filter (fun z => p z.2.1)) ≤ cif (x.2.1 ∉ seen ∧ ownZ mo Z x) (wBs κ x) (wFu κ x) + qw κ mo Z (x.2.1 :: seen) Q
      omega
    · rw [if_neg w, qw_seen (Q.filter (fun z => p z.2.1)) seen (x.2.1 :: seen) (fun z hz => by
        have hz2 : p z.2.1 = true := (List.mem_filter.mp hz).2
        simp only [List.mem_cons]
        exact ⟨Or.inr, fun q => q.elim (fun q => absurd (q ▸ hz2) w) id⟩)]
      show _ ≤ cif (x.2.1 ∉ seen ∧ ownZ mo Z x) (wBs κ x) (wFu κ x) + qw κ mo Z (x.2.1 :: seen) Q
      omega
theorem no_ne {x : Rq} (h : x ∈ qNo Q n) : ¬ x.2.1 / 128 = n ∧ x ∈ Q := by
  have := List.mem_filter.mp h
  exact ⟨by simpa using this.2, this.1⟩
theorem Led.clFail : ClFail (Led τ ν lam b1 b2) := by
  intro M Q Z E E' N k1 k2 n h n1 n2 hE
  obtain ⟨hpp, G, ⟨⟨x1, x2, x3, x4⟩, a2, a3, a4, a5, a6, a7, a8, c1, c2⟩, p1', p2'⟩ := h
  have hs : vShr E E' := fun e => by
    rw [hE e]
    split
    · exact Or.inl rfl
    · exact Or.inr rfl
  obtain ⟨N', hN'⟩ : ∃ x, x = fun j k => if (j = 0 ∨ j = 6) ∧ k = n then (0 : Int32) else N j k := ⟨_, rfl⟩
  rw [← hN']
  have e : ∀ a k, ¬ a = 0 → ¬ a = 6 → N' a k = N a k := fun a k w w' => by rw [hN']; exact if_neg (fun q => q.1.elim w w')
  have eo : ∀ a k, ¬ k = n → N' a k = N a k := fun a k w => by rw [hN']; exact if_neg (fun q => w q.2)
  have e0 : N' 0 n = 0 := by rw [hN']; exact if_pos ⟨Or.inl rfl, rfl⟩
  have e6 : N' 6 n = 0 := by rw [hN']; exact if_pos ⟨Or.inr rfl, rfl⟩
  have hN : NLe N N' := ⟨fun k _ _ => by rw [e 1 k (by decide) (by decide)]; exact Nat.le_refl _, by rw [e 7 0 (by decide) (by decide)]; exact Nat.le_refl _, by rw [e 2 0 (by decide) (by decide)]; exact Nat.le_refl _, fun p _ => by rw [e 5 p (by decide) (by decide)]; exact Nat.le_refl _⟩
  have so : ∀ k, ¬ k = n → seenN N' k = seenN N k := fun k w => by unfold seenN; rw [eo 0 k w]
  have zn : zNil Z n n = [] := if_pos rfl
  have zo : ∀ k, ¬ k = n → zNil Z n k = Z k := fun k w => if_neg w
  have zsl : ∀ k, (zNil Z n k).Sublist (Z k) := fun k => by
    by_cases w : k = n
    · rw [w, zn]; exact List.nil_sublist _
    · rw [zo k w]; exact List.Sublist.refl _
  have zs : ∀ k, ∀ y ∈ zNil Z n k, y ∈ Z k := fun k y hy => (zsl k).subset hy
  have hsn : ∀ k, 1 ≤ k → k < 7 → (∃ y, y ∈ zNil Z n k) → seenN N k ≤ seenN N' k := fun k _ _ ⟨y, hy⟩ => by
    by_cases w : k = n
    · rw [w, zn] at hy; cases hy
    · rw [so k w]; exact Nat.le_refl _
  have key : ∀ κ, Pot κ G.2.2.1 G.2.1 M (qNo Q n) [] (zNil Z n) N' ≤ Pot κ G.2.2.1 G.2.1 M Q [] Z N := fun κ => by
    unfold Pot
    have w1 := qw_filt (κ := κ) (mo := G.2.2.1) (Z := Z) (fun f => !decide (f / 128 = n)) Q []
    have w2 := qw_mono (κ := κ) (mo := G.2.2.1) (mo' := G.2.2.1) (Z := Z) (Z' := zNil Z n) (Q := qNo Q n) (fun x hx w => by
      obtain ⟨q1, y, q2, q3⟩ := w
      exact ⟨q1, y, by rw [zo _ (no_ne hx).1]; exact q2, q3⟩) []
    have w1' : qw κ G.2.2.1 Z [] (qNo Q n) ≤ qw κ G.2.2.1 Z [] Q := w1
    have so' : ∀ k, sZn κ G.2.1 N' (zNil Z n) k ≤ sZn κ G.2.1 N Z k := fun k => by
      unfold sZn
      by_cases w : k = n
      · rw [w, zn]; exact Nat.zero_le _
      · have : wZ κ G.2.1 N' k = wZ κ G.2.1 N k := by
          funext y
          unfold wZ
          rw [so k w]
        rw [zo k w, this]
        exact Nat.le_refl _
    have w3 : sZ κ G.2.1 N' (zNil Z n) ≤ sZ κ G.2.1 N Z := by
      unfold sZ
      have := so' 1
      have := so' 2
      have := so' 3
      have := so' 4
      have := so' 5
      have := so' 6
      omega
    have w6 : rw0 κ Z N [] = 0 := rfl
    have w7 : rw0 κ (zNil Z n) N' [] = 0 := rfl
    omega
  have ks := key κs
  have kc := key κc
  have sq : (qNo Q n).Sublist Q := List.filter_sublist
  rw [List.append_nil] at c1 c2
  have d1 : cCnt (qNo Q n) ≤ cCnt Q := sub_len _ sq
  have d2 : eCnt (qNo Q n) ≤ eCnt Q := sub_len _ sq
  have o1 : opn (zNil Z n) ([] : List Rq) = 0 := rfl
  refine ⟨hpp, G, ⟨⟨by rw [e 7 0 (by decide) (by decide)]; exact x1, by rw [e 2 0 (by decide) (by decide)]; exact x2, fun k k1' k2' => ?_, fun p hp => by rw [e 5 p (by decide) (by decide)]; exact x4 p hp⟩, a2.le hN hsn hs zsl, a3.le hN (fun _ h => h) zs, fun x hx => ?_, fun x hx => ?_, trivial, a7.le hN hs, a8.le hN (fun k => e 4 k (by decide) (by decide)), by rw [List.append_nil]; omega, by rw [List.append_nil, o1]; omega⟩, by omega, by omega⟩
  · obtain ⟨y1, y2, y3, y4⟩ := x3 k k1' k2'
    rw [e 2 0 (by decide) (by decide), e 1 k (by decide) (by decide)]
    by_cases w : k = n
    · subst w
      have c0 : cN (N' 6 k) = 0 := by rw [e6]; rfl
      exact ⟨⟨0, Nat.zero_le _, e0⟩, y2, ⟨0, Nat.zero_le _, e6⟩, by omega⟩
    · rw [eo 0 k w, eo 6 k w]
      exact ⟨y1, y2, y3, y4⟩
  · rw [List.append_nil] at hx
    exact (a4 x (List.mem_append_left _ (no_ne hx).2)).le hN zs
  · obtain ⟨q1, y, q2, q3⟩ := a5 x (no_ne hx).2
    exact ⟨q1, y, by rw [zo _ (no_ne hx).1]; exact q2, q3⟩
end
