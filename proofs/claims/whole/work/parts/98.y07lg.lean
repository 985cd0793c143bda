/-! The law's own array changes: all stands. -/
section
variable {I : Iv} {T T' : tT} {S : mS} {X Y : Nat → List (Nat × Nat)} {Z : Nat → List Fz} {Q cz Pd : List Rq} {j0 c k1 k2 m : Nat} {rs : List Nat} {f : Nat → Value} {b64 : Int64}
theorem RB.lg (h : RB T S X Y Z Q cz Pd j0 rs c) (h630 : T.1 630 = some (.inr (.inl (1, 1, f)))) (hL : okL T') (st : ∀ b x, T.1 b = some x → ¬ b = 630 → T'.1 b = some x) : RB T' S X Y Z Q cz Pd j0 rs c := by
  obtain ⟨h1, h2, h3, h4, h5, h6, h7, h8, h9, h10⟩ := id h
  have na : ∀ {b : Nat} {y : tC}, T.1 b = some y → ¬ kd y = 20 → ¬ b = 630 := fun hb k q => by
    rw [q, h630] at hb
    cases hb
    exact k rfl
  have nb : ∀ {b t n : Nat} {f : Nat → Value}, T.1 b = some (.inr (.inl (t, n, f))) → ¬ t = 1 → ¬ b = 630 := fun hb k q => by
    rw [q, h630] at hb
    cases hb
    exact k rfl
  have kq : ∀ {A K : List Nat}, (∀ b ∈ A, ¬ b = 630) → 20 ∉ K → Kq A K T T' := by
    intro A K hA hK b y hb hk
    rcases hk with w | w
    · exact st b y hb (na hb (fun q => hK (q ▸ w)))
    · exact st b y hb (hA b w)
  have kr : ∀ {A K : List Nat}, Kr A K T T' := by
    intro A K b y hb hk h3
    refine st b y hb (fun q => ?_)
    rw [q, h630] at hb
    cases hb
    exact Bool.noConfusion (show true = false from h3)
  have ag : ∀ as is, Ag as is S S := fun as is => ⟨fun a ha k => rfl, fun i hi' => rfl⟩
  have nl : ∀ {b k : Nat} {xs : List Nat}, T.1 b = some (.inr (.inr (k, xs))) → ¬ b = 630 := fun hb => na hb (show ¬ (21 : Nat) = 20 by decide)
  refine ⟨hL, h2.fr (kq (by decide) (by decide)) (ag _ _), h3.fr (kq (by decide) (by decide)) (ag _ _), h4.fr (kq (by decide) (by decide)), h5.f3 kr (ag _ _), h6.fr (kq (by decide) (by decide)) (ag _ _), h7.fr (kq (by decide) (by decide)) (ag _ _), h8.f3 kr (ag _ _) (fun _ _ _ _ => rfl) (fun _ _ => rfl), ?_, h10.f3 kr (ag _ _) (fun k k1 k2 k3 => ⟨k, ⟨k1, k2⟩, k3, rfl, rfl, rfl⟩)⟩
  obtain ⟨⟨cR, e1⟩, e2, e3, e4, e5⟩ := id h9
  refine ⟨⟨cR, st _ _ e1 (nl e1)⟩, e2, e3, e4, fun r' a' hr' => ?_⟩
  obtain ⟨g', s9, q1, q2, q3, q4, q5⟩ := e5 r' a' hr'
  refine ⟨g', s9, st _ _ q1 (fun q => by rw [q, h630] at q1; cases q1), q2, q3, q4, fun z => ⟨(q5 z).1, ?_⟩⟩
  rcases (q5 z).2 with w | ⟨b', n', f', h0, h1', a1, a2, a3, a4⟩
  · exact Or.inl w
  · exact Or.inr ⟨b', n', f', h0, h1', a1, st _ _ a2 (na a2 (show ¬ (12 : Nat) = 20 by decide)), st _ _ a3 (nb a3 (by decide)), a4⟩
theorem okL.lg (h : okL T) (h630 : T.1 630 = some (.inr (.inl (1, 1, f)))) {g : Nat → Value} : okL (tset T 630 (.inr (.inl (1, 1, g)))) ∧ capS (tset T 630 (.inr (.inl (1, 1, g)))) = capS T := by
  have e : capS (tset T 630 (.inr (.inl (1, 1, g)))) = capS T := by
    refine sum_same (fun b _ => ?_)
    rw [tset_1]
    by_cases z : b = 630
    · rw [if_pos z, z, h630]; rfl
    · rw [if_neg z]
  refine ⟨⟨fun b x hb => ?_, fun b n xs hb => ?_⟩, e⟩
  · rw [tset_1] at hb
    rw [tset_2]
    by_cases z : b = 630
    · rw [z]; exact h.1 _ _ h630
    · rw [if_neg z] at hb; exact h.1 _ _ hb
  · rw [tset_1] at hb
    by_cases z : b = 630
    · rw [if_pos z] at hb; cases hb
    · rw [if_neg z] at hb; exact h.2 _ _ _ hb
theorem RA.lg (h : RA I T S X Y Z Q cz Pd j0 rs c k1 k2) (h630 : T.1 630 = some (.inr (.inl (1, 1, f)))) : RA I (lgT T f b64) S X Y Z Q cz Pd j0 rs c k1 k2 := by
  obtain ⟨hR, hc, hI⟩ := h
  obtain ⟨l1, l2⟩ := okL.lg (g := fun j => if j = 0 then .long b64 else f j) hR.1 h630
  refine ⟨hR.lg h630 l1 (fun b x hb hne => (tset_ne hne).trans hb), ?_, hI⟩
  unfold lgT
  rw [l2, tset_2]
  exact hc
theorem PI.lg (h : PI T m) (h630 : T.1 630 = some (.inr (.inl (1, 1, f)))) : PI (lgT T f b64) m := by
  obtain ⟨b, f', ml, n, ⟨p1', p2', p3'⟩, h1, h2, h3⟩ := h
  have ne : ∀ {q : Nat} {x : tC}, T.1 q = some x → ¬ x = .inr (.inl (1, 1, f)) → ¬ q = 630 := fun hq hx q => by
    rw [q, h630] at hq
    exact hx (Option.some.inj hq).symm
  refine ⟨b, f', ml, n, ⟨(tset_ne (ne p1' (fun q => by cases q))).trans p1', (tset_ne (ne p2' (fun q => by cases q))).trans p2', p3'⟩, h1, h2, fun q b' l hq => ?_⟩
  have hq' : T.1 q = some (.inl (12, .ref b' :: l)) := by
    unfold lgT at hq
    rw [tset_1] at hq
    by_cases z : q = 630
    · rw [if_pos z] at hq; cases hq
    · rw [if_neg z] at hq; exact hq
  exact h3 q b' l hq'
end
