/-! An entry is removed or placed, in the whole relation. -/
section
variable {T T' : tT} {S S' : mS} {X Y : Nat → List (Nat × Nat)} {Z : Nat → List Fz} {Q : List Rq} {c F n f : Nat} {rs : List Nat} {q : Nat × Nat}
theorem RBx.gone (hF : 400 ≤ F) (h : RBx T S X Y Z Q rs c f) (h1 : 1 ≤ n) (h2 : n < 7) (hq : q ∈ X n ++ Y n) : ∃ T1 A B, D_c_Store_remove F (528 + 8 * n) (some q.1) T = some T1 ∧ RBx T1 (up2 S 601 q.2 0) (upL X n A) (upL Y n B) Z Q rs c f ∧ A.Sublist (X n) ∧ B.Sublist (Y n) ∧ (∀ r ∈ A ++ B, ¬ r.2 = q.2) ∧ vM (up2 S 601 q.2 0) = vM S ∧ vS (up2 S 601 q.2 0) = vS S ∧ FrT n [] T T1 ∧ Cs T T1 0 0 := by
  obtain ⟨hR, hl, h5⟩ := h.1.2.2.2.2.2.1.1 n h1 h2
  obtain ⟨T1, A, B, a1, a2, a3, a4, a5, a6, a7, a8, a9⟩ := hR.remove hF (by omega) hq (h5 q hq)
  have l1 := a3.length_le
  have l2 := a4.length_le
  obtain ⟨e1, e2, e3, e4, e5⟩ := h.store (A := A) (B := B) (Zs := []) (d := 0) h1 h2 (a9 h.1.1).1 a2 (by omega) (fun U hU _ => ⟨U, a6 U hU, by omega⟩) a7 a8.1 a8.2.1 a8.2.2 (fun r hr => hr.imp (fun w => a3.subset w) (fun w => a4.subset w)) (fun a ha => by cases ha)
  exact ⟨T1, A, B, a1, e1, a3, a4, a5, e2, e3, a7, a9⟩
theorem RBm.placed (h : RBm T S X Y rs c) (h1 : 1 ≤ n) (h2 : n < 7) {A B : List (Nat × Nat)} {d : Nat} (hL : okL T') (hRS : RS T' S' n A B) (hlen : A.length + B.length ≤ 126) (hU : ∀ U, RTn S U → U + sumY Y ≤ c → ∃ U', RTn S' U' ∧ U' + B.length ≤ U + (Y n).length + d) (st : ∀ b x, T.1 b = some x → ¬ kd x = 11 → ¬ b = 529 + 8 * n → ¬ b = 530 + 8 * n → T'.1 b = some x) (st11 : ∀ b x, T.1 b = some x → (∀ r ∈ X n ++ Y n, ¬ r.1 = b) → ¬ b = q.1 → ¬ b = 529 + 8 * n → ¬ b = 530 + 8 * n → T'.1 b = some x) (hi : ∀ i, ¬ i = 58 → S'.1 i = S.1 i) (hr : ∀ a k, ¬ (601 ≤ a ∧ a ≤ 608) → rd S' a k = rd S a k) (ho : ∀ a k, ¬ a = 603 → ¬ (1024 * n ≤ k ∧ k < 1024 * n + 1024) → rd S' a k = rd S a k) (h3 : ∀ k, ¬ (9 * q.2 ≤ k ∧ k < 9 * q.2 + 9) → rd S' 603 k = rd S 603 k) (hsub : ∀ r, r ∈ A ∨ r ∈ B → (r ∈ X n ∨ r ∈ Y n) ∨ r = q) (hqA : ∀ m, 1 ≤ m → m < 7 → ∀ r ∈ X m ++ Y m, ¬ r.1 = q.1) (hq5 : 512 ≤ q.1) (hqr : 1024 * n ≤ q.2 ∧ q.2 < 1024 * n + 1024) (hV : RV S') (hls : ∀ m, 1 ≤ m → m < 7 → ∃ l, T.1 (531 + 8 * m) = some (.inr (.inr l))) : RBm T' S' (upL X n A) (upL Y n B) rs (c + d) ∧ vM S' = vM S ∧ vS S' = vS S ∧ Kq [539, 547, 555, 563, 571, 579] [0, 1, 4, 6, 7, 8, 9, 10, 13, 20] T T' := by
  obtain ⟨r1, r2, r3, r4, r5, r6, r9, r10⟩ := id h
  obtain ⟨⟨_, _, ⟨cX, x1⟩, ⟨cY, x2⟩, x5, x6, _⟩, _⟩ := r6.1 n h1 h2
  have nl : ∀ b x, T.1 b = some x → ¬ kd x = 21 → ¬ b = 529 + 8 * n ∧ ¬ b = 530 + 8 * n := by
    intro b x hb hk
    refine ⟨fun w => ?_, fun w => ?_⟩
    · rw [w, x1] at hb; cases hb; exact hk rfl
    · rw [w, x2] at hb; cases hb; exact hk rfl
  have kq : ∀ {A K : List Nat}, (11 ∉ K ∧ 21 ∉ K) → (∀ b ∈ A, ¬ b = 529 + 8 * n ∧ ¬ b = 530 + 8 * n ∧ ∀ x, T.1 b = some x → ¬ kd x = 11) → Kq A K T T' := by
    intro A K hK hA b x hb hk
    rcases hk with hk | hk
    · have := nl b x hb (fun w => hK.2 (w ▸ hk))
      exact st b x hb (fun w => hK.1 (w ▸ hk)) this.1 this.2
    · exact st b x hb ((hA b hk).2.2 x hb) (hA b hk).1 (hA b hk).2.1
  have hag : ∀ as is, (∀ a ∈ as, ¬ (601 ≤ a ∧ a ≤ 608)) → (∀ i ∈ is, ¬ i = 58) → Ag as is S S' := fun as is p q => ⟨fun a ha k => hr a k (p a ha), fun i hi' => hi i (q i hi')⟩
  have nk : ∀ {b : Nat} {k : Nat} {xs : List Nat}, T.1 b = some (.inr (.inr (k, xs))) → ∀ x, T.1 b = some x → ¬ kd x = 11 := fun hb x hx => by rw [hb] at hx; cases hx; exact (show ¬ (21 : Nat) = 11 by decide)
  have na : ∀ {b : Nat} {y : Nat × Nat × (Nat → Value)}, T.1 b = some (.inr (.inl y)) → ∀ x, T.1 b = some x → ¬ kd x = 11 := fun hb x hx => by rw [hb] at hx; cases hx; exact (show ¬ (20 : Nat) = 11 by decide)
  refine ⟨⟨hL, r2.fr (kq (by decide) (fun b hb => ?_)) (hag _ _ (by decide) (by decide)), r3.fr (kq (by decide) (fun b hb => ?_)) (hag _ _ (by decide) (by decide)), r4.fr (kq (by decide) (fun b hb => ?_)), r5.fr (kq (by decide) (fun b hb => ?_)) (hag _ _ (by decide) (by decide)), ?_, r9.fr (kq (by decide) (fun b hb => ?_)) (hag _ _ (by decide) (by decide)), r10.fr (kq (by decide) (fun b hb => ?_)) (hag _ _ (by decide) (by decide)) (fun k k1 k2 k3 => ?_)⟩, vM_ag (hag _ _ (by decide) (by decide)), vS_ag (hag _ _ (by decide) (by decide)), kq (by decide) (fun b hb => ?_)⟩
  · rw [List.mem_singleton.mp hb]
    exact ⟨by omega, by omega, fun x hx => by rw [show T.1 512 = some (house S.1) from r2] at hx; cases hx; exact (show ¬ (0 : Nat) = 11 by decide)⟩
  · obtain ⟨_, _, _, _, _, e3, _⟩ := id r3
    rw [List.mem_singleton.mp hb]
    exact ⟨by omega, by omega, nk e3⟩
  · rw [List.mem_singleton.mp hb]
    exact ⟨by omega, by omega, na r4.choose_spec.1⟩
  · rw [List.mem_singleton.mp hb]
    exact ⟨by omega, by omega, na r5.1.choose_spec.1⟩
  · obtain ⟨s1, s2, s3, U, s4, s5⟩ := id r6
    obtain ⟨U', u1, u2⟩ := hU U s4 s5
    have memU : ∀ m r, r ∈ upL X n A m ++ upL Y n B m → r ∈ X m ++ Y m ∨ (m = n ∧ r = q) := by
      intro m r hq
      unfold upL at hq
      by_cases e : m = n
      · rw [if_pos e, if_pos e] at hq
        rcases hsub r (List.mem_append.mp hq) with w | w
        · rw [e]
          exact Or.inl (List.mem_append.mpr w)
        · exact Or.inr ⟨e, w⟩
      · rw [if_neg e, if_neg e] at hq
        exact Or.inl hq
    refine ⟨fun m m1 m2 => ?_, fun m k r r' m1 m2 k1 k2 hq hr' e => ?_, hV, U', u1, ?_⟩
    · by_cases e : m = n
      · subst e
        unfold upL
        rw [if_pos rfl, if_pos rfl]
        refine ⟨hRS, hlen, fun r hq => ?_⟩
        rcases hsub r (List.mem_append.mp hq) with w | w
        · exact (s1 m m1 m2).2.2 r (List.mem_append.mpr w)
        · rw [w]; exact hq5
      · unfold upL
        rw [if_neg e, if_neg e]
        obtain ⟨t1, t2, t3⟩ := s1 m m1 m2
        refine ⟨?_, t2, t3⟩
        obtain ⟨y1, y2, ⟨dX, y3⟩, ⟨dY, y4⟩, y5, y6, y7, y8, y9, y10⟩ := id t1
        have ent : ∀ r k, r ∈ X m ++ Y m → isEnt T S m r k → isEnt T' S' m r k := by
          intro r k hq he
          have rg := he.rng m2
          obtain ⟨fs, hc⟩ := he.cell
          refine he.fr9 ?_ (fun x cc hx hk => ?_) (fun i hi => h3 _ (by omega)) (fun a ha1 ha2 => ho a _ ha2 (by omega))
          · rw [hc]
            exact st11 _ _ hc (fun r' hr' w => e (s2 m n r r' m1 m2 h1 h2 hq hr' w.symm)) (hqA m m1 m2 r hq) (kd_ne hc x1 (show ¬ (11 : Nat) = 21 by decide)) (kd_ne hc x2 (show ¬ (11 : Nat) = 21 by decide))
          · have k13 := List.mem_singleton.mp hk
            have := nl x cc hx (by rw [k13]; decide)
            exact st x cc hx (by rw [k13]; decide) this.1 this.2
        have tnE : ∀ r k, isEnt T S m r k → tn S' r.2 = tn S r.2 := by
          intro r k he
          have rg := he.rng m2
          unfold tn
          rw [ho 608 _ (by decide) (by omega)]
        have e592 : rd S' 592 m = rd S 592 m := hr 592 m (by decide)
        refine ⟨y1, ?_, ⟨dX, st _ _ y3 (show ¬ (21 : Nat) = 11 by decide) (by omega) (by omega)⟩, ⟨dY, st _ _ y4 (show ¬ (21 : Nat) = 11 by decide) (by omega) (by omega)⟩, fun r hq => ent r 0 (List.mem_append_left _ hq) (y5 r hq), fun r hq => ent r 1 (List.mem_append_right _ hq) (y6 r hq), ?_, ?_, fun e' e1 e2 e3 => ?_, by rw [e592]; exact y10⟩
        · rw [e592]
          exact st _ _ y2 (show ¬ (5 : Nat) = 11 by decide) (by omega) (by omega)
        · exact List.Pairwise.imp_of_mem (fun ha hb hab => by rw [tnE _ 0 (y5 _ ha), tnE _ 0 (y5 _ hb)]; exact hab) y7
        · exact List.Pairwise.imp_of_mem (fun ha hb hab => by rw [tnE _ 1 (y6 _ ha), tnE _ 1 (y6 _ hb)]; exact hab) y8
        · rw [ho 601 _ (by decide) (by omega)] at e3
          exact y9 e' e1 e2 e3
    · rcases memU m r hq with w | ⟨w, w'⟩
      · rcases memU k r' hr' with z | ⟨z, z'⟩
        · exact s2 m k r r' m1 m2 k1 k2 w z e
        · exact absurd (by rw [e, z']) (hqA m m1 m2 r w)
      · rcases memU k r' hr' with z | ⟨z, z'⟩
        · exact absurd (by rw [← e, w']) (hqA k k1 k2 r' z)
        · rw [w, z]
    · have := sumY_up (Y := Y) (A := B) h1 h2
      omega
  · rw [List.mem_singleton.mp hb]
    exact ⟨by omega, by omega, nk r9.1.choose_spec⟩
  · rw [List.mem_singleton.mp hb]
    obtain ⟨f1, f2, f3, L, y2, y5, y6, y7, y8, y9, y10, y11, y13, y14, y15, e1, _⟩ := r10.2.2.2.1
    exact ⟨by omega, by omega, fun x hx => by rw [e1] at hx; cases hx; exact (show ¬ (1 : Nat) = 11 by decide)⟩
  · have e9 : ∀ i, mRow S' k i = mRow S k i := fun i => hr 624 _ (by decide)
    exact ⟨k, ⟨by rw [← hi 77 (by decide)]; exact k1, k2⟩, (e9 0).symm.trans k3, e9 3, e9 5, e9 4⟩
  · simp only [List.mem_cons, List.mem_nil_iff, or_false] at hb
    refine ⟨by omega, by omega, fun x hx => ?_⟩
    have : ∃ m, 1 ≤ m ∧ m < 7 ∧ b = 531 + 8 * m := ⟨(b - 531) / 8, by omega, by omega, by omega⟩
    obtain ⟨m, m1, m2, m3⟩ := this
    obtain ⟨l9, hl9⟩ := hls m m1 m2
    rw [m3, hl9] at hx
    cases hx
    exact (show ¬ (21 : Nat) = 11 by decide)
theorem RBx.placed (h : RBx T S X Y Z Q rs c f) (h1 : 1 ≤ n) (h2 : n < 7) {A B : List (Nat × Nat)} {d : Nat} (hL : okL T') (hRS : RS T' S' n A B) (hlen : A.length + B.length ≤ 126) (hU : ∀ U, RTn S U → U + sumY Y ≤ c → ∃ U', RTn S' U' ∧ U' + B.length ≤ U + (Y n).length + d) (st : ∀ b x, T.1 b = some x → ¬ kd x = 11 → ¬ b = 529 + 8 * n → ¬ b = 530 + 8 * n → T'.1 b = some x) (st11 : ∀ b x, T.1 b = some x → (∀ r ∈ X n ++ Y n, ¬ r.1 = b) → ¬ b = q.1 → ¬ b = 529 + 8 * n → ¬ b = 530 + 8 * n → T'.1 b = some x) (hi : ∀ i, ¬ i = 58 → S'.1 i = S.1 i) (hr : ∀ a k, ¬ (601 ≤ a ∧ a ≤ 608) → rd S' a k = rd S a k) (ho : ∀ a k, ¬ a = 603 → ¬ (1024 * n ≤ k ∧ k < 1024 * n + 1024) → rd S' a k = rd S a k) (h3 : ∀ k, ¬ (9 * q.2 ≤ k ∧ k < 9 * q.2 + 9) → rd S' 603 k = rd S 603 k) (hsub : ∀ r, r ∈ A ∨ r ∈ B → (r ∈ X n ∨ r ∈ Y n) ∨ r = q) (hqA : ∀ m, 1 ≤ m → m < 7 → ∀ r ∈ X m ++ Y m, ¬ r.1 = q.1) (hq5 : 512 ≤ q.1) (hqr : 1024 * n ≤ q.2 ∧ q.2 < 1024 * n + 1024) (hV : RV S') : RBx T' S' (upL X n A) (upL Y n B) Z Q rs (c + d) f ∧ vM S' = vM S ∧ vS S' = vS S ∧ Kq [539, 547, 555, 563, 571, 579] [0, 1, 4, 6, 7, 8, 9, 10, 13, 20] T T' := by
  obtain ⟨g1, g2, g3⟩ := h
  obtain ⟨e1, e2, e3, e5⟩ := g1.placed (q := q) (A := A) (B := B) (d := d) h1 h2 hL hRS hlen hU st st11 hi hr ho h3 hsub hqA hq5 hqr hV (fun m m1 m2 => by obtain ⟨⟨cp, l⟩, _⟩ := g2.1 m m1 m2; exact ⟨_, l⟩)
  have hag : ∀ as is, (∀ a ∈ as, ¬ (601 ≤ a ∧ a ≤ 608)) → (∀ i ∈ is, ¬ i = 58) → Ag as is S S' := fun as is p q => ⟨fun a ha k => hr a k (p a ha), fun i hi' => hi i (q i hi')⟩
  exact ⟨⟨e1, g2.fr (e5.mono (fun _ hx => hx) (by decide)) (hag _ _ (by decide) (by decide)), g3.fr (e5.mono (fun _ hx => by cases hx) (by decide)) (hag _ _ (by decide) (by decide))⟩, e2, e3, e5⟩
end
