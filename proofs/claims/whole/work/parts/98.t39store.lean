/-! Entries go, or come, between the taking of a fetch and of those that wait. -/
section
variable {T T' : tT} {S S' : mS} {X Y : Nat → List (Nat × Nat)} {Z : Nat → List Fz} {Q : List Rq} {C : Nat → List Nat} {c F n f : Nat} {rs : List Nat}
theorem RFx.fr (h : RFx T S Z C f) (hT : Kq [539, 547, 555, 563, 571, 579] [10] T T') (hS : Ag [609, 610, 611, 612, 613, 614, 615, 616, 617] [] S S') : RFx T' S' Z C f := by
  refine ⟨fun n a b => ?_, h.2⟩
  obtain ⟨⟨c, h1⟩, h2, h3, h4⟩ := h.1 n a b
  refine ⟨⟨c, hT.a h1 ?_⟩, fun z hz => (h2 z hz).fr (hT.mono (fun _ hx => by cases hx) (fun _ hx => hx)) hS, h3, fun f f1 f2 f3 => ?_⟩
  · have : n = 1 ∨ n = 2 ∨ n = 3 ∨ n = 4 ∨ n = 5 ∨ n = 6 := by omega
    rcases this with z | z | z | z | z | z <;> (subst z; decide)
  · rw [hS.1 609 (by decide)]
    exact h4 f f1 f2 f3
theorem RQx.fr (h : RQx T S rs Q f) (hT : Kq [] [6, 7, 20] T T') (hS : Ag [609, 620, 621, 622] [74] S S') : RQx T' S' rs Q f := by
  obtain ⟨⟨a1, a2⟩, b1, c1, c2, d1, d2⟩ := h
  refine ⟨⟨(hS.2 74 (by decide)).trans a1, a2⟩, fun k z hk => (b1 k z hk).fr hT (hS.mono (by decide) (by decide)) (fun r _ => hS.1 621 (by decide) r) (fun i _ => hS.1 622 (by decide) _), c1, c2, fun f => (d1 f).fr (hT.mono (fun _ hx => by cases hx) (by decide)), fun z hz hne => by rw [hS.1 609 (by decide)]; exact d2 z hz hne⟩
theorem RBm.store (h : RBm T S X Y rs c) (h1 : 1 ≤ n) (h2 : n < 7) {A B : List (Nat × Nat)} {Zs : List Nat} {d : Nat} (hL : okL T') (hRS : RS T' S' n A B) (hlen : A.length + B.length ≤ 126) (hU : ∀ U, RTn S U → U + sumY Y ≤ c → ∃ U', RTn S' U' ∧ U' + B.length ≤ U + (Y n).length + d) (hF : FrT n Zs T T') (hi : ∀ i, ¬ i = 58 → S'.1 i = S.1 i) (hr : ∀ a k, ¬ (a = 601 ∨ a = 602 ∨ a = 608) → rd S' a k = rd S a k) (ho : ∀ a k, ¬ (1024 * n ≤ k ∧ k < 1024 * n + 1024) → rd S' a k = rd S a k) (hsub : ∀ q, q ∈ A ∨ q ∈ B → q ∈ X n ∨ q ∈ Y n) (hZs : ∀ a ∈ Zs, ∃ q, (q ∈ X n ∨ q ∈ Y n) ∧ q.1 = a) (hls : ∀ m, 1 ≤ m → m < 7 → ∃ q, T.1 (531 + 8 * m) = some (.inr (.inr q))) : RBm T' S' (upL X n A) (upL Y n B) rs (c + d) ∧ vM S' = vM S ∧ vS S' = vS S ∧ vShr (vE S) (vE S') ∧ Kq [539, 547, 555, 563, 571, 579] [0, 1, 4, 6, 7, 8, 9, 10, 13, 20] T T' := by
  obtain ⟨r1, r2, r3, r4, r5, r6, r9, r10⟩ := id h
  obtain ⟨⟨_, _, ⟨cX, x1⟩, ⟨cY, x2⟩, x5, x6, _⟩, _⟩ := r6.1 n h1 h2
  have zk : ∀ a ∈ Zs, ∃ fs, T.1 a = some (.inl (11, fs)) := by
    intro a ha
    obtain ⟨q, hq, rfl⟩ := hZs a ha
    rcases hq with hq | hq
    · exact (x5 q hq).cell
    · exact (x6 q hq).cell
  have st : ∀ b x, T.1 b = some x → ¬ kd x = 11 → ¬ b = 529 + 8 * n → ¬ b = 530 + 8 * n → T'.1 b = some x := by
    intro b x hb k1 b1 b2
    refine hF.1 b x hb b1 b2 (fun w => ?_)
    obtain ⟨fs, hf⟩ := zk b w
    rw [hf] at hb
    cases hb
    exact k1 rfl
  have nl : ∀ b x, T.1 b = some x → ¬ kd x = 21 → ¬ b = 529 + 8 * n ∧ ¬ b = 530 + 8 * n := by
    intro b x hb hk
    refine ⟨fun w => ?_, fun w => ?_⟩
    · rw [w, x1] at hb; cases hb; exact hk rfl
    · rw [w, x2] at hb; cases hb; exact hk rfl
  have kq : ∀ {A K : List Nat}, (11 ∉ K ∧ 21 ∉ K) → (∀ b ∈ A, ¬ b = 529 + 8 * n ∧ ¬ b = 530 + 8 * n ∧ ∀ x, T.1 b = some x → ¬ kd x = 11) → Kq A K T T' := by
    intro A K hK hA b x hb hk
    rcases hk with hk | hk
    · have := nl b x hb (fun w => hK.2 (w ▸ hk))
      exact st b x hb (fun w => hK.1 (w ▸ hk)) this.1 this.2
    · exact st b x hb ((hA b hk).2.2 x hb) (hA b hk).1 (hA b hk).2.1
  have hag : ∀ as is, (∀ a ∈ as, ¬ (a = 601 ∨ a = 602 ∨ a = 608)) → (∀ i ∈ is, ¬ i = 58) → Ag as is S S' := fun as is p q => ⟨fun a ha k => hr a k (p a ha), fun i hi' => hi i (q i hi')⟩
  have nk : ∀ {b : Nat} {k : Nat} {xs : List Nat}, T.1 b = some (.inr (.inr (k, xs))) → ∀ x, T.1 b = some x → ¬ kd x = 11 := fun hb x hx => by rw [hb] at hx; cases hx; exact (show ¬ (21 : Nat) = 11 by decide)
  have na : ∀ {b : Nat} {y : Nat × Nat × (Nat → Value)}, T.1 b = some (.inr (.inl y)) → ∀ x, T.1 b = some x → ¬ kd x = 11 := fun hb x hx => by rw [hb] at hx; cases hx; exact (show ¬ (20 : Nat) = 11 by decide)
  have there' : ∀ e, ¬ rd S' 601 e = 0 → e < 7168 → ¬ rd S 601 e = 0 := by
    intro e he hl w
    by_cases hk : 1024 * n ≤ e ∧ e < 1024 * n + 1024
    · obtain ⟨q, hq, q2⟩ := hRS.2.2.2.2.2.2.2.2.1 e hk.1 hk.2 he
      have := hsub q hq
      rw [← q2] at w
      rcases this with w2 | w2
      · exact (x5 q w2).there.1 w
      · exact (x6 q w2).there.1 w
    · rw [ho 601 e hk] at he
      exact he w
  refine ⟨⟨hL, r2.fr (kq (by decide) (fun b hb => ?_)) (hag _ _ (by decide) (by decide)), r3.fr (kq (by decide) (fun b hb => ?_)) (hag _ _ (by decide) (by decide)), r4.fr (kq (by decide) (fun b hb => ?_)), r5.fr (kq (by decide) (fun b hb => ?_)) (hag _ _ (by decide) (by decide)), ?_, r9.fr (kq (by decide) (fun b hb => ?_)) (hag _ _ (by decide) (by decide)), r10.fr (kq (by decide) (fun b hb => ?_)) (hag _ _ (by decide) (by decide)) (fun k k1 k2 k3 => ?_)⟩, vM_ag (hag _ _ (by decide) (by decide)), vS_ag (hag _ _ (by decide) (by decide)), fun e => ?_, kq (by decide) (fun b hb => ?_)⟩
  · rw [List.mem_singleton.mp hb]
    exact ⟨by omega, by omega, fun x hx => by rw [show T.1 512 = some (house S.1) from r2] at hx; cases hx; exact (show ¬ (0 : Nat) = 11 by decide)⟩
  · obtain ⟨_, _, _, _, _, e3, _⟩ := id r3
    rw [List.mem_singleton.mp hb]
    exact ⟨by omega, by omega, nk e3⟩
  · rw [List.mem_singleton.mp hb]
    exact ⟨by omega, by omega, na r4.choose_spec.1⟩
  · rw [List.mem_singleton.mp hb]
    exact ⟨by omega, by omega, na r5.1.choose_spec.1⟩
  · -- stores
    obtain ⟨s1, s2, s3, U, s4, s5⟩ := id r6
    obtain ⟨U', u1, u2⟩ := hU U s4 s5
    have memU : ∀ m q, q ∈ upL X n A m ++ upL Y n B m → q ∈ X m ++ Y m := by
      intro m q hq
      unfold upL at hq
      by_cases e : m = n
      · rw [if_pos e, if_pos e] at hq
        have := hsub q (List.mem_append.mp hq)
        rw [e]
        exact List.mem_append.mpr this
      · rw [if_neg e, if_neg e] at hq
        exact hq
    refine ⟨fun m m1 m2 => ?_, fun m k q r m1 m2 k1 k2 hq hr' e => s2 m k q r m1 m2 k1 k2 (memU m q hq) (memU k r hr') e, ?_, U', u1, ?_⟩
    · by_cases e : m = n
      · subst e
        unfold upL
        rw [if_pos rfl, if_pos rfl]
        refine ⟨hRS, hlen, fun q hq => ?_⟩
        exact (s1 m m1 m2).2.2 q (List.mem_append.mpr (hsub q (List.mem_append.mp hq)))
      · unfold upL
        rw [if_neg e, if_neg e]
        obtain ⟨t1, t2, t3⟩ := s1 m m1 m2
        refine ⟨?_, t2, t3⟩
        -- cells and places of another node
        obtain ⟨y1, y2, ⟨dX, y3⟩, ⟨dY, y4⟩, y5, y6, y7, y8, y9, y10⟩ := id t1
        have ent : ∀ q k, (q ∈ X m ∨ q ∈ Y m) → isEnt T S m q k → isEnt T' S' m q k := by
          intro q k hq he
          have rg := he.rng m2
          obtain ⟨fs, hc⟩ := he.cell
          refine he.fr ?_ (fun x cc hx hk => ?_) (fun j => hr 603 j (by decide)) (fun a _ _ => ho a _ (by omega))
          · rw [hc]
            refine hF.1 _ _ hc (kd_ne hc x1 (show ¬ (11 : Nat) = 21 by decide)) (kd_ne hc x2 (show ¬ (11 : Nat) = 21 by decide)) (fun w => ?_)
            obtain ⟨q', hq', e'⟩ := hZs _ w
            exact e (s2 m n q q' m1 m2 h1 h2 (List.mem_append.mpr hq) (List.mem_append.mpr hq') e'.symm)
          · have k13 := List.mem_singleton.mp hk
            have := nl x cc hx (by rw [k13]; decide)
            exact st x cc hx (by rw [k13]; decide) this.1 this.2
        have tnE : ∀ q k, isEnt T S m q k → tn S' q.2 = tn S q.2 := by
          intro q k he
          have rg := he.rng m2
          unfold tn
          rw [ho 608 _ (by omega)]
        have e592 : rd S' 592 m = rd S 592 m := hr 592 m (by decide)
        refine ⟨y1, ?_, ⟨dX, st _ _ y3 (show ¬ (21 : Nat) = 11 by decide) (by omega) (by omega)⟩, ⟨dY, st _ _ y4 (show ¬ (21 : Nat) = 11 by decide) (by omega) (by omega)⟩, fun q hq => ent q 0 (Or.inl hq) (y5 q hq), fun q hq => ent q 1 (Or.inr hq) (y6 q hq), ?_, ?_, fun e' e1 e2 e3 => ?_, by rw [e592]; exact y10⟩
        · rw [e592]
          exact st _ _ y2 (show ¬ (5 : Nat) = 11 by decide) (by omega) (by omega)
        · exact List.Pairwise.imp_of_mem (fun ha hb hab => by rw [tnE _ 0 (y5 _ ha), tnE _ 0 (y5 _ hb)]; exact hab) y7
        · exact List.Pairwise.imp_of_mem (fun ha hb hab => by rw [tnE _ 1 (y6 _ ha), tnE _ 1 (y6 _ hb)]; exact hab) y8
        · rw [ho 601 _ (by omega)] at e3
          exact y9 e' e1 e2 e3
    · intro e e' he he' t1 t2 e3
      simp only [eT, hr 603 _ (show ¬ (603 = 601 ∨ 603 = 602 ∨ 603 = 608) by decide)]
      exact s3 e e' he he' (there' e t1 he) (there' e' t2 he') e3
    · have := sumY_up (Y := Y) (A := B) h1 h2
      omega
  · rw [List.mem_singleton.mp hb]
    exact ⟨by omega, by omega, nk r9.1.choose_spec⟩
  · rw [List.mem_singleton.mp hb]
    obtain ⟨f1, f2, f3, L, y2, y5, y6, y7, y8, y9, y10, y11, y13, y14, y15, e1, _⟩ := r10.2.2.2.1
    exact ⟨by omega, by omega, fun x hx => by rw [e1] at hx; cases hx; exact (show ¬ (1 : Nat) = 11 by decide)⟩
  · have e9 : ∀ i, mRow S' k i = mRow S k i := fun i => hr 624 _ (by decide)
    exact ⟨k, ⟨by rw [← hi 77 (by decide)]; exact k1, k2⟩, (e9 0).symm.trans k3, e9 3, e9 5, e9 4⟩
  · unfold vE
    by_cases w : e < 7168 ∧ ¬ rd S' 601 e = 0
    · right
      rw [if_pos w, if_pos ⟨w.1, there' e w.2 w.1⟩]
      simp only [hr 603 _ (show ¬ (603 = 601 ∨ 603 = 602 ∨ 603 = 608) by decide), hr 604 _ (show ¬ (604 = 601 ∨ 604 = 602 ∨ 604 = 608) by decide), hr 605 _ (show ¬ (605 = 601 ∨ 605 = 602 ∨ 605 = 608) by decide), hr 606 _ (show ¬ (606 = 601 ∨ 606 = 602 ∨ 606 = 608) by decide), hr 607 _ (show ¬ (607 = 601 ∨ 607 = 602 ∨ 607 = 608) by decide)]
    · left
      rw [if_neg w]
  · simp only [List.mem_cons, List.mem_nil_iff, or_false] at hb
    refine ⟨by omega, by omega, fun x hx => ?_⟩
    have : ∃ m, 1 ≤ m ∧ m < 7 ∧ b = 531 + 8 * m := ⟨(b - 531) / 8, by omega, by omega, by omega⟩
    obtain ⟨m, m1, m2, m3⟩ := this
    obtain ⟨l9, hl9⟩ := hls m m1 m2
    rw [m3, hl9] at hx
    cases hx
    exact (show ¬ (21 : Nat) = 11 by decide)
/-- entries change between -/
theorem RBx.store (h : RBx T S X Y Z Q rs c f) (h1 : 1 ≤ n) (h2 : n < 7) {A B : List (Nat × Nat)} {Zs : List Nat} {d : Nat} (hL : okL T') (hRS : RS T' S' n A B) (hlen : A.length + B.length ≤ 126) (hU : ∀ U, RTn S U → U + sumY Y ≤ c → ∃ U', RTn S' U' ∧ U' + B.length ≤ U + (Y n).length + d) (hF : FrT n Zs T T') (hi : ∀ i, ¬ i = 58 → S'.1 i = S.1 i) (hr : ∀ a k, ¬ (a = 601 ∨ a = 602 ∨ a = 608) → rd S' a k = rd S a k) (ho : ∀ a k, ¬ (1024 * n ≤ k ∧ k < 1024 * n + 1024) → rd S' a k = rd S a k) (hsub : ∀ q, q ∈ A ∨ q ∈ B → q ∈ X n ∨ q ∈ Y n) (hZs : ∀ a ∈ Zs, ∃ q, (q ∈ X n ∨ q ∈ Y n) ∧ q.1 = a) : RBx T' S' (upL X n A) (upL Y n B) Z Q rs (c + d) f ∧ vM S' = vM S ∧ vS S' = vS S ∧ vShr (vE S) (vE S') ∧ Kq [539, 547, 555, 563, 571, 579] [0, 1, 4, 6, 7, 8, 9, 10, 13, 20] T T' := by
  obtain ⟨g1, g2, g3⟩ := h
  obtain ⟨e1, e2, e3, e4, e5⟩ := g1.store (A := A) (B := B) (Zs := Zs) (d := d) h1 h2 hL hRS hlen hU hF hi hr ho hsub hZs (fun m m1 m2 => by obtain ⟨⟨cp, l⟩, _⟩ := g2.1 m m1 m2; exact ⟨_, l⟩)
  have hag : ∀ as is, (∀ a ∈ as, ¬ (a = 601 ∨ a = 602 ∨ a = 608)) → (∀ i ∈ is, ¬ i = 58) → Ag as is S S' := fun as is p q => ⟨fun a ha k => hr a k (p a ha), fun i hi' => hi i (q i hi')⟩
  exact ⟨⟨e1, g2.fr (e5.mono (fun _ hx => hx) (by decide)) (hag _ _ (by decide) (by decide)), g3.fr (e5.mono (fun _ hx => by cases hx) (by decide)) (hag _ _ (by decide) (by decide))⟩, e2, e3, e4, e5⟩
end
