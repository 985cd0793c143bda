/-! An entry is used, entries go: the whole relation stands. -/
def upL (X : Nat → List (Nat × Nat)) (n : Nat) (A : List (Nat × Nat)) : Nat → List (Nat × Nat) := fun m => if m = n then A else X m
def vShr (E E' : Nat → Option (Nat → Int32)) : Prop := ∀ e, E' e = none ∨ E' e = E e
theorem sumY_up {Y : Nat → List (Nat × Nat)} {n : Nat} {A : List (Nat × Nat)} (h1 : 1 ≤ n) (h2 : n < 7) : sumY (upL Y n A) + (Y n).length = sumY Y + A.length := by
  have : n = 1 ∨ n = 2 ∨ n = 3 ∨ n = 4 ∨ n = 5 ∨ n = 6 := by omega
  unfold sumY upL
  rcases this with w | w | w | w | w | w <;> subst w <;> simp <;> omega
section
variable {T T' : tT} {S S' : mS} {X Y : Nat → List (Nat × Nat)} {Z : Nat → List Fz} {Q cz Pd : List Rq} {j0 c F n : Nat} {rs : List Nat} {z : Rq}
theorem RB.store (h : RB T S X Y Z Q cz Pd j0 rs c) (h1 : 1 ≤ n) (h2 : n < 7) {A B : List (Nat × Nat)} {Zs : List Nat} {d : Nat} (hL : okL T') (hRS : RS T' S' n A B) (hlen : A.length + B.length ≤ 126) (hU : ∀ U, RTn S U → U + sumY Y ≤ c → ∃ U', RTn S' U' ∧ U' + B.length ≤ U + (Y n).length + d) (hF : FrT n Zs T T') (hi : ∀ i, ¬ i = 58 → S'.1 i = S.1 i) (hr : ∀ a k, ¬ (a = 601 ∨ a = 602 ∨ a = 608) → rd S' a k = rd S a k) (ho : ∀ a k, ¬ (1024 * n ≤ k ∧ k < 1024 * n + 1024) → rd S' a k = rd S a k) (hsub : ∀ q, q ∈ A ∨ q ∈ B → q ∈ X n ∨ q ∈ Y n) (hZs : ∀ a ∈ Zs, ∃ q, (q ∈ X n ∨ q ∈ Y n) ∧ q.1 = a) : RB T' S' (upL X n A) (upL Y n B) Z Q cz Pd j0 rs (c + d) ∧ vM S' = vM S ∧ vS S' = vS S ∧ vShr (vE S) (vE S') := by
  obtain ⟨r1, r2, r3, r4, r5, r6, r7, r8, r9, r10⟩ := id h
  obtain ⟨⟨_, _, ⟨cX, x1⟩, ⟨cY, x2⟩, x5, x6, _⟩, _⟩ := r6.1 n h1 h2
  have zk : ∀ a ∈ Zs, ∃ fs, T.1 a = some (.inl (11, fs)) := by
    intro a ha
    obtain ⟨q, hq, rfl⟩ := hZs a ha
    rcases hq with hq | hq
    · exact (x5 q hq).cell
    · exact (x6 q hq).cell
  have st : ∀ b x, T.1 b = some x → ¬ kd x = 11 → ¬ b = 529 + 8 * n → ¬ b = 530 + 8 * n → T'.1 b = some x := by
    intro b x hb k1 b1 b2
    refine hF.1 b x hb b1 b2 (fun w => ?_)
    obtain ⟨fs, hf⟩ := zk b w
    rw [hf] at hb
    cases hb
    exact k1 rfl
  have nl : ∀ b x, T.1 b = some x → ¬ kd x = 21 → ¬ b = 529 + 8 * n ∧ ¬ b = 530 + 8 * n := by
    intro b x hb hk
    refine ⟨fun w => ?_, fun w => ?_⟩
    · rw [w, x1] at hb; cases hb; exact hk rfl
    · rw [w, x2] at hb; cases hb; exact hk rfl
  have kq : ∀ {A K : List Nat}, (11 ∉ K ∧ 21 ∉ K) → (∀ b ∈ A, ¬ b = 529 + 8 * n ∧ ¬ b = 530 + 8 * n ∧ ∀ x, T.1 b = some x → ¬ kd x = 11) → Kq A K T T' := by
    intro A K hK hA b x hb hk
    rcases hk with hk | hk
    · have := nl b x hb (fun w => hK.2 (w ▸ hk))
      exact st b x hb (fun w => hK.1 (w ▸ hk)) this.1 this.2
    · exact st b x hb ((hA b hk).2.2 x hb) (hA b hk).1 (hA b hk).2.1
  have hag : ∀ as is, (∀ a ∈ as, ¬ (a = 601 ∨ a = 602 ∨ a = 608)) → (∀ i ∈ is, ¬ i = 58) → Ag as is S S' := fun as is p q => ⟨fun a ha k => hr a k (p a ha), fun i hi' => hi i (q i hi')⟩
  have nk : ∀ {b : Nat} {k : Nat} {xs : List Nat}, T.1 b = some (.inr (.inr (k, xs))) → ∀ x, T.1 b = some x → ¬ kd x = 11 := fun hb x hx => by rw [hb] at hx; cases hx; exact (show ¬ (21 : Nat) = 11 by decide)
  have na : ∀ {b : Nat} {y : Nat × Nat × (Nat → Value)}, T.1 b = some (.inr (.inl y)) → ∀ x, T.1 b = some x → ¬ kd x = 11 := fun hb x hx => by rw [hb] at hx; cases hx; exact (show ¬ (20 : Nat) = 11 by decide)
  have there' : ∀ e, ¬ rd S' 601 e = 0 → e < 7168 → ¬ rd S 601 e = 0 := by
    intro e he hl w
    by_cases hk : 1024 * n ≤ e ∧ e < 1024 * n + 1024
    · obtain ⟨q, hq, q2⟩ := hRS.2.2.2.2.2.2.2.2.1 e hk.1 hk.2 he
      have := hsub q hq
      rw [← q2] at w
      rcases this with w2 | w2
      · exact (x5 q w2).there.1 w
      · exact (x6 q w2).there.1 w
    · rw [ho 601 e hk] at he
      exact he w
  refine ⟨⟨hL, r2.fr (kq (by decide) (fun b hb => ?_)) (hag _ _ (by decide) (by decide)), r3.fr (kq (by decide) (fun b hb => ?_)) (hag _ _ (by decide) (by decide)), r4.fr (kq (by decide) (fun b hb => ?_)), r5.fr (kq (by decide) (fun b hb => ?_)) (hag _ _ (by decide) (by decide)), ?_, r7.fr (kq (by decide) (fun b hb => ?_)) (hag _ _ (by decide) (by decide)), r8.fr (kq (by decide) (fun b hb => by cases hb)) (hag _ _ (by decide) (by decide)) (fun z _ r _ => hr 621 _ (by decide)) (fun k _ => hr 622 _ (by decide)), r9.fr (kq (by decide) (fun b hb => ?_)) (hag _ _ (by decide) (by decide)), r10.fr (kq (by decide) (fun b hb => ?_)) (hag _ _ (by decide) (by decide)) (fun k k1 k2 k3 => ?_)⟩, vM_ag (hag _ _ (by decide) (by decide)), vS_ag (hag _ _ (by decide) (by decide)), fun e => ?_⟩
  · rw [List.mem_singleton.mp hb]
    exact ⟨by omega, by omega, fun x hx => by rw [show T.1 512 = some (house S.1) from r2] at hx; cases hx; exact (show ¬ (0 : Nat) = 11 by decide)⟩
  · obtain ⟨_, _, _, _, _, e3, _⟩ := id r3
    rw [List.mem_singleton.mp hb]
    exact ⟨by omega, by omega, nk e3⟩
  · rw [List.mem_singleton.mp hb]
    exact ⟨by omega, by omega, na r4.choose_spec.1⟩
  · rw [List.mem_singleton.mp hb]
    exact ⟨by omega, by omega, na r5.1.choose_spec.1⟩
  · -- stores
    obtain ⟨s1, s2, s3, U, s4, s5⟩ := id r6
    obtain ⟨U', u1, u2⟩ := hU U s4 s5
    have memU : ∀ m q, q ∈ upL X n A m ++ upL Y n B m → q ∈ X m ++ Y m := by
      intro m q hq
      unfold upL at hq
      by_cases e : m = n
      · rw [if_pos e, if_pos e] at hq
        have := hsub q (List.mem_append.mp hq)
        rw [e]
        exact List.mem_append.mpr this
      · rw [if_neg e, if_neg e] at hq
        exact hq
    refine ⟨fun m m1 m2 => ?_, fun m k q r m1 m2 k1 k2 hq hr' e => s2 m k q r m1 m2 k1 k2 (memU m q hq) (memU k r hr') e, ?_, U', u1, ?_⟩
    · by_cases e : m = n
      · subst e
        unfold upL
        rw [if_pos rfl, if_pos rfl]
        refine ⟨hRS, hlen, fun q hq => ?_⟩
        exact (s1 m m1 m2).2.2 q (List.mem_append.mpr (hsub q (List.mem_append.mp hq)))
      · unfold upL
        rw [if_neg e, if_neg e]
        obtain ⟨t1, t2, t3⟩ := s1 m m1 m2
        refine ⟨?_, t2, t3⟩
        -- cells and places of another node
        obtain ⟨y1, y2, ⟨dX, y3⟩, ⟨dY, y4⟩, y5, y6, y7, y8, y9, y10⟩ := id t1
        have ent : ∀ q k, (q ∈ X m ∨ q ∈ Y m) → isEnt T S m q k → isEnt T' S' m q k := by
          intro q k hq he
          have rg := he.rng m2
          obtain ⟨fs, hc⟩ := he.cell
          refine he.fr ?_ (fun x cc hx hk => ?_) (fun j => hr 603 j (by decide)) (fun a _ _ => ho a _ (by omega))
          · rw [hc]
            refine hF.1 _ _ hc (kd_ne hc x1 (show ¬ (11 : Nat) = 21 by decide)) (kd_ne hc x2 (show ¬ (11 : Nat) = 21 by decide)) (fun w => ?_)
            obtain ⟨q', hq', e'⟩ := hZs _ w
            exact e (s2 m n q q' m1 m2 h1 h2 (List.mem_append.mpr hq) (List.mem_append.mpr hq') e'.symm)
          · have k13 := List.mem_singleton.mp hk
            have := nl x cc hx (by rw [k13]; decide)
            exact st x cc hx (by rw [k13]; decide) this.1 this.2
        have tnE : ∀ q k, isEnt T S m q k → tn S' q.2 = tn S q.2 := by
          intro q k he
          have rg := he.rng m2
          unfold tn
          rw [ho 608 _ (by omega)]
        have e592 : rd S' 592 m = rd S 592 m := hr 592 m (by decide)
        refine ⟨y1, ?_, ⟨dX, st _ _ y3 (show ¬ (21 : Nat) = 11 by decide) (by omega) (by omega)⟩, ⟨dY, st _ _ y4 (show ¬ (21 : Nat) = 11 by decide) (by omega) (by omega)⟩, fun q hq => ent q 0 (Or.inl hq) (y5 q hq), fun q hq => ent q 1 (Or.inr hq) (y6 q hq), ?_, ?_, fun e' e1 e2 e3 => ?_, by rw [e592]; exact y10⟩
        · rw [e592]
          exact st _ _ y2 (show ¬ (5 : Nat) = 11 by decide) (by omega) (by omega)
        · exact List.Pairwise.imp_of_mem (fun ha hb hab => by rw [tnE _ 0 (y5 _ ha), tnE _ 0 (y5 _ hb)]; exact hab) y7
        · exact List.Pairwise.imp_of_mem (fun ha hb hab => by rw [tnE _ 1 (y6 _ ha), tnE _ 1 (y6 _ hb)]; exact hab) y8
        · rw [ho 601 _ (by omega)] at e3
          exact y9 e' e1 e2 e3
    · intro e e' he he' t1 t2 e3
      simp only [eT, hr 603 _ (show ¬ (603 = 601 ∨ 603 = 602 ∨ 603 = 608) by decide)]
      exact s3 e e' he he' (there' e t1 he) (there' e' t2 he') e3
    · have := sumY_up (Y := Y) (A := B) h1 h2
      omega
  · have : ∃ m, 1 ≤ m ∧ m < 7 ∧ b = 531 + 8 * m := by
      simp only [List.mem_cons, List.mem_nil_iff, or_false] at hb
      exact ⟨(b - 531) / 8, by omega, by omega, by omega⟩
    obtain ⟨m, m1, m2, m3⟩ := this
    obtain ⟨⟨cp, e1⟩, _⟩ := r7.1 m m1 m2
    rw [m3]
    exact ⟨by omega, by omega, nk e1⟩
  · rw [List.mem_singleton.mp hb]
    exact ⟨by omega, by omega, nk r9.1.choose_spec⟩
  · rw [List.mem_singleton.mp hb]
    obtain ⟨f1, f2, f3, L, y2, y5, y6, y7, y8, y9, y10, y11, y13, y14, y15, e1, _⟩ := r10.2.2.2.1
    exact ⟨by omega, by omega, fun x hx => by rw [e1] at hx; cases hx; exact (show ¬ (1 : Nat) = 11 by decide)⟩
  · have e9 : ∀ i, mRow S' k i = mRow S k i := fun i => hr 624 _ (by decide)
    exact ⟨k, ⟨by rw [← hi 77 (by decide)]; exact k1, k2⟩, (e9 0).symm.trans k3, e9 3, e9 5, e9 4⟩
  · unfold vE
    by_cases w : e < 7168 ∧ ¬ rd S' 601 e = 0
    · right
      rw [if_pos w, if_pos ⟨w.1, there' e w.2 w.1⟩]
      simp only [hr 603 _ (show ¬ (603 = 601 ∨ 603 = 602 ∨ 603 = 608) by decide), hr 604 _ (show ¬ (604 = 601 ∨ 604 = 602 ∨ 604 = 608) by decide), hr 605 _ (show ¬ (605 = 601 ∨ 605 = 602 ∨ 605 = 608) by decide), hr 606 _ (show ¬ (606 = 601 ∨ 606 = 602 ∨ 606 = 608) by decide), hr 607 _ (show ¬ (607 = 601 ∨ 607 = 602 ∨ 607 = 608) by decide)]
    · left
      rw [if_neg w]
def nodeH (S : mS) (n : Nat) (ht : Int32) : tC := .inl (4, [.int (Int32.ofNat n), .ref (528 + 8 * n), .ref (531 + 8 * n), .ref (532 + 8 * n), .ref (533 + 8 * n), .ref (534 + 8 * n), .int (rd S 591 n), .int (rd S 593 n), .int ht, .int (rd S 595 n), .int (rd S 596 n)])
/-- a HIT counts, its entry is used -/
theorem P_use (hF : 1100 ≤ F) (h : RB T S X Y Z Q cz Pd j0 rs c) (hc : c + 10 < 2147483648) (h1 : 1 ≤ n) (h2 : n < 7) {q : Nat × Nat} (hq : q ∈ X n ++ Y n) : ∃ T1 T' S' A B, tpi T (527 + 8 * n) 4 8 (rd S 594 n + 1) = some T1 ∧ tgr T1 (527 + 8 * n) 4 1 = some (some (528 + 8 * n)) ∧ tcl T1 (528 + 8 * n) 5 = some () ∧ D_c_Store_use F (528 + 8 * n) (some q.1) T1 = some T' ∧ D_m_use F (Int32.ofNat n) (Int32.ofNat q.2) (up2 S 594 n (rd S 594 n + 1)) = some S' ∧ RB T' S' (upL X n A) (upL Y n B) Z Q cz Pd j0 rs (c + 2) ∧ vM S' = vM S ∧ vS S' = vS S ∧ vShr (vE S) (vE S') ∧ Cs T T' 0 0 ∧ (∀ e, ¬ rd S' 601 e = 0 → e < 7168 → ¬ rd S 601 e = 0) ∧ (∀ a k, ¬ a = 594 → ¬ (a = 601 ∨ a = 602 ∨ a = 608) → rd S' a k = rd S a k) ∧ (∀ i, ¬ i = 58 → S'.1 i = S.1 i) ∧ (∀ b p' v' t wh mk ag cm bl kp, T.1 b = some (cEntry p' v' t wh mk ag cm bl kp) → ∃ kp', T'.1 b = some (cEntry p' v' t wh mk ag cm bl kp')) ∧ Kq [] [0, 1, 2, 3, 5, 6, 7, 8, 9, 10, 12, 13, 20] T T' := by
  obtain ⟨r1, r2, r3, r4, r5, r6, r7, r8, r9, r10⟩ := id h
  have hnode := (r5.2.1 n h1 h2).1
  have p8 : tpi T (527 + 8 * n) 4 8 (rd S 594 n + 1) = some (tset T (527 + 8 * n) (nodeH S n (rd S 594 n + 1))) := (tp_o hnode (show 8 < 11 by decide)).trans rfl
  let T1 : tT := tset T (527 + 8 * n) (nodeH S n (rd S 594 n + 1))
  let S1 : mS := up2 S 594 n (rd S 594 n + 1)
  have cs1 : Cs T T1 0 0 := K_tpi _ p8
  have hr1 : ∀ a k, ¬ a = 594 → rd S1 a k = rd S a k := fun a k ha => by
    show rd (up2 S 594 n _) a k = _
    rw [rd_up2, if_neg (fun w => ha w.1)]
  have st1 : ∀ b x, T.1 b = some x → ¬ kd x = 4 → T1.1 b = some x := fun b x hb hk => tset_o hb (fun w => by rw [w, hnode] at hb; cases hb; exact hk rfl)
  have rb1 : RB T1 S1 X Y Z Q cz Pd j0 rs c := by
    refine h.prep (cs1 r1).1 (fun b x hb hk _ => st1 b x hb hk) (fun y hy g c' r' b' hb => ⟨b', st1 _ _ hb (show ¬ (6 : Nat) = 4 by decide)⟩) (fun m m1 m2 => ?_) (fun i => by rw [up2_1]) (fun a k a1 a2 a3 => hr1 a k a1)
    unfold nodeC
    rw [hr1 591 m (by decide), hr1 593 m (by decide), hr1 595 m (by decide), hr1 596 m (by decide), show rd S1 594 m = if m = n then rd S 594 n + 1 else rd S 594 m from by
      show rd (up2 S 594 n _) 594 m = _
      rw [rd_up2]
      by_cases w : m = n
      · rw [if_pos ⟨rfl, w⟩, if_pos w]
      · rw [if_neg (fun q => w q.2), if_neg w]]
    by_cases w : m = n
    · subst w
      rw [if_pos rfl]
      exact tset_at
    · rw [if_neg w]
      exact tset_o (r5.2.1 m m1 m2).1 (by omega)
  obtain ⟨v1, v2, v3⟩ := prep_views (S := S) (S1 := S1) (fun i => by rw [up2_1]) (fun a k a1 a2 a3 => hr1 a k a1)
  obtain ⟨hRS, hl, h5⟩ := rb1.2.2.2.2.2.1.1 n h1 h2
  obtain ⟨U, hU1, hU2⟩ := rb1.2.2.2.2.2.1.2.2.2
  have hYn : (Y n).length ≤ sumY Y := by
    have := sumY_up (Y := Y) (A := []) h1 h2
    simp at this
    omega
  obtain ⟨T', S', A, B, U', Zs, e1, e2, e3, e4, e5, e6, e7, e8, e9, e10⟩ := use_both (F := F) hF hRS hU1 (by omega) (by omega) hq (h5 q hq)
  have cs2 : Cs T1 T' 0 0 := K_c_Store_use (F := F) _ e1
  have zk : ∀ a ∈ Zs, ∃ fs, T1.1 a = some (.inl (11, fs)) := by
    intro a ha
    obtain ⟨r, hr, rfl⟩ := e9 a ha
    rcases hr with hr | hr
    · exact (hRS.2.2.2.2.1 r hr).cell
    · exact (hRS.2.2.2.2.2.1 r hr).cell
  obtain ⟨rb2, y1, y2, y3⟩ := rb1.store (A := A) (B := B) (Zs := Zs) (d := 2) h1 h2 (cs2 rb1.1).1 e3 (by omega) (fun U9 hU9 hU99 => by
    have eU : U9 = U := by
      have a := hU9.1
      rw [hU1.1] at a
      have := congrArg Int32.toNatClampNeg a
      rw [m_n_cl (by omega), m_n_cl (by omega)] at this
      exact this.symm
    subst eU
    exact ⟨U', e4, e5⟩) e6 e7.1 (fun a k hak => e7.2.1 a k hak) (fun a k hk => e7.2.2 a k hk) e8 e9
  refine ⟨T1, T', S', A, B, p8, tgr_o (x := some (528 + 8 * n)) tset_at rfl, hRS.stC.1, e1, e2, rb2, y1.trans v1, y2.trans v3, ?_, (cs1.trans cs2).mono (by decide) (by decide), ?_, fun a k a1 a2 => (e7.2.1 a k a2).trans (hr1 a k a1), fun i hi => (e7.1 i hi).trans (by rw [up2_1]), ?_, ?_⟩
  · rw [← v2]; exact y3
  · intro e he hl w
    rw [← hr1 601 e (by decide)] at w
    by_cases hk : 1024 * n ≤ e ∧ e < 1024 * n + 1024
    · obtain ⟨q', hq', q2⟩ := e3.2.2.2.2.2.2.2.2.1 e hk.1 hk.2 he
      have := e8 q' hq'
      rw [← q2] at w
      rcases this with w2 | w2
      · exact (hRS.2.2.2.2.1 q' w2).there.1 w
      · exact (hRS.2.2.2.2.2.1 q' w2).there.1 w
    · rw [e7.2.2 601 e hk] at he
      exact he w
  · intro b p' v' t wh mk ag cm bl kp hb
    have hb1 := st1 b _ hb (show ¬ (11 : Nat) = 4 by decide)
    by_cases w : b ∈ Zs
    · exact e6.2.1 b w _ _ _ _ _ _ _ _ _ hb1
    · obtain ⟨cX, l1⟩ := hRS.2.2.1
      obtain ⟨cY, l2⟩ := hRS.2.2.2.1
      exact ⟨kp, e6.1 b _ hb1 (kd_ne hb1 l1 (show ¬ (11 : Nat) = 21 by decide)) (kd_ne hb1 l2 (show ¬ (11 : Nat) = 21 by decide)) w⟩
  · intro b x hb hk
    rcases hk with hk | hk
    · have hk4 : ¬ kd x = 4 := fun w => by rw [w] at hk; exact absurd hk (by decide)
      have hk11 : ¬ kd x = 11 := fun w => by rw [w] at hk; exact absurd hk (by decide)
      have hk21 : ¬ kd x = 21 := fun w => by rw [w] at hk; exact absurd hk (by decide)
      have hb1 := st1 b x hb hk4
      obtain ⟨cX, l1⟩ := hRS.2.2.1
      obtain ⟨cY, l2⟩ := hRS.2.2.2.1
      refine e6.1 b x hb1 (kd_ne hb1 l1 (show ¬ kd x = 21 from hk21)) (kd_ne hb1 l2 (show ¬ kd x = 21 from hk21)) (fun w => ?_)
      obtain ⟨fs, hf⟩ := zk b w
      rw [hf] at hb1
      cases hb1
      exact hk11 rfl
    · cases hk
end
