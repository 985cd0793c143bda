/-! back(node). -/
def ClBk (I I' : Iv) : Prop := ∀ M Q Z E N k1 k2 n, I M Q [] Z E N k1 k2 → 1 ≤ n → n < 7 → I' M Q [] Z E (fun j k => if j = 0 ∧ k = n then N 2 0 else N j k) k1 k2
section
variable {I I' : Iv} {T T' : tT} {S S' : mS} {X Y : Nat → List (Nat × Nat)} {Z : Nat → List Fz} {Q cz Pd : List Rq} {c F n f j0 p k1 k2 : Nat} {rs : List Nat}
theorem RB.sk (h : RB T S X Y Z Q cz Pd j0 rs c) (h1 : 1 ≤ n) (h2 : n < 7) {x1 x2 y1 y2 : Int32} {g k : Nat → Value} (hL : okL T') (st : ∀ b x, T.1 b = some x → ¬ isSk n b → T'.1 b = some x) (hg : T'.1 (533 + 8 * n) = some (.inr (.inl (0, 3, g)))) (hk : T'.1 (534 + 8 * n) = some (.inr (.inl (0, 3, k)))) (g1 : m_toI (g 1) = x1) (g2 : m_toI (g 2) = x2) (k1 : m_toI (k 1) = y1) (k2 : m_toI (k 2) = y2) (f1 : flag x1) (f2 : flag x2) (h3 : n ≤ 2 → x1 = 0 ∧ x2 = 0 ∧ y1 = 0 ∧ y2 = 0) (hr : ∀ a i, rd S' a i = if a = 618 ∧ i = 2 * n then x1 else if a = 618 ∧ i = 2 * n + 1 then x2 else if a = 619 ∧ i = 2 * n then y1 else if a = 619 ∧ i = 2 * n + 1 then y2 else rd S a i) (hi : ∀ i, S'.1 i = S.1 i) : RB T' S' X Y Z Q cz Pd j0 rs c ∧ (∀ b x, T.1 b = some x → ¬ kd x = 20 → T'.1 b = some x) ∧ (∀ a i, ¬ a = 618 → ¬ a = 619 → rd S' a i = rd S a i) := by
  have hN := h.2.2.2.2.1
  have hX := h.2.2.2.2.2.2.2.2.2
  obtain ⟨g', k', a1, a2, _⟩ := hX.2.2.1 n h1 h2
  have rel := sk_rel (T' := T') (S' := S') hN hX h1 h2 st hg hk g1 g2 k1 k2 f1 f2 h3 hr hi
  have ho : ∀ a i, ¬ a = 618 → ¬ a = 619 → rd S' a i = rd S a i := fun a i w1 w2 => by rw [hr, if_neg (fun q => w1 q.1), if_neg (fun q => w1 q.1), if_neg (fun q => w2 q.1), if_neg (fun q => w2 q.1)]
  have ag : ∀ as is, (∀ a ∈ as, ¬ a = 618 ∧ ¬ a = 619) → Ag as is S S' := fun as is q => ⟨fun a ha k => ho a k (q a ha).1 (q a ha).2, fun i _ => hi i⟩
  have skB : ∀ b, isSk n b → ∃ t m f, T.1 b = some (.inr (.inl (t, m, f))) ∧ ¬ ((t = 0 ∧ m = 8) ∨ t = 3) := by
    intro b hb
    rcases hb with w | w
    · exact ⟨0, 3, g', by rw [w]; exact a1, by omega⟩
    · exact ⟨0, 3, k', by rw [w]; exact a2, by omega⟩
  refine ⟨h.arr (B := isSk n) hL st skB (isSk_fix h2) (ag _ _ (by decide)) (ag _ _ (by decide)) rel.1 rel.2, fun b x hb hq => st b x hb (fun w => ?_), ho⟩
  obtain ⟨t, m, f, e, _⟩ := skB b w
  rw [e] at hb
  cases hb
  exact hq rfl
theorem RB.trust (h : RB T S X Y Z Q cz Pd j0 rs c) (h1 : 1 ≤ n) (h2 : n < 7) (hp : p = 1 ∨ p = 2) : ∃ T' S', D_c_Node_trust F (527 + 8 * n) (Int32.ofNat p) T = some T' ∧ D_m_forgive F (Int32.ofNat n) (Int32.ofNat p) S = some S' ∧ RB T' S' X Y Z Q cz Pd j0 rs c ∧ Cs T T' 0 0 ∧ (∀ b x, T.1 b = some x → ¬ kd x = 20 → T'.1 b = some x) ∧ (∀ a i, ¬ a = 618 → ¬ a = 619 → rd S' a i = rd S a i) ∧ ∀ i, S'.1 i = S.1 i := by
  obtain ⟨g, k, a1, a2, a3, a4, a5, a6, a7, a8, a9⟩ := h.2.2.2.2.2.2.2.2.2.2.2.1 n h1 h2
  have hn := (h.2.2.2.2.1.2.1 n h1 h2).1
  have tr := c_trust (F := F) hn a1 a2 hp
  have fo := m_forgive (F := F) (S := S) h2 hp
  have cs1 : Cs T (tset T (533 + 8 * n) (.inr (.inl (0, 3, fun j => if j = p then .int 0 else g j)))) 0 0 := Cs.cell a1 rfl rfl
  have a2' : (tset T (533 + 8 * n) (.inr (.inl (0, 3, fun j => if j = p then .int 0 else g j)))).1 (534 + 8 * n) = some (.inr (.inl (0, 3, k))) := tset_o a2 (by omega)
  have cs2 : Cs (tset T (533 + 8 * n) (.inr (.inl (0, 3, fun j => if j = p then .int 0 else g j)))) (tset (tset T (533 + 8 * n) (.inr (.inl (0, 3, fun j => if j = p then .int 0 else g j)))) (534 + 8 * n) (.inr (.inl (0, 3, fun j => if j = p then .int 0 else k j)))) 0 0 := Cs.cell a2' rfl rfl
  have cs := cs1.trans cs2
  have st : ∀ b x, T.1 b = some x → ¬ isSk n b → (tset (tset T (533 + 8 * n) (.inr (.inl (0, 3, fun j => if j = p then .int 0 else g j)))) (534 + 8 * n) (.inr (.inl (0, 3, fun j => if j = p then .int 0 else k j)))).1 b = some x := fun b x hb hne => tset_o (tset_o hb (fun w => hne (Or.inl w))) (fun w => hne (Or.inr w))
  have t33 : (tset (tset T (533 + 8 * n) (.inr (.inl (0, 3, fun j => if j = p then .int 0 else g j)))) (534 + 8 * n) (.inr (.inl (0, 3, fun j => if j = p then .int 0 else k j)))).1 (533 + 8 * n) = some (.inr (.inl (0, 3, fun j => if j = p then .int 0 else g j))) := tset_o tset_at (by omega)
  have t34 : (tset (tset T (533 + 8 * n) (.inr (.inl (0, 3, fun j => if j = p then .int 0 else g j)))) (534 + 8 * n) (.inr (.inl (0, 3, fun j => if j = p then .int 0 else k j)))).1 (534 + 8 * n) = some (.inr (.inl (0, 3, fun j => if j = p then .int 0 else k j))) := tset_at
  obtain ⟨T2, hT2⟩ : ∃ x, x = tset (tset T (533 + 8 * n) (.inr (.inl (0, 3, fun j => if j = p then .int 0 else g j)))) (534 + 8 * n) (.inr (.inl (0, 3, fun j => if j = p then .int 0 else k j))) := ⟨_, rfl⟩
  rw [← hT2] at tr cs st t33 t34
  have hr : ∀ a i, rd (up2 (up2 S 618 (2 * n + p - 1) 0) 619 (2 * n + p - 1) 0) a i = if (a = 619 ∧ i = 2 * n + p - 1) ∨ (a = 618 ∧ i = 2 * n + p - 1) then 0 else rd S a i := fun a i => by
    rw [rd_up2, rd_up2]
    by_cases w1 : a = 619 ∧ i = 2 * n + p - 1
    · rw [if_pos w1, if_pos (Or.inl w1)]
    · by_cases w2 : a = 618 ∧ i = 2 * n + p - 1
      · rw [if_neg w1, if_pos w2, if_pos (Or.inr w2)]
      · rw [if_neg w1, if_neg w2, if_neg (fun q => q.elim w1 w2)]
  have hi : ∀ i, (up2 (up2 S 618 (2 * n + p - 1) 0) 619 (2 * n + p - 1) 0).1 i = S.1 i := fun i => by rw [up2_1, up2_1]
  obtain ⟨S2, hS2⟩ : ∃ x, x = up2 (up2 S 618 (2 * n + p - 1) 0) 619 (2 * n + p - 1) 0 := ⟨_, rfl⟩
  rw [← hS2] at hr hi fo
  obtain ⟨pg1, pg2⟩ := put_pair (v := 0) hp a5 a6
  obtain ⟨pk1, pk2⟩ := put_pair (v := 0) hp a7 a8
  obtain ⟨d1, d2, d3⟩ := h.sk h1 h2 (cs h.1).1 st t33 t34 pg1 pg2 pk1 pk2 (sk_flag a3) (sk_flag a4) (fun w => by
    obtain ⟨z1, z2, z3, z4⟩ := a9 w
    rw [z1, z2, z3, z4]
    exact ⟨by split <;> rfl, by split <;> rfl, by split <;> rfl, by split <;> rfl⟩) (fun a i => (hr a i).trans (sk_if (R := rd S) hp a i)) hi
  exact ⟨T2, S2, tr, fo, d1, cs, d2, d3, hi⟩
theorem back_loop (hF : 10 ≤ F) (hp : p = 1 ∨ p = 2) : ∀ (m x : Nat) (T : tT) (S : mS), x + m = 7 → 3 ≤ x → RB T S X Y Z Q cz Pd j0 rs c → ∀ f g, m < f → m < g → ∃ T' S', D_c_EdgeHouse_back_46 F f 512 (Int32.ofNat p) (Int32.ofNat x) T = some (1, T') ∧ D_m_back_42 F g (Int32.ofNat p) (Int32.ofNat x) S = some (1, S') ∧ RB T' S' X Y Z Q cz Pd j0 rs c ∧ Cs T T' 0 0 ∧ (∀ a i, ¬ a = 618 → ¬ a = 619 → rd S' a i = rd S a i) ∧ ∀ i, S'.1 i = S.1 i := by
  intro m
  induction m with
  | zero =>
    intro x T S hx hx3 h f g hf hg
    obtain ⟨f, rfl⟩ : ∃ y, f = y + 1 := ⟨f - 1, by omega⟩
    obtain ⟨g, rfl⟩ : ∃ y, g = y + 1 := ⟨g - 1, by omega⟩
    refine ⟨T, S, ?_, ?_, h, Cs.refl, fun _ _ _ _ => rfl, fun _ => rfl⟩
    · unfold D_c_EdgeHouse_back_46
      rw [show m_c2 .gt (Int32.ofNat x) (6 : Int32) = decide (6 < x) from gt_n (by omega) (by decide), decide_eq_true (by omega), cond_true]
    · unfold D_m_back_42
      rw [show m_c2 .ge (Int32.ofNat x) (7 : Int32) = decide (7 ≤ x) from ge_n (by omega) (by decide), decide_eq_true (by omega), cond_true]
  | succ m ih =>
    intro x T S hx hx3 h f g hf hg
    obtain ⟨f, rfl⟩ : ∃ y, f = y + 1 := ⟨f - 1, by omega⟩
    obtain ⟨g, rfl⟩ : ∃ y, g = y + 1 := ⟨g - 1, by omega⟩
    have hH : T.1 512 = some (house S.1) := h.2.1
    have g5 := h.2.2.2.2.1.get (show x < 7 by omega)
    obtain ⟨T1, S1, t1, t2, t3, t4, t5, t6, t7⟩ := h.trust (F := F) (n := x) (p := p) (by omega) (by omega) hp
    obtain ⟨T', S', y1, y2, y3, y4, y5, y6⟩ := ih (x + 1) T1 S1 (by omega) (by omega) t3 f g (by omega) (by omega)
    refine ⟨T', S', ?_, ?_, y3, (t4.trans y4).mono (by decide) (by decide), fun a i w1 w2 => (y5 a i w1 w2).trans (t6 a i w1 w2), fun i => (y6 i).trans (t7 i)⟩
    · conv => lhs; unfold D_c_EdgeHouse_back_46
      rw [show m_c2 .gt (Int32.ofNat x) (6 : Int32) = decide (6 < x) from gt_n (by omega) (by decide), decide_eq_false (by omega), cond_false]
      simp only [Hr3 hH, Option.bind_some, g5, tcl_o (h.2.2.2.2.1.2.1 x (by omega) (by omega)).1, t1, q1]
      exact y1
    · conv => lhs; unfold D_m_back_42
      rw [show m_c2 .ge (Int32.ofNat x) (7 : Int32) = decide (7 ≤ x) from ge_n (by omega) (by decide), decide_eq_false (by omega), cond_false, show m_c2 .ge (Int32.ofNat p) (3 : Int32) = decide (3 ≤ p) from ge_n (by omega) (by decide), decide_eq_false (by omega), cond_false, t2, Option.bind_some, q1]
      exact y2
theorem back_loop3 (hF : 10 ≤ F) (hp : 3 ≤ p) (hp2 : p < 7) : ∀ (m x : Nat) (T : tT) (S : mS), x + m = 7 → 3 ≤ x → RB T S X Y Z Q cz Pd j0 rs c → ∀ f, m < f → D_c_EdgeHouse_back_46 F f 512 (Int32.ofNat p) (Int32.ofNat x) T = some (1, T) := by
  intro m
  induction m with
  | zero =>
    intro x T S hx hx3 h f hf
    obtain ⟨f, rfl⟩ : ∃ y, f = y + 1 := ⟨f - 1, by omega⟩
    unfold D_c_EdgeHouse_back_46
    rw [show m_c2 .gt (Int32.ofNat x) (6 : Int32) = decide (6 < x) from gt_n (by omega) (by decide), decide_eq_true (by omega), cond_true]
  | succ m ih =>
    intro x T S hx hx3 h f hf
    obtain ⟨f, rfl⟩ : ∃ y, f = y + 1 := ⟨f - 1, by omega⟩
    have hH : T.1 512 = some (house S.1) := h.2.1
    have g5 := h.2.2.2.2.1.get (show x < 7 by omega)
    have tr : D_c_Node_trust F (527 + 8 * x) (Int32.ofNat p) T = some T := by
      unfold D_c_Node_trust
      rw [show m_c2 .lt (Int32.ofNat p) (1 : Int32) = decide (p < 1) from lt_n (by omega) (by decide), decide_eq_false (by omega), cond_false, show m_c2 .gt (Int32.ofNat p) (2 : Int32) = decide (2 < p) from gt_n (by omega) (by decide), decide_eq_true (by omega), cond_true]
    conv => lhs; unfold D_c_EdgeHouse_back_46
    rw [show m_c2 .gt (Int32.ofNat x) (6 : Int32) = decide (6 < x) from gt_n (by omega) (by decide), decide_eq_false (by omega), cond_false]
    simp only [Hr3 hH, Option.bind_some, g5, tcl_o (h.2.2.2.2.1.2.1 x (by omega) (by omega)).1, tr, q1]
    exact ih (x + 1) T S (by omega) (by omega) h f (by omega)
/-- a node's being up and what it has seen change -/
theorem RB.ups {o : Nat} (h : RB T S X Y Z Q cz Pd j0 rs c) (h1 : 1 ≤ n) (h2 : n < 7) (ho : S.1 37 = Int32.ofNat o) (ho6 : o ≤ 60) (st : ∀ b x, T.1 b = some x → ¬ b = 527 + 8 * n → T'.1 b = some x) (tn : T'.1 (527 + 8 * n) = some (nodeC S' n)) (hL : okL T') (hi : ∀ i, S'.1 i = S.1 i) (hr : ∀ a k, rd S' a k = if a = 591 ∧ k = n then 1 else if a = 593 ∧ k = n then Int32.ofNat o else rd S a k) : RB T' S' X Y Z Q cz Pd j0 rs c := by
  obtain ⟨r1, r2, r3, r4, r5, r6, r7, r8, r9, r10⟩ := id h
  obtain ⟨e1, e2, e3, e4, e5⟩ := id r10
  obtain ⟨o', fb', fw', u1, u2, u3, u4, u5, u6, u7⟩ := id e2
  have oo : o' = o := by
    rw [ho] at u1
    have := congrArg Int32.toNatClampNeg u1
    rw [m_n_cl (by omega), m_n_cl (by omega)] at this
    exact this.symm
  subst oo
  have hn := (r5.2.1 n h1 h2).1
  have ho' : ∀ a k, ¬ a = 591 → ¬ a = 593 → rd S' a k = rd S a k := fun a k w1 w2 => by rw [hr, if_neg (fun q => w1 q.1), if_neg (fun q => w2 q.1)]
  have ag : ∀ as is, (∀ a ∈ as, ¬ a = 591 ∧ ¬ a = 593) → Ag as is S S' := fun as is q => ⟨fun a ha k => ho' a k (q a ha).1 (q a ha).2, fun i _ => hi i⟩
  have o5 : ∀ a m, ¬ m = n → rd S' a m = rd S a m := fun a m w => by rw [hr, if_neg (fun q => w q.2), if_neg (fun q => w q.2)]
  have st4 : ∀ {b x}, T.1 b = some x → ¬ kd x = 4 → T'.1 b = some x := fun {b x} hb w => st b x hb (fun q => by rw [q, hn] at hb; cases hb; exact w rfl)
  have kq : ∀ {A K : List Nat}, (∀ a ∈ A, ¬ a = 527 + 8 * n) → 4 ∉ K → Kq A K T T' := by
    intro A K hA hK x c9 hx hk'
    rcases hk' with w | w
    · exact st4 hx (fun q => hK (q ▸ w))
    · exact st x c9 hx (hA x w)
  have na : ∀ {A : List Nat}, (∀ a ∈ A, ¬ (a = 535 ∨ a = 543 ∨ a = 551 ∨ a = 559 ∨ a = 567 ∨ a = 575)) → ∀ a ∈ A, ¬ a = 527 + 8 * n := fun q a ha e => q a ha (by omega)
  have hN : RNodes T' S' := by
    obtain ⟨⟨f9, n1, n2⟩, n3, n4⟩ := r5
    refine ⟨⟨f9, st _ _ n1 (by omega), n2⟩, fun m m1 m2 => ?_, fun m m1 m2 => ?_⟩
    · by_cases w : m = n
      · subst w
        exact ⟨tn, by rw [hr, if_pos ⟨rfl, rfl⟩]; exact Or.inr rfl⟩
      · have e : nodeC S' m = nodeC S m := by
          unfold nodeC
          rw [o5 591 m w, o5 593 m w, o5 594 m w, o5 595 m w, o5 596 m w]
        rw [e, o5 591 m w]
        exact ⟨st _ _ (n3 m m1 m2).1 (by omega), (n3 m m1 m2).2⟩
    · obtain ⟨g', a1, a2, a3⟩ := n4 m m1 m2
      exact ⟨g', st _ _ a1 (by omega), by rw [ho' 619 _ (by decide) (by decide)]; exact a2, by rw [ho' 619 _ (by decide) (by decide)]; exact a3⟩
  have hX : RX T' S' := by
    refine ⟨e1.fr (kq (na (by decide)) (by decide)) (ag _ _ (by decide)), ⟨o', fb', fw', (hi 37).trans u1, u2, st _ _ u3 (by omega), st _ _ u4 (by omega), u5, fun m m1 m2 => ?_, fun k a b d => ?_⟩, e3.fr (kq (na (by decide)) (by decide)) (ag _ _ (by decide)), e4.fr (kq (na (by decide)) (by decide)) (ag _ _ (by decide)), by rw [ho' 626 _ (by decide) (by decide)]; exact e5⟩
    · by_cases w : m = n
      · subst w
        obtain ⟨fk, K, y1, y2, y3, y4, y5⟩ := u6 m m1 m2
        refine ⟨fk, K, st _ _ y1 (by omega), by rw [ho' 597 _ (by decide) (by decide)]; exact y2, y3, fun i hi' => ?_, fun j a b => ?_⟩
        · obtain ⟨j, v1, v2, v3, v4, v5, v6, v7⟩ := y4 i hi'
          refine ⟨j, v1, v2, by rw [ho' 598 _ (by decide) (by decide)]; exact v3, by rw [ho' 599 _ (by decide) (by decide)]; exact v4, by rw [ho' 600 _ (by decide) (by decide)]; exact v5, v6, ?_⟩
          rw [hr, if_neg (by omega), if_pos ⟨rfl, rfl⟩]
          exact (i_le (by show j < 2147483648; omega) (by show o' < 2147483648; omega)).mpr v2
        · rcases y5 j a b with t | ⟨t, i, v1, v2⟩
          · exact Or.inl t
          · exact Or.inr ⟨t, i, v1, by rw [ho' 598 _ (by decide) (by decide)]; exact v2⟩
      · obtain ⟨fk, K, y1, y2, y3, y4, y5⟩ := u6 m m1 m2
        refine ⟨fk, K, st _ _ y1 (by omega), by rw [ho' 597 _ (by decide) (by decide)]; exact y2, y3, fun i hi' => ?_, fun j a b => ?_⟩
        · obtain ⟨j, v1, v2, v3, v4, v5, v6, v7⟩ := y4 i hi'
          exact ⟨j, v1, v2, by rw [ho' 598 _ (by decide) (by decide)]; exact v3, by rw [ho' 599 _ (by decide) (by decide)]; exact v4, by rw [ho' 600 _ (by decide) (by decide)]; exact v5, v6, by rw [o5 593 m w]; exact v7⟩
        · rcases y5 j a b with t | ⟨t, i, v1, v2⟩
          · exact Or.inl t
          · exact Or.inr ⟨t, i, v1, by rw [ho' 598 _ (by decide) (by decide)]; exact v2⟩
    · have e9 : ∀ i, mRow S' k i = mRow S k i := fun i => ho' _ _ (by decide) (by decide)
      rw [e9 3, e9 5, e9 4]
      rw [hi 77] at a
      exact u7 k a b ((e9 0).symm.trans d)
  refine h.arr2 (B := fun b => b = 527 + 8 * n) hL st (fun b hb' => by rw [hb']; exact ⟨_, hn, Or.inl rfl⟩) (fun b hb' w => ?_) (ag _ _ (by decide)) (ag _ _ (by decide)) hN hX
  have : n = 1 ∨ n = 2 ∨ n = 3 ∨ n = 4 ∨ n = 5 ∨ n = 6 := by omega
  subst w
  rcases this with z | z | z | z | z | z <;> (subst z; revert hb'; decide)
theorem op_back (hF : 10 ≤ F) (hLe : Le I I') (cB : ClBk I I') {x : Int32} (h : RA I T S X Y Z Q [] [] 0 rs c k1 k2) : ∃ v T' S', D_c_EdgeHouse_back F 512 x T = some (v, T') ∧ D_m_back F x S = some (v, S') ∧ RA I' T' S' X Y Z Q [] [] 0 rs c k1 k2 := by
  have h0 := h.zero
  obtain ⟨S0, hS0⟩ : ∃ x, x = up1 S 0 0 := ⟨_, rfl⟩
  rw [← hS0] at h0
  obtain ⟨hR, hcost, hIv⟩ := id h0
  have hH : T.1 512 = some (house S0.1) := hR.2.1
  have stay : ∃ v T' S', (some ((0 : Int32), T) : Option (Int32 × tT)) = some (v, T') ∧ (some ((0 : Int32), S0) : Option (Int32 × mS)) = some (v, S') ∧ RA I' T' S' X Y Z Q [] [] 0 rs c k1 k2 := ⟨0, T, S0, rfl, rfl, hR, hcost, hLe _ _ _ _ _ _ _ _ hIv⟩
  unfold D_c_EdgeHouse_back D_m_back
  simp only [fput, Option.bind_some]
  rw [← hS0]
  rcases c_isNode (F := F) (T := T) (S := S0) (x := x) with ⟨n, h1, h2, rfl, i1, i2⟩ | ⟨_, i1, i2⟩
  · rw [i1, i2, Option.bind_some, Option.bind_some, show m_c1 .eq (1 : Int32) = false from rfl, cond_false, cond_false]
    obtain ⟨u1, u2⟩ := hR.2.2.2.2.1.up h1 h2
    have g5 := hR.2.2.2.2.1.get h2
    have a591 : aget 4 7 S0 591 (Int32.ofNat n) = some (rd S0 591 n) := aget_n (Or.inr rfl) h2 (by decide)
    simp only [Hr3 hH, Option.bind_some, g5, u1, a591]
    cases up : m_c1 .eq (rd S0 591 n) with
    | false => exact stay
    | true =>
      rw [cond_true, cond_true]
      obtain ⟨o, fb, fw, w1, w2, w3, w4, w5, w6, w7⟩ := hR.2.2.2.2.2.2.2.2.2.2.1
      have hn := (hR.2.2.2.2.1.2.1 n h1 h2).1
      obtain ⟨S2, hS2⟩ : ∃ x, x = up2 (up2 S0 591 n 1) 593 n (Int32.ofNat o) := ⟨_, rfl⟩
      have i2' : ∀ i, S2.1 i = S0.1 i := fun i => by rw [hS2, up2_1, up2_1]
      have r2' : ∀ a k, rd S2 a k = if a = 591 ∧ k = n then 1 else if a = 593 ∧ k = n then Int32.ofNat o else rd S0 a k := fun a k => by
        rw [hS2, rd_up2, rd_up2]
        by_cases q1' : a = 591 ∧ k = n
        · rw [if_neg (by omega), if_pos q1', if_pos q1']
        · by_cases q2' : a = 593 ∧ k = n
          · rw [if_pos q2', if_neg q1', if_pos q2']
          · rw [if_neg q2', if_neg q1', if_neg q1', if_neg q2']
      obtain ⟨nd1, hnd1⟩ : ∃ x : tC, x = .inl (4, [.int (Int32.ofNat n), .ref (528 + 8 * n), .ref (531 + 8 * n), .ref (532 + 8 * n), .ref (533 + 8 * n), .ref (534 + 8 * n), .int 1, .int (rd S0 593 n), .int (rd S0 594 n), .int (rd S0 595 n), .int (rd S0 596 n)]) := ⟨_, rfl⟩
      have pz : tpz T (527 + 8 * n) 4 6 1 = some (tset T (527 + 8 * n) nd1) := by
        unfold tpz
        rw [if_pos (Or.inr rfl), hnd1]
        exact (tp_o hn (show 6 < 11 by decide)).trans rfl
      have t40 : (tset T (527 + 8 * n) nd1).1 (527 + 8 * n) = some (.inl (4, [.int (Int32.ofNat n), .ref (528 + 8 * n), .ref (531 + 8 * n), .ref (532 + 8 * n), .ref (533 + 8 * n), .ref (534 + 8 * n), .int 1, .int (rd S0 593 n), .int (rd S0 594 n), .int (rd S0 595 n), .int (rd S0 596 n)])) := by rw [← hnd1]; exact tset_at
      have eN : nodeC S2 n = .inl (4, [.int (Int32.ofNat n), .ref (528 + 8 * n), .ref (531 + 8 * n), .ref (532 + 8 * n), .ref (533 + 8 * n), .ref (534 + 8 * n), .int 1, .int (Int32.ofNat o), .int (rd S0 594 n), .int (rd S0 595 n), .int (rd S0 596 n)]) := by
        have e591 : rd S2 591 n = 1 := by rw [r2', if_pos ⟨rfl, rfl⟩]
        have e593 : rd S2 593 n = Int32.ofNat o := by rw [r2', if_neg (by omega), if_pos ⟨rfl, rfl⟩]
        have e594 : rd S2 594 n = rd S0 594 n := by rw [r2', if_neg (by omega), if_neg (by omega)]
        have e595 : rd S2 595 n = rd S0 595 n := by rw [r2', if_neg (by omega), if_neg (by omega)]
        have e596 : rd S2 596 n = rd S0 596 n := by rw [r2', if_neg (by omega), if_neg (by omega)]
        unfold nodeC
        rw [e591, e593, e594, e595, e596]
      have p7 : tpi (tset T (527 + 8 * n) nd1) (527 + 8 * n) 4 7 (Int32.ofNat o) = some (tset T (527 + 8 * n) (nodeC S2 n)) := by
        rw [eN]
        refine ((tp_o t40 (show 7 < 11 by decide)).trans ?_)
        rw [tset_tset]
        rfl
      obtain ⟨T61, hT61⟩ : ∃ x, x = tset T (527 + 8 * n) (nodeC S2 n) := ⟨_, rfl⟩
      rw [← hT61] at p7
      have cs1 : Cs T T61 0 0 := ((K_tpz _ pz).trans (K_tpi _ p7)).mono (by decide) (by decide)
      have R1 : RB T61 S2 X Y Z Q [] [] 0 rs c := hR.ups h1 h2 w1 w2 (fun b x hb w => by rw [hT61]; exact tset_o hb w) (by rw [hT61]; exact tset_at) (cs1 hR.1).1 i2' r2'
      have h40 : (tset T (527 + 8 * n) nd1).1 512 = some (house S0.1) := tset_o hH (by omega)
      have ar40 : tar (tset T (527 + 8 * n) nd1) 519 7 (Int32.ofNat n) = some (some (527 + 8 * n)) := by
        obtain ⟨⟨f9, n1, n2⟩, _⟩ := hR.2.2.2.2.1
        unfold tar
        rw [ta_o (tset_o n1 (by omega)) h2 (by decide), Option.bind_some, n2 n h2]
        rfl
      have bp : bput 7 S0 591 (Int32.ofNat n) 1 = some (up2 S0 591 n 1) := bput_n h2 (by decide) (Or.inr rfl)
      have ap : aput 7 (up2 S0 591 n 1) 593 (Int32.ofNat n) (Int32.ofNat o) = some S2 := by rw [hS2]; exact aput_n h2 (by decide)
      have e37 : (up2 S0 591 n 1).1 37 = Int32.ofNat o := by rw [up2_1]; exact w1
      have cc : D_c_EdgeHouse_back F 512 (Int32.ofNat n) T = D_c_EdgeHouse_back_46 F F 512 (Int32.ofNat n) (3 : Int32) T61 := by
        unfold D_c_EdgeHouse_back
        simp only [i1, Option.bind_some, show m_c1 .eq (1 : Int32) = false from rfl, cond_false, Hr3 hH, g5, u1, up, cond_true, pz, Hr3 h40, ar40, Hg13 h40, w1, p7]
      have vv : ∀ S', (∀ a i, ¬ a = 618 → ¬ a = 619 → rd S' a i = rd S2 a i) → (∀ i, S'.1 i = S2.1 i) → vM S' = vM S0 ∧ vE S' = vE S0 ∧ vS S' = fun j k => if j = 0 ∧ k = n then vS S0 2 0 else vS S0 j k := by
        intro S' hr hi
        have rr : ∀ a i, ¬ a = 618 → ¬ a = 619 → ¬ a = 591 → ¬ a = 593 → rd S' a i = rd S0 a i := fun a i v1 v2 v3 v4 => by rw [hr a i v1 v2, r2', if_neg (fun q => v3 q.1), if_neg (fun q => v4 q.1)]
        have ii : ∀ i, S'.1 i = S0.1 i := fun i => (hi i).trans (i2' i)
        refine ⟨vM_ag ⟨fun a ha i => rr a i (by revert a; decide) (by revert a; decide) (by revert a; decide) (by revert a; decide), fun i _ => ii i⟩, vE_ag ⟨fun a ha i => rr a i (by revert a; decide) (by revert a; decide) (by revert a; decide) (by revert a; decide), fun i _ => ii i⟩, ?_⟩
        funext j k
        by_cases w : j = 0 ∧ k = n
        · rw [if_pos w, w.1, w.2]
          show rd S' 593 n = S0.1 37
          rw [hr 593 n (by decide) (by decide), r2', if_neg (by omega), if_pos ⟨rfl, rfl⟩, w1]
        · rw [if_neg w]
          have e593 : j = 0 → rd S' 593 k = rd S0 593 k := fun j0' => by rw [hr 593 k (by decide) (by decide), r2', if_neg (by omega), if_neg (by omega)]
          unfold vS
          by_cases j0' : j = 0
          · rw [if_pos j0', if_pos j0', e593 j0']
          · rw [if_neg j0', if_neg j0', rr 596 k (by decide) (by decide) (by decide) (by decide), ii, ii, ii, rr 589 k (by decide) (by decide) (by decide) (by decide), rr 590 k (by decide) (by decide) (by decide) (by decide), rr 597 k (by decide) (by decide) (by decide) (by decide)]
      have fin : ∀ (T' : tT) (S' : mS), RB T' S' X Y Z Q [] [] 0 rs c → Cs T61 T' 0 0 → (∀ a i, ¬ a = 618 → ¬ a = 619 → rd S' a i = rd S2 a i) → (∀ i, S'.1 i = S2.1 i) → RA I' T' S' X Y Z Q [] [] 0 rs c k1 k2 := by
        intro T' S' hRB hcs hr hi
        obtain ⟨v1, v2, v3⟩ := vv S' hr hi
        refine ⟨hRB, (by have := cost_step (cost_step hcost cs1 hR.1) hcs R1.1; exact ⟨by omega, by omega⟩), ?_⟩
        rw [v1, v2, v3]
        exact cB _ _ _ _ _ _ _ n hIv h1 h2
      simp only [pz, Option.bind_some, Hr3 h40, ar40, Hg13 h40, w1, p7, bp, e37, ap]
      by_cases hp : n ≤ 2
      · obtain ⟨T', S', y1, y2, y3, y4, y5, y6⟩ := back_loop (F := F) (p := n) hF (by omega) 4 3 T61 S2 rfl (Nat.le_refl _) R1 F F (by omega) (by omega)
        exact ⟨1, T', S', y1, y2, fin T' S' y3 y4 y5 y6⟩
      · refine ⟨1, T61, S2, back_loop3 (F := F) (p := n) hF (by omega) h2 4 3 T61 S2 rfl (Nat.le_refl _) R1 F (by omega), ?_, fin T61 S2 R1 Cs.refl (fun _ _ _ _ => rfl) (fun _ => rfl)⟩
        obtain ⟨F', hF'⟩ : ∃ x, F = x + 1 := ⟨F - 1, by omega⟩
        rw [show D_m_back_42 F F = D_m_back_42 F (F' + 1) by rw [← hF']]
        unfold D_m_back_42
        rw [show m_c2 .ge (3 : Int32) (7 : Int32) = false from rfl, cond_false, show m_c2 .ge (Int32.ofNat n) (3 : Int32) = decide (3 ≤ n) from ge_n (by omega) (by decide), decide_eq_true (by omega), cond_true]
  · rw [i1, i2]
    exact stay
end
