/-! A node fails: the relation behind it. -/
def qNi (Q : List Rq) (n : Nat) : List Rq := Q.filter (fun z => decide (z.2.1 / 128 = n))
def qNo (Q : List Rq) (n : Nat) : List Rq := Q.filter (fun z => !decide (z.2.1 / 128 = n))
def zNil (Z : Nat → List Fz) (n : Nat) : Nat → List Fz := fun m => if m = n then [] else Z m
theorem ch_no {Q : List Rq} {n f : Nat} (h : ¬ f / 128 = n) : ch (qNo Q n) f = ch Q f := by
  unfold ch qNo
  rw [List.filter_filter]
  congr 1
  refine List.filter_congr (fun z _ => ?_)
  by_cases w : z.2.1 = f
  · rw [w]; simp [h]
  · simp [w]
theorem ch_no0 {Q : List Rq} {n f : Nat} (h : f / 128 = n) : ch (qNo Q n) f = [] := by
  unfold ch qNo
  rw [List.filter_filter, List.filter_eq_nil_iff.mpr (fun z _ => by
    by_cases w : z.2.1 = f
    · rw [w]; simp [h]
    · simp [w])]
  rfl
/-- a reply's row that is closed as a node fails -/
def clv (clk old : Int32) (i : Nat) : Int32 := if i = 0 then 502 else if i = 5 then clk else if i = 6 then old else 0
theorem fm_uniq {α : Type} {f : α → Option Nat} : ∀ {L : List α}, (L.filterMap f).Nodup → ∀ x ∈ L, ∀ y ∈ L, ∀ r, f x = some r → f y = some r → x = y
  | [], _, x, hx, _, _, _, _, _ => by cases hx
  | a :: L, h, x, hx, y, hy, r, h1, h2 => by
    have mm : ∀ z ∈ L, f z = some r → r ∈ L.filterMap f := fun z hz hr => List.mem_filterMap.mpr ⟨z, hz, hr⟩
    have hL : (L.filterMap f).Nodup := by
      cases ha : f a with
      | none => rw [List.filterMap_cons_none ha] at h; exact h
      | some q => rw [List.filterMap_cons_some ha] at h; exact (List.nodup_cons.mp h).2
    have na : f a = some r → r ∉ L.filterMap f := fun ha => by
      rw [List.filterMap_cons_some ha] at h
      exact (List.nodup_cons.mp h).1
    rcases List.mem_cons.mp hx with e | e
    · rcases List.mem_cons.mp hy with e2 | e2
      · rw [e, e2]
      · subst e
        exact absurd (mm y e2 h2) (na h1)
    · rcases List.mem_cons.mp hy with e2 | e2
      · subst e2
        exact absurd (mm x e h1) (na h2)
      · exact fm_uniq hL x e y e2 r h1 h2
section
variable {T T' : tT} {S S' : mS} {X Y : Nat → List (Nat × Nat)} {Z : Nat → List Fz} {Q : List Rq} {j0 c F n : Nat} {rs R : List Nat}
/-- the addresses of a node that change as it fails -/
def isDn (n b : Nat) : Prop := b = 527 + 8 * n ∨ (529 + 8 * n ≤ b ∧ b ≤ 534 + 8 * n)
theorem RB.down (h : RB T S X Y Z Q [] [] j0 rs c) (h1 : 1 ≤ n) (h2 : n < 7) (hL : okL T') (hR : ∀ r, r ∈ R ↔ ∃ z ∈ Q, z.2.1 / 128 = n ∧ z.2.2.1 = some r) (tH : T'.1 512 = some (house S'.1)) (tN : T'.1 (527 + 8 * n) = some (nodeC S' n)) (tX : ∀ c xs, T.1 (529 + 8 * n) = some (.inr (.inr (c, xs))) → T'.1 (529 + 8 * n) = some (.inr (.inr (c, [])))) (tY : ∀ c xs, T.1 (530 + 8 * n) = some (.inr (.inr (c, xs))) → T'.1 (530 + 8 * n) = some (.inr (.inr (c, [])))) (tZ : ∃ c, T'.1 (531 + 8 * n) = some (.inr (.inr (c, [])))) (tK : ∃ fk, T'.1 (532 + 8 * n) = some (.inr (.inl (4, 61, fk))) ∧ ∀ j, j ≤ 60 → m_toI (fk j) = 0) (tS : ∃ g k, T'.1 (533 + 8 * n) = some (.inr (.inl (0, 3, g))) ∧ T'.1 (534 + 8 * n) = some (.inr (.inl (0, 3, k))) ∧ m_toI (g 1) = 0 ∧ m_toI (g 2) = 0 ∧ m_toI (k 1) = 0 ∧ m_toI (k 2) = 0) (tR : ∀ r ∈ R, ∀ a g, rs[r]? = some a → T.1 a = some (cReply g 31) → T'.1 a = some (cReply (fup (fup g 1 502) 12 (S.1 36)) 31)) (tO : ∀ b x, T.1 b = some x → ¬ b = 512 → ¬ isDn n b → (∀ r ∈ R, ¬ rs[r]? = some b) → T'.1 b = some x) (i74 : S'.1 74 = Int32.ofNat (qNo Q n).length) (iO : ∀ i, ¬ i = 71 → ¬ i = 74 → S'.1 i = S.1 i) (sA : ∀ a k, ¬ a ∈ [591, 593, 597, 601, 609, 618, 619, 621, 622, 623, 627] → rd S' a k = rd S a k) (s591 : ∀ a k, a = 591 ∨ a = 593 ∨ a = 597 → rd S' a k = if k = n then 0 else rd S a k) (s601 : ∀ k, rd S' 601 k = if 1024 * n ≤ k ∧ k < 1024 * n + 1024 then 0 else rd S 601 k) (s609 : ∀ k, rd S' 609 k = if 128 * n ≤ k ∧ k < 128 * n + 128 then 0 else rd S 609 k) (s618 : ∀ a i, a = 618 ∨ a = 619 → rd S' a i = if i = 2 * n ∨ i = 2 * n + 1 then 0 else rd S a i) (s621 : ∀ q, rd S' 621 q = if q ∈ R then 0 else rd S 621 q) (s627 : ∀ q, rd S' 627 q = if q / 9 ∈ R then clv (S.1 36) (rd S 627 q) (q % 9) else rd S 627 q) (rows : ∀ k z, (qNo Q n)[k]? = some z → ∃ r, Q[r]? = some z ∧ ∀ i, i < 12 → rd S' 622 (12 * k + i) = rd S 622 (12 * r + i)) : RB T' S' (upL X n []) (upL Y n []) (zNil Z n) (qNo Q n) [] [] j0 rs c := by
  obtain ⟨r1, r2, r3, r4, r5, r6, r7, r8, r9, r10⟩ := id h
  obtain ⟨⟨a1, a2, a3, a4⟩, b1, b2, b3, c1, c2, d1, dP, d2⟩ := id r8
  rw [List.nil_append, List.append_nil] at c1 c2 a2
  have hH : T.1 512 = some (house S.1) := r2
  have hnode := (r5.2.1 n h1 h2).1
  obtain ⟨⟨_, hst, ⟨cX, x1⟩, ⟨cY, x2⟩, x5, x6, x7, x8, x9, x10⟩, xlen, x512⟩ := r6.1 n h1 h2
  obtain ⟨⟨cZ, z1⟩, z2, z3, z4⟩ := r7.1 n h1 h2
  obtain ⟨e1, e2, e3, e4, e5⟩ := id r10
  obtain ⟨o, fb, fw, u1, u2, u3, u4, u5, u6, u7⟩ := id e2
  obtain ⟨fk0, K0, k1', _⟩ := u6 n h1 h2
  obtain ⟨g0, h0, sk1, sk2, _⟩ := e3 n h1 h2
  -- kinds of the addresses that change
  have dnk : ∀ b x, T.1 b = some x → isDn n b → kd x = 4 ∨ kd x = 20 ∨ kd x = 21 := by
    intro b x hb w
    have : b = 527 + 8 * n ∨ b = 529 + 8 * n ∨ b = 530 + 8 * n ∨ b = 531 + 8 * n ∨ b = 532 + 8 * n ∨ b = 533 + 8 * n ∨ b = 534 + 8 * n := by unfold isDn at w; omega
    rcases this with q | q | q | q | q | q | q
    · rw [q, hnode] at hb; cases hb; exact Or.inl rfl
    · rw [q, x1] at hb; cases hb; exact Or.inr (Or.inr rfl)
    · rw [q, x2] at hb; cases hb; exact Or.inr (Or.inr rfl)
    · rw [q, z1] at hb; cases hb; exact Or.inr (Or.inr rfl)
    · rw [q, k1'] at hb; cases hb; exact Or.inr (Or.inl rfl)
    · rw [q, sk1] at hb; cases hb; exact Or.inr (Or.inl rfl)
    · rw [q, sk2] at hb; cases hb; exact Or.inr (Or.inl rfl)
  have rpk : ∀ r b, rs[r]? = some b → ∃ g s, T.1 b = some (cReply g s) := fun r b hb => by
    obtain ⟨g, s, q1', _⟩ := r9.2.2.2.2 r b hb
    exact ⟨g, s, q1'⟩
  have st8 : ∀ b x, T.1 b = some x → ¬ b = 512 → ¬ isDn n b → ¬ kd x = 8 → T'.1 b = some x := fun b x hb w1 w2 w3 => tO b x hb w1 w2 (fun r _ hr => by
    obtain ⟨g, s, q⟩ := rpk r b hr
    rw [q] at hb
    cases hb
    exact w3 rfl)
  have stk : ∀ b x, T.1 b = some x → ¬ kd x = 0 → ¬ kd x = 4 → ¬ kd x = 8 → ¬ kd x = 20 → ¬ kd x = 21 → T'.1 b = some x := fun b x hb w0 w4 w8 w20 w21 => st8 b x hb (fun q => by rw [q, hH] at hb; cases hb; exact w0 rfl) (fun q => by
    rcases dnk b x hb q with w | w | w
    · exact w4 w
    · exact w20 w
    · exact w21 w) w8
  have kq : ∀ {A K : List Nat}, (∀ b ∈ A, ¬ b = 512 ∧ ¬ isDn n b ∧ ∀ x, T.1 b = some x → ¬ kd x = 8) → (0 ∉ K ∧ 4 ∉ K ∧ 8 ∉ K ∧ 20 ∉ K ∧ 21 ∉ K) → Kq A K T T' := by
    intro A K hA hK b x hb hk
    rcases hk with w | w
    · exact stk b x hb (fun q => hK.1 (q ▸ w)) (fun q => hK.2.1 (q ▸ w)) (fun q => hK.2.2.1 (q ▸ w)) (fun q => hK.2.2.2.1 (q ▸ w)) (fun q => hK.2.2.2.2 (q ▸ w))
    · exact st8 b x hb (hA b w).1 (hA b w).2.1 ((hA b w).2.2 x hb)
  have nl : ∀ {b k : Nat} {xs : List Nat}, T.1 b = some (.inr (.inr (k, xs))) → ∀ x, T.1 b = some x → ¬ kd x = 8 := fun hb x hx => by rw [hb] at hx; cases hx; exact (show ¬ (21 : Nat) = 8 by decide)
  have na : ∀ {b : Nat} {y : Nat × Nat × (Nat → Value)}, T.1 b = some (.inr (.inl y)) → ∀ x, T.1 b = some x → ¬ kd x = 8 := fun hb x hx => by rw [hb] at hx; cases hx; exact (show ¬ (20 : Nat) = 8 by decide)
  have nd : ∀ b, ¬ (535 ≤ b ∧ b ≤ 582) → ¬ isDn n b := fun b w q => by unfold isDn at q; omega
  have ag : ∀ as is, (∀ a ∈ as, ¬ a ∈ [591, 593, 597, 601, 609, 618, 619, 621, 622, 623, 627]) → (∀ i ∈ is, ¬ i = 71 ∧ ¬ i = 74) → Ag as is S S' := fun as is p q => ⟨fun a ha k => sA a k (p a ha), fun i hi => iO i (q i hi).1 (q i hi).2⟩
  have k8 : K8 T T' := fun b t m f hb hf => st8 b _ hb (fun q => by rw [q, hH] at hb; cases hb) (fun q => by
    have : b = 527 + 8 * n ∨ b = 529 + 8 * n ∨ b = 530 + 8 * n ∨ b = 531 + 8 * n ∨ b = 532 + 8 * n ∨ b = 533 + 8 * n ∨ b = 534 + 8 * n := by unfold isDn at q; omega
    rcases this with q | q | q | q | q | q | q
    · rw [q, hnode] at hb; cases hb
    · rw [q, x1] at hb; cases hb
    · rw [q, x2] at hb; cases hb
    · rw [q, z1] at hb; cases hb
    · rw [q, k1'] at hb; cases hb; revert hf; decide
    · rw [q, sk1] at hb; cases hb; revert hf; decide
    · rw [q, sk2] at hb; cases hb; revert hf; decide) (show ¬ (20 : Nat) = 8 by decide)
  have nR : ∀ z ∈ qNo Q n, ∀ r, z.2.2.1 = some r → ¬ r ∈ R := by
    intro z hz r hr w
    obtain ⟨y, y1, y2, y3⟩ := (hR r).mp w
    obtain ⟨w1, w2⟩ := List.mem_filter.mp hz
    have := fm_uniq c2 z w1 y y1 r hr y3
    subst this
    rw [y2] at w2
    simp at w2
  have w1R : ∀ r ∈ R, rd S 621 r = 1 ∧ ∃ a g, rs[r]? = some a ∧ T.1 a = some (cReply g 31) ∧ (∀ i, 1 ≤ i → i < 13 → g i = 0) ∧ g 0 = rd S 627 (9 * r + 6) ∧ flag (rd S 621 r) := by
    intro r hr
    obtain ⟨y, y1, y2, y3⟩ := (hR r).mp hr
    obtain ⟨k, hk⟩ := List.mem_iff_getElem?.mp y1
    obtain ⟨kc, ca, ra, s, b, m, _, _, _, _, q4, q5, _⟩ := (b1 k y hk).client y3
    obtain ⟨g, s', t1, t2, t3, t4, t5⟩ := r9.2.2.2.2 r ra q4
    obtain ⟨t6, t7⟩ := t4 q5
    subst t7
    exact ⟨q5, ra, g, q4, t1, t6, t3, t2⟩
  refine ⟨hL, tH, r3.fr (kq (fun b hb => ?_) (by decide)) (ag _ _ (by decide) (by decide)), r4.fr (kq (fun b hb => ?_) (by decide)), ?_, ?_, ?_, ?_, ?_, ?_⟩
  · obtain ⟨_, _, _, _, _, q3, _⟩ := id r3
    rw [List.mem_singleton.mp hb]
    exact ⟨by decide, nd _ (by decide), nl q3⟩
  · rw [List.mem_singleton.mp hb]
    exact ⟨by decide, nd _ (by decide), na r4.choose_spec.1⟩
  · -- nodes
    obtain ⟨⟨f9, n1, n2⟩, n3, n4⟩ := id r5
    refine ⟨⟨f9, st8 _ _ n1 (by decide) (nd _ (by decide)) (show ¬ (20 : Nat) = 8 by decide), n2⟩, fun m m1 m2 => ?_, fun m m1 m2 => ?_⟩
    · by_cases w : m = n
      · subst w
        exact ⟨tN, by rw [s591 591 _ (Or.inl rfl), if_pos rfl]; exact Or.inl rfl⟩
      · have e : nodeC S' m = nodeC S m := by
          unfold nodeC
          rw [s591 591 _ (Or.inl rfl), if_neg w, s591 593 _ (Or.inr (Or.inl rfl)), if_neg w, sA 594 _ (by decide), sA 595 _ (by decide), sA 596 _ (by decide)]
        rw [e, s591 591 _ (Or.inl rfl), if_neg w]
        exact ⟨st8 _ _ (n3 m m1 m2).1 (by omega) (fun q => by unfold isDn at q; omega) (show ¬ (4 : Nat) = 8 by decide), (n3 m m1 m2).2⟩
    · by_cases w : m = n
      · subst w
        obtain ⟨g, k, t1, t2, t3, t4, t5, t6⟩ := tS
        exact ⟨k, t2, by rw [s618 619 _ (Or.inr rfl), if_pos (Or.inl rfl)]; exact t5, by rw [s618 619 _ (Or.inr rfl), if_pos (Or.inr rfl)]; exact t6⟩
      · obtain ⟨g', q1', q2', q3'⟩ := n4 m m1 m2
        exact ⟨g', st8 _ _ q1' (by omega) (fun q => by unfold isDn at q; omega) (show ¬ (20 : Nat) = 8 by decide), by rw [s618 619 _ (Or.inr rfl), if_neg (by omega)]; exact q2', by rw [s618 619 _ (Or.inr rfl), if_neg (by omega)]; exact q3'⟩
  · -- stores
    obtain ⟨S1, hS1⟩ : ∃ x : mS, x = (S.1, fun a => if a = 601 then S'.2 601 else S.2 a) := ⟨_, rfl⟩
    have q6 : ∀ k, rd S1 601 k = rd S' 601 k := fun k => by rw [hS1]; rfl
    have qo : ∀ a k, ¬ a = 601 → rd S1 a k = rd S a k := fun a k w => by rw [hS1]; unfold rd; simp only [if_neg w]
    have qi : ∀ i, S1.1 i = S.1 i := fun i => by rw [hS1]
    obtain ⟨T1, hT1⟩ : ∃ x, x = tset (tset T (529 + 8 * n) (.inr (.inr (cX, [])))) (530 + 8 * n) (.inr (.inr (cY, []))) := ⟨_, rfl⟩
    have t1a : T1.1 (529 + 8 * n) = some (.inr (.inr (cX, []))) := by rw [hT1]; exact tset_o tset_at (by omega)
    have t1b : T1.1 (530 + 8 * n) = some (.inr (.inr (cY, []))) := by rw [hT1]; exact tset_at
    have t1o : ∀ b x, T.1 b = some x → ¬ b = 529 + 8 * n → ¬ b = 530 + 8 * n → T1.1 b = some x := fun b x hb w1 w2 => by rw [hT1]; exact tset_o (tset_o hb w1) w2
    have lc1 : tlc T (529 + 8 * n) = some (tset T (529 + 8 * n) (.inr (.inr (cX, [])))) := by simp only [tlc, tl, x1, Option.map_some]
    have lc2 : tlc (tset T (529 + 8 * n) (.inr (.inr (cX, [])))) (530 + 8 * n) = some T1 := by
      simp only [tlc, tl, tset_o x2 (show ¬ 530 + 8 * n = 529 + 8 * n by omega), Option.map_some]
      rw [hT1]
    have cs1 : Cs T T1 0 0 := ((K_tlc _ lc1).trans (K_tlc _ lc2)).mono (by decide) (by decide)
    have hRS : RS T1 S1 n [] [] := by
      refine ⟨⟨h1, h2⟩, ?_, ⟨cX, t1a⟩, ⟨cY, t1b⟩, fun q hq => (by cases hq), fun q hq => (by cases hq), List.Pairwise.nil, List.Pairwise.nil, fun e g1 g2 g3 => ?_, ?_⟩
      · rw [qo 592 _ (by decide)]
        exact t1o _ _ hst (by omega) (by omega)
      · rw [q6, s601, if_pos ⟨g1, g2⟩] at g3
        exact absurd rfl g3
      · obtain ⟨bb, y1, y2, y3⟩ := x10
        exact ⟨bb, y1, y2, by rw [qo 592 _ (by decide)]; exact y3⟩
    have := h.store (T' := T1) (S' := S1) (A := []) (B := []) (Zs := []) (d := 0) h1 h2 (cs1 r1).1 hRS (Nat.zero_le _) (fun U hU hc => ⟨U, ⟨(qi 58).trans hU.1, fun e he t => by
      rw [qo 608 _ (by decide)]
      refine hU.2 e he (fun w => t ?_)
      rw [q6, s601]
      by_cases q : 1024 * n ≤ e ∧ e < 1024 * n + 1024
      · rw [if_pos q]
      · rw [if_neg q]; exact w⟩, by simp⟩) ⟨fun b x hb w1 w2 _ => t1o b x hb w1 w2, fun a ha => (by cases ha), fun _ => (cs1 r1).1.1, by rw [hT1]; exact Nat.le_refl _, by rw [hT1]; exact Nat.le_refl _⟩ (fun i _ => qi i) (fun a k w => qo a k (fun q => w (Or.inl q))) (fun a k w => by
        by_cases q : a = 601
        · rw [q, q6, s601, if_neg w]
        · exact qo a k q) (fun q hq => by rcases hq with w | w <;> cases w) (fun a ha => by cases ha)
    refine this.1.2.2.2.2.2.1.fr (fun b x hb hk => ?_) ⟨fun a ha k => ?_, fun i hi => ?_⟩
    · by_cases w1 : b = 529 + 8 * n
      · rw [w1, t1a] at hb
        cases hb
        rw [w1]
        exact tX _ _ x1
      · by_cases w2 : b = 530 + 8 * n
        · rw [w2, t1b] at hb
          cases hb
          rw [w2]
          exact tY _ _ x2
        · have hb' : T.1 b = some x := by
            rw [hT1, tset_1, if_neg w2, tset_1, if_neg w1] at hb
            exact hb
          rcases hk with w | w
          · refine stk b x hb' ?_ ?_ ?_ ?_ ?_ <;> (intro q; rw [q] at w; revert w; decide)
          · have : ∃ m, 1 ≤ m ∧ m < 7 ∧ (b = 529 + 8 * m ∨ b = 530 + 8 * m) := by
              simp only [List.mem_cons, List.mem_nil_iff, or_false] at w
              exact ⟨(b - 529) / 8, by omega, by omega, by omega⟩
            obtain ⟨m, m1, m2, m3⟩ := this
            obtain ⟨⟨_, _, ⟨cX', y1⟩, ⟨cY', y2⟩, _⟩, _⟩ := r6.1 m m1 m2
            refine st8 b x hb' (by omega) (fun q => by unfold isDn at q; omega) ?_
            rcases m3 with m3 | m3
            · exact nl (by rw [m3]; exact y1) x hb'
            · exact nl (by rw [m3]; exact y2) x hb'
    · by_cases w : a = 601
      · rw [w, q6]
      · rw [qo a k w]
        exact sA a k (by revert a; decide)
    · rw [qi]
      exact iO i (by revert i; decide) (by revert i; decide)
  · -- fetches
    refine ⟨fun m m1 m2 => ?_, fun m m' z y m1 m2 m3 m4 hz hy e => ?_⟩
    · unfold zNil
      by_cases w : m = n
      · subst w
        rw [if_pos rfl]
        refine ⟨tZ, fun z hz => (by cases hz), List.Pairwise.nil, fun f f1 f2 f3 => ?_⟩
        rw [s609, if_pos ⟨f1, f2⟩] at f3
        exact absurd rfl f3
      · rw [if_neg w]
        obtain ⟨⟨cm, y1⟩, y2, y3, y4⟩ := r7.1 m m1 m2
        refine ⟨⟨cm, st8 _ _ y1 (by omega) (fun q => by unfold isDn at q; omega) (show ¬ (21 : Nat) = 8 by decide)⟩, fun z hz => ?_, y3, fun f f1 f2 f3 => ?_⟩
        · have fe := y2 z hz
          obtain ⟨q0, ⟨p, v, hp, hv, q1', _⟩, _⟩ := id fe
          rw [ch_no (by omega)]
          refine fe.congr ((stk _ _ q0 (show ¬ (10 : Nat) = 0 by decide) (show ¬ (10 : Nat) = 4 by decide) (show ¬ (10 : Nat) = 8 by decide) (show ¬ (10 : Nat) = 20 by decide) (show ¬ (10 : Nat) = 21 by decide)).trans q0.symm) (fun a ha => ?_)
          by_cases w9 : a = 609
          · rw [w9, s609, if_neg (by omega)]
          · exact sA a _ (by
              simp only [List.mem_cons, List.mem_nil_iff, or_false]
              omega)
        · rw [s609, if_neg (by omega)] at f3
          exact y4 f f1 f2 f3
    · unfold zNil at hz hy
      by_cases w : m = n
      · rw [if_pos w] at hz; cases hz
      · rw [if_neg w] at hz
        by_cases w' : m' = n
        · rw [if_pos w'] at hy; cases hy
        · rw [if_neg w'] at hy
          exact r7.2 m m' z y m1 m2 m3 m4 hz hy e
  · -- rows
    have sub : (qNo Q n).Sublist Q := List.filter_sublist
    refine ⟨⟨i74, ?_, ?_, Nat.zero_le _⟩, fun k z hz => ?_, fun z hz => (by cases hz), fun k z hz => (by simp at hz), ?_, ?_, fun f => ?_, trivial, fun z hz => ?_⟩
    · rw [List.nil_append, List.append_nil]
      exact Nat.le_trans sub.length_le a2
    · simpa using a3
    · obtain ⟨r, q1', q2'⟩ := rows k z hz
      refine (b1 r z q1').fa (kq (fun b hb => by cases hb) (by decide)) k8 (ag _ _ (by decide) (by decide)) (fun r' hr' => ?_) q2'
      rw [s621, if_neg (nR z (List.mem_of_getElem? hz) r' hr')]
    · rw [List.nil_append, List.append_nil]
      exact c1.sublist (sub.map _)
    · rw [List.nil_append, List.append_nil]
      exact c2.sublist (sub.filterMap _)
    · by_cases w : f / 128 = n
      · rw [ch_no0 w]; trivial
      · rw [ch_no w]
        exact (d1 f).fr (kq (fun b hb => by cases hb) (by decide))
    · obtain ⟨w1, w2⟩ := List.mem_filter.mp hz
      have w3 : ¬ z.2.1 / 128 = n := by simpa using w2
      rw [s609, if_neg (by omega)]
      exact d2 z w1
  · -- replies
    obtain ⟨⟨cr, y1⟩, y2, y3, y4, y5⟩ := id r9
    refine ⟨⟨cr, st8 _ _ y1 (by decide) (nd _ (by decide)) (show ¬ (21 : Nat) = 8 by decide)⟩, y2, (iO 70 (by decide) (by decide)).trans y3, ⟨y4.1, fun r hr => ?_, fun r hr => by rw [sA 620 _ (by decide)]; exact y4.2.2 r hr⟩, fun r a hr => ?_⟩
    · rw [s627, show (9 * r + 6) / 9 = r by omega, if_neg (fun w => by
        obtain ⟨_, a, g, q, _⟩ := w1R r w
        have := (List.getElem?_eq_some_iff.mp q).1
        omega)]
      exact y4.2.1 r hr
    by_cases w : r ∈ R
    · obtain ⟨v1, a', g, v2, v3, v4, v5, v6⟩ := w1R r w
      rw [hr] at v2
      cases v2
      have t := tR r w a g hr v3
      have e7 : ∀ i, i < 9 → rd S' 627 (9 * r + i) = clv (S.1 36) (rd S 627 (9 * r + i)) i := fun i hi => by
        rw [s627, show (9 * r + i) / 9 = r by omega, if_pos w, show (9 * r + i) % 9 = i by omega]
      have s0 : rd S' 621 r = 0 := by rw [s621, if_pos w]
      have g3 := v4 3 (by decide) (by decide)
      refine ⟨_, 31, t, by rw [s0]; exact Or.inl rfl, ?_, fun q => ?_, fun _ => ⟨?_, Or.inl rfl⟩⟩
      · rw [e7 6 (by decide)]
        exact v5
      · rw [s0] at q; exact absurd q (by decide)
      · have z0 : rd S' 627 (9 * r) = 502 := e7 0 (by decide)
        refine ⟨by rw [z0]; rfl, (v4 3 (by decide) (by decide)).trans (e7 1 (by decide)).symm, (v4 6 (by decide) (by decide)).trans (e7 2 (by decide)).symm, (v4 7 (by decide) (by decide)).trans (e7 4 (by decide)).symm, (e7 5 (by decide)).symm, (v4 4 (by decide) (by decide)).trans (e7 7 (by decide)).symm, (v4 5 (by decide) (by decide)).trans (e7 8 (by decide)).symm, Or.inl ⟨v4 3 (by decide) (by decide), Or.inr (Or.inr (Or.inl rfl)), v4 4 (by decide) (by decide), v4 5 (by decide) (by decide), v4 6 (by decide) (by decide), v4 7 (by decide) (by decide), v4 10 (by decide) (by decide), v4 9 (by decide) (by decide), e7 3 (by decide)⟩⟩
    · obtain ⟨g, s, v1, v2, v3, v4, v5⟩ := y5 r a hr
      have e7 : ∀ i, i < 9 → rd S' 627 (9 * r + i) = rd S 627 (9 * r + i) := fun i hi => by
        rw [s627, show (9 * r + i) / 9 = r by omega, if_neg w]
      have e6 : rd S' 621 r = rd S 621 r := by rw [s621, if_neg w]
      have tc : T'.1 a = some (cReply g s) := tO a _ v1 (fun q => by rw [q, hH] at v1; cases v1) (fun q => by
        rcases dnk a _ v1 q with w' | w' | w'
        · exact absurd w' (show ¬ (8 : Nat) = 4 by decide)
        · exact absurd w' (show ¬ (8 : Nat) = 20 by decide)
        · exact absurd w' (show ¬ (8 : Nat) = 21 by decide)) (fun r' hr' q => by
        have : r' = r := by
          obtain ⟨i1, i2⟩ := List.getElem?_eq_some_iff.mp hr
          obtain ⟨j1, j2⟩ := List.getElem?_eq_some_iff.mp q
          exact (List.getElem_inj y4.1).mp (j2.trans i2.symm)
        rw [this] at hr'
        exact w hr')
      refine ⟨g, s, tc, by rw [e6]; exact v2, by rw [e7 6 (by decide)]; exact v3, by rw [e6]; exact v4, fun z => ?_⟩
      rw [e6] at z
      refine ⟨(v5 z).1.ag (fun j => sA 620 j (by decide)) (fun j hj => by
          have := e7 (j - 9 * r) (by unfold aRow at hj; omega)
          rw [show 9 * r + (j - 9 * r) = j by unfold aRow at hj; omega] at this
          exact this), ?_⟩
      rcases (v5 z).2 with q | ⟨b, nn, f, hh0, hh1, p0, p1', p2', p3', p4'⟩
      · exact Or.inl q
      · exact Or.inr ⟨b, nn, f, hh0, hh1, p0, stk _ _ p1' (show ¬ (12 : Nat) = 0 by decide) (show ¬ (12 : Nat) = 4 by decide) (show ¬ (12 : Nat) = 8 by decide) (show ¬ (12 : Nat) = 20 by decide) (show ¬ (12 : Nat) = 21 by decide), k8 _ _ _ _ p2' (Or.inr rfl), p3', p4'⟩
  · -- the rest
    refine ⟨e1.fr (kq (fun b hb => ?_) (by decide)) (ag _ _ (by decide) (by decide)), ⟨o, fb, fw, (iO 37 (by decide) (by decide)).trans u1, u2, st8 _ _ u3 (by decide) (nd _ (by decide)) (show ¬ (20 : Nat) = 8 by decide), st8 _ _ u4 (by decide) (nd _ (by decide)) (show ¬ (20 : Nat) = 8 by decide), u5, fun m m1 m2 => ?_, fun k a b d => ?_⟩, fun m m1 m2 => ?_, e4.fa (kq (fun b hb => ?_) (by decide)) (ag _ _ (by decide) (by decide)), by rw [sA 626 _ (by decide)]; exact e5⟩
    · obtain ⟨⟨ft, t1, _⟩, f8, t3, _⟩ := id e1
      simp only [List.mem_cons, List.mem_nil_iff, or_false] at hb
      rcases hb with q | q
      · rw [q]; exact ⟨by decide, nd _ (by decide), na t1⟩
      · rw [q]; exact ⟨by decide, nd _ (by decide), na t3⟩
    · by_cases w : m = n
      · subst w
        obtain ⟨fk, t1, t2⟩ := tK
        exact ⟨fk, 0, t1, by rw [s591 597 _ (Or.inr (Or.inr rfl)), if_pos rfl]; rfl, Nat.zero_le _, fun i hi => absurd hi (Nat.not_lt_zero _), fun j j1 j2 => Or.inl (t2 j j2)⟩
      · obtain ⟨fk, K, y1, y2, y3, y4, y5⟩ := u6 m m1 m2
        refine ⟨fk, K, st8 _ _ y1 (by omega) (fun q => by unfold isDn at q; omega) (show ¬ (20 : Nat) = 8 by decide), by rw [s591 597 _ (Or.inr (Or.inr rfl)), if_neg w]; exact y2, y3, fun i hi' => ?_, fun j a b => ?_⟩
        · obtain ⟨j, v1, v2, v3, v4, v5, v6, v7⟩ := y4 i hi'
          exact ⟨j, v1, v2, by rw [sA 598 _ (by decide)]; exact v3, by rw [sA 599 _ (by decide)]; exact v4, by rw [sA 600 _ (by decide)]; exact v5, v6, by rw [s591 593 _ (Or.inr (Or.inl rfl)), if_neg w]; exact v7⟩
        · rcases y5 j a b with t | ⟨t, i, v1, v2⟩
          · exact Or.inl t
          · exact Or.inr ⟨t, i, v1, by rw [sA 598 _ (by decide)]; exact v2⟩
    · have e9 : ∀ i, mRow S' k i = mRow S k i := fun i => sA _ _ (by decide)
      rw [e9 3, e9 5, e9 4]
      rw [iO 77 (by decide) (by decide)] at a
      exact u7 k a b ((e9 0).symm.trans d)
    · by_cases w : m = n
      · subst w
        obtain ⟨g, k, t1, t2, t3, t4, t5, t6⟩ := tS
        have q1' : rd S' 618 (2 * m) = 0 := by rw [s618 618 _ (Or.inl rfl), if_pos (Or.inl rfl)]
        have q2' : rd S' 618 (2 * m + 1) = 0 := by rw [s618 618 _ (Or.inl rfl), if_pos (Or.inr rfl)]
        have q3' : rd S' 619 (2 * m) = 0 := by rw [s618 619 _ (Or.inr rfl), if_pos (Or.inl rfl)]
        have q4' : rd S' 619 (2 * m + 1) = 0 := by rw [s618 619 _ (Or.inr rfl), if_pos (Or.inr rfl)]
        exact ⟨g, k, t1, t2, by rw [q1']; exact Or.inl rfl, by rw [q2']; exact Or.inl rfl, t3.trans q1'.symm, t4.trans q2'.symm, t5.trans q3'.symm, t6.trans q4'.symm, fun _ => ⟨q1', q2', q3', q4'⟩⟩
      · obtain ⟨g', k', q1', q2', q3'⟩ := e3 m m1 m2
        refine ⟨g', k', st8 _ _ q1' (by omega) (fun q => by unfold isDn at q; omega) (show ¬ (20 : Nat) = 8 by decide), st8 _ _ q2' (by omega) (fun q => by unfold isDn at q; omega) (show ¬ (20 : Nat) = 8 by decide), ?_⟩
        rw [s618 618 _ (Or.inl rfl), if_neg (by omega), s618 618 _ (Or.inl rfl), if_neg (by omega), s618 619 _ (Or.inr rfl), if_neg (by omega), s618 619 _ (Or.inr rfl), if_neg (by omega)]
        exact q3'
    · obtain ⟨f1, f2, f3, L, y2, y5, y6, y7, y8, y9, y10, y11, y13, y14, y15, q1', q2', q3', q4', q5', q6', q7'⟩ := id e4
      simp only [List.mem_cons, List.mem_nil_iff, or_false] at hb
      rcases hb with q | q | q | q
      · rw [q]; exact ⟨by decide, nd _ (by decide), fun x hx => by rw [q1'] at hx; cases hx; exact (show ¬ (1 : Nat) = 8 by decide)⟩
      · rw [q]; exact ⟨by decide, nd _ (by decide), na q4'⟩
      · rw [q]; exact ⟨by decide, nd _ (by decide), na q5'⟩
      · rw [q]; exact ⟨by decide, nd _ (by decide), na q6'⟩
end
