/-! trust beside forgive. -/
section
variable {T T' : tT} {S S' : mS} {X Y : Nat → List (Nat × Nat)} {Z : Nat → List Fz} {Q cz Pd : List Rq} {c F n f j0 p : Nat} {rs : List Nat}
theorem tas_n {a t m i : Nat} {g : Nat → Value} {v : Value} (h : T.1 a = some (.inr (.inl (t, m, g)))) (hi : i < m) (h2 : m < 2147483648) : tas T a t (Int32.ofNat i) v = some (tset T a (.inr (.inl (t, m, fun j => if j = i then v else g j)))) := by
  have ni : ¬ Int32.ofNat i < 0 := by have := (@i_lt i 0 (by show i < 2147483648; omega) (by decide)); exact fun w => absurd (this.mp w) (Nat.not_lt_zero _)
  simp only [tas, h]
  rw [m_n_cl (by omega), if_pos ⟨trivial, ni, hi⟩]
/-- two cells of arrays, at one place -/
theorem put_pair {f : Nat → Value} {p : Nat} {v : Int32} (hp : p = 1 ∨ p = 2) {a1 a2 : Int32} (h1 : m_toI (f 1) = a1) (h2 : m_toI (f 2) = a2) : m_toI ((fun j => if j = p then Value.int v else f j) 1) = (if p = 1 then v else a1) ∧ m_toI ((fun j => if j = p then Value.int v else f j) 2) = (if p = 2 then v else a2) := by
  rcases hp with rfl | rfl
  · exact ⟨rfl, h2⟩
  · exact ⟨h1, rfl⟩
/-- the places of strikes and of shunning -/
def isSk (n : Nat) (b : Nat) : Prop := b = 533 + 8 * n ∨ b = 534 + 8 * n
theorem isSk_fix (h2 : n < 7) : ∀ b ∈ aFix, ¬ isSk n b := by
  intro b hb w
  unfold isSk at w
  have : n = 0 ∨ n = 1 ∨ n = 2 ∨ n = 3 ∨ n = 4 ∨ n = 5 ∨ n = 6 := by omega
  rcases w with w | w <;> subst w <;> rcases this with z | z | z | z | z | z | z <;> (subst z; revert hb; decide)
/-- strikes and shunning of a node change: what stays -/
theorem sk_rel (hN : RNodes T S) (hX : RX T S) (h1 : 1 ≤ n) (h2 : n < 7) {x1 x2 y1 y2 : Int32} {g k : Nat → Value} (st : ∀ b x, T.1 b = some x → ¬ isSk n b → T'.1 b = some x) (hg : T'.1 (533 + 8 * n) = some (.inr (.inl (0, 3, g)))) (hk : T'.1 (534 + 8 * n) = some (.inr (.inl (0, 3, k)))) (g1 : m_toI (g 1) = x1) (g2 : m_toI (g 2) = x2) (k1 : m_toI (k 1) = y1) (k2 : m_toI (k 2) = y2) (f1 : flag x1) (f2 : flag x2) (h3 : n ≤ 2 → x1 = 0 ∧ x2 = 0 ∧ y1 = 0 ∧ y2 = 0) (hr : ∀ a i, rd S' a i = if a = 618 ∧ i = 2 * n then x1 else if a = 618 ∧ i = 2 * n + 1 then x2 else if a = 619 ∧ i = 2 * n then y1 else if a = 619 ∧ i = 2 * n + 1 then y2 else rd S a i) (hi : ∀ i, S'.1 i = S.1 i) : RNodes T' S' ∧ RX T' S' := by
  have ho : ∀ a i, ¬ a = 618 → ¬ a = 619 → rd S' a i = rd S a i := fun a i w1 w2 => by rw [hr, if_neg (fun q => w1 q.1), if_neg (fun q => w1 q.1), if_neg (fun q => w2 q.1), if_neg (fun q => w2 q.1)]
  have ag : ∀ as is, (∀ a ∈ as, ¬ a = 618 ∧ ¬ a = 619) → Ag as is S S' := fun as is q => ⟨fun a ha k => ho a k (q a ha).1 (q a ha).2, fun i _ => hi i⟩
  have s18a : rd S' 618 (2 * n) = x1 := by rw [hr, if_pos ⟨rfl, rfl⟩]
  have s18b : rd S' 618 (2 * n + 1) = x2 := by rw [hr, if_neg (by omega), if_pos ⟨rfl, rfl⟩]
  have s19a : rd S' 619 (2 * n) = y1 := by rw [hr, if_neg (by omega), if_neg (by omega), if_pos ⟨rfl, rfl⟩]
  have s19b : rd S' 619 (2 * n + 1) = y2 := by rw [hr, if_neg (by omega), if_neg (by omega), if_neg (by omega), if_pos ⟨rfl, rfl⟩]
  have soth : ∀ a i, ¬ i = 2 * n → ¬ i = 2 * n + 1 → rd S' a i = rd S a i := fun a i w1 w2 => by rw [hr, if_neg (by omega), if_neg (by omega), if_neg (by omega), if_neg (by omega)]
  obtain ⟨⟨f9, n1, n2⟩, n3, n4⟩ := hN
  obtain ⟨e1, e2, e3, e4, e5⟩ := hX
  have at9 : ∀ {b x}, T.1 b = some x → ¬ b = 533 + 8 * n → ¬ b = 534 + 8 * n → T'.1 b = some x := fun hb w1 w2 => st _ _ hb (fun q => q.elim w1 w2)
  obtain ⟨ff, hh, q1', q2', _⟩ := e3 n h1 h2
  have k20 : ∀ {b x}, T.1 b = some x → ¬ kd x = 20 → T'.1 b = some x := fun hb w => at9 hb (fun q => by rw [q, q1'] at hb; cases hb; exact w rfl) (fun q => by rw [q, q2'] at hb; cases hb; exact w rfl)
  refine ⟨⟨⟨f9, at9 n1 (by omega) (by omega), n2⟩, fun m m1 m2 => ?_, fun m m1 m2 => ?_⟩, ?_, ?_, fun m m1 m2 => ?_, ?_, by rw [ho 626 1 (by decide) (by decide)]; exact e5⟩
  · have e : nodeC S' m = nodeC S m := by
      simp only [nodeC, ho 591 _ (by decide) (by decide), ho 593 _ (by decide) (by decide), ho 594 _ (by decide) (by decide), ho 595 _ (by decide) (by decide), ho 596 _ (by decide) (by decide)]
    rw [e, ho 591 _ (by decide) (by decide)]
    exact ⟨k20 (n3 m m1 m2).1 (show ¬ (4 : Nat) = 20 by decide), (n3 m m1 m2).2⟩
  · by_cases w : m = n
    · subst w
      exact ⟨k, hk, k1.trans s19a.symm, k2.trans s19b.symm⟩
    · obtain ⟨g', a1, a2, a3⟩ := n4 m m1 m2
      exact ⟨g', at9 a1 (by omega) (by omega), by rw [soth 619 _ (by omega) (by omega)]; exact a2, by rw [soth 619 _ (by omega) (by omega)]; exact a3⟩
  · refine e1.fr (fun b x hb hq => ?_) (ag _ _ (by decide))
    rcases hq with hq | hq
    · exact k20 hb (by rw [List.mem_singleton.mp hq]; decide)
    · simp only [List.mem_cons, List.mem_nil_iff, or_false] at hq
      exact at9 hb (by omega) (by omega)
  · refine e2.fa (fun b x hb hq => ?_) (ag _ _ (by decide))
    rcases hq with hq | hq
    · cases hq
    · simp only [List.mem_cons, List.mem_nil_iff, or_false] at hq
      exact at9 hb (by omega) (by omega)
  · by_cases w : m = n
    · subst w
      exact ⟨g, k, hg, hk, by rw [s18a]; exact f1, by rw [s18b]; exact f2, g1.trans s18a.symm, g2.trans s18b.symm, k1.trans s19a.symm, k2.trans s19b.symm, fun w => ⟨s18a.trans (h3 w).1, s18b.trans (h3 w).2.1, s19a.trans (h3 w).2.2.1, s19b.trans (h3 w).2.2.2⟩⟩
    · obtain ⟨g', k', a1, a2, a3, a4, a5, a6, a7, a8, a9⟩ := e3 m m1 m2
      refine ⟨g', k', at9 a1 (by omega) (by omega), at9 a2 (by omega) (by omega), ?_⟩
      rw [soth 618 _ (by omega) (by omega), soth 618 _ (by omega) (by omega), soth 619 _ (by omega) (by omega), soth 619 _ (by omega) (by omega)]
      exact ⟨a3, a4, a5, a6, a7, a8, a9⟩
  · refine e4.fa (fun b x hb hq => ?_) (ag _ _ (by decide))
    rcases hq with hq | hq
    · cases hq
    · simp only [List.mem_cons, List.mem_nil_iff, or_false] at hq
      exact at9 hb (by omega) (by omega)
/-- what trust changes in the class -/
theorem c_trust (hn : T.1 (527 + 8 * n) = some (nodeC S n)) {g k : Nat → Value} (hg : T.1 (533 + 8 * n) = some (.inr (.inl (0, 3, g)))) (hk : T.1 (534 + 8 * n) = some (.inr (.inl (0, 3, k)))) (hp : p = 1 ∨ p = 2) : D_c_Node_trust F (527 + 8 * n) (Int32.ofNat p) T = some (tset (tset T (533 + 8 * n) (.inr (.inl (0, 3, fun j => if j = p then .int 0 else g j)))) (534 + 8 * n) (.inr (.inl (0, 3, fun j => if j = p then .int 0 else k j)))) := by
  have e4 : tgr T (527 + 8 * n) 4 4 = some (some (533 + 8 * n)) := tgr_o (x := some (533 + 8 * n)) hn rfl
  have w1 : tasi T (533 + 8 * n) (Int32.ofNat p) 0 = some (tset T (533 + 8 * n) (.inr (.inl (0, 3, fun j => if j = p then .int 0 else g j)))) := tas_n hg (by omega) (by decide)
  have hn' : (tset T (533 + 8 * n) (.inr (.inl (0, 3, fun j => if j = p then .int 0 else g j)))).1 (527 + 8 * n) = some (nodeC S n) := tset_o hn (by omega)
  have e5 : tgr (tset T (533 + 8 * n) (.inr (.inl (0, 3, fun j => if j = p then .int 0 else g j)))) (527 + 8 * n) 4 5 = some (some (534 + 8 * n)) := tgr_o (x := some (534 + 8 * n)) hn' rfl
  have hk' : (tset T (533 + 8 * n) (.inr (.inl (0, 3, fun j => if j = p then .int 0 else g j)))).1 (534 + 8 * n) = some (.inr (.inl (0, 3, k))) := tset_o hk (by omega)
  have w2 : tasi (tset T (533 + 8 * n) (.inr (.inl (0, 3, fun j => if j = p then .int 0 else g j)))) (534 + 8 * n) (Int32.ofNat p) 0 = some (tset (tset T (533 + 8 * n) (.inr (.inl (0, 3, fun j => if j = p then .int 0 else g j)))) (534 + 8 * n) (.inr (.inl (0, 3, fun j => if j = p then .int 0 else k j)))) := tas_n hk' (by omega) (by decide)
  have c1 : m_c2 .lt (Int32.ofNat p) (1 : Int32) = false := by rcases hp with rfl | rfl <;> rfl
  have c2 : m_c2 .gt (Int32.ofNat p) (2 : Int32) = false := by rcases hp with rfl | rfl <;> rfl
  unfold D_c_Node_trust
  simp only [c1, c2, cond_false, e4, Option.bind_some, w1, e5, w2]
theorem m_forgive (h2 : n < 7) (hp : p = 1 ∨ p = 2) : D_m_forgive F (Int32.ofNat n) (Int32.ofNat p) S = some (up2 (up2 S 618 (2 * n + p - 1) 0) 619 (2 * n + p - 1) 0) := by
  have ix : (2 : Int32) * Int32.ofNat n + Int32.ofNat p - (1 : Int32) = Int32.ofNat (2 * n + p - 1) := by
    rcases hp with rfl | rfl
    · have : n = 0 ∨ n = 1 ∨ n = 2 ∨ n = 3 ∨ n = 4 ∨ n = 5 ∨ n = 6 := by omega
      rcases this with z | z | z | z | z | z | z <;> (subst z; rfl)
    · have : n = 0 ∨ n = 1 ∨ n = 2 ∨ n = 3 ∨ n = 4 ∨ n = 5 ∨ n = 6 := by omega
      rcases this with z | z | z | z | z | z | z <;> (subst z; rfl)
  unfold D_m_forgive
  rw [ix, aput_n (by omega) (by decide), Option.bind_some, aput_n (by omega) (by decide), Option.bind_some]
theorem sk_if {R : Nat → Nat → Int32} (hp : p = 1 ∨ p = 2) (a i : Nat) : (if (a = 619 ∧ i = 2 * n + p - 1) ∨ (a = 618 ∧ i = 2 * n + p - 1) then 0 else R a i) = if a = 618 ∧ i = 2 * n then (if p = 1 then 0 else R 618 (2 * n)) else if a = 618 ∧ i = 2 * n + 1 then (if p = 2 then 0 else R 618 (2 * n + 1)) else if a = 619 ∧ i = 2 * n then (if p = 1 then 0 else R 619 (2 * n)) else if a = 619 ∧ i = 2 * n + 1 then (if p = 2 then 0 else R 619 (2 * n + 1)) else R a i := by
  by_cases w1 : a = 618 ∧ i = 2 * n
  · rw [if_pos w1]
    by_cases e : p = 1
    · rw [if_pos e, if_pos (by omega)]
    · rw [if_neg e, if_neg (by omega), w1.1, w1.2]
  · rw [if_neg w1]
    by_cases w2 : a = 618 ∧ i = 2 * n + 1
    · rw [if_pos w2]
      by_cases e : p = 2
      · rw [if_pos e, if_pos (by omega)]
      · rw [if_neg e, if_neg (by omega), w2.1, w2.2]
    · rw [if_neg w2]
      by_cases w3 : a = 619 ∧ i = 2 * n
      · rw [if_pos w3]
        by_cases e : p = 1
        · rw [if_pos e, if_pos (by omega)]
        · rw [if_neg e, if_neg (by omega), w3.1, w3.2]
      · rw [if_neg w3]
        by_cases w4 : a = 619 ∧ i = 2 * n + 1
        · rw [if_pos w4]
          by_cases e : p = 2
          · rw [if_pos e, if_pos (by omega)]
          · rw [if_neg e, if_neg (by omega), w4.1, w4.2]
        · rw [if_neg w4, if_neg (by omega)]
theorem sk_flag {P : Prop} [Decidable P] {x : Int32} (h : flag x) : flag (if P then 0 else x) := by
  by_cases w : P
  · rw [if_pos w]; exact Or.inl rfl
  · rw [if_neg w]; exact h
theorem RBx.sk (h : RBx T S X Y Z Q rs c f) (h1 : 1 ≤ n) (h2 : n < 7) {x1 x2 y1 y2 : Int32} {g k : Nat → Value} (hL : okL T') (st : ∀ b x, T.1 b = some x → ¬ isSk n b → T'.1 b = some x) (hg : T'.1 (533 + 8 * n) = some (.inr (.inl (0, 3, g)))) (hk : T'.1 (534 + 8 * n) = some (.inr (.inl (0, 3, k)))) (g1 : m_toI (g 1) = x1) (g2 : m_toI (g 2) = x2) (k1 : m_toI (k 1) = y1) (k2 : m_toI (k 2) = y2) (f1 : flag x1) (f2 : flag x2) (h3 : n ≤ 2 → x1 = 0 ∧ x2 = 0 ∧ y1 = 0 ∧ y2 = 0) (hr : ∀ a i, rd S' a i = if a = 618 ∧ i = 2 * n then x1 else if a = 618 ∧ i = 2 * n + 1 then x2 else if a = 619 ∧ i = 2 * n then y1 else if a = 619 ∧ i = 2 * n + 1 then y2 else rd S a i) (hi : ∀ i, S'.1 i = S.1 i) : RBx T' S' X Y Z Q rs c f ∧ (∀ b x, T.1 b = some x → ¬ kd x = 20 → T'.1 b = some x) ∧ (∀ a i, ¬ a = 618 → ¬ a = 619 → rd S' a i = rd S a i) := by
  have hN := h.1.2.2.2.2.1
  have hX := h.1.2.2.2.2.2.2.2
  obtain ⟨g', k', a1, a2, _⟩ := hX.2.2.1 n h1 h2
  have rel := sk_rel (T' := T') (S' := S') hN hX h1 h2 st hg hk g1 g2 k1 k2 f1 f2 h3 hr hi
  have ho : ∀ a i, ¬ a = 618 → ¬ a = 619 → rd S' a i = rd S a i := fun a i w1 w2 => by rw [hr, if_neg (fun q => w1 q.1), if_neg (fun q => w1 q.1), if_neg (fun q => w2 q.1), if_neg (fun q => w2 q.1)]
  have ag : ∀ as is, (∀ a ∈ as, ¬ a = 618 ∧ ¬ a = 619) → Ag as is S S' := fun as is q => ⟨fun a ha k => ho a k (q a ha).1 (q a ha).2, fun i _ => hi i⟩
  have skB : ∀ b, isSk n b → ∃ t m f, T.1 b = some (.inr (.inl (t, m, f))) ∧ ¬ ((t = 0 ∧ m = 8) ∨ t = 3) := by
    intro b hb
    rcases hb with w | w
    · exact ⟨0, 3, g', by rw [w]; exact a1, by omega⟩
    · exact ⟨0, 3, k', by rw [w]; exact a2, by omega⟩
  refine ⟨h.arr (B := isSk n) hL st skB (isSk_fix h2) (ag _ _ (by decide)) (ag _ _ (by decide)) rel.1 rel.2, fun b x hb hq => st b x hb (fun w => ?_), ho⟩
  obtain ⟨t, m, f, e, _⟩ := skB b w
  rw [e] at hb
  cases hb
  exact hq rfl
theorem RBx.trust (h : RBx T S X Y Z Q rs c f) (h1 : 1 ≤ n) (h2 : n < 7) (hp : p = 1 ∨ p = 2) : ∃ T' S', D_c_Node_trust F (527 + 8 * n) (Int32.ofNat p) T = some T' ∧ D_m_forgive F (Int32.ofNat n) (Int32.ofNat p) S = some S' ∧ RBx T' S' X Y Z Q rs c f ∧ Cs T T' 0 0 ∧ (∀ b x, T.1 b = some x → ¬ kd x = 20 → T'.1 b = some x) ∧ (∀ a i, ¬ a = 618 → ¬ a = 619 → rd S' a i = rd S a i) ∧ ∀ i, S'.1 i = S.1 i := by
  obtain ⟨g, k, a1, a2, a3, a4, a5, a6, a7, a8, a9⟩ := h.1.2.2.2.2.2.2.2.2.2.1 n h1 h2
  have hn := (h.1.2.2.2.2.1.2.1 n h1 h2).1
  have tr := c_trust (F := F) hn a1 a2 hp
  have fo := m_forgive (F := F) (S := S) h2 hp
  have cs1 : Cs T (tset T (533 + 8 * n) (.inr (.inl (0, 3, fun j => if j = p then .int 0 else g j)))) 0 0 := Cs.cell a1 rfl rfl
  have a2' : (tset T (533 + 8 * n) (.inr (.inl (0, 3, fun j => if j = p then .int 0 else g j)))).1 (534 + 8 * n) = some (.inr (.inl (0, 3, k))) := tset_o a2 (by omega)
  have cs2 : Cs (tset T (533 + 8 * n) (.inr (.inl (0, 3, fun j => if j = p then .int 0 else g j)))) (tset (tset T (533 + 8 * n) (.inr (.inl (0, 3, fun j => if j = p then .int 0 else g j)))) (534 + 8 * n) (.inr (.inl (0, 3, fun j => if j = p then .int 0 else k j)))) 0 0 := Cs.cell a2' rfl rfl
  have cs := cs1.trans cs2
  have st : ∀ b x, T.1 b = some x → ¬ isSk n b → (tset (tset T (533 + 8 * n) (.inr (.inl (0, 3, fun j => if j = p then .int 0 else g j)))) (534 + 8 * n) (.inr (.inl (0, 3, fun j => if j = p then .int 0 else k j)))).1 b = some x := fun b x hb hne => tset_o (tset_o hb (fun w => hne (Or.inl w))) (fun w => hne (Or.inr w))
  have t33 : (tset (tset T (533 + 8 * n) (.inr (.inl (0, 3, fun j => if j = p then .int 0 else g j)))) (534 + 8 * n) (.inr (.inl (0, 3, fun j => if j = p then .int 0 else k j)))).1 (533 + 8 * n) = some (.inr (.inl (0, 3, fun j => if j = p then .int 0 else g j))) := tset_o tset_at (by omega)
  have t34 : (tset (tset T (533 + 8 * n) (.inr (.inl (0, 3, fun j => if j = p then .int 0 else g j)))) (534 + 8 * n) (.inr (.inl (0, 3, fun j => if j = p then .int 0 else k j)))).1 (534 + 8 * n) = some (.inr (.inl (0, 3, fun j => if j = p then .int 0 else k j))) := tset_at
  obtain ⟨T2, hT2⟩ : ∃ x, x = tset (tset T (533 + 8 * n) (.inr (.inl (0, 3, fun j => if j = p then .int 0 else g j)))) (534 + 8 * n) (.inr (.inl (0, 3, fun j => if j = p then .int 0 else k j))) := ⟨_, rfl⟩
  rw [← hT2] at tr cs st t33 t34
  have hr : ∀ a i, rd (up2 (up2 S 618 (2 * n + p - 1) 0) 619 (2 * n + p - 1) 0) a i = if (a = 619 ∧ i = 2 * n + p - 1) ∨ (a = 618 ∧ i = 2 * n + p - 1) then 0 else rd S a i := fun a i => by
    rw [rd_up2, rd_up2]
    by_cases w1 : a = 619 ∧ i = 2 * n + p - 1
    · rw [if_pos w1, if_pos (Or.inl w1)]
    · by_cases w2 : a = 618 ∧ i = 2 * n + p - 1
      · rw [if_neg w1, if_pos w2, if_pos (Or.inr w2)]
      · rw [if_neg w1, if_neg w2, if_neg (fun q => q.elim w1 w2)]
  have hi : ∀ i, (up2 (up2 S 618 (2 * n + p - 1) 0) 619 (2 * n + p - 1) 0).1 i = S.1 i := fun i => by rw [up2_1, up2_1]
  obtain ⟨S2, hS2⟩ : ∃ x, x = up2 (up2 S 618 (2 * n + p - 1) 0) 619 (2 * n + p - 1) 0 := ⟨_, rfl⟩
  rw [← hS2] at hr hi fo
  obtain ⟨pg1, pg2⟩ := put_pair (v := 0) hp a5 a6
  obtain ⟨pk1, pk2⟩ := put_pair (v := 0) hp a7 a8
  obtain ⟨d1, d2, d3⟩ := h.sk h1 h2 (cs h.1.1).1 st t33 t34 pg1 pg2 pk1 pk2 (sk_flag a3) (sk_flag a4) (fun w => by
    obtain ⟨z1, z2, z3, z4⟩ := a9 w
    rw [z1, z2, z3, z4]
    exact ⟨by split <;> rfl, by split <;> rfl, by split <;> rfl, by split <;> rfl⟩) (fun a i => (hr a i).trans (sk_if (R := rd S) hp a i)) hi
  exact ⟨T2, S2, tr, fo, d1, cs, d2, d3, hi⟩
end
