/-! The reference's messages: blank, post, remove. -/
theorem ne_n {a b : Nat} (ha : a < 2147483648) (hb : b < 2147483648) : m_c2 .ne (Int32.ofNat a) (Int32.ofNat b) = decide (¬ a = b) := m_c2n ha hb rfl
theorem eq_n {a b : Nat} (ha : a < 2147483648) (hb : b < 2147483648) : m_c2 .eq (Int32.ofNat a) (Int32.ofNat b) = decide (a = b) := m_c2n ha hb rfl
section
variable {F : Nat}
theorem m_post_loop : ∀ (m : Nat) (n j : Nat) (S : mS), S.1 77 = Int32.ofNat n → n < 100 → j + m = 22 → ∀ f, m < f → ∃ S', D_m_post_22 F f (Int32.ofNat j) S = some S' ∧ (∀ i, S'.1 i = if i = 77 then Int32.ofNat (n + 1) else S.1 i) ∧ ∀ a k, rd S' a k = if a = 624 ∧ 22 * n + j ≤ k ∧ k < 22 * n + 22 then rd S 625 (k - 22 * n) else rd S a k := by
  intro m
  induction m with
  | zero =>
    intro n j S h1 h2 h3 f hf
    obtain ⟨f, rfl⟩ : ∃ f9, f = f9 + 1 := ⟨f - 1, by omega⟩
    rw [D_m_post_22, show (22 : Int32) = Int32.ofNat 22 from rfl, ge_n (by omega) (by omega), decide_eq_true (by omega), cond_true]
    refine ⟨up1 S 77 (S.1 77 + 1), rfl, fun i => ?_, fun a k => ?_⟩
    · rw [up1_1, h1, p1]
    · rw [rd_up1, if_neg (by omega)]
  | succ m ih =>
    intro n j S h1 h2 h3 f hf
    obtain ⟨f, rfl⟩ : ∃ f9, f = f9 + 1 := ⟨f - 1, by omega⟩
    rw [D_m_post_22, show (22 : Int32) = Int32.ofNat 22 from rfl, ge_n (by omega) (by omega), decide_eq_false (by omega), cond_false, aget_n (Or.inl rfl) (by omega) (by decide), Option.bind_some, h1, m_n_mul, m_n_add, aput_n (by omega) (by decide), Option.bind_some, q1]
    obtain ⟨S', g1, g2, g3⟩ := ih n (j + 1) (up2 S 624 (22 * n + j) (rd S 625 j)) (by rw [up2_1, h1]) h2 (by omega) f (by omega)
    refine ⟨S', g1, fun i => by rw [g2, up2_1], fun a k => ?_⟩
    rw [g3, rd_up2, rd_up2]
    by_cases e : a = 624
    · subst e
      by_cases e2 : k = 22 * n + j
      · subst e2
        rw [if_neg (by omega), if_pos ⟨rfl, rfl⟩, if_pos (by omega)]
        congr 1
        omega
      · by_cases e3 : 22 * n + j + 1 ≤ k ∧ k < 22 * n + 22
        · rw [if_pos (by omega), if_neg (by omega), if_pos (by omega)]
        · rw [if_neg (by omega), if_neg (by omega), if_neg (by omega)]
    · rw [if_neg (by omega), if_neg (by omega), if_neg (by omega)]
theorem m_post {S : mS} {n : Nat} (hF : 23 ≤ F) (h : S.1 77 = Int32.ofNat n) (hn : n < 100) : ∃ S', D_m_post F S = some S' ∧ (∀ i, S'.1 i = if i = 77 then Int32.ofNat (n + 1) else S.1 i) ∧ ∀ a k, rd S' a k = if a = 624 ∧ 22 * n ≤ k ∧ k < 22 * n + 22 then rd S 625 (k - 22 * n) else rd S a k := by
  obtain ⟨S', g⟩ := m_post_loop (F := F) 22 n 0 S h hn rfl F (by omega)
  refine ⟨S', ?_, g.2⟩
  unfold D_m_post
  rw [h, show (100 : Int32) = Int32.ofNat 100 from rfl, ne_n (by omega) (by omega), decide_eq_true (by omega), cond_true]
  exact g.1
theorem m_post_full {S : mS} (h : S.1 77 = Int32.ofNat 100) : D_m_post F S = some (up1 S 39 (S.1 39 + 1)) := by
  unfold D_m_post
  rw [h, show m_c2 .ne (Int32.ofNat 100) (100 : Int32) = false from by decide, cond_false]
  rfl
theorem m_remove_loop : ∀ (m n j : Nat) (S : mS), S.1 77 = Int32.ofNat (n + 1) → n < 100 → j + m = 22 * n → ∀ f, m < f → ∃ S', D_m_remove_5 F f (Int32.ofNat j) S = some S' ∧ (∀ i, S'.1 i = if i = 77 then Int32.ofNat n else S.1 i) ∧ ∀ a k, rd S' a k = if a = 624 ∧ j ≤ k ∧ k < 22 * n then rd S 624 (k + 22) else rd S a k := by
  intro m
  induction m with
  | zero =>
    intro n j S h1 h2 h3 f hf
    obtain ⟨f, rfl⟩ : ∃ f9, f = f9 + 1 := ⟨f - 1, by omega⟩
    have e : Int32.ofNat (n + 1) - (1 : Int32) = Int32.ofNat n := m_n_sub (a := n + 1) (b := 1) (by omega)
    rw [D_m_remove_5, h1, e, k22, ge_n (by omega) (by omega), decide_eq_true (by omega), cond_true]
    refine ⟨up1 S 77 (Int32.ofNat n), rfl, fun i => up1_1, fun a k => ?_⟩
    rw [rd_up1, if_neg (by omega)]
  | succ m ih =>
    intro n j S h1 h2 h3 f hf
    obtain ⟨f, rfl⟩ : ∃ f9, f = f9 + 1 := ⟨f - 1, by omega⟩
    have e : Int32.ofNat (n + 1) - (1 : Int32) = Int32.ofNat n := m_n_sub (a := n + 1) (b := 1) (by omega)
    rw [D_m_remove_5, h1, e, k22, ge_n (by omega) (by omega), decide_eq_false (by omega), cond_false, p22, aget_n (Or.inl rfl) (by omega) (by decide), Option.bind_some, aput_n (by omega) (by decide), Option.bind_some, q1]
    obtain ⟨S', g1, g2, g3⟩ := ih n (j + 1) (up2 S 624 j (rd S 624 (j + 22))) (by rw [up2_1, h1]) h2 (by omega) f (by omega)
    refine ⟨S', g1, fun i => by rw [g2, up2_1], fun a k => ?_⟩
    rw [g3, rd_up2, rd_up2]
    by_cases e : a = 624
    · subst e
      by_cases e2 : k = j
      · subst e2
        rw [if_neg (by omega), if_pos ⟨rfl, rfl⟩, if_pos (by omega)]
      · by_cases e3 : j + 1 ≤ k ∧ k < 22 * n
        · rw [if_pos (by omega), if_neg (by omega), if_pos (by omega)]
        · rw [if_neg (by omega), if_neg (by omega), if_neg (by omega)]
    · rw [if_neg (by omega), if_neg (by omega), if_neg (by omega)]
theorem m_remove {S : mS} {n j : Nat} (hF : 2201 ≤ F) (h : S.1 77 = Int32.ofNat (n + 1)) (hn : n < 100) (hj : j ≤ n) : ∃ S', D_m_remove F (Int32.ofNat j) S = some S' ∧ (∀ i, S'.1 i = if i = 77 then Int32.ofNat n else S.1 i) ∧ ∀ a k, rd S' a k = if a = 624 ∧ 22 * j ≤ k ∧ k < 22 * n then rd S 624 (k + 22) else rd S a k := by
  unfold D_m_remove
  rw [k22]
  exact m_remove_loop (22 * n - 22 * j) n (22 * j) S h hn (by omega) F (by omega)
theorem m_blank_loop : ∀ (m j : Nat) (S : mS) (x1 x2 x3 x4 : Int32) (key : Nat), key < 128 → j + m = 22 → ∀ f, m < f → ∃ S', D_m_blank_3 F f x1 x2 x3 x4 (Int32.ofNat key) (Int32.ofNat j) S = some S' ∧ (∀ i, S'.1 i = S.1 i) ∧ ∀ a k, rd S' a k = if a = 625 ∧ (k < 6 ∨ (j ≤ k ∧ k < 22)) then (if k = 0 then x1 else if k = 1 then x2 else if k = 2 then x3 else if k = 3 then x4 else if k = 4 then Int32.ofNat (key / 4) else if k = 5 then Int32.ofNat (key % 4) else 0) else rd S a k := by
  intro m
  induction m with
  | zero =>
    intro j S x1 x2 x3 x4 key hk h3 f hf
    obtain ⟨f, rfl⟩ : ∃ f9, f = f9 + 1 := ⟨f - 1, by omega⟩
    have e1 : Int32.ofNat key / (4 : Int32) = Int32.ofNat (key / 4) := m_n_div (b := 4) (by unfold sm; omega) (by unfold sm; omega)
    have e2 : Int32.ofNat (key / 4) * (4 : Int32) = Int32.ofNat (key / 4 * 4) := m_n_mul _ 4
    have e3 : Int32.ofNat key - Int32.ofNat (key / 4 * 4) = Int32.ofNat (key % 4) := by rw [m_n_sub (by omega)]; congr 1; omega
    rw [D_m_blank_3, show (22 : Int32) = Int32.ofNat 22 from rfl, ge_n (by omega) (by omega), decide_eq_true (by omega), cond_true, e1, e2, e3]
    rw [show (0 : Int32) = Int32.ofNat 0 from rfl, aput_n (by omega) (by decide), Option.bind_some, show (1 : Int32) = Int32.ofNat 1 from rfl, aput_n (by omega) (by decide), Option.bind_some, show (2 : Int32) = Int32.ofNat 2 from rfl, aput_n (by omega) (by decide), Option.bind_some, show (3 : Int32) = Int32.ofNat 3 from rfl, aput_n (by omega) (by decide), Option.bind_some, show (4 : Int32) = Int32.ofNat 4 from rfl, aput_n (by omega) (by decide), Option.bind_some, show (5 : Int32) = Int32.ofNat 5 from rfl, aput_n (by omega) (by decide), Option.bind_some]
    refine ⟨_, rfl, fun i => rfl, fun a k => ?_⟩
    simp only [rd_up2]
    by_cases e : a = 625
    · subst e
      by_cases h0 : k < 6
      · match k, h0 with
        | 0, _ => simp
        | 1, _ => simp
        | 2, _ => simp
        | 3, _ => simp
        | 4, _ => simp
        | 5, _ => simp
      · rw [if_neg (by omega), if_neg (by omega), if_neg (by omega), if_neg (by omega), if_neg (by omega), if_neg (by omega), if_neg (by omega)]
    · rw [if_neg (by omega), if_neg (by omega), if_neg (by omega), if_neg (by omega), if_neg (by omega), if_neg (by omega), if_neg (by omega)]
  | succ m ih =>
    intro j S x1 x2 x3 x4 key hk h3 f hf
    obtain ⟨f, rfl⟩ : ∃ f9, f = f9 + 1 := ⟨f - 1, by omega⟩
    rw [D_m_blank_3, show (22 : Int32) = Int32.ofNat 22 from rfl, ge_n (by omega) (by omega), decide_eq_false (by omega), cond_false, aput_n (by omega) (by decide), Option.bind_some, q1]
    obtain ⟨S', g1, g2, g3⟩ := ih (j + 1) (up2 S 625 j 0) x1 x2 x3 x4 key hk (by omega) f (by omega)
    refine ⟨S', g1, fun i => by rw [g2, up2_1], fun a k => ?_⟩
    rw [g3, rd_up2]
    by_cases e : a = 625
    · subst e
      by_cases h0 : k < 6 ∨ (j + 1 ≤ k ∧ k < 22)
      · rw [if_pos ⟨rfl, h0⟩, if_pos (show 625 = 625 ∧ (k < 6 ∨ (j ≤ k ∧ k < 22)) from ⟨rfl, by omega⟩)]
      · rw [if_neg (fun z => h0 z.2)]
        by_cases h2 : k = j
        · subst h2
          rw [if_pos ⟨rfl, rfl⟩, if_pos (by omega), if_neg (by omega), if_neg (by omega), if_neg (by omega), if_neg (by omega), if_neg (by omega), if_neg (by omega)]
        · rw [if_neg (by omega), if_neg (by omega)]
    · rw [if_neg (by omega), if_neg (by omega), if_neg (by omega)]
theorem m_blank {S : mS} {x1 x2 x3 x4 : Int32} {key : Nat} (hF : 23 ≤ F) (hk : key < 128) : ∃ S', D_m_blank F x1 x2 x3 x4 (Int32.ofNat key) S = some S' ∧ (∀ i, S'.1 i = S.1 i) ∧ ∀ a k, rd S' a k = if a = 625 ∧ k < 22 then (if k = 0 then x1 else if k = 1 then x2 else if k = 2 then x3 else if k = 3 then x4 else if k = 4 then Int32.ofNat (key / 4) else if k = 5 then Int32.ofNat (key % 4) else 0) else rd S a k := by
  obtain ⟨S', g1, g2, g3⟩ := m_blank_loop (F := F) 22 0 S x1 x2 x3 x4 key hk rfl F (by omega)
  refine ⟨S', g1, g2, fun a k => ?_⟩
  rw [g3]
  by_cases h : a = 625 ∧ k < 22
  · rw [if_pos (by omega), if_pos h]
  · rw [if_neg (by omega), if_neg h]
end
