/-! The reference's rows of those that wait: stay, again, take. -/
section
variable {F : Nat}
theorem m_stay_loop (w n : Nat) (hw : w + 12 ≤ 48000) (hn : 12 * n + 12 ≤ 48000) (hd : 12 * n + 12 ≤ w) : ∀ (m i : Nat) (S : mS), S.1 74 = Int32.ofNat n → i + m = 12 → ∀ f, m < f → ∃ S', D_m_stay_2 F f (Int32.ofNat w) (Int32.ofNat i) S = some S' ∧ (∀ j, S'.1 j = if j = 74 then Int32.ofNat (n + 1) else S.1 j) ∧ ∀ a k, rd S' a k = if a = 622 ∧ 12 * n + i ≤ k ∧ k < 12 * n + 12 then rd S 622 (w + (k - 12 * n)) else rd S a k := by
  intro m
  induction m with
  | zero =>
    intro i S h1 h2 f hf
    obtain ⟨f, rfl⟩ : ∃ f9, f = f9 + 1 := ⟨f - 1, by omega⟩
    rw [D_m_stay_2, show (12 : Int32) = Int32.ofNat 12 from rfl, ge_n (by omega) (by omega), decide_eq_true (by omega), cond_true]
    refine ⟨up1 S 74 (S.1 74 + 1), rfl, fun j => ?_, fun a k => ?_⟩
    · rw [up1_1, h1, p1]
    · rw [rd_up1, if_neg (by omega)]
  | succ m ih =>
    intro i S h1 h2 f hf
    obtain ⟨f, rfl⟩ : ∃ f9, f = f9 + 1 := ⟨f - 1, by omega⟩
    rw [D_m_stay_2, show (12 : Int32) = Int32.ofNat 12 from rfl, ge_n (by omega) (by omega), decide_eq_false (by omega), cond_false, m_n_add, aget_n (Or.inl rfl) (by omega) (by decide), Option.bind_some, h1, m_n_mul, m_n_add, aput_n (by omega) (by decide), Option.bind_some, q1]
    obtain ⟨S', g1, g2, g3⟩ := ih (i + 1) (up2 S 622 (12 * n + i) (rd S 622 (w + i))) (by rw [up2_1, h1]) (by omega) f (by omega)
    refine ⟨S', g1, fun j => by rw [g2, up2_1], fun a k => ?_⟩
    rw [g3]
    simp only [rd_up2]
    by_cases e : a = 622
    · subst e
      by_cases e2 : k = 12 * n + i
      · subst e2
        simp only [true_and, if_neg (show ¬ (12 * n + (i + 1) ≤ 12 * n + i ∧ 12 * n + i < 12 * n + 12) by omega), if_true, if_pos (show 12 * n + i ≤ 12 * n + i ∧ 12 * n + i < 12 * n + 12 by omega)]
        congr 1
        omega
      · by_cases e3 : 12 * n + (i + 1) ≤ k ∧ k < 12 * n + 12
        · simp only [true_and, if_pos e3, if_neg (show ¬ (w + (k - 12 * n) = 12 * n + i) by omega), if_pos (show 12 * n + i ≤ k ∧ k < 12 * n + 12 by omega)]
        · simp only [true_and, if_neg e3, if_neg e2, if_neg (show ¬ (12 * n + i ≤ k ∧ k < 12 * n + 12) by omega)]
    · simp only [e, false_and, if_false]
theorem m_stay {S : mS} {w n : Nat} (hF : 13 ≤ F) (h : S.1 74 = Int32.ofNat n) (hw : w + 12 ≤ 48000) (hd : 12 * n + 12 ≤ w) : ∃ S', D_m_stay F (Int32.ofNat w) S = some S' ∧ (∀ j, S'.1 j = if j = 74 then Int32.ofNat (n + 1) else S.1 j) ∧ ∀ a k, rd S' a k = if a = 622 ∧ 12 * n ≤ k ∧ k < 12 * n + 12 then rd S 622 (w + (k - 12 * n)) else rd S a k := by
  obtain ⟨S', g1, g2, g3⟩ := m_stay_loop (F := F) w n hw (by omega) hd 12 0 S h rfl F (by omega)
  exact ⟨S', g1, g2, g3⟩
theorem m_again_loop (w j : Nat) (hw : w + 12 ≤ 48000) (hj : 12 * j + 12 ≤ 48000) : ∀ (m i : Nat) (S : mS), i + m = 12 → ∀ f, m < f → ∃ S', D_m_again_7 F f (Int32.ofNat j) (Int32.ofNat w) (Int32.ofNat i) S = some (Int32.ofNat w, S') ∧ (∀ k, S'.1 k = S.1 k) ∧ ∀ a k, rd S' a k = if a = 622 ∧ w + i ≤ k ∧ k < w + 12 then rd S 623 (12 * j + (k - w)) else rd S a k := by
  intro m
  induction m with
  | zero =>
    intro i S h2 f hf
    obtain ⟨f, rfl⟩ : ∃ f9, f = f9 + 1 := ⟨f - 1, by omega⟩
    rw [D_m_again_7, show (12 : Int32) = Int32.ofNat 12 from rfl, ge_n (by omega) (by omega), decide_eq_true (by omega), cond_true]
    exact ⟨S, rfl, fun _ => rfl, fun a k => by rw [if_neg (by omega)]⟩
  | succ m ih =>
    intro i S h2 f hf
    obtain ⟨f, rfl⟩ : ∃ f9, f = f9 + 1 := ⟨f - 1, by omega⟩
    rw [D_m_again_7, show (12 : Int32) = Int32.ofNat 12 from rfl, ge_n (by omega) (by omega), decide_eq_false (by omega), cond_false, m_n_mul, m_n_add, aget_n (Or.inl rfl) (by omega) (by decide), Option.bind_some, m_n_add, aput_n (by omega) (by decide), Option.bind_some, q1]
    obtain ⟨S', g1, g2, g3⟩ := ih (i + 1) (up2 S 622 (w + i) (rd S 623 (12 * j + i))) (by omega) f (by omega)
    refine ⟨S', g1, fun k => by rw [g2, up2_1], fun a k => ?_⟩
    rw [g3]
    simp only [rd_up2]
    by_cases e : a = 622
    · subst e
      by_cases e2 : k = w + i
      · subst e2
        simp only [true_and, if_neg (show ¬ (w + (i + 1) ≤ w + i ∧ w + i < w + 12) by omega), if_true, if_pos (show w + i ≤ w + i ∧ w + i < w + 12 by omega)]
        congr 1
        omega
      · by_cases e3 : w + (i + 1) ≤ k ∧ k < w + 12
        · simp only [true_and, if_pos e3, show ¬ (623 = 622) by decide, false_and, if_false, if_pos (show w + i ≤ k ∧ k < w + 12 by omega)]
        · simp only [true_and, if_neg e3, if_neg e2, if_neg (show ¬ (w + i ≤ k ∧ k < w + 12) by omega)]
    · simp only [e, false_and, if_false]
theorem m_again {S : mS} {n j : Nat} (hF : 13 ≤ F) (h : S.1 74 = Int32.ofNat n) (hn : n < 3998) (hj : j < 4000) : ∃ S', D_m_again F (Int32.ofNat j) S = some (Int32.ofNat (12 * (n + 1)), S') ∧ (∀ k, S'.1 k = S.1 k) ∧ ∀ a k, rd S' a k = if a = 622 ∧ 12 * (n + 1) ≤ k ∧ k < 12 * (n + 1) + 12 then rd S 623 (12 * j + (k - 12 * (n + 1))) else rd S a k := by
  obtain ⟨S', g1, g2, g3⟩ := m_again_loop (F := F) (12 * (n + 1)) j (by omega) (by omega) 12 0 S rfl F (by omega)
  refine ⟨S', ?_, g2, g3⟩
  unfold D_m_again D_m_spare
  rw [h, p1, k12, Option.bind_some]
  exact g1
/-- one row goes to the taken ones, or stays -/
theorem m_take_row (rec8 : Int32 → Int32 → Int32 → Int32 → Int32 → mS → Option (Int32 × mS)) (x1 x2 : Int32) (t l k : Nat) (ht : t ≤ k) (hl : l ≤ k) (hk : k < 4000) (is : Bool) : ∀ (m i : Nat) (S : mS), i + m = 12 → ∀ f, m < f → ∃ S', D_m_take_62 F rec8 f x1 x2 (Int32.ofNat t) (Int32.ofNat l) (Int32.ofNat k) (b2i is) (Int32.ofNat i) S = rec8 x1 x2 (Int32.ofNat (if is then t + 1 else t)) (Int32.ofNat (if is then l else l + 1)) (Int32.ofNat (k + 1)) S' ∧ (∀ j, S'.1 j = S.1 j) ∧ ∀ a q, rd S' a q = if (is = true ∧ a = 623 ∧ 12 * t + i ≤ q ∧ q < 12 * t + 12) then rd S 622 (12 * k + (q - 12 * t)) else if (is = false ∧ a = 622 ∧ 12 * l + i ≤ q ∧ q < 12 * l + 12) then rd S 622 (12 * k + (q - 12 * l)) else rd S a q := by
  intro m
  induction m with
  | zero =>
    intro i S h2 f hf
    obtain ⟨f, rfl⟩ : ∃ f9, f = f9 + 1 := ⟨f - 1, by omega⟩
    rw [D_m_take_62, show (12 : Int32) = Int32.ofNat 12 from rfl, ge_n (by omega) (by omega), decide_eq_true (by omega), cond_true, q1]
    refine ⟨S, ?_, fun _ => rfl, fun a q => ?_⟩
    · cases is with
      | true =>
        show rec8 x1 x2 (Int32.ofNat t + 1) (Int32.ofNat l + 0) (Int32.ofNat (k + 1)) S = _
        rw [p1, p0]
        rfl
      | false =>
        show rec8 x1 x2 (Int32.ofNat t + 0) (Int32.ofNat l + 1) (Int32.ofNat (k + 1)) S = _
        rw [p1, p0]
        rfl
    · rw [if_neg (by omega), if_neg (by omega)]
  | succ m ih =>
    intro i S h2 f hf
    obtain ⟨f, rfl⟩ : ∃ f9, f = f9 + 1 := ⟨f - 1, by omega⟩
    rw [D_m_take_62, show (12 : Int32) = Int32.ofNat 12 from rfl, ge_n (by omega) (by omega), decide_eq_false (by omega), cond_false, m_n_mul, m_n_add, aget_n (Or.inl rfl) (by omega) (by decide), Option.bind_some, Option.bind_some, m_n_mul, m_n_add, m_n_mul, m_n_add, aput_n (by omega) (by decide), aput_n (by omega) (by decide), Option.bind_some, Option.bind_some]
    simp only [D_m_take_128, q1]
    cases is with
    | true =>
      rw [show m_c1 .eq (b2i true) = false from rfl, cond_false]
      obtain ⟨S', g1, g2, g3⟩ := ih (i + 1) (up2 S 623 (12 * t + i) (rd S 622 (12 * k + i))) (by omega) f (by omega)
      refine ⟨S', g1, fun j => by rw [g2, up2_1], fun a q => ?_⟩
      rw [g3]
      simp only [rd_up2, true_and, Bool.true_eq_false, false_and, if_false, show ¬ (622 = 623) by decide]
      by_cases e : a = 623
      · subst e
        by_cases e2 : q = 12 * t + i
        · subst e2
          simp only [true_and, if_neg (show ¬ (12 * t + (i + 1) ≤ 12 * t + i ∧ 12 * t + i < 12 * t + 12) by omega), if_true, if_pos (show 12 * t + i ≤ 12 * t + i ∧ 12 * t + i < 12 * t + 12 by omega)]
          congr 1
          omega
        · by_cases e3 : 12 * t + (i + 1) ≤ q ∧ q < 12 * t + 12
          · simp only [true_and, if_pos e3, if_pos (show 12 * t + i ≤ q ∧ q < 12 * t + 12 by omega)]
          · simp only [true_and, if_neg e3, if_neg e2, if_neg (show ¬ (12 * t + i ≤ q ∧ q < 12 * t + 12) by omega)]
      · simp only [e, false_and, if_false]
    | false =>
      rw [show m_c1 .eq (b2i false) = true from rfl, cond_true]
      obtain ⟨S', g1, g2, g3⟩ := ih (i + 1) (up2 S 622 (12 * l + i) (rd S 622 (12 * k + i))) (by omega) f (by omega)
      refine ⟨S', g1, fun j => by rw [g2, up2_1], fun a q => ?_⟩
      rw [g3]
      simp only [rd_up2, true_and, Bool.false_eq_true, false_and, if_false]
      by_cases e : a = 622
      · subst e
        by_cases e2 : q = 12 * l + i
        · subst e2
          simp only [true_and, if_neg (show ¬ (12 * l + (i + 1) ≤ 12 * l + i ∧ 12 * l + i < 12 * l + 12) by omega), if_true, if_pos (show 12 * l + i ≤ 12 * l + i ∧ 12 * l + i < 12 * l + 12 by omega)]
          congr 1
          omega
        · by_cases e3 : 12 * l + (i + 1) ≤ q ∧ q < 12 * l + 12
          · simp only [true_and, if_pos e3, if_neg (show ¬ (12 * k + (q - 12 * l) = 12 * l + i) by omega), if_pos (show 12 * l + i ≤ q ∧ q < 12 * l + 12 by omega)]
          · simp only [true_and, if_neg e3, if_neg e2, if_neg (show ¬ (12 * l + i ≤ q ∧ q < 12 * l + 12) by omega)]
      · simp only [e, false_and, if_false]
/-- the rows that are taken: all of node x1 (key -1), or those of a key -/
def isTk (S : mS) (x1 x2 : Int32) (k : Nat) : Bool := decide (rd S 622 (12 * k) = x1) && (decide (x2 = -1) || decide (rd S 622 (12 * k + 1) = x2))
theorem m_take_loop (x1 x2 : Int32) (S0 : mS) (n : Nat) (hn : n < 4000) : ∀ (m k : Nat) (S : mS), k + m = n → (∀ j, S.1 j = S0.1 j) → S0.1 74 = Int32.ofNat n → (∀ j i, k ≤ j → i < 12 → rd S 622 (12 * j + i) = rd S0 622 (12 * j + i)) → (∀ a q, ¬ a = 622 → ¬ a = 623 → rd S a q = rd S0 a q) →
    (∀ j r, ((List.range k).filter (fun r => isTk S0 x1 x2 r))[j]? = some r → ∀ i, i < 12 → rd S 623 (12 * j + i) = rd S0 622 (12 * r + i)) → (∀ j r, ((List.range k).filter (fun r => !isTk S0 x1 x2 r))[j]? = some r → ∀ i, i < 12 → rd S 622 (12 * j + i) = rd S0 622 (12 * r + i)) → ∀ f, m < f → 13 ≤ F →
    ∃ S', D_m_take_8 F f x1 x2 (Int32.ofNat ((List.range k).filter (fun r => isTk S0 x1 x2 r)).length) (Int32.ofNat ((List.range k).filter (fun r => !isTk S0 x1 x2 r)).length) (Int32.ofNat k) S = some (Int32.ofNat ((List.range n).filter (fun r => isTk S0 x1 x2 r)).length, S') ∧ (∀ j, S'.1 j = if j = 74 then Int32.ofNat ((List.range n).filter (fun r => !isTk S0 x1 x2 r)).length else S0.1 j) ∧ (∀ a q, ¬ a = 622 → ¬ a = 623 → rd S' a q = rd S0 a q) ∧ (∀ j r, ((List.range n).filter (fun r => isTk S0 x1 x2 r))[j]? = some r → ∀ i, i < 12 → rd S' 623 (12 * j + i) = rd S0 622 (12 * r + i)) ∧ (∀ j r, ((List.range n).filter (fun r => !isTk S0 x1 x2 r))[j]? = some r → ∀ i, i < 12 → rd S' 622 (12 * j + i) = rd S0 622 (12 * r + i)) := by
  intro m
  induction m with
  | zero =>
    intro k S h1 h2 h3 h4 h5 h6 h7 f hf hF
    obtain ⟨f, rfl⟩ : ∃ f9, f = f9 + 1 := ⟨f - 1, by omega⟩
    have hk : k = n := by omega
    subst hk
    rw [D_m_take_8, h2, h3, ge_n (by omega) (by omega), decide_eq_true (by omega), cond_true]
    refine ⟨up1 S 74 (Int32.ofNat ((List.range k).filter (fun r => !isTk S0 x1 x2 r)).length), rfl, fun j => ?_, fun a q ha hb => by rw [rd_up1]; exact h5 a q ha hb, fun j r hj i hi => by rw [rd_up1]; exact h6 j r hj i hi, fun j r hj i hi => by rw [rd_up1]; exact h7 j r hj i hi⟩
    rw [up1_1, h2]
  | succ m ih =>
    intro k S h1 h2 h3 h4 h5 h6 h7 f hf hF
    obtain ⟨f, rfl⟩ : ∃ f9, f = f9 + 1 := ⟨f - 1, by omega⟩
    have l1 : ((List.range k).filter (fun r => isTk S0 x1 x2 r)).length ≤ k := by have := List.length_filter_le (fun r => isTk S0 x1 x2 r) (List.range k); rw [List.length_range] at this; exact this
    have l2 : ((List.range k).filter (fun r => !isTk S0 x1 x2 r)).length ≤ k := by have := List.length_filter_le (fun r => !isTk S0 x1 x2 r) (List.range k); rw [List.length_range] at this; exact this
    have r0 : rd S 622 (12 * k) = rd S0 622 (12 * k) := h4 k 0 (Nat.le_refl _) (by omega)
    have r1 : rd S 622 (12 * k + 1) = rd S0 622 (12 * k + 1) := h4 k 1 (Nat.le_refl _) (by omega)
    rw [D_m_take_8, h2, h3, ge_n (by omega) (by omega), decide_eq_false (by omega), cond_false, k12, aget_n (Or.inl rfl) (by omega) (by decide), Option.bind_some, p1, aget_n (Or.inl rfl) (by omega) (by decide), r0, r1]
    have hc : (cond (m_c2 .ne (rd S0 622 (12 * k)) x1) (some (0 : Int32)) (cond (m_c2 .eq x2 ((-1) : Int32)) (some (1 : Int32)) ((some (rd S0 622 (12 * k + 1))).bind fun v10 => cond (m_c2 .ne v10 x2) (some (0 : Int32)) (some (1 : Int32))))) = some (b2i (isTk S0 x1 x2 k)) := by
      simp only [isTk, Option.bind_some, m_c2]
      by_cases z1 : rd S0 622 (12 * k) = x1 <;> by_cases z2 : x2 = -1 <;> by_cases z3 : rd S0 622 (12 * k + 1) = x2 <;> simp [z1, z2, z3, b2i]
    rw [hc, Option.bind_some]
    obtain ⟨S1, g1, g2, g3⟩ := m_take_row (F := F) (D_m_take_8 F f) x1 x2 _ _ k l1 l2 (by omega) (isTk S0 x1 x2 k) 12 0 S rfl F (by omega)
    rw [show (0 : Int32) = Int32.ofNat 0 from rfl, g1]
    have f1 : (List.range (k + 1)).filter (fun r => isTk S0 x1 x2 r) = (List.range k).filter (fun r => isTk S0 x1 x2 r) ++ (if isTk S0 x1 x2 k then [k] else []) := by
      rw [List.range_succ, List.filter_append]
      congr 1
      cases hz : isTk S0 x1 x2 k <;> simp [hz]
    have f2 : (List.range (k + 1)).filter (fun r => !isTk S0 x1 x2 r) = (List.range k).filter (fun r => !isTk S0 x1 x2 r) ++ (if isTk S0 x1 x2 k then [] else [k]) := by
      rw [List.range_succ, List.filter_append]
      congr 1
      cases hz : isTk S0 x1 x2 k <;> simp [hz]
    have e1 : ((List.range (k + 1)).filter (fun r => isTk S0 x1 x2 r)).length = if isTk S0 x1 x2 k then ((List.range k).filter (fun r => isTk S0 x1 x2 r)).length + 1 else ((List.range k).filter (fun r => isTk S0 x1 x2 r)).length := by
      rw [f1]
      cases isTk S0 x1 x2 k <;> simp
    have e2 : ((List.range (k + 1)).filter (fun r => !isTk S0 x1 x2 r)).length = if isTk S0 x1 x2 k then ((List.range k).filter (fun r => !isTk S0 x1 x2 r)).length else ((List.range k).filter (fun r => !isTk S0 x1 x2 r)).length + 1 := by
      rw [f2]
      cases isTk S0 x1 x2 k <;> simp
    rw [← e1, ← e2]
    refine ih (k + 1) S1 (by omega) (fun j => by rw [g2, h2]) h3 (fun j i hj hi => ?_) (fun a q ha hb => ?_) (fun j r hj i hi => ?_) (fun j r hj i hi => ?_) f (by omega) hF
    · rw [g3, if_neg (by omega), if_neg (by omega)]
      exact h4 j i (by omega) hi
    · rw [g3, if_neg (fun z => hb z.2.1), if_neg (fun z => ha z.2.1)]
      exact h5 a q ha hb
    · rw [f1] at hj
      rw [g3]
      by_cases hlt : j < ((List.range k).filter (fun r => isTk S0 x1 x2 r)).length
      · rw [List.getElem?_append_left hlt] at hj
        rw [if_neg (by omega), if_neg (by omega)]
        exact h6 j r hj i hi
      · rw [List.getElem?_append_right (by omega)] at hj
        cases hz : isTk S0 x1 x2 k with
        | false => rw [hz] at hj; simp at hj
        | true =>
          rw [hz] at hj
          have hj0 : j - ((List.range k).filter (fun r => isTk S0 x1 x2 r)).length = 0 := by
            have := (List.getElem?_eq_some_iff.mp hj).1
            simp at this
            omega
          rw [hj0] at hj
          simp at hj
          subst hj
          rw [if_pos ⟨rfl, rfl, by omega, by omega⟩, ← h4 k i (Nat.le_refl _) hi]
          congr 1
          omega
    · rw [f2] at hj
      rw [g3]
      by_cases hlt : j < ((List.range k).filter (fun r => !isTk S0 x1 x2 r)).length
      · rw [List.getElem?_append_left hlt] at hj
        rw [if_neg (by omega), if_neg (by omega)]
        exact h7 j r hj i hi
      · rw [List.getElem?_append_right (by omega)] at hj
        cases hz : isTk S0 x1 x2 k with
        | true => rw [hz] at hj; simp at hj
        | false =>
          rw [hz] at hj
          have hj0 : j - ((List.range k).filter (fun r => !isTk S0 x1 x2 r)).length = 0 := by
            have := (List.getElem?_eq_some_iff.mp hj).1
            simp at this
            omega
          rw [hj0] at hj
          simp at hj
          subst hj
          rw [if_neg (fun z => by cases z.1), if_pos ⟨rfl, rfl, by omega, by omega⟩, ← h4 k i (Nat.le_refl _) hi]
          congr 1
          omega
theorem m_take {S : mS} {n : Nat} {x1 x2 : Int32} (hF : 4001 ≤ F) (h : S.1 74 = Int32.ofNat n) (hn : n < 4000) : ∃ S', D_m_take F x1 x2 S = some (Int32.ofNat ((List.range n).filter (fun r => isTk S x1 x2 r)).length, S') ∧ (∀ j, S'.1 j = if j = 74 then Int32.ofNat ((List.range n).filter (fun r => !isTk S x1 x2 r)).length else S.1 j) ∧ (∀ a q, ¬ a = 622 → ¬ a = 623 → rd S' a q = rd S a q) ∧ (∀ j r, ((List.range n).filter (fun r => isTk S x1 x2 r))[j]? = some r → ∀ i, i < 12 → rd S' 623 (12 * j + i) = rd S 622 (12 * r + i)) ∧ (∀ j r, ((List.range n).filter (fun r => !isTk S x1 x2 r))[j]? = some r → ∀ i, i < 12 → rd S' 622 (12 * j + i) = rd S 622 (12 * r + i)) := by
  exact m_take_loop (F := F) x1 x2 S n hn n 0 S (by omega) (fun _ => rfl) h (fun _ _ _ _ => rfl) (fun _ _ _ _ => rfl) (fun j r hj => by simp at hj) (fun j r hj => by simp at hj) F (by omega) (by omega)
end
