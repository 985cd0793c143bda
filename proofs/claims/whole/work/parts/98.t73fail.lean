/-! fail(node): the reference. -/
section
variable {T : tT} {S : mS} {F n : Nat}
theorem m_fail36 (h2 : n < 7) : ∀ (m x : Nat) (S : mS), x + m = 1024 * n + 1024 → 1024 * n ≤ x → ∀ g, m < g → ∃ S2, D_m_fail_36 F g (Int32.ofNat n) (Int32.ofNat x) S = D_m_fail_68 F F (Int32.ofNat n) (Int32.ofNat (128 * n)) S2 ∧ (∀ i, S2.1 i = S.1 i) ∧ ∀ a k, rd S2 a k = if a = 601 ∧ x ≤ k ∧ k < 1024 * n + 1024 then 0 else rd S a k := by
  have e : (1024 : Int32) * Int32.ofNat n + (1024 : Int32) = Int32.ofNat (1024 * n + 1024) := by rw [k1024]; exact i_add (b := 1024)
  intro m
  induction m with
  | zero =>
    intro x S hx hx2 g hg
    obtain ⟨g, rfl⟩ : ∃ y, g = y + 1 := ⟨g - 1, by omega⟩
    refine ⟨S, ?_, fun _ => rfl, fun a k => by rw [if_neg (by omega)]⟩
    unfold D_m_fail_36
    rw [e, ge_n (by omega) (by omega), decide_eq_true (by omega), cond_true, k128]
  | succ m ih =>
    intro x S hx hx2 g hg
    obtain ⟨g, rfl⟩ : ∃ y, g = y + 1 := ⟨g - 1, by omega⟩
    have bp : bput 7168 S 601 (Int32.ofNat x) 0 = some (up2 S 601 x 0) := bput_n (by omega) (by decide) (Or.inl rfl)
    obtain ⟨S2, s1, s2, s3⟩ := ih (x + 1) (up2 S 601 x 0) (by omega) (by omega) g (by omega)
    refine ⟨S2, ?_, fun i => (s2 i).trans (by rw [up2_1]), fun a k => ?_⟩
    · rw [← s1]
      conv => lhs; unfold D_m_fail_36
      rw [e, ge_n (by omega) (by omega), decide_eq_false (by omega), cond_false, bp, Option.bind_some, q1]
    · rw [s3, rd_up2]
      by_cases w : a = 601 ∧ k = x
      · rw [if_neg (by omega), if_pos w, if_pos (by omega)]
      · rw [if_neg w]
        by_cases w2 : a = 601 ∧ x + 1 ≤ k ∧ k < 1024 * n + 1024
        · rw [if_pos w2, if_pos (by omega)]
        · rw [if_neg w2, if_neg (by omega)]
theorem m_fail68 (h2 : n < 7) : ∀ (m x : Nat) (S : mS), x + m = 128 * n + 128 → 128 * n ≤ x → ∀ g, m < g → ∃ S2, D_m_fail_68 F g (Int32.ofNat n) (Int32.ofNat x) S = D_m_fail_96 F F (Int32.ofNat n) 1 S2 ∧ (∀ i, S2.1 i = S.1 i) ∧ ∀ a k, rd S2 a k = if a = 609 ∧ x ≤ k ∧ k < 128 * n + 128 then 0 else rd S a k := by
  have e : (128 : Int32) * Int32.ofNat n + (128 : Int32) = Int32.ofNat (128 * n + 128) := by rw [k128]; exact i_add (b := 128)
  intro m
  induction m with
  | zero =>
    intro x S hx hx2 g hg
    obtain ⟨g, rfl⟩ : ∃ y, g = y + 1 := ⟨g - 1, by omega⟩
    refine ⟨S, ?_, fun _ => rfl, fun a k => by rw [if_neg (by omega)]⟩
    unfold D_m_fail_68
    rw [e, ge_n (by omega) (by omega), decide_eq_true (by omega), cond_true]
  | succ m ih =>
    intro x S hx hx2 g hg
    obtain ⟨g, rfl⟩ : ∃ y, g = y + 1 := ⟨g - 1, by omega⟩
    have bp : bput 896 S 609 (Int32.ofNat x) 0 = some (up2 S 609 x 0) := bput_n (by omega) (by decide) (Or.inl rfl)
    obtain ⟨S2, s1, s2, s3⟩ := ih (x + 1) (up2 S 609 x 0) (by omega) (by omega) g (by omega)
    refine ⟨S2, ?_, fun i => (s2 i).trans (by rw [up2_1]), fun a k => ?_⟩
    · rw [← s1]
      conv => lhs; unfold D_m_fail_68
      rw [e, ge_n (by omega) (by omega), decide_eq_false (by omega), cond_false, bp, Option.bind_some, q1]
    · rw [s3, rd_up2]
      by_cases w : a = 609 ∧ k = x
      · rw [if_neg (by omega), if_pos w, if_pos (by omega)]
      · rw [if_neg w]
        by_cases w2 : a = 609 ∧ x + 1 ≤ k ∧ k < 128 * n + 128
        · rw [if_pos w2, if_pos (by omega)]
        · rw [if_neg w2, if_neg (by omega)]
theorem m_fail96 (hF : 5 ≤ F) (h2 : n < 7) (hz : n ≤ 2 → rd S 618 (2 * n) = 0 ∧ rd S 618 (2 * n + 1) = 0 ∧ rd S 619 (2 * n) = 0 ∧ rd S 619 (2 * n + 1) = 0) : ∃ S2, D_m_fail_96 F F (Int32.ofNat n) 1 S = D_m_fail_118 F (Int32.ofNat n) S2 ∧ (∀ i, S2.1 i = S.1 i) ∧ ∀ a i, rd S2 a i = if (a = 618 ∨ a = 619) ∧ (i = 2 * n ∨ i = 2 * n + 1) then 0 else rd S a i := by
  obtain ⟨F', hF'⟩ : ∃ x, F = x + 1 + 1 + 1 := ⟨F - 3, by omega⟩
  rw [show D_m_fail_96 F F = D_m_fail_96 F (F' + 1 + 1 + 1) by rw [← hF']]
  by_cases w : n ≤ 2
  · obtain ⟨z1, z2, z3, z4⟩ := hz w
    refine ⟨S, ?_, fun _ => rfl, fun a i => ?_⟩
    · unfold D_m_fail_96
      rw [show m_c2 .ge (1 : Int32) (3 : Int32) = false from rfl, cond_false, show m_c2 .le (Int32.ofNat n) (2 : Int32) = decide (n ≤ 2) from le_n (by omega) (by decide), decide_eq_true w, cond_true]
    · by_cases q : (a = 618 ∨ a = 619) ∧ (i = 2 * n ∨ i = 2 * n + 1)
      · rw [if_pos q]
        obtain ⟨q1', q2'⟩ := q
        rcases q1' with rfl | rfl <;> rcases q2' with rfl | rfl
        · exact z1
        · exact z2
        · exact z3
        · exact z4
      · rw [if_neg q]
  · have f1 : D_m_forgive F (Int32.ofNat n) 1 S = some (up2 (up2 S 618 (2 * n + 1 - 1) 0) 619 (2 * n + 1 - 1) 0) := m_forgive (F := F) (p := 1) h2 (Or.inl rfl)
    have f2 : ∀ X : mS, D_m_forgive F (Int32.ofNat n) (Int32.ofNat 2) X = some (up2 (up2 X 618 (2 * n + 2 - 1) 0) 619 (2 * n + 2 - 1) 0) := fun X => m_forgive (F := F) (p := 2) h2 (Or.inr rfl)
    refine ⟨up2 (up2 (up2 (up2 S 618 (2 * n + 1 - 1) 0) 619 (2 * n + 1 - 1) 0) 618 (2 * n + 2 - 1) 0) 619 (2 * n + 2 - 1) 0, ?_, fun i => by simp only [up2_1], fun a i => ?_⟩
    · have le2 : m_c2 .le (Int32.ofNat n) (2 : Int32) = false := (le_n (b := 2) (by omega) (by decide)).trans (decide_eq_false (by omega))
      have s2 : (1 : Int32) + Int32.ofInt 1 = Int32.ofNat 2 := rfl
      have s3 : Int32.ofNat 2 + Int32.ofInt 1 = (3 : Int32) := rfl
      conv => lhs; unfold D_m_fail_96
      rw [show m_c2 .ge (1 : Int32) (3 : Int32) = false from rfl, cond_false, le2, cond_false, f1, Option.bind_some, s2]
      conv => lhs; unfold D_m_fail_96
      rw [show m_c2 .ge (Int32.ofNat 2) (3 : Int32) = false from rfl, cond_false, le2, cond_false, f2, Option.bind_some, s3]
      unfold D_m_fail_96
      rw [show m_c2 .ge (3 : Int32) (3 : Int32) = true from rfl, cond_true]
    · simp only [rd_up2]
      by_cases q : (a = 618 ∨ a = 619) ∧ (i = 2 * n ∨ i = 2 * n + 1)
      · rw [if_pos q]
        by_cases v1 : a = 619 ∧ i = 2 * n + 2 - 1
        · rw [if_pos v1]
        · rw [if_neg v1]
          by_cases v2 : a = 618 ∧ i = 2 * n + 2 - 1
          · rw [if_pos v2]
          · rw [if_neg v2]
            by_cases v3 : a = 619 ∧ i = 2 * n + 1 - 1
            · rw [if_pos v3]
            · rw [if_neg v3, if_pos (by omega)]
      · rw [if_neg (by omega), if_neg (by omega), if_neg (by omega), if_neg (by omega), if_neg q]
/-- some replies are closed -/
def SSr (S0 S : mS) (R : List Nat) : Prop := (∀ i, S.1 i = if i = 71 then S0.1 71 + Int32.ofNat R.length else S0.1 i) ∧ (∀ a q, ¬ a = 621 → ¬ a = 627 → rd S a q = rd S0 a q) ∧ (∀ q, rd S 621 q = if q ∈ R then 0 else rd S0 621 q) ∧ ∀ q, rd S 627 q = if q / 9 ∈ R then clv (S0.1 36) (rd S0 627 q) (q % 9) else rd S0 627 q
theorem SSr.refl {S0 : mS} : SSr S0 S0 [] := ⟨fun i => by
  by_cases w : i = 71
  · rw [if_pos w, w]; simp
  · rw [if_neg w], fun _ _ _ _ => rfl, fun q => by simp, fun q => by simp⟩
theorem SSr.step {S0 S : mS} {R : List Nat} {r : Nat} (h : SSr S0 S R) (hr : r < 300) (hn : ¬ r ∈ R) : ∃ S', D_m_close F (Int32.ofNat r) 502 0 0 S = some S' ∧ SSr S0 S' (R ++ [r]) := by
  obtain ⟨S', s1, s2, s3, s4, s5, s6, s7, s8, s9, s10, s11, s12, s13, s14⟩ := m_close (F := F) (S := S) (st := 502) (how := 0) (fr := 0) hr (Or.inl rfl)
  simp only [show ¬ ((0 : Int32) = 1) by decide, if_false] at s7 s8 s9 s10 s13 s14
  obtain ⟨h1, h2, h3, h4⟩ := h
  refine ⟨S', s1, fun i => ?_, fun a q w1 w2 => (s3 a q w1 w2).trans (h2 a q w1 w2), fun q => ?_, fun q => ?_⟩
  · rw [s2, h1, h1]
    by_cases w : i = 71
    · rw [if_pos w, if_pos w, if_pos rfl, List.length_append, List.length_singleton, ← p1, Int32.add_assoc]
    · rw [if_neg w, if_neg w, if_neg w]
  · rw [s4, h3]
    by_cases w : q = r
    · rw [if_pos w, if_pos (by simp [w])]
    · rw [if_neg w]
      by_cases w2 : q ∈ R
      · rw [if_pos w2, if_pos (List.mem_append_left _ w2)]
      · rw [if_neg w2, if_neg (by simp [w, w2])]
  · by_cases w : q / 9 = r
    · rw [if_pos (by simp [w])]
      have hq : q = 9 * r + q % 9 := by omega
      have h9 : q % 9 < 9 := Nat.mod_lt _ (by decide)
      generalize q % 9 = i at hq h9 ⊢
      subst hq
      have o6 : rd S 627 (9 * r + 6) = rd S0 627 (9 * r + 6) := by rw [h4, if_neg (by rw [show (9 * r + 6) / 9 = r by omega]; exact hn)]
      have : i = 0 ∨ i = 1 ∨ i = 2 ∨ i = 3 ∨ i = 4 ∨ i = 5 ∨ i = 6 ∨ i = 7 ∨ i = 8 := by omega
      rcases this with z | z | z | z | z | z | z | z | z <;> subst z
      · exact s6
      · exact s7
      · exact s8
      · exact s9
      · exact s10
      · rw [s11, h1, if_neg (by decide)]; rfl
      · rw [s12, o6]; rfl
      · exact s13
      · exact s14
    · rw [s5 q (fun q' => w (by unfold aRow at q'; omega)), h4]
      by_cases w2 : q / 9 ∈ R
      · rw [if_pos w2, if_pos (List.mem_append_left _ w2)]
      · rw [if_neg w2, if_neg (by simp [w, w2])]
theorem m_fl_loop {S0 : mS} : ∀ (L : List Rq) (j : Nat) (S : mS) (R : List Nat), SSr S0 S R → j + L.length ≤ 700 → (∀ k z, L[k]? = some z → rd S0 623 (12 * (j + k) + 2) = (match z.2.2.1 with | none => -1 | some r => Int32.ofNat r)) → (∀ z ∈ L, ∀ r, z.2.2.1 = some r → r < 300 ∧ ¬ r ∈ R) → (L.filterMap (fun z => z.2.2.1)).Nodup → ∀ g, L.length < g → ∃ S', D_m_fail_141 F g (Int32.ofNat (j + L.length)) (Int32.ofNat j) S = some (1, S') ∧ SSr S0 S' (R ++ L.filterMap (fun z => z.2.2.1)) := by
  intro L
  induction L with
  | nil =>
    intro j S R h hj hrow hcl hnd g hg
    obtain ⟨g, rfl⟩ : ∃ y, g = y + 1 := ⟨g - 1, by omega⟩
    refine ⟨S, ?_, by simpa using h⟩
    unfold D_m_fail_141
    rw [ge_n (by omega) (by show j + 0 < 2147483648; simp at hj; omega), decide_eq_true (by simp)]
    rfl
  | cons z L ih =>
    intro j S R h hj hrow hcl hnd g hg
    obtain ⟨g, rfl⟩ : ∃ y, g = y + 1 := ⟨g - 1, by omega⟩
    have ll : (z :: L).length = L.length + 1 := rfl
    have r0 := hrow 0 z rfl
    rw [Nat.add_zero] at r0
    have rS : rd S 623 (12 * j + 2) = rd S0 623 (12 * j + 2) := h.2.1 623 _ (by decide) (by decide)
    have a6 : aget 0 48000 S 623 ((12 : Int32) * Int32.ofNat j + (2 : Int32)) = some (rd S0 623 (12 * j + 2)) := by
      rw [k12, p2, ← rS]
      exact aget_n (Or.inl rfl) (by omega) (by decide)
    have len : j + (z :: L).length = j + 1 + L.length := by omega
    have hrow' : ∀ k y, L[k]? = some y → rd S0 623 (12 * (j + 1 + k) + 2) = (match y.2.2.1 with | none => -1 | some r => Int32.ofNat r) := fun k y hk => by
      have := hrow (k + 1) y (by rw [List.getElem?_cons_succ]; exact hk)
      rw [show j + 1 + k = j + (k + 1) by omega]
      exact this
    have step : D_m_fail_141 F (g + 1) (Int32.ofNat (j + (z :: L).length)) (Int32.ofNat j) S = cond (m_c2 .eq (rd S0 623 (12 * j + 2)) ((-1) : Int32)) (D_m_fail_141 F g (Int32.ofNat (j + 1 + L.length)) (Int32.ofNat (j + 1)) S) ((D_m_close F (rd S0 623 (12 * j + 2)) (502 : Int32) (0 : Int32) (0 : Int32) S).bind fun S36 => D_m_fail_141 F g (Int32.ofNat (j + 1 + L.length)) (Int32.ofNat (j + 1)) S36) := by
      conv => lhs; unfold D_m_fail_141
      rw [ge_n (by omega) (by omega), decide_eq_false (by omega), cond_false, a6, Option.bind_some]
      simp only [Option.bind_some, D_m_fail_181, q1, len]
    cases hz : z.2.2.1 with
    | none =>
      rw [hz] at r0
      have r0' : rd S0 623 (12 * j + 2) = -1 := r0
      obtain ⟨S', y1, y2⟩ := ih (j + 1) S R h (by omega) hrow' (fun y hy => hcl y (List.mem_cons_of_mem _ hy)) (by rw [List.filterMap_cons_none (f := fun z : Rq => z.2.2.1) (a := z) hz] at hnd; exact hnd) g (by omega)
      refine ⟨S', ?_, by rw [List.filterMap_cons_none (f := fun z : Rq => z.2.2.1) (a := z) hz]; exact y2⟩
      rw [step, r0']
      exact y1
    | some r =>
      rw [hz] at r0
      have r0' : rd S0 623 (12 * j + 2) = Int32.ofNat r := r0
      obtain ⟨hr3, hrn⟩ := hcl z List.mem_cons_self r hz
      obtain ⟨S1, t1, t2⟩ := h.step (F := F) hr3 hrn
      rw [List.filterMap_cons_some (f := fun z : Rq => z.2.2.1) (a := z) hz] at hnd
      obtain ⟨nd1, nd2⟩ := List.nodup_cons.mp hnd
      obtain ⟨S', y1, y2⟩ := ih (j + 1) S1 (R ++ [r]) t2 (by omega) hrow' (fun y hy r' hr' => by
        obtain ⟨v1, v2⟩ := hcl y (List.mem_cons_of_mem _ hy) r' hr'
        refine ⟨v1, fun w => ?_⟩
        rcases List.mem_append.mp w with w | w
        · exact v2 w
        · rw [List.mem_singleton.mp w] at hr'
          exact nd1 (List.mem_filterMap.mpr ⟨y, hy, hr'⟩)) nd2 g (by omega)
      refine ⟨S', ?_, by rw [List.filterMap_cons_some (f := fun z : Rq => z.2.2.1) (a := z) hz]; rw [List.append_assoc] at y2; exact y2⟩
      rw [step, r0', ofNat_ne_m1 (by omega), cond_false, t1, Option.bind_some]
      exact y1
end
