/-! Whether a FILL is refused, in both. -/
theorem bit_all : (List.range 256).all (fun k => (List.range 8).all fun w => decide (decide ((Int32.ofNat k >>> (Int32.ofNat w &&& 31)) &&& (1 : Int32) = 1) = !decide (Int32.ofNat k &&& ((1 : Int32) <<< (Int32.ofNat w &&& 31)) = 0))) = true := by decide +kernel
theorem bit_hit {k w : Nat} (hk : k < 256) (hw : w < 8) : decide ((Int32.ofNat k >>> (Int32.ofNat w &&& 31)) &&& (1 : Int32) = 1) = !decide (Int32.ofNat k &&& ((1 : Int32) <<< (Int32.ofNat w &&& 31)) = 0) := of_decide_eq_true (List.all_eq_true.mp (List.all_eq_true.mp bit_all k (List.mem_range.mpr hk)) w (List.mem_range.mpr hw))
/-- the reference's test of one purge -/
theorem m_hit {p keys b w : Int32} (hk : few 256 keys) (hb : isPu b w) : (cond (m_c1 .ne b) (cond (m_c2 .ne ((keys >>> (w &&& 31)) &&& (1 : Int32)) (1 : Int32)) (some (0 : Int32)) (some (1 : Int32))) (cond (m_c2 .ne w p) (some (0 : Int32)) (some (1 : Int32)))) = some (b2i (v_purged p keys b w)) := by
  obtain ⟨k, k1, k2⟩ := hk
  rcases hb with ⟨b1, w1⟩ | ⟨b1, w9, w1, w2⟩
  · subst b1
    unfold v_purged
    by_cases e : w = p
    · subst e; simp [m_c1, m_c2, b2i]
    · have e' : ¬ p = w := fun q => e q.symm
      simp [m_c1, m_c2, b2i, e, e']
  · subst b1 w2 k2
    have := bit_hit k1 w1
    unfold v_purged
    rw [show m_c1 .ne (1 : Int32) = true from rfl, cond_true, if_neg (show ¬ (1 : Int32) = 0 by decide), ← this]
    by_cases e : (Int32.ofNat k >>> (Int32.ofNat w9 &&& 31)) &&& (1 : Int32) = 1
    · rw [decide_eq_true e, e]; rfl
    · rw [decide_eq_false e]
      simp only [m_c2]
      rw [decide_eq_true (show (Int32.ofNat k >>> (Int32.ofNat w9 &&& 31)) &&& (1 : Int32) ≠ 1 from e)]
      rfl
section
variable {T : tT} {S : mS} {X Y : Nat → List (Nat × Nat)} {Z : Nat → List Fz} {Q : List Rq} {c F n f : Nat} {rs : List Nat}
/-- a purge that came has a number above, and is of it -/
def hitM (S : mS) (n mk i : Nat) : Prop := v_purged (rd S 628 4) (rd S 628 19) (rd S 599 (64 * n + i)) (rd S 600 (64 * n + i)) = true ∧ Int32.ofNat mk < rd S 598 (64 * n + i)
theorem m_purged_loop {fb fw : Nat → Value} {o mk : Nat} (hn : n < 7) (h : RPk T S fb fw o n) (ho : o ≤ 60) (hpu : ∀ k, 1 ≤ k → k ≤ o → isPu (m_toI (fb k)) (m_toI (fw k))) (hk : few 256 (rd S 628 19)) (hmk : rd S 628 8 = Int32.ofNat mk) (hm6 : mk ≤ 60) : ∃ K, rd S 597 n = Int32.ofNat K ∧ K ≤ 60 ∧ ∀ (m i : Nat), i + m = K → (∀ j, j < i → ¬ hitM S n mk j) → ∀ g, m < g → (D_m_isPurged_2 F g (Int32.ofNat n) (Int32.ofNat i) S = some 1 ∧ ∃ j, j < K ∧ hitM S n mk j) ∨ (D_m_isPurged_2 F g (Int32.ofNat n) (Int32.ofNat i) S = some 0 ∧ ∀ j, j < K → ¬ hitM S n mk j) := by
  obtain ⟨fk, K, h1, h2, h3, h4, h5⟩ := h
  refine ⟨K, h2, h3, ?_⟩
  have a597 : aget 0 7 S 597 (Int32.ofNat n) = some (Int32.ofNat K) := by rw [← h2]; exact aget_n (Or.inl rfl) hn (by decide)
  have c19 : aget 0 22 S 628 (19 : Int32) = some (rd S 628 19) := aget_n (k := 19) (Or.inl rfl) (by decide) (by decide)
  have c4 : aget 0 22 S 628 (4 : Int32) = some (rd S 628 4) := aget_n (k := 4) (Or.inl rfl) (by decide) (by decide)
  have c8 : aget 0 22 S 628 (8 : Int32) = some (Int32.ofNat mk) := by rw [← hmk]; exact aget_n (k := 8) (Or.inl rfl) (by decide) (by decide)
  intro m
  induction m with
  | zero =>
    intro i hi hno g hg
    obtain ⟨g, rfl⟩ : ∃ x, g = x + 1 := ⟨g - 1, by omega⟩
    right
    refine ⟨?_, fun j hj => hno j (by omega)⟩
    unfold D_m_isPurged_2
    rw [a597, Option.bind_some, ge_n (by omega) (by omega), decide_eq_true (by omega)]
    rfl
  | succ m ih =>
    intro i hi hno g hg
    obtain ⟨g, rfl⟩ : ∃ x, g = x + 1 := ⟨g - 1, by omega⟩
    obtain ⟨j, j1, j2, j3, j4, j5, j6, _⟩ := h4 i (by omega)
    have ix : (64 : Int32) * Int32.ofNat n + Int32.ofNat i = Int32.ofNat (64 * n + i) := by rw [k64, i_add]
    have a8 : aget 0 448 S 598 (Int32.ofNat (64 * n + i)) = some (rd S 598 (64 * n + i)) := aget_n (Or.inl rfl) (by omega) (by decide)
    have a9 : aget 0 448 S 599 (Int32.ofNat (64 * n + i)) = some (rd S 599 (64 * n + i)) := aget_n (Or.inl rfl) (by omega) (by decide)
    have a0 : aget 0 448 S 600 (Int32.ofNat (64 * n + i)) = some (rd S 600 (64 * n + i)) := aget_n (Or.inl rfl) (by omega) (by decide)
    have hh := m_hit (p := rd S 628 4) hk (show isPu (rd S 599 (64 * n + i)) (rd S 600 (64 * n + i)) by rw [j4, j5]; exact hpu j j1 j2)
    have step : D_m_isPurged_2 F (g + 1) (Int32.ofNat n) (Int32.ofNat i) S = cond (!v_purged (rd S 628 4) (rd S 628 19) (rd S 599 (64 * n + i)) (rd S 600 (64 * n + i))) (D_m_isPurged_2 F g (Int32.ofNat n) (Int32.ofNat (i + 1)) S) (cond (decide (j ≤ mk)) (D_m_isPurged_2 F g (Int32.ofNat n) (Int32.ofNat (i + 1)) S) (some 1)) := by
      conv => lhs; unfold D_m_isPurged_2
      rw [a597, Option.bind_some, ge_n (by omega) (by omega), decide_eq_false (by omega), cond_false, ix, a9, Option.bind_some]
      simp only [c19, a0, c4, Option.bind_some]
      rw [hh, Option.bind_some, one_eq, a8, c8]
      simp only [Option.bind_some, D_m_isPurged_101, q1]
      rw [j3, show m_c2 .le (Int32.ofNat j) (Int32.ofNat mk) = decide (j ≤ mk) from le_n (by omega) (by omega)]
    have nx := ih (i + 1) (by omega)
    rw [step]
    by_cases e1 : v_purged (rd S 628 4) (rd S 628 19) (rd S 599 (64 * n + i)) (rd S 600 (64 * n + i)) = true
    · rw [e1]
      by_cases e2 : j ≤ mk
      · rw [decide_eq_true e2]
        refine nx (fun k hk w => ?_) g (by omega)
        by_cases wk : k = i
        · subst wk
          have := w.2
          rw [j3, i_lt (by show mk < 2147483648; omega) (by show j < 2147483648; omega)] at this
          omega
        · exact hno k (by omega) w
      · rw [decide_eq_false e2]
        exact Or.inl ⟨rfl, i, by omega, e1, by rw [j3, i_lt (by show mk < 2147483648; omega) (by show j < 2147483648; omega)]; omega⟩
    · rw [Bool.eq_false_iff.mpr e1]
      refine nx (fun k hk w => ?_) g (by omega)
      by_cases wk : k = i
      · subst wk; exact e1 w.1
      · exact hno k (by omega) w
/-- the same of the class -/
def hitC (S : mS) (fb fw fk : Nat → Value) (j : Nat) : Prop := m_toI (fk j) = 1 ∧ v_purged (rd S 628 4) (rd S 628 19) (m_toI (fb j)) (m_toI (fw j)) = true
theorem hit_iff {fb fw fk : Nat → Value} {o mk K : Nat} (hm6 : mk ≤ 60) (ho : o ≤ 60) (h4 : ∀ i, i < K → ∃ j, 1 ≤ j ∧ j ≤ o ∧ rd S 598 (64 * n + i) = Int32.ofNat j ∧ rd S 599 (64 * n + i) = m_toI (fb j) ∧ rd S 600 (64 * n + i) = m_toI (fw j) ∧ m_toI (fk j) = 1) (h5 : ∀ j, 1 ≤ j → j ≤ 60 → m_toI (fk j) = 0 ∨ (m_toI (fk j) = 1 ∧ ∃ i, i < K ∧ rd S 598 (64 * n + i) = Int32.ofNat j)) : (∃ i, i < K ∧ hitM S n mk i) ↔ ∃ j, mk + 1 ≤ j ∧ j ≤ o ∧ hitC S fb fw fk j := by
  constructor
  · rintro ⟨i, i1, i2, i3⟩
    obtain ⟨j, j1, j2, j3, j4, j5, j6⟩ := h4 i i1
    rw [j3, i_lt (by show mk < 2147483648; omega) (by show j < 2147483648; omega)] at i3
    rw [j4, j5] at i2
    exact ⟨j, by omega, j2, j6, i2⟩
  · rintro ⟨j, j1, j2, j3, j4⟩
    rcases h5 j (by omega) (by omega) with w | ⟨_, i, i1, i2⟩
    · rw [w] at j3; exact absurd j3 (by decide)
    · obtain ⟨j', k1, k2, k3, k4, k5, k6⟩ := h4 i i1
      have e : j' = j := by
        rw [k3] at i2
        have := congrArg Int32.toNatClampNeg i2
        rw [m_n_cl (by omega), m_n_cl (by omega)] at this
        exact this
      subst e
      exact ⟨i, i1, by rw [k4, k5]; exact j4, by rw [k3, i_lt (by show mk < 2147483648; omega) (by show j' < 2147483648; omega)]; omega⟩
/-- the class's loop -/
theorem c_purged_loop {fb fw fk : Nat → Value} {o am fa t : Nat} {gm d : Nat → Int32} {fetc : Option Nat} (hH : RHouse T S) (hnode : T.1 (527 + 8 * n) = some (nodeC S n)) (ho : S.1 37 = Int32.ofNat o) (ho6 : o ≤ 60) (hb : T.1 521 = some (.inr (.inl (0, 61, fb)))) (hw : T.1 522 = some (.inr (.inl (0, 61, fw)))) (hk : T.1 (532 + 8 * n) = some (.inr (.inl (4, 61, fk)))) (h5 : ∀ j, 1 ≤ j → j ≤ 60 → m_toI (fk j) = 0 ∨ m_toI (fk j) = 1) (hm : T.1 am = some (cMsg gm (some t))) (ht : T.1 t = some (cTold (rd S 628 4) d)) (hd7 : d 7 = rd S 628 19) : ∀ (m j : Nat), j + m = o + 1 → 1 ≤ j → ∀ g, m < g → (∃ g', m + g' = g ∧ D_c_EdgeHouse_isRefused_21 F g 512 (some (527 + 8 * n)) fetc (some am) (Int32.ofNat j) T = D_c_EdgeHouse_isRefused_21 F g' 512 (some (527 + 8 * n)) fetc (some am) (Int32.ofNat (o + 1)) T ∧ ∀ k, j ≤ k → k ≤ o → ¬ hitC S fb fw fk k) ∨ (D_c_EdgeHouse_isRefused_21 F g 512 (some (527 + 8 * n)) fetc (some am) (Int32.ofNat j) T = some 1 ∧ ∃ k, j ≤ k ∧ k ≤ o ∧ hitC S fb fw fk k) := by
  have hH' : T.1 512 = some (house S.1) := hH
  have e13 : tgi T 512 0 13 = some (Int32.ofNat o) := by rw [← ho]; exact Hg13 hH'
  have e43 : tgr T (527 + 8 * n) 4 3 = some (some (532 + 8 * n)) := tgr_o (x := some (532 + 8 * n)) hnode rfl
  have el : tal T (532 + 8 * n) = some (Int32.ofNat 61) := by simp only [tal, hk]; rfl
  intro m
  induction m with
  | zero =>
    intro j hj h1 g hg
    left
    have : j = o + 1 := by omega
    subst this
    exact ⟨g, by omega, rfl, fun k k1 k2 => by omega⟩
  | succ m ih =>
    intro j hj h1 g hg
    obtain ⟨g, rfl⟩ : ∃ x, g = x + 1 := ⟨g - 1, by omega⟩
    have kn : D_c_Node_knows F (527 + 8 * n) (Int32.ofNat j) T = some (m_toI (fk j)) := by
      have ta' : tai T (532 + 8 * n) 4 (Int32.ofNat j) = some (m_toI (fk j)) := by
        unfold tai
        rw [ta_o hk (by omega) (by decide)]
        rfl
      unfold D_c_Node_knows
      rw [show m_c2 .lt (Int32.ofNat j) (1 : Int32) = decide (j < 1) from lt_n (by omega) (by decide), decide_eq_false (by omega), cond_false]
      simp only [e43, el, Option.bind_some, ge_n (show j < 2147483648 by omega) (show 61 < 2147483648 by decide), decide_eq_false (show ¬ 61 ≤ j by omega), cond_false, ta']
      rcases h5 j h1 (by omega) with w | w <;> rw [w] <;> rfl
    have io : D_c_EdgeHouse_isOf F 512 (Int32.ofNat j) (some t) T = some (b2i (v_purged (rd S 628 4) (rd S 628 19) (m_toI (fb j)) (m_toI (fw j)))) := by
      have tb : tai T 521 0 (Int32.ofNat j) = some (m_toI (fb j)) := by unfold tai; rw [ta_o hb (by omega) (by decide)]; rfl
      have tw : tai T 522 0 (Int32.ofNat j) = some (m_toI (fw j)) := by unfold tai; rw [ta_o hw (by omega) (by decide)]; rfl
      unfold D_c_EdgeHouse_isOf
      rw [show m_c2 .lt (Int32.ofNat j) (1 : Int32) = decide (j < 1) from lt_n (by omega) (by decide), decide_eq_false (by omega), cond_false, show m_c2 .le (Int32.ofNat j) (60 : Int32) = decide (j ≤ 60) from le_n (by omega) (by decide), decide_eq_true (by omega), cond_true]
      simp only [Hr5 hH', Hr6 hH', Option.bind_some, tb, tw, tcl_o ht, c_purged ht, hd7, bret_b]
    have step : D_c_EdgeHouse_isRefused_21 F (g + 1) 512 (some (527 + 8 * n)) fetc (some am) (Int32.ofNat j) T = cond (m_c1 .eq (m_toI (fk j))) (D_c_EdgeHouse_isRefused_21 F g 512 (some (527 + 8 * n)) fetc (some am) (Int32.ofNat (j + 1)) T) (cond (!v_purged (rd S 628 4) (rd S 628 19) (m_toI (fb j)) (m_toI (fw j))) (D_c_EdgeHouse_isRefused_21 F g 512 (some (527 + 8 * n)) fetc (some am) (Int32.ofNat (j + 1)) T) (some 1)) := by
      conv => lhs; unfold D_c_EdgeHouse_isRefused_21
      simp only [e13, Option.bind_some, gt_n (show j < 2147483648 by omega) (show o < 2147483648 by omega), decide_eq_false (show ¬ o < j by omega), cond_false, tcl_o hnode, kn, Mr15 hm, tcl_o hH', io, one_eq, D_c_EdgeHouse_isRefused_54, q1]
    have nx := ih (j + 1) (by omega) (by omega) g (by omega)
    rw [step]
    have go : ¬ hitC S fb fw fk j → (∃ g', (m + 1) + g' = g + 1 ∧ D_c_EdgeHouse_isRefused_21 F g 512 (some (527 + 8 * n)) fetc (some am) (Int32.ofNat (j + 1)) T = D_c_EdgeHouse_isRefused_21 F g' 512 (some (527 + 8 * n)) fetc (some am) (Int32.ofNat (o + 1)) T ∧ ∀ k, j ≤ k → k ≤ o → ¬ hitC S fb fw fk k) ∨ (D_c_EdgeHouse_isRefused_21 F g 512 (some (527 + 8 * n)) fetc (some am) (Int32.ofNat (j + 1)) T = some 1 ∧ ∃ k, j ≤ k ∧ k ≤ o ∧ hitC S fb fw fk k) := by
      intro hne
      rcases nx with ⟨g', y1, y2, y3⟩ | ⟨y1, k, y2, y3, y4⟩
      · left
        refine ⟨g', by omega, y2, fun k k1 k2 => ?_⟩
        by_cases e : k = j
        · rw [e]; exact hne
        · exact y3 k (by omega) k2
      · exact Or.inr ⟨y1, k, by omega, y3, y4⟩
    rcases h5 j h1 (by omega) with w | w
    · rw [w]
      exact go (fun q => by rw [q.1] at w; exact absurd w (by decide))
    · rw [w]
      by_cases e : v_purged (rd S 628 4) (rd S 628 19) (m_toI (fb j)) (m_toI (fw j)) = true
      · rw [e]
        exact Or.inr ⟨rfl, j, Nat.le_refl _, by omega, w, e⟩
      · rw [Bool.eq_false_iff.mpr e]
        exact go (fun q => e q.2)
end
