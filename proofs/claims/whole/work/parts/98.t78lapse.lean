/-! Fetches that are overdue end. -/
def FaOv (I : Iv) : Prop := ∀ M Q Pd Z E N k1 k2, I M Q Pd Z E N k1 k2 → ∃ t, N 7 0 = Int32.ofNat t ∧ t < 1000000 ∧ ∀ n, 1 ≤ n → n < 7 → (∀ z ∈ Z n, ∃ s, s ≤ t ∧ z.2.2 10 = Int32.ofNat s) ∧ (Z n).Pairwise (fun a b => a.2.2 10 ≤ b.2.2 10)
def ovd (S : mS) (z : Fz) : Prop := ¬ S.1 36 - z.2.2 10 < 10
def lapEnd (F : Nat) (rec2 : Int32 → Int32 → mS → Option mS) (x1 x2 : Int32) (S : mS) : Option mS := cond (m_c2 .ne x2 ((-1) : Int32)) (cond (m_c2 .le x1 (2 : Int32)) (D_m_lapse_105 F rec2 x1 x2 S) ((aget 0 896 S 617 x2).bind fun v8 => (D_m_strike F x1 v8 S).bind fun S10 => D_m_lapse_105 F rec2 x1 x2 S10)) (rec2 x1 x2 S)
section
variable {I : Iv} {T T' : tT} {S S' : mS} {X Y : Nat → List (Nat × Nat)} {Z : Nat → List Fz} {Q : List Rq} {c F n j0 k1 k2 : Nat} {rs : List Nat} {C : Nat → List Nat}
/-- what the search has found below a place -/
def lapI (S : mS) (Zn : List Fz) (n x : Nat) (x2 : Int32) : Prop := (x2 = -1 ∧ ∀ z ∈ Zn, z.2.1 < x → ¬ ovd S z) ∨ ∃ z0 ∈ Zn, x2 = Int32.ofNat z0.2.1 ∧ z0.2.1 < x ∧ ovd S z0 ∧ ∀ z ∈ Zn, z.2.1 < x → ovd S z → nmb z0 ≤ nmb z
theorem m_lapse_15 {rec2 : Int32 → Int32 → mS → Option mS} (h : RF T S Z C) (h1 : 1 ≤ n) (h2 : n < 7) : ∀ (m x : Nat) (x2 : Int32), x + m = 128 * n + 128 → 128 * n ≤ x → lapI S (Z n) n x x2 → ∀ g, m < g → ∃ x2', D_m_lapse_15 F rec2 g (Int32.ofNat n) x2 (Int32.ofNat x) S = lapEnd F rec2 (Int32.ofNat n) x2' S ∧ lapI S (Z n) n (128 * n + 128) x2' := by
  obtain ⟨_, z2, z3, z4⟩ := h.1 n h1 h2
  have e : (128 : Int32) * Int32.ofNat n + (128 : Int32) = Int32.ofNat (128 * n + 128) := by rw [k128]; exact i_add (b := 128)
  have nat7 : ∀ z ∈ Z n, ∃ k, k < 1000000000 ∧ z.2.2 7 = Int32.ofNat k ∧ nmb z = k := fun z hz => by
    obtain ⟨k, q1', q2'⟩ := (z2 z hz).2.2.2.2.2.2.2.2.2.2.1
    refine ⟨k, q1', q2', ?_⟩
    unfold nmb
    rw [q2']
    exact m_n_cl (by omega)
  intro m
  induction m with
  | zero =>
    intro x x2 hx hx2 hi g hg
    obtain ⟨g, rfl⟩ : ∃ y, g = y + 1 := ⟨g - 1, by omega⟩
    refine ⟨x2, ?_, ?_⟩
    · conv => lhs; unfold D_m_lapse_15
      rw [e, ge_n (by omega) (by omega), decide_eq_true (by omega), cond_true]
      rfl
    · have : x = 128 * n + 128 := by omega
      rw [← this]
      exact hi
  | succ m ih =>
    intro x x2 hx hx2 hi g hg
    obtain ⟨g, rfl⟩ : ∃ y, g = y + 1 := ⟨g - 1, by omega⟩
    have a9 : aget 4 896 S 609 (Int32.ofNat x) = some (rd S 609 x) := aget_n (Or.inr rfl) (by omega) (by decide)
    have a12 : aget 0 896 S 612 (Int32.ofNat x) = some (rd S 612 x) := aget_n (Or.inl rfl) (by omega) (by decide)
    have a11 : aget 0 896 S 611 (Int32.ofNat x) = some (rd S 611 x) := aget_n (Or.inl rfl) (by omega) (by decide)
    have skip : D_m_lapse_15 F rec2 (g + 1) (Int32.ofNat n) x2 (Int32.ofNat x) S = D_m_lapse_15 F rec2 g (Int32.ofNat n) x2 (Int32.ofNat (x + 1)) S → (∀ z ∈ Z n, z.2.1 = x → ovd S z → ∃ z0 ∈ Z n, x2 = Int32.ofNat z0.2.1 ∧ z0.2.1 < x ∧ ovd S z0 ∧ (∀ z ∈ Z n, z.2.1 < x → ovd S z → nmb z0 ≤ nmb z) ∧ nmb z0 ≤ nmb z) → ∃ x2', D_m_lapse_15 F rec2 (g + 1) (Int32.ofNat n) x2 (Int32.ofNat x) S = lapEnd F rec2 (Int32.ofNat n) x2' S ∧ lapI S (Z n) n (128 * n + 128) x2' := by
      intro hs hz
      rw [hs]
      refine ih (x + 1) x2 (by omega) (by omega) ?_ g (by omega)
      by_cases w : ∃ z ∈ Z n, z.2.1 = x ∧ ovd S z
      · obtain ⟨z, w1, w2, w3⟩ := w
        obtain ⟨z0, q1', q2', q3', q4', q5', q6'⟩ := hz z w1 w2 w3
        refine Or.inr ⟨z0, q1', q2', by omega, q4', fun y hy hyx hyo => ?_⟩
        by_cases v : y.2.1 < x
        · exact q5' y hy v hyo
        · have vx : y.2.1 = x := by omega
          obtain ⟨z0', _, p2', _, _, _, p6'⟩ := hz y hy vx hyo
          have same : y = z := by
            obtain ⟨k, kk, _⟩ := nat7 y hy
            have e7 : y.2.2 7 = z.2.2 7 := by rw [← (z2 y hy).2.2.2.2.2.2.2.2.2.1, ← (z2 z w1).2.2.2.2.2.2.2.2.2.1, vx, w2]
            have en : nmb y = nmb z := by unfold nmb; rw [e7]
            obtain ⟨i, hi'⟩ := List.mem_iff_getElem?.mp hy
            obtain ⟨j, hj'⟩ := List.mem_iff_getElem?.mp w1
            obtain ⟨i1, i2⟩ := List.getElem?_eq_some_iff.mp hi'
            obtain ⟨j1, j2⟩ := List.getElem?_eq_some_iff.mp hj'
            rcases Nat.lt_trichotomy i j with q | q | q
            · have := (List.pairwise_iff_getElem.mp z3) i j i1 j1 q
              rw [i2, j2] at this
              omega
            · subst q
              rw [i2] at j2
              exact j2
            · have := (List.pairwise_iff_getElem.mp z3) j i j1 i1 q
              rw [i2, j2] at this
              omega
          rw [same]
          exact q6'
      · rcases hi with ⟨q1', q2'⟩ | ⟨z0, q1', q2', q3', q4', q5'⟩
        · refine Or.inl ⟨q1', fun y hy hyx hyo => ?_⟩
          by_cases v : y.2.1 < x
          · exact q2' y hy v hyo
          · exact w ⟨y, hy, by omega, hyo⟩
        · refine Or.inr ⟨z0, q1', q2', by omega, q4', fun y hy hyx hyo => ?_⟩
          by_cases v : y.2.1 < x
          · exact q5' y hy v hyo
          · exact absurd ⟨y, hy, by omega, hyo⟩ w
    have unf : D_m_lapse_15 F rec2 (g + 1) (Int32.ofNat n) x2 (Int32.ofNat x) S = cond (m_c1 .eq (rd S 609 x)) (D_m_lapse_15 F rec2 g (Int32.ofNat n) x2 (Int32.ofNat (x + 1)) S) (cond (m_c2 .lt (S.1 36 - rd S 612 x) (10 : Int32)) (D_m_lapse_15 F rec2 g (Int32.ofNat n) x2 (Int32.ofNat (x + 1)) S) (cond (m_c2 .eq x2 ((-1) : Int32)) (D_m_lapse_15 F rec2 g (Int32.ofNat n) (Int32.ofNat x) (Int32.ofNat (x + 1)) S) ((aget 0 896 S 611 x2).bind fun v30 => cond (m_c2 .ge (rd S 611 x) v30) (D_m_lapse_15 F rec2 g (Int32.ofNat n) x2 (Int32.ofNat (x + 1)) S) (D_m_lapse_15 F rec2 g (Int32.ofNat n) (Int32.ofNat x) (Int32.ofNat (x + 1)) S)))) := by
      conv => lhs; unfold D_m_lapse_15
      rw [e, ge_n (by omega) (by omega), decide_eq_false (by omega), cond_false, a9, Option.bind_some]
      simp only [a12, a11, Option.bind_some, D_m_lapse_75, D_m_lapse_73, q1]
    by_cases w9 : rd S 609 x = 0
    · refine skip (by rw [unf, w9]; rfl) (fun z hz hzx hzo => ?_)
      have := (z2 z hz).2.2.2.2.2.2.2.2.2.2.2.2.2.2.2
      rw [hzx, w9] at this
      exact absurd this (by decide)
    · obtain ⟨z, hz, hzx⟩ := z4 x hx2 (by omega) w9
      have fe := z2 z hz
      have e12 : rd S 612 x = z.2.2 10 := by rw [← hzx]; exact fe.2.2.2.2.2.2.2.2.2.2.2.2.2.2.1
      have e11 : rd S 611 x = z.2.2 7 := by rw [← hzx]; exact fe.2.2.2.2.2.2.2.2.2.1
      have uz : ∀ y ∈ Z n, y.2.1 = x → nmb y = nmb z := fun y hy vx => by
        have e7 : y.2.2 7 = z.2.2 7 := by rw [← (z2 y hy).2.2.2.2.2.2.2.2.2.1, ← e11, vx]
        unfold nmb
        rw [e7]
      have us : ∀ y ∈ Z n, y.2.1 = x → y.2.2 10 = z.2.2 10 := fun y hy vx => by
        rw [← (z2 y hy).2.2.2.2.2.2.2.2.2.2.2.2.2.2.1, ← e12, vx]
      have n9 : m_c1 .eq (rd S 609 x) = false := by simp [m_c1, w9]
      rw [n9, cond_false, e12, e11] at unf
      by_cases wo : S.1 36 - z.2.2 10 < 10
      · refine skip (by rw [unf, show m_c2 .lt (S.1 36 - z.2.2 10) (10 : Int32) = true by simp [m_c2, wo]]; rfl) (fun y hy hyx hyo => ?_)
        unfold ovd at hyo
        rw [us y hy hyx] at hyo
        exact absurd wo hyo
      · rw [show m_c2 .lt (S.1 36 - z.2.2 10) (10 : Int32) = false by simp [m_c2, wo], cond_false] at unf
        have take : D_m_lapse_15 F rec2 (g + 1) (Int32.ofNat n) x2 (Int32.ofNat x) S = D_m_lapse_15 F rec2 g (Int32.ofNat n) (Int32.ofNat x) (Int32.ofNat (x + 1)) S → (∀ y ∈ Z n, y.2.1 < x → ovd S y → nmb z ≤ nmb y) → ∃ x2', D_m_lapse_15 F rec2 (g + 1) (Int32.ofNat n) x2 (Int32.ofNat x) S = lapEnd F rec2 (Int32.ofNat n) x2' S ∧ lapI S (Z n) n (128 * n + 128) x2' := by
          intro hs hm
          rw [hs]
          refine ih (x + 1) (Int32.ofNat x) (by omega) (by omega) (Or.inr ⟨z, hz, by rw [hzx], by omega, wo, fun y hy hyx hyo => ?_⟩) g (by omega)
          by_cases v : y.2.1 < x
          · exact hm y hy v hyo
          · rw [uz y hy (by omega)]
            exact Nat.le_refl _
        rcases hi with ⟨q1', q2'⟩ | ⟨z0, q1', q2', q3', q4', q5'⟩
        · subst q1'
          exact take (by rw [unf]; rfl) (fun y hy hyx hyo => absurd hyo (q2' y hy hyx))
        · have fe0 := z2 z0 q1'
          obtain ⟨_, ⟨pp, v, hp, hv, ef, _⟩, _⟩ := id fe0
          have ne1 : m_c2 .eq x2 (-1) = false := by rw [q2']; exact ofNat_ne_m1 (by omega)
          have a30 : aget 0 896 S 611 x2 = some (z0.2.2 7) := by
            rw [q2']
            refine (aget_n (Or.inl rfl) (by omega) (by decide)).trans ?_
            rw [fe0.2.2.2.2.2.2.2.2.2.1]
          rw [ne1, cond_false, a30, Option.bind_some] at unf
          obtain ⟨k, k1', k2', k3'⟩ := nat7 z hz
          obtain ⟨l, l1, l2, l3⟩ := nat7 z0 q1'
          rw [k2', l2, ge_n (by omega) (by omega)] at unf
          by_cases w : l ≤ k
          · refine skip (by rw [unf, decide_eq_true w]; rfl) (fun y hy hyx hyo => ⟨z0, q1', q2', q3', q4', q5', ?_⟩)
            rw [uz y hy hyx, k3', l3]
            exact w
          · refine take (by rw [unf, decide_eq_false w]; rfl) (fun y hy hyx hyo => ?_)
            have := q5' y hy hyx hyo
            omega
theorem lapse_loop (hF : 4001 ≤ F) (hI : Clo I) (cL : ClLet I) (cO : FaOv I) (h1 : 1 ≤ n) (h2 : n < 7) : ∀ (m : Nat) (T : tT) (S : mS) (Z : Nat → List Fz) (Q : List Rq) (k1 k2 : Nat) (x2 : Int32), (Z n).length ≤ m → RA I T S X Y Z Q [] [] 0 rs c k1 k2 → ¬ x2 = -1 → ∀ f g, m < f → m + 1 < g → ∃ T' S' Z' Q' k1' k2', D_c_EdgeHouse_endOverdue_0 F f 512 (some (527 + 8 * n)) T = some T' ∧ D_m_lapse_2 F g (Int32.ofNat n) x2 S = some S' ∧ RA I T' S' X Y Z' Q' [] [] 0 rs c k1' k2' := by
  intro m
  induction m with
  | zero =>
    intro T S Z Q k1 k2 x2 hm h hx f g hf hg
    obtain ⟨f, rfl⟩ : ∃ y, f = y + 1 := ⟨f - 1, by omega⟩
    obtain ⟨g, rfl⟩ : ∃ y, g = y + 1 + 1 := ⟨g - 2, by omega⟩
    obtain ⟨hR, hcost, hIv⟩ := id h
    have z0 : Z n = [] := List.length_eq_zero_iff.mp (by omega)
    obtain ⟨⟨cp, hl⟩, _⟩ := hR.2.2.2.2.2.2.1.1 n h1 h2
    have hnode := (hR.2.2.2.2.1.2.1 n h1 h2).1
    have e42 : tgr T (527 + 8 * n) 4 2 = some (some (531 + 8 * n)) := tgr_o (x := some (531 + 8 * n)) hnode rfl
    obtain ⟨x2', y1, y2⟩ := m_lapse_15 (F := F) (rec2 := D_m_lapse_2 F (g + 1)) hR.2.2.2.2.2.2.1 h1 h2 128 (128 * n) (-1) rfl (Nat.le_refl _) (Or.inl ⟨rfl, fun z hz => by rw [z0] at hz; cases hz⟩) F (by omega)
    have x21 : x2' = -1 := by
      rcases y2 with ⟨q, _⟩ | ⟨z, q, _⟩
      · exact q
      · rw [z0] at q; cases q
    subst x21
    refine ⟨T, S, Z, Q, k1, k2, ?_, ?_, h⟩
    · rw [z0] at hl
      have le : tle T (531 + 8 * n) = some 1 := by simp only [tle, tl, hl]; rfl
      unfold D_c_EdgeHouse_endOverdue_0
      simp only [Option.bind_some, e42, le]
      rfl
    · unfold D_m_lapse_2
      rw [show m_c2 .eq x2 (-1) = false by simp [m_c2, hx], cond_false, k128, y1]
      rfl
  | succ m ih =>
    intro T S Z Q k1 k2 x2 hm h hx f g hf hg
    obtain ⟨f, rfl⟩ : ∃ y, f = y + 1 := ⟨f - 1, by omega⟩
    obtain ⟨g, rfl⟩ : ∃ y, g = y + 1 + 1 := ⟨g - 2, by omega⟩
    obtain ⟨hR, hcost, hIv⟩ := id h
    obtain ⟨⟨cp, hl⟩, z2, z3, z4⟩ := hR.2.2.2.2.2.2.1.1 n h1 h2
    have hnode := (hR.2.2.2.2.1.2.1 n h1 h2).1
    have hH : T.1 512 = some (house S.1) := hR.2.1
    have e42 : tgr T (527 + 8 * n) 4 2 = some (some (531 + 8 * n)) := tgr_o (x := some (531 + 8 * n)) hnode rfl
    obtain ⟨x2', y1, y2⟩ := m_lapse_15 (F := F) (rec2 := D_m_lapse_2 F (g + 1)) hR.2.2.2.2.2.2.1 h1 h2 128 (128 * n) (-1) rfl (Nat.le_refl _) (Or.inl ⟨rfl, fun z hz hlt => by
      obtain ⟨_, ⟨p, v, hp, hv, e, _⟩, _⟩ := z2 z hz
      omega⟩) F (by omega)
    have mst : D_m_lapse_2 F (g + 1 + 1) (Int32.ofNat n) x2 S = lapEnd F (D_m_lapse_2 F (g + 1)) (Int32.ofNat n) x2' S := by
      conv => lhs; unfold D_m_lapse_2
      rw [show m_c2 .eq x2 (-1) = false by simp [m_c2, hx], cond_false, k128, y1]
    have none' : x2' = -1 → D_m_lapse_2 F (g + 1 + 1) (Int32.ofNat n) x2 S = some S := fun w => by
      rw [mst, w]
      rfl
    obtain ⟨tc, tc1, tc2, tc3⟩ := cO _ _ _ _ _ _ _ _ hIv
    have tc1 : S.1 36 = Int32.ofNat tc := tc1
    obtain ⟨ss1, ss2⟩ := tc3 n h1 h2
    cases hZ : Z n with
    | nil =>
      have x21 : x2' = -1 := by
        rcases y2 with ⟨q, _⟩ | ⟨z, q, _⟩
        · exact q
        · rw [hZ] at q; cases q
      refine ⟨T, S, Z, Q, k1, k2, ?_, none' x21, h⟩
      rw [hZ] at hl
      have le : tle T (531 + 8 * n) = some 1 := by simp only [tle, tl, hl]; rfl
      unfold D_c_EdgeHouse_endOverdue_0
      simp only [Option.bind_some, e42, le]
      rfl
    | cons z L =>
      have hz : z ∈ Z n := by rw [hZ]; exact List.mem_cons_self
      have hz0 : (Z n)[0]? = some z := by rw [hZ]; rfl
      have fe := z2 z hz
      have le : tle T (531 + 8 * n) = some 0 := by
        have : ¬ List.map Prod.fst (Z n) = [] := by rw [hZ]; exact fun w => by cases w
        simp only [tle, tl, hl, Option.map_some, if_neg this]
      have lg : tlg T (531 + 8 * n) (0 : Int32) = some z.1 := by
        simp only [tlg, tl, hl, Option.bind_some, hZ]
        rfl
      have s10 : tgi T z.1 10 10 = some (z.2.2 10) := (Fg10 fe.1).trans rfl
      have cst : D_c_EdgeHouse_endOverdue_0 F (f + 1) 512 (some (527 + 8 * n)) T = cond (m_c2 .lt (S.1 36 - z.2.2 10) (10 : Int32)) (some T) (bd2 (tlr T (531 + 8 * n) (0 : Int32)) fun b44 T45 => (tcc T45 (some b44) 10).bind fun _ => (tgi T45 (527 + 8 * n) 4 0).bind fun v51 => (D_c_EdgeHouse_isEdge F v51 T45).bind fun v54 => cond (m_c1 .eq v54) (D_c_EdgeHouse_endOverdue_68 F (D_c_EdgeHouse_endOverdue_0 F f) 512 (some (527 + 8 * n)) (some b44) T45) ((tgi T45 b44 10 8).bind fun v64 => (tgi T45 512 0 14).bind fun v67 => (tcl T45 (527 + 8 * n) 4).bind fun _ => (D_c_Node_strike F (527 + 8 * n) v64 v67 T45).bind fun T73 => D_c_EdgeHouse_endOverdue_68 F (D_c_EdgeHouse_endOverdue_0 F f) 512 (some (527 + 8 * n)) (some b44) T73)) := by
        conv => lhs; unfold D_c_EdgeHouse_endOverdue_0
        simp only [Option.bind_some, e42, le, show m_c1 .ne (0 : Int32) = false from rfl, cond_false, Hg14 hH, lg, tcc, tcl_o fe.1, s10]
      have sub_n : ∀ s, s ≤ tc → Int32.ofNat tc - Int32.ofNat s = Int32.ofNat (tc - s) := fun s hs => m_n_sub hs
      have ov_iff : ∀ y ∈ Z n, ∃ s, s ≤ tc ∧ y.2.2 10 = Int32.ofNat s ∧ (ovd S y ↔ 10 ≤ tc - s) := fun y hy => by
        obtain ⟨s, s1, s2⟩ := ss1 y hy
        refine ⟨s, s1, s2, ?_⟩
        unfold ovd
        rw [tc1, s2, sub_n s s1]
        have := @i_lt (tc - s) 10 (by show tc - s < 2147483648; omega) (by decide)
        constructor
        · intro w
          exact Nat.le_of_not_lt (fun q => w (this.mpr q))
        · intro w q
          have := this.mp q
          omega
      obtain ⟨s, s1, s2, s3⟩ := ov_iff z hz
      by_cases wo : S.1 36 - z.2.2 10 < 10
      · -- none is overdue
        have x21 : x2' = -1 := by
          rcases y2 with ⟨q, _⟩ | ⟨z0, q1', q2', q3', q4', q5'⟩
          · exact q
          · exfalso
            have nz : ¬ ovd S z := fun w => w wo
            obtain ⟨s', v1, v2, v3⟩ := ov_iff z0 q1'
            have le' : z.2.2 10 ≤ z0.2.2 10 := by
              rw [hZ] at q1' ss2
              rcases List.mem_cons.mp q1' with q | q
              · rw [q]; exact Int32.le_refl _
              · exact (List.pairwise_cons.mp ss2).1 z0 q
            rw [s2, v2] at le'
            have := (@i_le s s' (by show s < 2147483648; omega) (by show s' < 2147483648; omega)).mp le'
            have w1 := v3.mp q4'
            exact nz (s3.mpr (by omega))
        refine ⟨T, S, Z, Q, k1, k2, ?_, none' x21, h⟩
        rw [cst, show m_c2 .lt (S.1 36 - z.2.2 10) (10 : Int32) = true by simp [m_c2, wo], cond_true]
      · -- the first is overdue
        rw [show m_c2 .lt (S.1 36 - z.2.2 10) (10 : Int32) = false by simp [m_c2, wo], cond_false] at cst
        have x2z : x2' = Int32.ofNat z.2.1 := by
          obtain ⟨_, ⟨p, v, hp, hv, ef, _⟩, _⟩ := id fe
          rcases y2 with ⟨_, q⟩ | ⟨z0, q1', q2', q3', q4', q5'⟩
          · exact absurd wo (q z hz (by omega))
          · have := q5' z hz (by omega) wo
            rw [hZ] at q1' z3
            rcases List.mem_cons.mp q1' with q | q
            · rw [q2', q]
            · have := (List.pairwise_cons.mp z3).1 z0 q
              omega
        obtain ⟨fc, ⟨p, v, hp, hv, ef, _⟩, _⟩ := id fe
        obtain ⟨u1, u2, u3, u4⟩ := hR.unlist h1 h2 hz0 hl
        have er : (Z n).eraseIdx 0 = L := by rw [hZ]; rfl
        have lr : tlr T (531 + 8 * n) (0 : Int32) = some (z.1, tset T (531 + 8 * n) (.inr (.inr (cp, ((Z n).eraseIdx 0).map Prod.fst)))) := by
          simp only [tlr, tl, hl, Option.bind_some]
          rw [hZ]
          rfl
        obtain ⟨T45, hT45⟩ : ∃ x, x = tset T (531 + 8 * n) (.inr (.inr (cp, ((Z n).eraseIdx 0).map Prod.fst))) := ⟨_, rfl⟩
        rw [← hT45] at u1 u2 u3 lr
        have fc45 : T45.1 z.1 = some (cFetch (fup z.2.2 11 (Int32.ofNat (ch Q z.2.1).length)) (ch Q z.2.1).head? (ch Q z.2.1).getLast?) := u3 _ _ fc (show ¬ (10 : Nat) = 21 by decide)
        have no45 : T45.1 (527 + 8 * n) = some (nodeC S n) := u3 _ _ hnode (show ¬ (4 : Nat) = 21 by decide)
        have n0 : tgi T45 (527 + 8 * n) 4 0 = some (Int32.ofNat n) := tgi_o no45 rfl
        have cost45 := cost_step hcost u2 hR.1
        have md : Int32.ofNat z.2.1 - Int32.ofNat z.2.1 / (128 : Int32) * (128 : Int32) = Int32.ofNat (4 * p + v) := by
          rw [show Int32.ofNat z.2.1 / (128 : Int32) = Int32.ofNat (z.2.1 / 128) from m_n_div (b := 128) (by show z.2.1 < 2147483648; omega) (by show 128 < 2147483648; omega), Int32.mul_comm, k128, m_n_sub (by omega)]
          congr 1
          omega
        have zd : (zDel Z n 0 n).length ≤ m := by
          unfold zDel
          rw [if_pos rfl, er]
          rw [hZ] at hm
          simp at hm
          exact hm
        have goOn : ∀ (T73 : tT) (S10 : mS), RBx T73 S10 X Y (zDel Z n 0) Q rs c z.2.1 → (T73.2.1 ≤ k1 + capS T73 ∧ T73.2.2 ≤ k2 + 4 * capS T73) → vM S10 = vM S → vE S10 = vE S → vS S10 = vS S → T73.1 z.1 = some (cFetch (fup z.2.2 11 (Int32.ofNat (ch Q z.2.1).length)) (ch Q z.2.1).head? (ch Q z.2.1).getLast?) → ∃ T' S' Z' Q' k1' k2', D_c_EdgeHouse_endOverdue_68 F (D_c_EdgeHouse_endOverdue_0 F f) 512 (some (527 + 8 * n)) (some z.1) T73 = some T' ∧ D_m_lapse_105 F (D_m_lapse_2 F (g + 1)) (Int32.ofNat n) (Int32.ofNat z.2.1) S10 = some S' ∧ RA I T' S' X Y Z' Q' [] [] 0 rs c k1' k2' := by
          intro T73 S10 hx73 hc73 vm ve vs f73
          obtain ⟨T', S', q1', q2', v1, v2, v3⟩ := P_failAll (F := F) hF hI cL hp hv h1 h2 hz0 ef hx73 u4 hc73 (by rw [vm, ve, vs]; exact hIv)
          obtain ⟨T'', S'', Z'', Q'', l1, l2, w1, w2, w3⟩ := ih T' S' (zDel Z n 0) (qOut Q z.2.1) q1' q2' (Int32.ofNat z.2.1) zd v3 (fun w => by have := ofNat_ne_m1 (show z.2.1 < 2147483648 by omega); rw [w] at this; exact absurd this (by decide)) f (g + 1) (by omega) (by omega)
          refine ⟨T'', S'', Z'', Q'', l1, l2, ?_, ?_, w3⟩
          · unfold D_c_EdgeHouse_endOverdue_68
            simp only [Option.bind_some, Fr12 f73, tcl_o (show T73.1 512 = some (house S10.1) from hx73.1.2.1), v1]
            exact w1
          · unfold D_m_lapse_105
            rw [md, v2, Option.bind_some]
            exact w2
        have neX : m_c2 .ne (Int32.ofNat z.2.1) (-1) = true := by
          have := ofNat_ne_m1 (show z.2.1 < 2147483648 by omega)
          simp only [m_c2] at this ⊢
          simpa using this
        rw [x2z] at mst
        have mst2 : D_m_lapse_2 F (g + 1 + 1) (Int32.ofNat n) x2 S = cond (m_c2 .le (Int32.ofNat n) (2 : Int32)) (D_m_lapse_105 F (D_m_lapse_2 F (g + 1)) (Int32.ofNat n) (Int32.ofNat z.2.1) S) ((aget 0 896 S 617 (Int32.ofNat z.2.1)).bind fun v8 => (D_m_strike F (Int32.ofNat n) v8 S).bind fun S10 => D_m_lapse_105 F (D_m_lapse_2 F (g + 1)) (Int32.ofNat n) (Int32.ofNat z.2.1) S10) := by
          rw [mst]
          unfold lapEnd
          rw [neX, cond_true]
        have isE : D_c_EdgeHouse_isEdge F (Int32.ofNat n) T45 = some (if n < 3 then 0 else 1) := by
          unfold D_c_EdgeHouse_isEdge
          rw [show m_c2 .lt (Int32.ofNat n) (3 : Int32) = decide (n < 3) from lt_n (by omega) (by decide), show m_c2 .gt (Int32.ofNat n) (6 : Int32) = decide (6 < n) from gt_n (by omega) (by decide), decide_eq_false (show ¬ 6 < n by omega)]
          by_cases w : n < 3
          · rw [decide_eq_true w, if_pos w]; rfl
          · rw [decide_eq_false w, if_neg w]; rfl
        have cst2 : D_c_EdgeHouse_endOverdue_0 F (f + 1) 512 (some (527 + 8 * n)) T = cond (m_c1 .eq (if n < 3 then (0 : Int32) else 1)) (D_c_EdgeHouse_endOverdue_68 F (D_c_EdgeHouse_endOverdue_0 F f) 512 (some (527 + 8 * n)) (some z.1) T45) ((D_c_Node_strike F (527 + 8 * n) (z.2.2 8) (S.1 36) T45).bind fun T73 => D_c_EdgeHouse_endOverdue_68 F (D_c_EdgeHouse_endOverdue_0 F f) 512 (some (527 + 8 * n)) (some z.1) T73) := by
          have g8 : tgi T45 z.1 10 8 = some (z.2.2 8) := (Fg8 fc45).trans rfl
          rw [cst]
          simp only [bd2, lr, Option.bind_some, tcc, tcl_o fc45, n0, isE, g8, Hg14 (show T45.1 512 = some (house S.1) from u1.1.2.1), tcl_o no45]
        by_cases w3 : n < 3
        · rw [if_pos w3, show m_c1 .eq (0 : Int32) = true from rfl, cond_true] at cst2
          rw [show m_c2 .le (Int32.ofNat n) (2 : Int32) = decide (n ≤ 2) from le_n (by omega) (by decide), decide_eq_true (by omega), cond_true] at mst2
          obtain ⟨T', S', Z', Q', l1, l2, w1, w2, w4⟩ := goOn T45 S u1 (by exact ⟨by omega, by omega⟩) rfl rfl rfl fc45
          exact ⟨T', S', Z', Q', l1, l2, cst2.trans w1, mst2.trans w2, w4⟩
        · rw [if_neg w3, show m_c1 .eq (1 : Int32) = false from rfl, cond_false] at cst2
          rw [show m_c2 .le (Int32.ofNat n) (2 : Int32) = decide (n ≤ 2) from le_n (by omega) (by decide), decide_eq_false (by omega), cond_false] at mst2
          obtain ⟨pr, pr1, pr2⟩ : ∃ pr, (pr = 1 ∨ pr = 2) ∧ z.2.2 8 = Int32.ofNat pr := by
            rcases fe.2.2.2.2.2.2.2.2.2.2.2.2.1 with q | q | q
            · omega
            · exact ⟨1, Or.inl rfl, q⟩
            · exact ⟨2, Or.inr rfl, q⟩
          have a617 : aget 0 896 S 617 (Int32.ofNat z.2.1) = some (Int32.ofNat pr) := by
            refine (aget_n (Or.inl rfl) (by omega) (by decide)).trans ?_
            rw [fe.2.2.2.2.2.2.2.2.2.2.2.1, pr2]
          rw [a617, Option.bind_some] at mst2
          rw [pr2] at cst2
          obtain ⟨T73, S10, t1, t2, t3, t4, t5, t6, t7⟩ := u1.strike (F := F) (n := n) (p := pr) (by omega) h2 pr1
          rw [t1, Option.bind_some] at cst2
          rw [t2, Option.bind_some] at mst2
          have ag : ∀ as is, (∀ a ∈ as, ¬ a = 618 ∧ ¬ a = 619) → Ag as is S S10 := fun as is q => ⟨fun a ha k => t6 a k (q a ha).1 (q a ha).2, fun i _ => t7 i⟩
          have cost73 := cost_step cost45 t4 u1.1.1
          obtain ⟨T', S', Z', Q', l1, l2, w1, w2, w4⟩ := goOn T73 S10 t3 (by exact ⟨by omega, by omega⟩) (vM_ag (ag _ _ (by decide))) (vE_ag (ag _ _ (by decide))) (vS_ag (ag _ _ (by decide))) (t5 _ _ fc45 (show ¬ (10 : Nat) = 20 by decide))
          exact ⟨T', S', Z', Q', l1, l2, cst2.trans w1, mst2.trans w2, w4⟩
end
