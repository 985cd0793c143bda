/-! balance and trim, to their ends. -/
/-- what both leave behind -/
def Bal (T : tT) (S : mS) (n U : Nat) (X Y : List (Nat × Nat)) (Z : List Nat) (T' : tT) (S' : mS) (X' Y' : List (Nat × Nat)) (U' : Nat) : Prop := RS T' S' n X' Y' ∧ RTn S' U' ∧ U' + Y'.length ≤ U + Y.length ∧ FrT n Z T T' ∧ FrS n S S' ∧ (∀ q, q ∈ X' ∨ q ∈ Y' → q ∈ X ∨ q ∈ Y) ∧ (∀ a ∈ Z, ∃ q ∈ Y, q.1 = a)
section
variable {F n : Nat}
theorem oI_ne {e : Nat} (h : e < 7168) : ¬ Int32.ofNat e = (-1 : Int32) := by
  intro z
  have := congrArg Int32.toInt z
  rw [Int32.toInt_ofNat_of_lt (by omega)] at this
  have h9 : (-1 : Int32).toInt = -1 := by decide
  omega
theorem RS.stC {T : tT} {S : mS} {X Y : List (Nat × Nat)} (h : RS T S n X Y) : tcl T (528 + 8 * n) 5 = some () ∧ tgr T (528 + 8 * n) 5 0 = some (some (529 + 8 * n)) ∧ tgr T (528 + 8 * n) 5 1 = some (some (530 + 8 * n)) ∧ tgi T (528 + 8 * n) 5 2 = some (rd S 592 n) ∧ tls T (529 + 8 * n) = some (Int32.ofNat X.length) ∧ tls T (530 + 8 * n) = some (Int32.ofNat Y.length) ∧ tle T (529 + 8 * n) = some (if X = [] then 1 else 0) ∧ tle T (530 + 8 * n) = some (if Y = [] then 1 else 0) := by
  obtain ⟨hn, h2, ⟨cX, h3⟩, ⟨cY, h4⟩, -⟩ := h
  refine ⟨tcl_o h2, tgr_o (x := some _) h2 rfl, tgr_o (x := some _) h2 rfl, tgi_o h2 rfl, ?_, ?_, ?_, ?_⟩
  · simp only [tls, tl, h3, Option.map_some, List.length_map]
  · simp only [tls, tl, h4, Option.map_some, List.length_map]
  · simp only [tle, tl, h3, Option.map_some, List.map_eq_nil_iff]
  · simp only [tle, tl, h4, Option.map_some, List.map_eq_nil_iff]
theorem RS.count {T : tT} {S : mS} {X Y : List (Nat × Nat)} (h : RS T S n X Y) : D_c_Store_count F (528 + 8 * n) T = some (Int32.ofNat (X.length + Y.length)) := by
  obtain ⟨-, e2, e3, -, e5, e6, -, -⟩ := h.stC
  simp only [D_c_Store_count, e2, e3, e5, e6, Option.bind_some, m_n_add]
theorem bal2 (hF : 1100 ≤ F) : ∀ (m : Nat) (X Y : List (Nat × Nat)) (T : tT) (S : mS) (U : Nat), X.length + Y.length = m → m < 400 → RS T S n X Y → RTn S U → U < 2147483648 → ∀ f g, m < f → m < g → ∃ T' S' X' Y' U', D_c_Store_balance_76 F f (528 + 8 * n) (Int32.ofNat (sumz S X + sumz S Y)) T = some T' ∧ D_m_trim_39 F g (Int32.ofNat n) S = some S' ∧ Bal T S n U X Y [] T' S' X' Y' U' ∧ X'.length + Y'.length ≤ 125 := by
  intro m
  induction m with
  | zero =>
    intro X Y T S U hm h4 h hU hU2 f g hf hg
    obtain ⟨f, rfl⟩ : ∃ f9, f = f9 + 1 := ⟨f - 1, by omega⟩
    obtain ⟨g, rfl⟩ : ∃ f9, g = f9 + 1 := ⟨g - 1, by omega⟩
    have hX : X = [] := List.eq_nil_of_length_eq_zero (by omega)
    have hY : Y = [] := List.eq_nil_of_length_eq_zero (by omega)
    subst hX hY
    obtain ⟨e1, -⟩ := h.stC
    obtain ⟨b, b1, b2, b3⟩ := h.2.2.2.2.2.2.2.2.2
    refine ⟨T, S, [], [], U, ?_, ?_, ⟨h, hU, Nat.le_refl _, FrT.refl, FrS.refl, fun q hq => hq, fun a ha => by cases ha⟩, by decide⟩
    · rw [D_c_Store_balance_76]
      simp only [e1, h.count, Option.bind_some]
      rfl
    · rw [D_m_trim_39, show (0 : Int32) = b2i false from rfl, m_sizes (by omega) h.1.2, Option.bind_some, aget_n (Or.inl rfl) (by have := h.1.2; omega) (by decide), Option.bind_some, h.sizes.2, b3]
      show cond (m_c2 .le (Int32.ofNat 0) (Int32.ofNat b)) _ _ = _
      rw [le_n (by omega) (by omega), decide_eq_true (by omega), cond_true]
  | succ m ih =>
    intro X Y T S U hm h4 h hU hU2 f g hf hg
    obtain ⟨f, rfl⟩ : ∃ f9, f = f9 + 1 := ⟨f - 1, by omega⟩
    obtain ⟨g, rfl⟩ : ∃ f9, g = f9 + 1 := ⟨g - 1, by omega⟩
    obtain ⟨e1, e2, e3, e4, e5, e6, e7, e8⟩ := h.stC
    obtain ⟨b, b1, b2, b3⟩ := h.2.2.2.2.2.2.2.2.2
    have hn := h.1.2
    have s1 := @sumz_le S X
    have s2 := @sumz_le S Y
    rw [D_c_Store_balance_76, D_m_trim_39, show D_m_sizes F (Int32.ofNat n) (0 : Int32) S = _ from m_sizes (by omega) hn false, Option.bind_some, aget_n (Or.inl rfl) (by omega) (by decide), Option.bind_some, h.sizes.2, b3]
    simp only [e1, h.count, Option.bind_some, e4, b3]
    rw [m_c1n (r := false) (by omega) (show m_cn .le (X.length + Y.length) 0 = false from decide_eq_false (by omega)), cond_false, le_n (by omega) (by omega)]
    by_cases hb : sumz S X + sumz S Y ≤ b
    · rw [decide_eq_true hb, cond_true, cond_true]
      exact ⟨T, S, X, Y, U, rfl, rfl, ⟨h, hU, Nat.le_refl _, FrT.refl, FrS.refl, fun q hq => hq, fun a ha => by cases ha⟩, by omega⟩
    · rw [decide_eq_false hb, cond_false, cond_false, h.oldN hU hU2 (by omega), Option.bind_some, h.oldK hU hU2 (by omega)]
      simp only [e2, e3, e7, Option.bind_some]
      cases X with
      | cons q X =>
        obtain ⟨T1, d1, d2, d3, d4, d5, d6, d7, d8, d9⟩ := RS.dropX (F := F) h
        have hq : q.2 < 7168 := ((h.2.2.2.2.1 q List.mem_cons_self).rng hn).2.2
        have sz1 := (sz_eq (rd S 607 q.2)).2
        have sx : sumz (up2 S 601 q.2 0) X = sumz S X := sumz_ext (fun k => by rw [rd_up2, if_neg (by omega)])
        have sy : sumz (up2 S 601 q.2 0) Y = sumz S Y := sumz_ext (fun k => by rw [rd_up2, if_neg (by omega)])
        obtain ⟨T', S', X', Y', U', i1, i2, ⟨i3, i4, i5, i6, i7, i8, i9⟩, i10⟩ := ih X Y T1 (up2 S 601 q.2 0) U (by rw [List.length_cons] at hm; omega) (by omega) d6 (d7 U hU) hU2 f g (by omega) (by omega)
        refine ⟨T', S', X', Y', U', ?_, ?_, ⟨i3, i4, i5, d8.trans i6, d9.trans i7, fun r hr => ?_, i9⟩, i10⟩
        · simp only [show ¬ (q :: X = []) by simp, if_false, show m_c1 .eq (0 : Int32) = true from rfl, cond_true, bd2, d1, Option.bind_some, d2, D_c_Store_balance_126, d3, d4]
          rw [sumz_cons, m_n_sub (by omega), show sz (rd S 607 q.2) + sumz S X + sumz S Y - sz (rd S 607 q.2) = sumz (up2 S 601 q.2 0) X + sumz (up2 S 601 q.2 0) Y by rw [sx, sy]; omega]
          exact i1
        · show ((cond (m_c2 .ne (Int32.ofNat q.2) (-1)) (some (Int32.ofNat q.2)) _).bind fun v24 => (bput 7168 S 601 v24 0).bind fun S25 => D_m_trim_39 F g (Int32.ofNat n) S25) = some S'
          rw [show m_c2 .ne (Int32.ofNat q.2) (-1) = true from decide_eq_true (oI_ne hq), cond_true, Option.bind_some, d5, Option.bind_some]
          exact i2
        · rcases i8 r hr with z | z
          · exact Or.inl (List.mem_cons_of_mem _ z)
          · exact Or.inr z
      | nil =>
        cases Y with
        | nil => simp at hm
        | cons q Y =>
          obtain ⟨T1, d1, d2, d3, d4, d5, d6, d7, d8, d9⟩ := RS.dropY (F := F) h
          have hq : q.2 < 7168 := ((h.2.2.2.2.2.1 q List.mem_cons_self).rng hn).2.2
          have sz1 := (sz_eq (rd S 607 q.2)).2
          have sy : sumz (up2 S 601 q.2 0) Y = sumz S Y := sumz_ext (fun k => by rw [rd_up2, if_neg (by omega)])
          have sx : sumz (up2 S 601 q.2 0) [] = 0 := rfl
          obtain ⟨T', S', X', Y', U', i1, i2, ⟨i3, i4, i5, i6, i7, i8, i9⟩, i10⟩ := ih [] Y T1 (up2 S 601 q.2 0) U (by simp at hm ⊢; omega) (by omega) d6 (d7 U hU) hU2 f g (by omega) (by omega)
          refine ⟨T', S', X', Y', U', ?_, ?_, ⟨i3, i4, by rw [List.length_cons]; omega, d8.trans i6, d9.trans i7, fun r hr => ?_, fun a ha => ?_⟩, i10⟩
          · simp only [if_true, show m_c1 .eq (1 : Int32) = false from rfl, cond_false, bd2, d1, Option.bind_some, d2, D_c_Store_balance_126, d3, d4]
            rw [sumz_cons, show sumz S [] = 0 from rfl, Nat.zero_add, m_n_sub (by omega), show sz (rd S 607 q.2) + sumz S Y - sz (rd S 607 q.2) = sumz (up2 S 601 q.2 0) [] + sumz (up2 S 601 q.2 0) Y by rw [sx, sy]; omega]
            exact i1
          · show ((cond (m_c2 .ne (-1 : Int32) (-1)) (some (-1)) ((some (Int32.ofNat q.2)).bind fun v22 => some v22)).bind fun v24 => (bput 7168 S 601 v24 0).bind fun S25 => D_m_trim_39 F g (Int32.ofNat n) S25) = some S'
            rw [show m_c2 .ne (-1 : Int32) (-1) = false from rfl, cond_false, Option.bind_some, Option.bind_some, d5, Option.bind_some]
            exact i2
          · rcases i8 r hr with z | z
            · exact Or.inl z
            · exact Or.inr (List.mem_cons_of_mem _ z)
          · obtain ⟨r, hr, z⟩ := i9 a ha
            exact ⟨r, List.mem_cons_of_mem _ hr, z⟩
theorem half {b : Nat} (h : b ≤ 2000) : Int32.ofNat b >>> ((1 : Int32) &&& 31) = Int32.ofNat (b / 2) := by
  have k : (List.range 2001).all (fun N => decide (Int32.ofNat N >>> ((1 : Int32) &&& 31) = Int32.ofNat (N / 2))) = true := by decide +kernel
  exact of_decide_eq_true (List.all_eq_true.mp k b (List.mem_range.mpr (by omega)))
theorem bal1 (hF : 1100 ≤ F) : ∀ (Y X : List (Nat × Nat)) (T : tT) (S : mS) (U : Nat), X.length + Y.length < 366 → RS T S n X Y → RTn S U → U + Y.length < 2147483648 → ∀ f g, Y.length < f → Y.length < g → ∃ T' S' X' Y' U', D_c_Store_balance_20 F f (528 + 8 * n) (Int32.ofNat (sumz S Y)) (Int32.ofNat (sumz S X + sumz S Y)) T = some T' ∧ D_m_trim_0 F g (Int32.ofNat n) S = some S' ∧ Bal T S n U X Y (Y.map Prod.fst) T' S' X' Y' U' ∧ X'.length + Y'.length ≤ 125 := by
  intro Y
  induction Y with
  | nil =>
    intro X T S U hl h hU hU2 f g hf hg
    obtain ⟨f, rfl⟩ : ∃ f9, f = f9 + 1 := ⟨f - 1, by omega⟩
    obtain ⟨g, rfl⟩ : ∃ f9, g = f9 + 1 := ⟨g - 1, by omega⟩
    obtain ⟨e1, e2, e3, e4, e5, e6, e7, e8⟩ := h.stC
    obtain ⟨b, b1, b2, b3⟩ := h.2.2.2.2.2.2.2.2.2
    have hn := h.1.2
    rw [D_c_Store_balance_20, D_m_trim_0, show D_m_sizes F (Int32.ofNat n) (1 : Int32) S = _ from m_sizes (by omega) hn true, Option.bind_some, aget_n (Or.inl rfl) (by omega) (by decide), Option.bind_some, h.sizes.1, b3, show Int32.ofNat b / (2 : Int32) = Int32.ofNat (b / 2) from m_n_div (b := 2) (by unfold sm; omega) (by unfold sm; omega)]
    simp only [e3, e8, Option.bind_some, if_true, show m_c1 .ne (1 : Int32) = true from rfl, cond_true]
    rw [show sumz S [] = 0 from rfl, le_n (by omega) (by omega), decide_eq_true (by omega), cond_true]
    exact bal2 (F := F) hF X.length X [] T S U rfl (by simp at hl; omega) h hU (by simp at hU2; omega) F F (by simp at hl; omega) (by simp at hl; omega)
  | cons q Y ih =>
    intro X T S U hl h hU hU2 f g hf hg
    obtain ⟨f, rfl⟩ : ∃ f9, f = f9 + 1 := ⟨f - 1, by omega⟩
    obtain ⟨g, rfl⟩ : ∃ f9, g = f9 + 1 := ⟨g - 1, by omega⟩
    rw [List.length_cons] at hl hU2 hf hg
    obtain ⟨e1, e2, e3, e4, e5, e6, e7, e8⟩ := h.stC
    obtain ⟨b, b1, b2, b3⟩ := h.2.2.2.2.2.2.2.2.2
    have hn := h.1.2
    have s2 := @sumz_le S (q :: Y)
    rw [List.length_cons] at s2
    rw [D_c_Store_balance_20, D_m_trim_0, show D_m_sizes F (Int32.ofNat n) (1 : Int32) S = _ from m_sizes (by omega) hn true, Option.bind_some, aget_n (Or.inl rfl) (by omega) (by decide), Option.bind_some, h.sizes.1, b3, show Int32.ofNat b / (2 : Int32) = Int32.ofNat (b / 2) from m_n_div (b := 2) (by unfold sm; omega) (by unfold sm; omega)]
    simp only [e3, e8, e4, b3, half b2, Option.bind_some, show ¬ (q :: Y = []) by simp, if_false, show m_c1 .ne (0 : Int32) = false from rfl, cond_false]
    rw [le_n (by omega) (by omega)]
    by_cases hb : sumz S (q :: Y) ≤ b / 2
    · rw [decide_eq_true hb, cond_true, cond_true]
      obtain ⟨T', S', X', Y', U', i1, i2, ⟨i3, i4, i5, i6, i7, i8, i9⟩, i10⟩ := bal2 (F := F) hF (X.length + (q :: Y).length) X (q :: Y) T S U rfl (by simp; omega) h hU (by omega) F F (by simp; omega) (by simp; omega)
      refine ⟨T', S', X', Y', U', i1, i2, ⟨i3, i4, i5, i6.mono (fun a ha => by cases ha) (fun a ha _ => ?_), i7, i8, fun a ha => ?_⟩, i10⟩
      · obtain ⟨r, hr, rfl⟩ := List.mem_map.mp ha
        exact (h.addr (Or.inr hr)).2
      · obtain ⟨r, hr, rfl⟩ := List.mem_map.mp ha
        exact ⟨r, hr, rfl⟩
    · rw [decide_eq_false hb, cond_false, cond_false, h.oldK hU (by omega) (by omega), Option.bind_some]
      obtain ⟨T1, T2, T3, S3, v, d1, d2, d3, d4, d5, d6, d7, rfl, ⟨S1, d8, d9⟩, d10, d11, d12, d13⟩ := RS.move (F := F) h hU (by omega) (by omega) (by omega)
      have sz1 := (sz_eq (rd S 607 q.2)).2
      have se : ∀ k, rd S3 607 k = rd S 607 k := fun k => d13.2.1 607 k (by omega)
      obtain ⟨T', S', X', Y', U', i1, i2, ⟨i3, i4, i5, i6, i7, i8, i9⟩, i10⟩ := ih (X ++ [q]) T3 S3 (U + 1) (by rw [List.length_append]; simp; omega) d10 d11 (by omega) f g (by omega) (by omega)
      have hlist : ∀ a ∈ (q :: Y).map Prod.fst, ¬ a = 529 + 8 * n ∧ ¬ a = 530 + 8 * n := by
        intro a ha
        obtain ⟨r, hr, rfl⟩ := List.mem_map.mp ha
        exact (h.addr (Or.inr hr)).2
      refine ⟨T', S', X', Y', U', ?_, ?_, ⟨i3, i4, by rw [List.length_cons]; omega, (d12.mono (fun a ha => ?_) (fun a ha _ => hlist a ha)).trans (i6.mono (fun a ha => List.mem_cons_of_mem _ ha) (fun a ha _ => hlist a ha)), d13.trans i7, fun r hr => ?_, fun a ha => ?_⟩, i10⟩
      · simp only [bd2, d1, Option.bind_some, d2, d3, d4, d5, d6, d7]
        rw [sumz_cons, m_n_sub (by omega)]
        rw [sumz_ext se, sumz_app, sumz_cons, sumz_ext se, show sumz S3 [] = 0 from rfl, se] at i1
        rw [show sz (rd S 607 q.2) + sumz S Y - sz (rd S 607 q.2) = sumz S Y by omega, show sumz S X + (sz (rd S 607 q.2) + sumz S Y) = sumz S X + (sz (rd S 607 q.2) + 0) + sumz S Y by omega]
        exact i1
      · show ((bput 7168 S 602 (Int32.ofNat q.2) 0).bind fun S8 => (D_m_newest F (Int32.ofNat q.2) S8).bind fun S10 => D_m_trim_0 F g (Int32.ofNat n) S10) = some S'
        rw [d8, Option.bind_some, d9, Option.bind_some]
        exact i2
      · rw [List.mem_singleton.mp ha]
        exact List.mem_cons_self
      · rcases i8 r hr with z | z
        · rcases List.mem_append.mp z with z | z
          · exact Or.inl z
          · exact Or.inr (by rw [List.mem_singleton.mp z]; exact List.mem_cons_self)
        · exact Or.inr (List.mem_cons_of_mem _ z)
      · obtain ⟨r, hr, rfl⟩ := List.mem_map.mp ha
        exact ⟨r, hr, rfl⟩
/-- balance beside trim -/
theorem balance {T : tT} {S : mS} {X Y : List (Nat × Nat)} {U : Nat} (hF : 1100 ≤ F) (hl : X.length + Y.length < 366) (h : RS T S n X Y) (hU : RTn S U) (hU2 : U + Y.length < 2147483648) : ∃ T' S' X' Y' U', D_c_Store_balance F (528 + 8 * n) T = some T' ∧ D_m_trim F (Int32.ofNat n) S = some S' ∧ Bal T S n U X Y (Y.map Prod.fst) T' S' X' Y' U' ∧ X'.length + Y'.length ≤ 125 := by
  obtain ⟨T', S', X', Y', U', i1, i2, i3⟩ := bal1 hF Y X T S U hl h hU hU2 F F (by omega) (by omega)
  refine ⟨T', S', X', Y', U', ?_, i2, i3⟩
  obtain ⟨e1, e2, e3, -⟩ := h.stC
  obtain ⟨-, -, ⟨cX, h3⟩, ⟨cY, h4⟩, h5, h6, -⟩ := h
  simp only [D_c_Store_balance, e1, e2, e3, Option.bind_some, c_sizeOf0 (F := F) (by omega) h3 h5 (by omega), c_sizeOf0 (F := F) (by omega) h4 h6 (by omega), m_n_add]
  rw [Nat.add_comm (sumz S Y)]
  exact i1
end
