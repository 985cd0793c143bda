/-! lose, total, fault, drop. -/
theorem house_up {x : Nat → Int32} {k : Nat} {v : Int32} : house (fun i => if i = k then v else x i) = .inl (0, [.ref 513, .ref 517, .ref 518, .ref 519, .ref 520, .ref 521, .ref 522, .ref 523, .ref 524, .ref 525, .int (if 71 = k then v else x 71), .int (if 39 = k then v else x 39), .int (if 38 = k then v else x 38), .int (if 37 = k then v else x 37), .int (if 36 = k then v else x 36)]) := rfl
/-- a message stands as long as messages and things stand -/
theorem isMsg.same {T T' : tT} {a : Nat} {m : Nat → Int32} (h : isMsg T a m) (hS : Same [9, 13] T T') : isMsg T' a m := by
  obtain ⟨g, t, h1, h2, h3, h4, h5⟩ := h
  refine ⟨g, t, hS a _ h1 (show (9 : Nat) ∈ [9, 13] by decide), h2, h3, h4, ?_⟩
  rcases h5 with h5 | h5 | h5
  · exact Or.inl h5
  · refine Or.inr (Or.inl ?_)
    obtain ⟨q1, q2, q3, q4, q5, q6, q7, q8, q9⟩ := h5
    refine ⟨q1, q2, q3, q4, q5, q6, q7, q8, q9.imp id ?_⟩
    rintro ⟨b, z1, z2, z3⟩
    exact ⟨b, z1, hS b _ z2 (show (13 : Nat) ∈ [9, 13] by decide), z3⟩
  · exact Or.inr (Or.inr h5)
theorem isMsg.ext {T : tT} {a : Nat} {m m' : Nat → Int32} (h : isMsg T a m) (he : ∀ i, i < 22 → m' i = m i) : isMsg T a m' := by
  have e : m' = fun i => if i < 22 then m i else m' i := by
    funext i
    by_cases h1 : i < 22
    · rw [if_pos h1, he i h1]
    · rw [if_neg h1]
  obtain ⟨g, t, h1, h2, h3, h4, h5⟩ := h
  have hT : (fun i => m' (12 + i)) = fun i => if i < 10 then m (12 + i) else m' (12 + i) := by
    funext i
    by_cases h1 : i < 10
    · rw [if_pos h1, he _ (by omega)]
    · rw [if_neg h1]
  have hc : ∀ p, cTold p (fun i => m' (12 + i)) = cTold p (fun i => m (12 + i)) := by
    intro p
    simp only [cTold, he 12 (by omega), he 13 (by omega), he 14 (by omega), he 15 (by omega), he 16 (by omega), he 17 (by omega), he 18 (by omega), he 19 (by omega), he 20 (by omega), Nat.add_zero]
  have hk : okT (fun i => m (12 + i)) → okT (fun i => m' (12 + i)) := by
    unfold okT
    simp only [he 12 (by omega), he 13 (by omega), he 14 (by omega), he 15 (by omega), he 16 (by omega), he 17 (by omega), he 18 (by omega), he 19 (by omega), he 20 (by omega), Nat.add_zero]
    exact id
  refine ⟨g, t, h1, fun i hi => by rw [h2 i hi, he i (by omega)], by rw [h3, he 9 (by omega)], by rw [h4, he 8 (by omega)], ?_⟩
  rcases h5 with h5 | h5 | h5
  · refine Or.inl ?_
    unfold isM0 at h5 ⊢
    simp only [he 0 (by omega), he 1 (by omega), he 2 (by omega), he 4 (by omega), he 5 (by omega), he 6 (by omega), he 7 (by omega), he 9 (by omega), he 10 (by omega), he 21 (by omega)]
    exact h5
  · refine Or.inr (Or.inl ?_)
    unfold isM1 at h5 ⊢
    simp only [hc, he 0 (by omega), he 1 (by omega), he 2 (by omega), he 4 (by omega), he 5 (by omega), he 6 (by omega), he 7 (by omega), he 9 (by omega), he 10 (by omega), he 11 (by omega), he 12 (by omega), he 21 (by omega)]
    obtain ⟨q1, q2, q3, q4, q5, q6, q7, q8, q9⟩ := h5
    refine ⟨q1, q2, q3, q4, q5, q6, q7, q8, q9.imp id ?_⟩
    rintro ⟨b, z1, z2, z3, z4⟩
    exact ⟨b, z1, z2, hk z3, z4⟩
  · refine Or.inr (Or.inr ?_)
    unfold isM2 at h5 ⊢
    simp only [he 0 (by omega), he 1 (by omega), he 2 (by omega), he 3 (by omega), he 4 (by omega), he 5 (by omega), he 6 (by omega), he 7 (by omega), he 8 (by omega), he 9 (by omega), he 21 (by omega)]
    exact h5
/-- one message goes: the lists -/
theorem RPost.rem {T T' : tT} {S S' : mS} {n j cap : Nat} {ms : List Nat} (h1 : S.1 77 = Int32.ofNat (n + 1)) (hn : n < 100) (hl : ms.length = n + 1) (h5 : ∀ k a, ms[k]? = some a → isMsg T a (mRow S k)) (hS : Same [9, 13] T T') (hj : j ≤ n) (hT : T'.1 523 = some (.inr (.inr (cap, ms.eraseIdx j)))) (h7 : S'.1 77 = Int32.ofNat n) (hr : ∀ k, rd S' 624 k = if 22 * j ≤ k ∧ k < 22 * n then rd S 624 (k + 22) else rd S 624 k) : RPost T' S' := by
  refine ⟨n, cap, ms.eraseIdx j, h7, by omega, hT, by rw [List.length_eraseIdx_of_lt (by omega), hl]; rfl, fun k a ha => ?_⟩
  have hk : k < n := by
    have := (List.getElem?_eq_some_iff.mp ha).1
    rw [List.length_eraseIdx_of_lt (by omega)] at this
    omega
  rw [List.getElem?_eraseIdx] at ha
  by_cases hkj : k < j
  · rw [if_pos hkj] at ha
    refine ((h5 k a ha).same hS).ext (fun i hi => ?_)
    show rd S' 624 (22 * k + i) = rd S 624 (22 * k + i)
    rw [hr, if_neg (by omega)]
  · rw [if_neg hkj] at ha
    refine ((h5 (k + 1) a ha).same hS).ext (fun i hi => ?_)
    show rd S' 624 (22 * k + i) = rd S 624 (22 * (k + 1) + i)
    rw [hr, if_pos (by omega)]
    congr 1
    omega
section
variable {T : tT} {S : mS} {F : Nat} {x y : Int32}
theorem RHouse.r (hH : RHouse T S) (k : Nat) : tgr T 512 0 k = ((house S.1).elim (fun q => q.2[k]?) (fun _ => none)).bind vr := by
  simp only [tgr, tg, show T.1 512 = some (house S.1) from hH, house, if_true, Sum.elim_inl]
theorem RHouse.i (hH : RHouse T S) (k : Nat) : tgi T 512 0 k = ((house S.1).elim (fun q => q.2[k]?) (fun _ => none)).bind vi := by
  simp only [tgi, tg, show T.1 512 = some (house S.1) from hH, house, if_true, Sum.elim_inl]
theorem op_total (hH : RHouse T S) (hP : RPost T S) (hR : ∃ n cap rs, S.1 70 = Int32.ofNat n ∧ T.1 524 = some (.inr (.inr (cap, rs))) ∧ rs.length = n) : ∃ v, D_c_EdgeHouse_total F 512 x T = some v ∧ D_m_total F x S = some (v, up1 S 0 0) := by
  obtain ⟨n, cap, ms, h1, h2, h3, h4, h5⟩ := hP
  obtain ⟨n', cap', rs, r1, r2, r3⟩ := hR
  have e7 : tgr T 512 0 7 = some (some 523) := by rw [hH.r]; rfl
  have e8 : tgr T 512 0 8 = some (some 524) := by rw [hH.r]; rfl
  have i10 : tgi T 512 0 10 = some (S.1 71) := by rw [hH.i]; rfl
  have i11 : tgi T 512 0 11 = some (S.1 39) := by rw [hH.i]; rfl
  have i12 : tgi T 512 0 12 = some (S.1 38) := by rw [hH.i]; rfl
  have i13 : tgi T 512 0 13 = some (S.1 37) := by rw [hH.i]; rfl
  have i14 : tgi T 512 0 14 = some (S.1 36) := by rw [hH.i]; rfl
  have u : ∀ k, ¬ k = 0 → (up1 S 0 0).1 k = S.1 k := fun k hk => by rw [up1_1, if_neg hk]
  simp only [D_c_EdgeHouse_total, D_m_total, e7, e8, i10, i11, i12, i13, i14, List.getElem?_cons_succ, List.getElem?_cons_zero, List.getElem?_nil, Option.bind_some, Option.bind_none, if_true, Option.map_some, tls, tl, h3, r2, h4, r3, fput, u 77 (by decide), u 70 (by decide), u 71 (by decide), u 39 (by decide), u 38 (by decide), u 37 (by decide), u 36 (by decide), h1, r1]
  by_cases x0 : x = 0
  · simp [x0]
  · by_cases x1 : x = 1
    · simp [x1]
    · by_cases x2 : x = 2
      · simp [x2]
      · by_cases x3 : x = 3
        · simp [x3]
        · by_cases x4 : x = 4
          · simp [x4]
          · by_cases x5 : x = 5
            · simp [x5]
            · by_cases x6 : x = 6
              · simp [x6]
              · simp [x0, x1, x2, x3, x4, x5, x6]
/-- lose(k) -/
theorem op_lose (hF : 2201 ≤ F) (hH : RHouse T S) (hP : RPost T S) : ∃ v T' S', D_c_EdgeHouse_lose F 512 x T = some (v, T') ∧ D_m_lose F x S = some (v, S') ∧ RHouse T' S' ∧ RPost T' S' ∧ Same [1, 2, 3, 4, 5, 6, 7, 8, 9, 10, 11, 12, 13, 20] T T' ∧ (∀ b, ¬ b = 512 → ¬ b = 523 → T'.1 b = T.1 b) ∧ T'.2 = T.2 ∧ (∀ i, ¬ i = 0 → ¬ i = 77 → ¬ i = 39 → S'.1 i = S.1 i) ∧ ∀ a k, ¬ a = 624 → rd S' a k = rd S a k := by
  obtain ⟨n, cap, ms, h1, h2, h3, h4, h5⟩ := id hP
  have hH' : T.1 512 = some (house S.1) := hH
  have e7 : tgr T 512 0 7 = some (some 523) := by rw [hH.r]; rfl
  have eN : (up1 S 0 0).1 77 = Int32.ofNat n := h1
  have stay : ∃ v T' S', (some ((0 : Int32), T) : Option (Int32 × tT)) = some (v, T') ∧ (some ((0 : Int32), up1 S 0 0) : Option (Int32 × mS)) = some (v, S') ∧ RHouse T' S' ∧ RPost T' S' ∧ Same [1, 2, 3, 4, 5, 6, 7, 8, 9, 10, 11, 12, 13, 20] T T' ∧ (∀ b, ¬ b = 512 → ¬ b = 523 → T'.1 b = T.1 b) ∧ T'.2 = T.2 ∧ (∀ i, ¬ i = 0 → ¬ i = 77 → ¬ i = 39 → S'.1 i = S.1 i) ∧ ∀ a k, ¬ a = 624 → rd S' a k = rd S a k :=
    ⟨0, T, up1 S 0 0, rfl, rfl, hH', ⟨n, cap, ms, h1, h2, h3, h4, h5⟩, Same.refl, fun _ _ _ => rfl, rfl, fun i hi _ _ => by rw [up1_1, if_neg hi], fun _ _ _ => rfl⟩
  unfold D_c_EdgeHouse_lose D_m_lose
  rcases i_cases x with hx | ⟨k, hk, rfl⟩
  · simp only [c1_neg hx, cond_true, fput, Option.bind_some]
    exact stay
  · have ek : m_c1 .lt (Int32.ofNat k) = false := m_c1_ltf hk
    simp only [ek, cond_false, e7, List.getElem?_cons_succ, List.getElem?_cons_zero, List.getElem?_nil, Option.bind_some, Option.bind_none, if_true, Option.map_some, tls, tl, h3, h4, fput, eN]
    rw [lt_n hk (by omega)]
    by_cases hkn : k < n
    · obtain ⟨n, rfl⟩ : ∃ n9, n = n9 + 1 := ⟨n - 1, by omega⟩
      obtain ⟨b, hb⟩ : ∃ b, ms[k]? = some b := ⟨_, List.getElem?_eq_getElem (by omega)⟩
      have e9 : tlr T 523 (Int32.ofNat k) = some (b, tset T 523 (.inr (.inr (cap, ms.eraseIdx k)))) := by
        simp only [tlr, tl, h3, Option.bind_some]
        rw [if_neg (m_n_neg hk), m_n_cl hk, hb]
        rfl
      obtain ⟨S1, g1, g2, g3⟩ := m_remove (F := F) (S := up1 S 0 0) (n := n) (j := k) hF eN (by omega) (by omega)
      have hS : Same [1, 2, 3, 4, 5, 6, 7, 8, 9, 10, 11, 12, 13, 20] T (tset (tset T 523 (.inr (.inr (cap, ms.eraseIdx k)))) 512 (house (up1 S1 39 (S1.1 39 + 1)).1)) := by
        refine (Same.set h3 (show (21 : Nat) ∉ [1, 2, 3, 4, 5, 6, 7, 8, 9, 10, 11, 12, 13, 20] by decide)).trans (Same.set (a := 512) (c := house S.1) ?_ (show (0 : Nat) ∉ [1, 2, 3, 4, 5, 6, 7, 8, 9, 10, 11, 12, 13, 20] by decide))
        rw [tset_1, if_neg (by decide)]
        exact hH'
      refine ⟨1, tset (tset T 523 (.inr (.inr (cap, ms.eraseIdx k)))) 512 (house (up1 S1 39 (S1.1 39 + 1)).1), up1 S1 39 (S1.1 39 + 1), ?_, ?_, ?_, ?_, hS, ?_, rfl, ?_, ?_⟩
      · simp only [decide_eq_true hkn, cond_true, e9, bd2, Option.bind_some, tgi, tgr, tg, tcl, tcc, vi, vr, rv, nc, tpi, tpr, tp, List.set_cons_succ, List.set_cons_zero, List.length_cons, List.length_nil, List.getElem?_cons_succ, List.getElem?_cons_zero, List.getElem?_nil, Option.bind_some, Option.bind_none, if_true, Option.map_some, tset_1, hH', house, show ¬ (512 = 523) by decide, if_false]
        simp only [up1_1, g2, and_self, if_true, show (11 : Nat) < 15 by decide, Nat.reduceAdd, Nat.reduceLT]
        simp
      · simp only [decide_eq_true hkn, cond_true, g1, Option.bind_some]
      · show (tset _ _ _).1 512 = _
        rw [tset_1, if_pos rfl]
      · refine RPost.rem (n := n) (j := k) (cap := cap) h1 (by omega) h4 h5 (hS.sub (by decide)) (by omega) ?_ ?_ (fun q => ?_)
        · rw [tset_1, if_neg (by decide), tset_1, if_pos rfl]
        · rw [up1_1, if_neg (by decide), g2, if_pos rfl]
        · rw [rd_up1, g3]
          simp only [true_and, rd_up1]
      · intro b b1 b2
        rw [tset_1, if_neg b1, tset_1, if_neg b2]
      · intro i i1 i2 i3
        rw [up1_1, if_neg i3, g2, if_neg i2, up1_1, if_neg i1]
      · intro a q ha
        rw [rd_up1, g3, if_neg (fun z => ha z.1), rd_up1]
    · simp only [decide_eq_false hkn, cond_false]
      exact stay
end
