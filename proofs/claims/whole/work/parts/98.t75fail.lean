/-! fail(node): both. -/
def ClFail (I : Iv) : Prop := ∀ M Q Z E E' N k1 k2 n, I M Q [] Z E N k1 k2 → 1 ≤ n → n < 7 → (∀ e, E' e = if 1024 * n ≤ e ∧ e < 1024 * n + 1024 then none else E e) → I M (qNo Q n) [] (zNil Z n) E' (fun j k => if (j = 0 ∨ j = 6) ∧ k = n then 0 else N j k) k1 k2
theorem len_sub : ∀ (A B : List Nat), A.Nodup → (∀ x ∈ A, x ∈ B) → A.length ≤ B.length
  | [], B, _, _ => Nat.zero_le _
  | a :: A, B, h, hs => by
    obtain ⟨h1, h2⟩ := List.nodup_cons.mp h
    have ha := hs a List.mem_cons_self
    have := len_sub A (B.erase a) h2 (fun x hx => (List.mem_erase_of_ne (a := x) (b := a) (fun e : x = a => h1 (by rw [← e]; exact hx))).mpr (hs x (List.mem_cons_of_mem _ hx)))
    rw [List.length_erase_of_mem ha] at this
    have hpos := List.length_pos_of_mem ha
    show A.length + 1 ≤ B.length
    omega
section
variable {I : Iv} {T T0 : tT} {S S' : mS} {X Y : Nat → List (Nat × Nat)} {Z : Nat → List Fz} {Q : List Rq} {j0 c F n k1 k2 : Nat} {rs R : List Nat}
theorem clZ_nodup (h : RB T S X Y Z Q [] [] j0 rs c) (h1 : 1 ≤ n) (h2 : n < 7) : (clZ Q (Z n)).Nodup := by
  obtain ⟨_, b1, _, _, c1, c2, d1, _, _⟩ := id h.2.2.2.2.2.2.2.1
  rw [List.nil_append, List.append_nil] at c2
  obtain ⟨_, z2, z3, z4⟩ := h.2.2.2.2.2.2.1.1 n h1 h2
  have go : ∀ L : List Fz, (∀ z ∈ L, z ∈ Z n) → L.Pairwise (fun a b => nmb a < nmb b) → (clZ Q L).Nodup := by
    intro L
    induction L with
    | nil => intro _ _; exact List.nodup_nil
    | cons z L ih =>
      intro hs hp
      obtain ⟨p1', p2'⟩ := List.pairwise_cons.mp hp
      show ((qIn Q z.2.1).filterMap (fun q => q.2.2.1) ++ clZ Q L).Nodup
      rw [List.nodup_append]
      refine ⟨c2.sublist (List.Sublist.filterMap _ List.filter_sublist), ih (fun x hx => hs x (List.mem_cons_of_mem _ hx)) p2', fun a ha b hb e => ?_⟩
      obtain ⟨q, w1, w2⟩ := List.mem_filterMap.mp ha
      obtain ⟨z', v1, v2⟩ := List.mem_flatMap.mp hb
      obtain ⟨q', w3, w4⟩ := List.mem_filterMap.mp v2
      obtain ⟨u1, u2⟩ := List.mem_filter.mp w1
      obtain ⟨u3, u4⟩ := List.mem_filter.mp w3
      have := fm_uniq c2 q u1 q' u3 a w2 (by rw [e]; exact w4)
      subst this
      have e9 : z.2.1 = z'.2.1 := (of_decide_eq_true u2).symm.trans (of_decide_eq_true u4)
      have fe := z2 z (hs z List.mem_cons_self)
      have fe' := z2 z' (hs z' (List.mem_cons_of_mem _ v1))
      have n1 : z'.2.2 7 = z.2.2 7 := by rw [← fe'.2.2.2.2.2.2.2.2.2.1, ← fe.2.2.2.2.2.2.2.2.2.1, e9]
      have n2 : nmb z' = nmb z := by unfold nmb; rw [n1]
      have := p1' z' v1
      omega
  exact go (Z n) (fun _ hz => hz) z3
theorem clZ_mem (h : RB T S X Y Z Q [] [] j0 rs c) (h1 : 1 ≤ n) (h2 : n < 7) (r : Nat) : r ∈ clZ Q (Z n) ↔ ∃ z ∈ Q, z.2.1 / 128 = n ∧ z.2.2.1 = some r := by
  obtain ⟨_, b1, _, _, c1, c2, d1, _, d2⟩ := id h.2.2.2.2.2.2.2.1
  obtain ⟨_, z2, z3, z4⟩ := h.2.2.2.2.2.2.1.1 n h1 h2
  constructor
  · intro hr
    obtain ⟨z, v1, v2⟩ := List.mem_flatMap.mp hr
    obtain ⟨q, w1, w2⟩ := List.mem_filterMap.mp v2
    obtain ⟨u1, u2⟩ := List.mem_filter.mp w1
    obtain ⟨_, ⟨p, v, hp, hv, e, _⟩, _⟩ := z2 z v1
    exact ⟨q, u1, by rw [of_decide_eq_true u2, e]; omega, w2⟩
  · rintro ⟨q, q1', q2', q3'⟩
    have := d2 q q1'
    obtain ⟨z, v1, v2⟩ := z4 q.2.1 (by omega) (by omega) (by rw [this]; decide)
    exact List.mem_flatMap.mpr ⟨z, v1, List.mem_filterMap.mpr ⟨q, List.mem_filter.mpr ⟨q1', decide_eq_true v2.symm⟩, q3'⟩⟩
theorem c_zero {nd : tC} (hn3 : nd = nodeC S n) : ∀ (m i : Nat) (T : tT) (fk : Nat → Value), i + m = 61 → T.1 (527 + 8 * n) = some nd → T.1 (532 + 8 * n) = some (.inr (.inl (4, 61, fk))) → (∀ j, j < i → m_toI (fk j) = 0) → ∀ f, m < f → ∃ fk', D_c_Node_goDown_26 F f (527 + 8 * n) (Int32.ofNat i) T = D_c_Node_goDown_50 F F (527 + 8 * n) 1 (tset T (532 + 8 * n) (.inr (.inl (4, 61, fk')))) ∧ ∀ j, j < 61 → m_toI (fk' j) = 0 := by
  intro m
  induction m with
  | zero =>
    intro i T fk hi hn hk hz f hf
    obtain ⟨f, rfl⟩ : ∃ q, f = q + 1 := ⟨f - 1, by omega⟩
    refine ⟨fk, ?_, fun j hj => hz j (by omega)⟩
    rw [hn3] at hn
    have e3 : tgr T (527 + 8 * n) 4 3 = some (some (532 + 8 * n)) := tgr_o (x := some (532 + 8 * n)) hn rfl
    have al : tal T (532 + 8 * n) = some (Int32.ofNat 61) := by simp only [tal, hk]; rfl
    conv => lhs; unfold D_c_Node_goDown_26
    simp only [e3, Option.bind_some, al]
    rw [ge_n (by omega) (by decide), decide_eq_true (by omega), cond_true, tset_own hk]
  | succ m ih =>
    intro i T fk hi hn hk hz f hf
    obtain ⟨f, rfl⟩ : ∃ q, f = q + 1 := ⟨f - 1, by omega⟩
    have hn' := hn
    rw [hn3] at hn'
    have e3 : tgr T (527 + 8 * n) 4 3 = some (some (532 + 8 * n)) := tgr_o (x := some (532 + 8 * n)) hn' rfl
    have al : tal T (532 + 8 * n) = some (Int32.ofNat 61) := by simp only [tal, hk]; rfl
    have w1 : tasz T (532 + 8 * n) (Int32.ofNat i) 0 = some (tset T (532 + 8 * n) (.inr (.inl (4, 61, fun j => if j = i then .int 0 else fk j)))) := by
      unfold tasz
      rw [if_pos (Or.inl rfl)]
      exact tas_n hk (by omega) (by decide)
    obtain ⟨fk', y1, y2⟩ := ih (i + 1) (tset T (532 + 8 * n) (.inr (.inl (4, 61, fun j => if j = i then .int 0 else fk j)))) _ (by omega) (tset_o hn (by omega)) tset_at (fun j hj => by
      by_cases w : j = i
      · rw [if_pos w]; rfl
      · rw [if_neg w]; exact hz j (by omega)) f (by omega)
    refine ⟨fk', ?_, y2⟩
    rw [tset_tset] at y1
    rw [← y1]
    conv => lhs; unfold D_c_Node_goDown_26
    simp only [e3, Option.bind_some, al]
    rw [ge_n (by omega) (by decide), decide_eq_false (by omega), cond_false, w1, Option.bind_some, q1]
theorem c_down (hF : 100 ≤ F) (hn : T.1 (527 + 8 * n) = some (nodeC S n)) (hS : ∀ a k, rd S' a k = if (a = 591 ∨ a = 593) ∧ k = n then 0 else if a = 594 ∨ a = 595 ∨ a = 596 then rd S a k else rd S' a k) {cX cY cZ : Nat} {xs ys zs : List Nat} {b9 : Int32} {fk g k : Nat → Value} (hst : T.1 (528 + 8 * n) = some (.inl (5, [.ref (529 + 8 * n), .ref (530 + 8 * n), .int b9]))) (hX : T.1 (529 + 8 * n) = some (.inr (.inr (cX, xs)))) (hY : T.1 (530 + 8 * n) = some (.inr (.inr (cY, ys)))) (hZ : T.1 (531 + 8 * n) = some (.inr (.inr (cZ, zs)))) (hk : T.1 (532 + 8 * n) = some (.inr (.inl (4, 61, fk)))) (hg : T.1 (533 + 8 * n) = some (.inr (.inl (0, 3, g)))) (hh : T.1 (534 + 8 * n) = some (.inr (.inl (0, 3, k)))) : ∃ T' fk' g' k', D_c_Node_goDown F (527 + 8 * n) T = some T' ∧ T'.1 (527 + 8 * n) = some (nodeC S' n) ∧ T'.1 (529 + 8 * n) = some (.inr (.inr (cX, []))) ∧ T'.1 (530 + 8 * n) = some (.inr (.inr (cY, []))) ∧ T'.1 (531 + 8 * n) = some (.inr (.inr (cZ, []))) ∧ T'.1 (532 + 8 * n) = some (.inr (.inl (4, 61, fk'))) ∧ (∀ j, j < 61 → m_toI (fk' j) = 0) ∧ T'.1 (533 + 8 * n) = some (.inr (.inl (0, 3, g'))) ∧ T'.1 (534 + 8 * n) = some (.inr (.inl (0, 3, k'))) ∧ (m_toI (g' 1) = 0 ∧ m_toI (g' 2) = 0 ∧ m_toI (k' 1) = 0 ∧ m_toI (k' 2) = 0) ∧ ∀ b, ¬ isDn n b → T'.1 b = T.1 b := by
  have e591 : rd S' 591 n = 0 := by rw [hS, if_pos ⟨Or.inl rfl, rfl⟩]
  have e593 : rd S' 593 n = 0 := by rw [hS, if_pos ⟨Or.inr rfl, rfl⟩]
  have e594 : rd S' 594 n = rd S 594 n := by rw [hS, if_neg (by omega), if_pos (Or.inl rfl)]
  have e595 : rd S' 595 n = rd S 595 n := by rw [hS, if_neg (by omega), if_pos (Or.inr (Or.inl rfl))]
  have e596 : rd S' 596 n = rd S 596 n := by rw [hS, if_neg (by omega), if_pos (Or.inr (Or.inr rfl))]
  obtain ⟨nd1, hnd1⟩ : ∃ x : tC, x = .inl (4, [.int (Int32.ofNat n), .ref (528 + 8 * n), .ref (531 + 8 * n), .ref (532 + 8 * n), .ref (533 + 8 * n), .ref (534 + 8 * n), .int 0, .int (rd S 593 n), .int (rd S 594 n), .int (rd S 595 n), .int (rd S 596 n)]) := ⟨_, rfl⟩
  have pz : tpz T (527 + 8 * n) 4 6 0 = some (tset T (527 + 8 * n) nd1) := by
    unfold tpz
    rw [if_pos (Or.inl rfl), hnd1]
    exact (tp_o hn (show 6 < 11 by decide)).trans rfl
  have t1 : (tset T (527 + 8 * n) nd1).1 (527 + 8 * n) = some (.inl (4, [.int (Int32.ofNat n), .ref (528 + 8 * n), .ref (531 + 8 * n), .ref (532 + 8 * n), .ref (533 + 8 * n), .ref (534 + 8 * n), .int 0, .int (rd S 593 n), .int (rd S 594 n), .int (rd S 595 n), .int (rd S 596 n)])) := by rw [← hnd1]; exact tset_at
  have p7 : tpi (tset T (527 + 8 * n) nd1) (527 + 8 * n) 4 7 0 = some (tset T (527 + 8 * n) (nodeC S' n)) := by
    have : nodeC S' n = .inl (4, [.int (Int32.ofNat n), .ref (528 + 8 * n), .ref (531 + 8 * n), .ref (532 + 8 * n), .ref (533 + 8 * n), .ref (534 + 8 * n), .int 0, .int 0, .int (rd S 594 n), .int (rd S 595 n), .int (rd S 596 n)]) := by
      unfold nodeC
      rw [e591, e593, e594, e595, e596]
    rw [this]
    refine (tp_o t1 (show 7 < 11 by decide)).trans ?_
    rw [tset_tset]
    rfl
  obtain ⟨T5, hT5⟩ : ∃ x, x = tset T (527 + 8 * n) (nodeC S' n) := ⟨_, rfl⟩
  rw [← hT5] at p7
  have n5 : T5.1 (527 + 8 * n) = some (nodeC S' n) := by rw [hT5]; exact tset_at
  have o5 : ∀ b, ¬ b = 527 + 8 * n → T5.1 b = T.1 b := fun b w => by rw [hT5, tset_1, if_neg w]
  have e1 : tgr T5 (527 + 8 * n) 4 1 = some (some (528 + 8 * n)) := tgr_o (x := some (528 + 8 * n)) n5 rfl
  have st5 : T5.1 (528 + 8 * n) = some (.inl (5, [.ref (529 + 8 * n), .ref (530 + 8 * n), .int b9])) := by rw [o5 _ (by omega)]; exact hst
  have X5 : T5.1 (529 + 8 * n) = some (.inr (.inr (cX, xs))) := by rw [o5 _ (by omega)]; exact hX
  obtain ⟨T8, hT8⟩ : ∃ x, x = tset T5 (529 + 8 * n) (.inr (.inr (cX, []))) := ⟨_, rfl⟩
  have lc1 : tlc T5 (529 + 8 * n) = some T8 := by simp only [tlc, tl, X5, Option.map_some]; rw [hT8]
  have o8 : ∀ b, ¬ b = 529 + 8 * n → T8.1 b = T5.1 b := fun b w => by rw [hT8, tset_1, if_neg w]
  have Y8 : T8.1 (530 + 8 * n) = some (.inr (.inr (cY, ys))) := by rw [o8 _ (by omega), o5 _ (by omega)]; exact hY
  obtain ⟨T19, hT19⟩ : ∃ x, x = tset T8 (530 + 8 * n) (.inr (.inr (cY, []))) := ⟨_, rfl⟩
  have lc2 : tlc T8 (530 + 8 * n) = some T19 := by simp only [tlc, tl, Y8, Option.map_some]; rw [hT19]
  have o19 : ∀ b, ¬ b = 530 + 8 * n → T19.1 b = T8.1 b := fun b w => by rw [hT19, tset_1, if_neg w]
  have st8 : T8.1 (528 + 8 * n) = some (.inl (5, [.ref (529 + 8 * n), .ref (530 + 8 * n), .int b9])) := by rw [o8 _ (by omega)]; exact st5
  have clr : D_c_Store_clear F (528 + 8 * n) T5 = some T19 := by
    have q0 : tgr T5 (528 + 8 * n) 5 0 = some (some (529 + 8 * n)) := tgr_o (x := some (529 + 8 * n)) st5 rfl
    have q1' : tgr T8 (528 + 8 * n) 5 1 = some (some (530 + 8 * n)) := tgr_o (x := some (530 + 8 * n)) st8 rfl
    unfold D_c_Store_clear
    simp only [q0, Option.bind_some, lc1, q1', lc2]
  have n19 : T19.1 (527 + 8 * n) = some (nodeC S' n) := by rw [o19 _ (by omega), o8 _ (by omega)]; exact n5
  have e2 : tgr T19 (527 + 8 * n) 4 2 = some (some (531 + 8 * n)) := tgr_o (x := some (531 + 8 * n)) n19 rfl
  have Z19 : T19.1 (531 + 8 * n) = some (.inr (.inr (cZ, zs))) := by rw [o19 _ (by omega), o8 _ (by omega), o5 _ (by omega)]; exact hZ
  obtain ⟨T30, hT30⟩ : ∃ x, x = tset T19 (531 + 8 * n) (.inr (.inr (cZ, []))) := ⟨_, rfl⟩
  have lc3 : tlc T19 (531 + 8 * n) = some T30 := by simp only [tlc, tl, Z19, Option.map_some]; rw [hT30]
  have o30 : ∀ b, ¬ b = 531 + 8 * n → T30.1 b = T19.1 b := fun b w => by rw [hT30, tset_1, if_neg w]
  have n30 : T30.1 (527 + 8 * n) = some (nodeC S' n) := by rw [o30 _ (by omega)]; exact n19
  have k30 : T30.1 (532 + 8 * n) = some (.inr (.inl (4, 61, fk))) := by rw [o30 _ (by omega), o19 _ (by omega), o8 _ (by omega), o5 _ (by omega)]; exact hk
  obtain ⟨fk', y1, y2⟩ := c_zero (F := F) (S := S') (n := n) rfl 61 0 T30 fk rfl n30 k30 (fun j hj => absurd hj (Nat.not_lt_zero _)) F (by omega)
  obtain ⟨T31, hT31⟩ : ∃ x, x = tset T30 (532 + 8 * n) (.inr (.inl (4, 61, fk'))) := ⟨_, rfl⟩
  rw [← hT31] at y1
  have o31 : ∀ b, ¬ b = 532 + 8 * n → T31.1 b = T30.1 b := fun b w => by rw [hT31, tset_1, if_neg w]
  have n31 : T31.1 (527 + 8 * n) = some (nodeC S' n) := by rw [o31 _ (by omega)]; exact n30
  have g31 : T31.1 (533 + 8 * n) = some (.inr (.inl (0, 3, g))) := by rw [o31 _ (by omega), o30 _ (by omega), o19 _ (by omega), o8 _ (by omega), o5 _ (by omega)]; exact hg
  have h31 : T31.1 (534 + 8 * n) = some (.inr (.inl (0, 3, k))) := by rw [o31 _ (by omega), o30 _ (by omega), o19 _ (by omega), o8 _ (by omega), o5 _ (by omega)]; exact hh
  have tr1 := c_trust (F := F) (p := 1) n31 g31 h31 (Or.inl rfl)
  obtain ⟨T40, hT40⟩ : ∃ x, x = tset (tset T31 (533 + 8 * n) (.inr (.inl (0, 3, fun j => if j = 1 then .int 0 else g j)))) (534 + 8 * n) (.inr (.inl (0, 3, fun j => if j = 1 then .int 0 else k j))) := ⟨_, rfl⟩
  rw [← hT40] at tr1
  have o40 : ∀ b, ¬ b = 533 + 8 * n → ¬ b = 534 + 8 * n → T40.1 b = T31.1 b := fun b w1 w2 => by rw [hT40, tset_1, if_neg w2, tset_1, if_neg w1]
  have n40 : T40.1 (527 + 8 * n) = some (nodeC S' n) := by rw [o40 _ (by omega) (by omega)]; exact n31
  have g40 : T40.1 (533 + 8 * n) = some (.inr (.inl (0, 3, fun j => if j = 1 then .int 0 else g j))) := by rw [hT40]; exact tset_o tset_at (by omega)
  have h40 : T40.1 (534 + 8 * n) = some (.inr (.inl (0, 3, fun j => if j = 1 then .int 0 else k j))) := by rw [hT40]; exact tset_at
  have tr2 := c_trust (F := F) (p := 2) n40 g40 h40 (Or.inr rfl)
  obtain ⟨T50, hT50⟩ : ∃ x, x = tset (tset T40 (533 + 8 * n) (.inr (.inl (0, 3, fun j => if j = 2 then .int 0 else (if j = 1 then .int 0 else g j))))) (534 + 8 * n) (.inr (.inl (0, 3, fun j => if j = 2 then .int 0 else (if j = 1 then .int 0 else k j)))) := ⟨_, rfl⟩
  have tr2' : D_c_Node_trust F (527 + 8 * n) (Int32.ofNat 2) T40 = some T50 := by rw [hT50]; exact tr2
  have o50 : ∀ b, ¬ b = 533 + 8 * n → ¬ b = 534 + 8 * n → T50.1 b = T40.1 b := fun b w1 w2 => by rw [hT50, tset_1, if_neg w2, tset_1, if_neg w1]
  refine ⟨T50, fk', _, _, ?_, ?_, ?_, ?_, ?_, ?_, y2, by rw [hT50]; exact tset_o tset_at (by omega), by rw [hT50]; exact tset_at, ⟨rfl, rfl, rfl, rfl⟩, fun b hb => ?_⟩
  · obtain ⟨F', hF'⟩ : ∃ x, F = x + 1 + 1 + 1 := ⟨F - 3, by omega⟩
    have y1' : D_c_Node_goDown_26 F F (527 + 8 * n) (0 : Int32) T30 = D_c_Node_goDown_50 F F (527 + 8 * n) 1 T31 := y1
    have tr1' : D_c_Node_trust F (527 + 8 * n) (1 : Int32) T31 = some T40 := tr1
    unfold D_c_Node_goDown
    simp only [pz, Option.bind_some, p7, e1, tcl_o st5, clr, e2, lc3, y1']
    rw [show D_c_Node_goDown_50 F F = D_c_Node_goDown_50 F (F' + 1 + 1 + 1) by rw [← hF']]
    conv => lhs; unfold D_c_Node_goDown_50
    rw [show m_c2 .gt (1 : Int32) (2 : Int32) = false from rfl, cond_false, tcl_o n31, Option.bind_some, tr1', Option.bind_some, show (1 : Int32) + Int32.ofInt 1 = Int32.ofNat 2 from rfl]
    conv => lhs; unfold D_c_Node_goDown_50
    rw [show m_c2 .gt (Int32.ofNat 2) (2 : Int32) = false from rfl, cond_false, tcl_o n40, Option.bind_some, tr2', Option.bind_some, show Int32.ofNat 2 + Int32.ofInt 1 = (3 : Int32) from rfl]
    unfold D_c_Node_goDown_50
    rfl
  · rw [o50 _ (by omega) (by omega)]; exact n40
  · rw [o50 _ (by omega) (by omega), o40 _ (by omega) (by omega), o31 _ (by omega), o30 _ (by omega), o19 _ (by omega), hT8]; exact tset_at
  · rw [o50 _ (by omega) (by omega), o40 _ (by omega) (by omega), o31 _ (by omega), o30 _ (by omega), hT19]; exact tset_at
  · rw [o50 _ (by omega) (by omega), o40 _ (by omega) (by omega), o31 _ (by omega), hT30]; exact tset_at
  · rw [o50 _ (by omega) (by omega), o40 _ (by omega) (by omega), hT31]; exact tset_at
  · unfold isDn at hb
    rw [o50 _ (by omega) (by omega), o40 _ (by omega) (by omega), o31 _ (by omega), o30 _ (by omega), o19 _ (by omega), o8 _ (by omega), o5 _ (by omega)]
end
