/-! A PURGE comes: both. -/
def isPuM (T : tT) (S : mS) (m : Nat → Int32) : Prop := ∃ o fb fw j, S.1 37 = Int32.ofNat o ∧ o ≤ 60 ∧ T.1 521 = some (.inr (.inl (0, 61, fb))) ∧ T.1 522 = some (.inr (.inl (0, 61, fw))) ∧ 1 ≤ j ∧ j ≤ o ∧ m 3 = Int32.ofNat j ∧ m 5 = m_toI (fb j) ∧ m 4 = m_toI (fw j)
def isPb (n : Nat) (b : Nat) : Prop := b = 532 + 8 * n ∨ b = 527 + 8 * n
section
variable {T T' : tT} {S S' S3 : mS} {X Y : Nat → List (Nat × Nat)} {Z : Nat → List Fz} {Q cz Pd : List Rq} {j0 c F n k1 k2 : Nat} {rs : List Nat} {I : Iv} {M1 M2 : List (Nat → Int32)}
theorem isPb_fix (h2 : n < 7) : ∀ b ∈ aFix, ¬ isPb n b := by
  intro b hb w
  unfold isPb at w
  have : n = 0 ∨ n = 1 ∨ n = 2 ∨ n = 3 ∨ n = 4 ∨ n = 5 ∨ n = 6 := by omega
  rcases w with w | w <;> subst w <;> rcases this with z | z | z | z | z | z | z <;> (subst z; revert hb; decide)
theorem c_learn (hn : T.1 (527 + 8 * n) = some (nodeC S n)) {fk : Nat → Value} (hk : T.1 (532 + 8 * n) = some (.inr (.inl (4, 61, fk)))) {j : Nat} (j1 : 1 ≤ j) (j2 : j ≤ 60) (hS : ∀ a k, rd S' a k = if a = 593 ∧ k = n then (if rd S 593 n < Int32.ofNat j then Int32.ofNat j else rd S 593 n) else if a = 597 ∨ a = 598 ∨ a = 599 ∨ a = 600 then rd S' a k else rd S a k) : D_c_Node_learn F (527 + 8 * n) (Int32.ofNat j) T = some (tset (tset T (532 + 8 * n) (.inr (.inl (4, 61, fun i => if i = j then .int 1 else fk i)))) (527 + 8 * n) (nodeC S' n)) := by
  have e3 : tgr T (527 + 8 * n) 4 3 = some (some (532 + 8 * n)) := tgr_o (x := some (532 + 8 * n)) hn rfl
  have al : tal T (532 + 8 * n) = some (Int32.ofNat 61) := by simp only [tal, hk]; rfl
  have w1 : tasz T (532 + 8 * n) (Int32.ofNat j) 1 = some (tset T (532 + 8 * n) (.inr (.inl (4, 61, fun i => if i = j then .int 1 else fk i)))) := by
    unfold tasz
    rw [if_pos (Or.inr rfl)]
    exact tas_n hk (by omega) (by decide)
  obtain ⟨T1, hT1⟩ : ∃ x, x = tset T (532 + 8 * n) (.inr (.inl (4, 61, fun i => if i = j then .int 1 else fk i))) := ⟨_, rfl⟩
  rw [← hT1] at w1
  have hn1 : T1.1 (527 + 8 * n) = some (nodeC S n) := by rw [hT1]; exact tset_o hn (by omega)
  have i7 : tgi T1 (527 + 8 * n) 4 7 = some (rd S 593 n) := tgi_o hn1 rfl
  have eN : nodeC S' n = .inl (4, [.int (Int32.ofNat n), .ref (528 + 8 * n), .ref (531 + 8 * n), .ref (532 + 8 * n), .ref (533 + 8 * n), .ref (534 + 8 * n), .int (rd S 591 n), .int (if rd S 593 n < Int32.ofNat j then Int32.ofNat j else rd S 593 n), .int (rd S 594 n), .int (rd S 595 n), .int (rd S 596 n)]) := by
    have e591 : rd S' 591 n = rd S 591 n := by rw [hS, if_neg (by omega), if_neg (by omega)]
    have e593 : rd S' 593 n = if rd S 593 n < Int32.ofNat j then Int32.ofNat j else rd S 593 n := by rw [hS, if_pos ⟨rfl, rfl⟩]
    have e594 : rd S' 594 n = rd S 594 n := by rw [hS, if_neg (by omega), if_neg (by omega)]
    have e595 : rd S' 595 n = rd S 595 n := by rw [hS, if_neg (by omega), if_neg (by omega)]
    have e596 : rd S' 596 n = rd S 596 n := by rw [hS, if_neg (by omega), if_neg (by omega)]
    unfold nodeC
    rw [e591, e593, e594, e595, e596]
  have w2 : tpi T1 (527 + 8 * n) 4 7 (if rd S 593 n < Int32.ofNat j then Int32.ofNat j else rd S 593 n) = some (tset T1 (527 + 8 * n) (nodeC S' n)) := by
    rw [eN]
    exact (tp_o hn1 (show 7 < 11 by decide)).trans rfl
  unfold D_c_Node_learn
  rw [show m_c2 .lt (Int32.ofNat j) (1 : Int32) = decide (j < 1) from lt_n (by omega) (by decide), decide_eq_false (by omega), cond_false]
  simp only [e3, Option.bind_some, al, show m_c2 .ge (Int32.ofNat j) (Int32.ofNat 61) = decide (61 ≤ j) from ge_n (by omega) (by decide), decide_eq_false (show ¬ 61 ≤ j by omega), cond_false, w1, D_c_Node_learn_21, i7, w2]
  rw [hT1]
/-- the arrays of a node's purges -/
theorem RB.learn (h : RB T S X Y Z Q cz Pd j0 rs c) (h1 : 1 ≤ n) (h2 : n < 7) {j o K : Nat} {fb fw : Nat → Value} (ho : S.1 37 = Int32.ofNat o) (ho6 : o ≤ 60) (hb : T.1 521 = some (.inr (.inl (0, 61, fb)))) (hw : T.1 522 = some (.inr (.inl (0, 61, fw)))) (j1 : 1 ≤ j) (j2 : j ≤ o) (hK : rd S 597 n = Int32.ofNat K) (hK2 : K < 60) (hi : ∀ i, S'.1 i = S.1 i) (hS : ∀ a k, rd S' a k = if a = 593 ∧ k = n then (if rd S 593 n < Int32.ofNat j then Int32.ofNat j else rd S 593 n) else if a = 597 ∧ k = n then Int32.ofNat (K + 1) else if a = 598 ∧ k = 64 * n + K then Int32.ofNat j else if a = 599 ∧ k = 64 * n + K then m_toI (fb j) else if a = 600 ∧ k = 64 * n + K then m_toI (fw j) else rd S a k) : ∃ T', D_c_Node_learn F (527 + 8 * n) (Int32.ofNat j) T = some T' ∧ RB T' S' X Y Z Q cz Pd j0 rs c ∧ (∀ b x, T.1 b = some x → ¬ isPb n b → T'.1 b = some x) ∧ T'.1 (527 + 8 * n) = some (nodeC S' n) := by
  obtain ⟨r1, r2, r3, r4, r5, r6, r7, r8, r9, r10⟩ := id h
  obtain ⟨e1, e2, e3, e4, e5⟩ := id r10
  obtain ⟨o', fb', fw', u1, u2, u3, u4, u5, u6, u7⟩ := id e2
  have oo : o' = o := by
    rw [ho] at u1
    have := congrArg Int32.toNatClampNeg u1
    rw [m_n_cl (by omega), m_n_cl (by omega)] at this
    exact this.symm
  subst oo
  have fbb : fb' = fb := by rw [hb] at u3; cases u3; rfl
  have fww : fw' = fw := by rw [hw] at u4; cases u4; rfl
  subst fbb fww
  obtain ⟨fk, K', y1, y2, y3, y4, y5⟩ := u6 n h1 h2
  have kk : K' = K := by
    rw [hK] at y2
    have := congrArg Int32.toNatClampNeg y2
    rw [m_n_cl (by omega), m_n_cl (by omega)] at this
    exact this.symm
  subst kk
  have hn := (r5.2.1 n h1 h2).1
  have c1 := c_learn (F := F) (S' := S') hn y1 j1 (by omega) (fun a k => by
    by_cases w : a = 593 ∧ k = n
    · rw [hS, if_pos w, if_pos w]
    · rw [if_neg w]
      by_cases w2 : a = 597 ∨ a = 598 ∨ a = 599 ∨ a = 600
      · rw [if_pos w2]
      · rw [if_neg w2, hS, if_neg w, if_neg (by omega), if_neg (by omega), if_neg (by omega), if_neg (by omega)])
  obtain ⟨T', hT'⟩ : ∃ x, x = tset (tset T (532 + 8 * n) (.inr (.inl (4, 61, fun i => if i = j then .int 1 else fk i)))) (527 + 8 * n) (nodeC S' n) := ⟨_, rfl⟩
  rw [← hT'] at c1
  have st : ∀ b x, T.1 b = some x → ¬ isPb n b → T'.1 b = some x := fun b x hb' w => by
    rw [hT', tset_1, if_neg (fun q => w (Or.inr q)), tset_1, if_neg (fun q => w (Or.inl q))]
    exact hb'
  have at9 : ∀ {b x}, T.1 b = some x → ¬ b = 532 + 8 * n → ¬ b = 527 + 8 * n → T'.1 b = some x := fun hb' w1 w2 => st _ _ hb' (fun q => q.elim w1 w2)
  have tn : T'.1 (527 + 8 * n) = some (nodeC S' n) := by rw [hT']; exact tset_at
  have tk : T'.1 (532 + 8 * n) = some (.inr (.inl (4, 61, fun i => if i = j then .int 1 else fk i))) := by
    rw [hT', tset_1, if_neg (by omega), tset_1, if_pos rfl]
  have ho' : ∀ a k, ¬ a = 593 → ¬ a = 597 → ¬ a = 598 → ¬ a = 599 → ¬ a = 600 → rd S' a k = rd S a k := fun a k w1 w2 w3 w4 w5 => by rw [hS, if_neg (fun q => w1 q.1), if_neg (fun q => w2 q.1), if_neg (fun q => w3 q.1), if_neg (fun q => w4 q.1), if_neg (fun q => w5 q.1)]
  have ag : ∀ as is, (∀ a ∈ as, ¬ a = 593 ∧ ¬ a = 597 ∧ ¬ a = 598 ∧ ¬ a = 599 ∧ ¬ a = 600) → Ag as is S S' := fun as is q => ⟨fun a ha k => ho' a k (q a ha).1 (q a ha).2.1 (q a ha).2.2.1 (q a ha).2.2.2.1 (q a ha).2.2.2.2, fun i _ => hi i⟩
  have s593 : rd S' 593 n = if rd S 593 n < Int32.ofNat j then Int32.ofNat j else rd S 593 n := by rw [hS, if_pos ⟨rfl, rfl⟩]
  have o593 : ∀ m, ¬ m = n → rd S' 593 m = rd S 593 m := fun m w => by rw [hS, if_neg (by omega), if_neg (by omega), if_neg (by omega), if_neg (by omega), if_neg (by omega)]
  have s597 : rd S' 597 n = Int32.ofNat (K' + 1) := by rw [hS, if_neg (by omega), if_pos ⟨rfl, rfl⟩]
  have o597 : ∀ m, ¬ m = n → rd S' 597 m = rd S 597 m := fun m w => by rw [hS, if_neg (by omega), if_neg (by omega), if_neg (by omega), if_neg (by omega), if_neg (by omega)]
  have s598 : rd S' 598 (64 * n + K') = Int32.ofNat j := by rw [hS, if_neg (by omega), if_neg (by omega), if_pos ⟨rfl, rfl⟩]
  have s599 : rd S' 599 (64 * n + K') = m_toI (fb' j) := by rw [hS, if_neg (by omega), if_neg (by omega), if_neg (by omega), if_pos ⟨rfl, rfl⟩]
  have s600 : rd S' 600 (64 * n + K') = m_toI (fw' j) := by rw [hS, if_neg (by omega), if_neg (by omega), if_neg (by omega), if_neg (by omega), if_pos ⟨rfl, rfl⟩]
  have o6 : ∀ a k, a = 598 ∨ a = 599 ∨ a = 600 → ¬ k = 64 * n + K' → rd S' a k = rd S a k := fun a k w1 w2 => by rw [hS, if_neg (by omega), if_neg (by omega), if_neg (by omega), if_neg (by omega), if_neg (by omega)]
  have le1 : rd S 593 n ≤ rd S' 593 n := by
    rw [s593]
    by_cases w : rd S 593 n < Int32.ofNat j
    · rw [if_pos w]; exact Int32.le_of_lt w
    · rw [if_neg w]; exact Int32.le_refl _
  have le2 : Int32.ofNat j ≤ rd S' 593 n := by
    rw [s593]
    by_cases w : rd S 593 n < Int32.ofNat j
    · rw [if_pos w]; exact Int32.le_refl _
    · rw [if_neg w]; exact Int32.not_lt.mp w
  have hN : RNodes T' S' := by
    obtain ⟨⟨f9, n1, n2⟩, n3, n4⟩ := r5
    refine ⟨⟨f9, at9 n1 (by omega) (by omega), n2⟩, fun m m1 m2 => ?_, fun m m1 m2 => ?_⟩
    · by_cases w : m = n
      · subst w
        exact ⟨tn, by rw [ho' 591 _ (by decide) (by decide) (by decide) (by decide) (by decide)]; exact (n3 m m1 m2).2⟩
      · have e : nodeC S' m = nodeC S m := by
          unfold nodeC
          rw [ho' 591 _ (by decide) (by decide) (by decide) (by decide) (by decide), o593 m w, ho' 594 _ (by decide) (by decide) (by decide) (by decide) (by decide), ho' 595 _ (by decide) (by decide) (by decide) (by decide) (by decide), ho' 596 _ (by decide) (by decide) (by decide) (by decide) (by decide)]
        rw [e, ho' 591 _ (by decide) (by decide) (by decide) (by decide) (by decide)]
        exact ⟨at9 (n3 m m1 m2).1 (by omega) (by omega), (n3 m m1 m2).2⟩
    · obtain ⟨g', a1, a2, a3⟩ := n4 m m1 m2
      exact ⟨g', at9 a1 (by omega) (by omega), by rw [ho' 619 _ (by decide) (by decide) (by decide) (by decide) (by decide)]; exact a2, by rw [ho' 619 _ (by decide) (by decide) (by decide) (by decide) (by decide)]; exact a3⟩
  have hX : RX T' S' := by
    refine ⟨e1.fr (fun b x hb' hq => ?_) (ag _ _ (by decide)), ⟨o', fb', fw', (hi 37).trans u1, u2, at9 u3 (by omega) (by omega), at9 u4 (by omega) (by omega), u5, fun m m1 m2 => ?_, fun k a b d => ?_⟩, fun m m1 m2 => ?_, e4.fa (fun b x hb' hq => ?_) (ag _ _ (by decide)), by rw [ho' 626 _ (by decide) (by decide) (by decide) (by decide) (by decide)]; exact e5⟩
    · rcases hq with hq | hq
      · refine at9 hb' (fun w => ?_) (fun w => ?_)
        · rw [w, y1] at hb'; cases hb'; exact absurd (List.mem_singleton.mp hq) (show ¬ (20 : Nat) = 13 by decide)
        · rw [w, hn] at hb'; cases hb'; exact absurd (List.mem_singleton.mp hq) (show ¬ (4 : Nat) = 13 by decide)
      · simp only [List.mem_cons, List.mem_nil_iff, or_false] at hq
        exact at9 hb' (by omega) (by omega)
    · by_cases w : m = n
      · subst w
        refine ⟨_, K' + 1, tk, s597, by omega, fun i hi' => ?_, fun j' a b => ?_⟩
        · by_cases wi : i = K'
          · subst wi
            exact ⟨j, j1, j2, s598, s599, s600, by rw [if_pos rfl]; rfl, le2⟩
          · obtain ⟨j', t1, t2, t3, t4, t5, t6, t7⟩ := y4 i (by omega)
            refine ⟨j', t1, t2, by rw [o6 598 _ (by omega) (by omega)]; exact t3, by rw [o6 599 _ (by omega) (by omega)]; exact t4, by rw [o6 600 _ (by omega) (by omega)]; exact t5, ?_, Int32.le_trans t7 le1⟩
            by_cases wj : j' = j
            · rw [if_pos wj]; rfl
            · rw [if_neg wj]; exact t6
        · by_cases wj : j' = j
          · subst wj
            exact Or.inr ⟨by rw [if_pos rfl]; rfl, K', by omega, s598⟩
          · rw [if_neg wj]
            rcases y5 j' a b with t | ⟨t, i, t1, t2⟩
            · exact Or.inl t
            · exact Or.inr ⟨t, i, by omega, by rw [o6 598 _ (by omega) (by omega)]; exact t2⟩
      · obtain ⟨fk', K2, t1, t2, t3, t4, t5⟩ := u6 m m1 m2
        refine ⟨fk', K2, at9 t1 (by omega) (by omega), by rw [o597 m w]; exact t2, t3, fun i hi' => ?_, fun j' a b => ?_⟩
        · obtain ⟨j', v1, v2, v3, v4, v5, v6, v7⟩ := t4 i hi'
          exact ⟨j', v1, v2, by rw [o6 598 _ (by omega) (by omega)]; exact v3, by rw [o6 599 _ (by omega) (by omega)]; exact v4, by rw [o6 600 _ (by omega) (by omega)]; exact v5, v6, by rw [o593 m w]; exact v7⟩
        · rcases t5 j' a b with t | ⟨t, i, v1, v2⟩
          · exact Or.inl t
          · exact Or.inr ⟨t, i, v1, by rw [o6 598 _ (by omega) (by omega)]; exact v2⟩
    · have e9 : ∀ i, mRow S' k i = mRow S k i := fun i => ho' _ _ (by decide) (by decide) (by decide) (by decide) (by decide)
      rw [e9 3, e9 5, e9 4]
      rw [hi 77] at a
      exact u7 k a b ((e9 0).symm.trans d)
    · obtain ⟨g', k', a1, a2, a3⟩ := e3 m m1 m2
      refine ⟨g', k', at9 a1 (by omega) (by omega), at9 a2 (by omega) (by omega), ?_⟩
      simp only [ho' 618 _ (show ¬ (618 : Nat) = 593 by decide) (show ¬ (618 : Nat) = 597 by decide) (show ¬ (618 : Nat) = 598 by decide) (show ¬ (618 : Nat) = 599 by decide) (show ¬ (618 : Nat) = 600 by decide), ho' 619 _ (show ¬ (619 : Nat) = 593 by decide) (show ¬ (619 : Nat) = 597 by decide) (show ¬ (619 : Nat) = 598 by decide) (show ¬ (619 : Nat) = 599 by decide) (show ¬ (619 : Nat) = 600 by decide)]
      exact a3
    · rcases hq with hq | hq
      · cases hq
      · simp only [List.mem_cons, List.mem_nil_iff, or_false] at hq
        exact at9 hb' (by omega) (by omega)
  have hL : okL T' := (K_c_Node_learn (F := F) _ c1 r1).1
  refine ⟨T', c1, h.arr2 (B := isPb n) hL st (fun b hb' => ?_) (isPb_fix h2) (ag _ _ (by decide)) (ag _ _ (by decide)) hN hX, st, tn⟩
  rcases hb' with w | w
  · rw [w]
    exact ⟨_, y1, Or.inr ⟨4, 61, fk, rfl, by decide⟩⟩
  · rw [w]
    exact ⟨_, hn, Or.inl rfl⟩
theorem P_purge (hF : 4001 ≤ F) (cP : FaPur I) (cU : ClPur I) (h1 : 1 ≤ n) (h2 : n < 7) (h : RB T S X Y Z Q [] [] j0 rs c) (hcost : T.2.1 ≤ k1 + capS T ∧ T.2.2 ≤ k2 + 4 * capS T) (hM : vM S = M1 ++ M2) (hIv : I (M1 ++ cut (came S) :: M2) Q [] Z (vE S) (vS S) k1 k2) {am : Nat} (hm : isMsg T am (came S)) (m0 : came S 0 = 2) (m2 : came S 2 = Int32.ofNat n) (hpm : isPuM T S (came S)) :
    ∃ T' S' X' Y' k1' k2', D_c_EdgeHouse_takePurge F 512 (some (527 + 8 * n)) (some am) T = some T' ∧ D_m_bringPurge F (Int32.ofNat n) S = some S' ∧ RA I T' S' X' Y' Z Q [] [] j0 rs c k1' k2' := by
  obtain ⟨gm, tm, c1, c2, c3, c4, c5⟩ := hm
  obtain ⟨o, fb, fw, j, q1', q2', q3', q4', q5', q6', q7', q8', q9'⟩ := hpm
  obtain ⟨K, hK2, hK⟩ := cP _ _ _ _ _ _ _ _ _ n hIv m0 m2 h1 h2
  have hK : rd S 597 n = Int32.ofNat K := hK
  obtain ⟨r1, r2, r3, r4, r5, r6, r7, r8, r9, r10⟩ := id h
  have hpu : isPu (came S 5) (came S 4) := by
    obtain ⟨o', fb', fw', u1, u2, u3, u4, u5, u6, u7⟩ := id r10.2.1
    have oo : o' = o := by
      rw [q1'] at u1
      have := congrArg Int32.toNatClampNeg u1
      rw [m_n_cl (by omega), m_n_cl (by omega)] at this
      exact this.symm
    subst oo
    have fbb : fb' = fb := by rw [q3'] at u3; cases u3; rfl
    have fww : fw' = fw := by rw [q4'] at u4; cases u4; rfl
    subst fbb fww
    rw [q8', q9']
    exact u5 j q5' q6'
  -- the reference up to its loop
  obtain ⟨S17, hS17⟩ : ∃ x, x = up2 (up2 (up2 (up2 S 597 n (Int32.ofNat (K + 1))) 598 (64 * n + K) (came S 3)) 599 (64 * n + K) (came S 5)) 600 (64 * n + K) (came S 4) := ⟨_, rfl⟩
  have i17 : ∀ i, S17.1 i = S.1 i := fun i => by rw [hS17]; simp only [up2_1]
  have r17 : ∀ a k, rd S17 a k = if a = 597 ∧ k = n then Int32.ofNat (K + 1) else if a = 598 ∧ k = 64 * n + K then came S 3 else if a = 599 ∧ k = 64 * n + K then came S 5 else if a = 600 ∧ k = 64 * n + K then came S 4 else rd S a k := fun a k => by
    rw [hS17]
    simp only [rd_up2]
    by_cases w1 : a = 597 ∧ k = n
    · rw [if_neg (by omega), if_neg (by omega), if_neg (by omega), if_pos w1, if_pos w1]
    · by_cases w2 : a = 598 ∧ k = 64 * n + K
      · rw [if_neg (by omega), if_neg (by omega), if_pos w2, if_neg w1, if_pos w2]
      · by_cases w3 : a = 599 ∧ k = 64 * n + K
        · rw [if_neg (by omega), if_pos w3, if_neg w1, if_neg w2, if_pos w3]
        · by_cases w4 : a = 600 ∧ k = 64 * n + K
          · rw [if_pos w4, if_neg w1, if_neg w2, if_neg w3, if_pos w4]
          · rw [if_neg w4, if_neg w3, if_neg w2, if_neg w1, if_neg w1, if_neg w2, if_neg w3, if_neg w4]
  have o17 : ∀ a k, ¬ a = 597 → ¬ a = 598 → ¬ a = 599 → ¬ a = 600 → rd S17 a k = rd S a k := fun a k w1 w2 w3 w4 => by rw [r17, if_neg (fun q => w1 q.1), if_neg (fun q => w2 q.1), if_neg (fun q => w3 q.1), if_neg (fun q => w4 q.1)]
  have cm17 : came S17 = came S := funext fun i => o17 628 i (by decide) (by decide) (by decide) (by decide)
  have hR := (r6.1 n h1 h2).1
  have hlen := (r6.1 n h1 h2).2.1
  obtain ⟨S2, l1, l2, l3, l4⟩ := m_pu_loop (F := F) (n := n) h2 S17 (by rw [cm17]; exact hpu) (fun e e1 e2 e3 => by
    rw [o17 601 e (by decide) (by decide) (by decide) (by decide)] at e3
    obtain ⟨r, m1, m2'⟩ := hR.2.2.2.2.2.2.2.2.1 e e1 e2 e3
    obtain ⟨k, hk⟩ := hR.ent (List.mem_append.mpr m1)
    obtain ⟨t, t1, t2, t3⟩ := hk.full
    rw [m2'] at t3
    have : eT S17 e 7 = eT S e 7 := o17 603 _ (by decide) (by decide) (by decide) (by decide)
    rw [this]
    exact t3.2.2.2.2.2.2.2.2.1) 1024 0 S17 rfl (fun _ => rfl) (fun _ _ _ => rfl) (fun _ _ => rfl) F (by omega)
  obtain ⟨mx, hmx⟩ : ∃ x : Int32, x = if rd S 593 n < Int32.ofNat j then Int32.ofNat j else rd S 593 n := ⟨_, rfl⟩
  -- what both are behind the learning
  obtain ⟨Sa, hSa⟩ : ∃ x, x = up2 S17 593 n mx := ⟨_, rfl⟩
  have iSa : ∀ i, Sa.1 i = S.1 i := fun i => by rw [hSa, up2_1]; exact i17 i
  have rSa : ∀ a k, rd Sa a k = if a = 593 ∧ k = n then mx else rd S17 a k := fun a k => by rw [hSa, rd_up2]
  obtain ⟨T13, t1, t2, t3, t4⟩ := h.learn (F := F) (S' := Sa) (j := j) (o := o) (K := K) (fb := fb) (fw := fw) h1 h2 q1' q2' q3' q4' q5' q6' hK hK2 iSa (fun a k => by
    rw [rSa, r17, ← hmx, ← q7', ← q8', ← q9'])
  have st13 : ∀ {b x}, T.1 b = some x → ¬ kd x = 20 → ¬ kd x = 4 → T13.1 b = some x := fun {b x} hb' w1 w2 => t3 b x hb' (fun q => by
    obtain ⟨fk, K', y1, _⟩ := (show RPu T S from r10.2.1).choose_spec.choose_spec.choose_spec.2.2.2.2.2.1 n h1 h2
    rcases q with q | q
    · rw [q, y1] at hb'; cases hb'; exact w1 rfl
    · rw [q, (r5.2.1 n h1 h2).1] at hb'; cases hb'; exact w2 rfl)
  have am13 : T13.1 am = some (cMsg gm tm) := st13 c1 (show ¬ (9 : Nat) = 20 by decide) (show ¬ (9 : Nat) = 4 by decide)
  have cs13 : Cs T T13 0 0 := K_c_Node_learn (F := F) _ t1
  -- entries go
  have hRa := (t2.2.2.2.2.2.1.1 n h1 h2).1
  obtain ⟨T33, S1, A, B, d1, d2⟩ := removePurged_loop (F := F) (n := n) (S0 := Sa) (x := came S 5) (y := came S 4) ((X n).length + (Y n).length) (X n) (Y n) T13 Sa (by omega) (Nat.le_refl _) hRa (fun _ => rfl) (fun j' r hj hr => by
    have := (List.getElem?_eq_some_iff.mp hr).1
    rw [List.length_append] at this
    omega) F (by omega)
  have d8 := d2.2.2.2.2.2.2.2
  have d7 := d2.2.2.2.2.2.2.1
  obtain ⟨b1, b2, b3, b4⟩ := t2.del h1 h2 d2 (K_c_Store_removePurged_7 (F := F) _ _ _ _ _ _ _ d1) (S2 := S1) (P := fun k => v_purged (Int32.ofNat (eP k)) (eT Sa k 7) (came S 5) (came S 4) = true ∧ ∃ r ∈ X n ++ Y n, r.2 = k) d7 (fun a k => ⟨fun w => by rw [d8, if_pos ⟨w.1, w.2.1, w.2.2⟩], fun w => by rw [d8, if_neg w]⟩) (fun r hr hp => ⟨hp, r, hr, rfl⟩) (fun k hk => by
    obtain ⟨k1', r, k2', k3'⟩ := hk
    obtain ⟨kk, hkk⟩ := hRa.ent k2'
    have rg := hkk.rng h2
    rw [k3'] at rg
    exact ⟨⟨rg.1, rg.2.1⟩, fun _ _ _ => k1'⟩)
  -- the reference behind its loop
  obtain ⟨S32, hS32⟩ : ∃ x, x = up2 S2 593 n mx := ⟨_, rfl⟩
  have i32 : ∀ i, S32.1 i = S.1 i := fun i => by rw [hS32, up2_1, l2]; exact i17 i
  have i1 : ∀ i, S1.1 i = S.1 i := fun i => (d7 i).trans (iSa i)
  have r32 : ∀ a k, ¬ a = 601 → rd S32 a k = rd Sa a k := fun a k ha => by rw [hS32, rd_up2, rSa, l3 a k ha]
  have r1' : ∀ a k, ¬ a = 601 → rd S1 a k = rd Sa a k := fun a k ha => by rw [d8, if_neg (fun q => ha q.1)]
  have eTa : ∀ k, eT Sa k = eT S17 k := fun k => funext fun i => by show rd Sa 603 _ = rd S17 603 _; rw [rSa, if_neg (by omega)]
  have f601 : ∀ k, rd Sa 601 k = rd S 601 k := fun k => by rw [rSa, if_neg (by omega)]; exact o17 601 k (by decide) (by decide) (by decide) (by decide)
  have g601 : ∀ k, rd S17 601 k = rd S 601 k := fun k => o17 601 k (by decide) (by decide) (by decide) (by decide)
  have h601 : ∀ k, rd S32 601 k = 0 ↔ rd S1 601 k = 0 := by
    intro k
    rw [hS32, rd_up2, if_neg (by omega), l4, d8, f601, g601, cm17, ← eTa]
    by_cases rg : 1024 * n + 0 ≤ k ∧ k < 1024 * n + 1024
    · rw [if_pos rg]
      by_cases w : rd S 601 k = 0
      · rw [if_pos w, w]
        simp
      · rw [if_neg w]
        by_cases pg : v_purged (Int32.ofNat (eP k)) (eT Sa k 7) (came S 5) (came S 4) = true
        · obtain ⟨r, x1, x2⟩ := hR.2.2.2.2.2.2.2.2.1 k (by omega) rg.2 w
          rw [if_pos pg, if_pos ⟨rfl, pg, r, List.mem_append.mpr x1, x2⟩]
        · rw [if_neg pg, if_neg (fun q => pg q.2.1)]
          exact ⟨fun q => absurd q (by decide), fun q => absurd q w⟩
    · rw [if_neg rg]
      by_cases q : 601 = 601 ∧ v_purged (Int32.ofNat (eP k)) (eT Sa k 7) (came S 5) (came S 4) = true ∧ ∃ r ∈ X n ++ Y n, r.2 = k
      · exfalso
        obtain ⟨_, _, r, x1, x2⟩ := q
        obtain ⟨kk, hkk⟩ := hRa.ent x1
        have := hkk.rng h2
        rw [x2] at this
        exact rg ⟨by omega, this.2.1⟩
      · rw [if_neg q]
  obtain ⟨n1, n2, n3, n4⟩ := b1.norm (S' := S32) (fun a k ha => (r32 a k ha).trans (r1' a k ha).symm) h601 (fun i => (i32 i).trans (i1 i).symm)
  have cm32 : came S32 = came S := funext fun i => by
    show rd S32 628 i = rd S 628 i
    rw [r32 628 i (by decide), rSa, if_neg (by omega)]
    exact o17 628 i (by decide) (by decide) (by decide) (by decide)
  have cm2 : ∀ i, rd S2 628 i = came S i := fun i => by rw [l3 628 i (by decide)]; exact o17 628 i (by decide) (by decide) (by decide) (by decide)
  have s2n : rd S2 593 n = rd S 593 n := by rw [l3 593 n (by decide)]; exact o17 593 n (by decide) (by decide) (by decide) (by decide)
  obtain ⟨S36, k1', k2', k3'⟩ := m_blank (F := F) (S := S32) (x1 := 3) (x2 := Int32.ofNat n) (x3 := 0) (x4 := Int32.ofNat j) (key := 0) (by omega) (by omega)
  obtain ⟨Tb, T', S', a1, a2, a3, a4, a5, a6, a7, a8, a9, a10⟩ := ack_core (F := F) (T := T33) (S := S32) (S3 := S36) (n := n) (j := Int32.ofNat j) (by omega) n1.1.1 n1.2.1 n1.2.2.1 k2' (fun a k ha => by rw [k3', if_neg (fun q => ha q.1)]) (fun i hi => by
    rw [k3', if_pos ⟨rfl, hi⟩]
    unfold acRow
    by_cases w0 : i = 0
    · rw [if_pos w0, if_pos w0]
    · rw [if_neg w0, if_neg w0]
      by_cases w1 : i = 1
      · rw [if_pos w1, if_pos w1]
      · rw [if_neg w1, if_neg w1]
        by_cases w2 : i = 2
        · rw [if_pos w2, if_neg (by omega)]
        · rw [if_neg w2]
          by_cases w3 : i = 3
          · rw [if_pos w3, if_pos w3]
          · rw [if_neg w3, if_neg w3]
            by_cases w4 : i = 4
            · rw [if_pos w4]; rfl
            · rw [if_neg w4]
              by_cases w5 : i = 5
              · rw [if_pos w5]; rfl
              · rw [if_neg w5]) h1 h2
  have d6 := d2.2.2.2.2.2.1
  have lX := hRa.2.2.1.choose_spec
  have lY := hRa.2.2.2.1.choose_spec
  have st33 : ∀ {b x}, T13.1 b = some x → ¬ kd x = 21 → T33.1 b = some x := fun {b x} hb' w => d6.1 b x hb' (fun q => by rw [q, lX] at hb'; cases hb'; exact w rfl) (fun q => by rw [q, lY] at hb'; cases hb'; exact w rfl) (by simp)
  have am33 : T33.1 am = some (cMsg gm tm) := st33 am13 (show ¬ (9 : Nat) = 21 by decide)
  have no33 : T33.1 (527 + 8 * n) = some (nodeC Sa n) := st33 t4 (show ¬ (4 : Nat) = 21 by decide)
  have hH33 : T33.1 512 = some (house S32.1) := n1.2.1
  obtain ⟨w1, w2, w3⟩ := new_msg n1.1.1
  have tb9 : ∀ x c9, T33.1 x = some c9 → (tadd T33 (cMsg (fun _ => 0) none) 19).1 x = some c9 := by
    intro x c9 hx
    have : ¬ x = T33.2.1 := fun z => by rw [z, w3] at hx; cases hx
    rw [tadd_1, if_neg this]
    exact hx
  have hT' : D_c_EdgeHouse_takePurge F 512 (some (527 + 8 * n)) (some am) T = some T' := by
    have g3 : tgi T am 9 3 = some (Int32.ofNat j) := (Mg3 c1).trans (by rw [c2 3 (by decide), q7'])
    have g5 : tgi T13 am 9 5 = some (came S 5) := (Mg5 am13).trans (by rw [c2 5 (by decide)])
    have g4 : tgi T13 am 9 4 = some (came S 4) := (Mg4 am13).trans (by rw [c2 4 (by decide)])
    have g38 : tgi (tadd T33 (cMsg (fun _ => 0) none) 19) am 9 3 = some (Int32.ofNat j) := (Mg3 (tb9 _ _ am33)).trans (by rw [c2 3 (by decide), q7'])
    have n0 : tgi (tadd T33 (cMsg (fun _ => 0) none) 19) (527 + 8 * n) 4 0 = some (Int32.ofNat n) := tgi_o (tb9 _ _ no33) rfl
    have e41 : tgr T13 (527 + 8 * n) 4 1 = some (some (528 + 8 * n)) := tgr_o (x := some (528 + 8 * n)) t4 rfl
    have e5 := hRa.stC.1
    have rp : D_c_Store_removePurged F (528 + 8 * n) (came S 5) (came S 4) T13 = some T33 := by
      unfold D_c_Store_removePurged
      rw [e5, Option.bind_some, hRa.count (F := F), Option.bind_some]
      exact d1
    unfold D_c_EdgeHouse_takePurge
    simp only [Option.bind_some, g3, tcl_o (r5.2.1 n h1 h2).1, t1, e41, g5, g4, e5, rp, bd2, w1, n0, g38, a1, a2, a3]
  refine ⟨T', S', upL X n A, upL Y n B, k1 + 1, k2 + 19, hT', ?_, ?_⟩
  · have c597 : aget 0 7 S 597 (Int32.ofNat n) = some (Int32.ofNat K) := (aget_n (Or.inl rfl) h2 (by decide)).trans (by rw [hK])
    have ix : (64 : Int32) * Int32.ofNat n + Int32.ofNat K = Int32.ofNat (64 * n + K) := by rw [k64, i_add]
    have p597 : aput 7 S 597 (Int32.ofNat n) (Int32.ofNat (K + 1)) = some (up2 S 597 n (Int32.ofNat (K + 1))) := aput_n h2 (by decide)
    have P : ∀ (X : mS) (a : Nat) (x : Int32), aput 448 X a (Int32.ofNat (64 * n + K)) x = some (up2 X a (64 * n + K) x) := fun X a x => aput_n (by omega) (by decide)
    have C : ∀ (X : mS) (k : Nat), k < 22 → (∀ j, rd X 628 j = rd S 628 j) → aget 0 22 X 628 (Int32.ofNat k) = some (came S k) := fun X k hk hX => (aget_n (Or.inl rfl) hk (by decide)).trans (by rw [hX]; rfl)
    have R : ∀ (X : mS) (a k : Nat) (x : Int32), ¬ a = 628 → (∀ j, rd X 628 j = rd S 628 j) → ∀ j, rd (up2 X a k x) 628 j = rd S 628 j := fun X a k x ha hX j => by rw [rd_up2, if_neg (fun q => ha q.1.symm)]; exact hX j
    have y1 := R S 597 n (Int32.ofNat (K + 1)) (by decide) (fun _ => rfl)
    have y2 := R _ 598 (64 * n + K) (came S 3) (by decide) y1
    have y3 := R _ 599 (64 * n + K) (came S 5) (by decide) y2
    have g3 : aget 0 22 _ 628 (3 : Int32) = some (came S 3) := C _ 3 (by decide) y1
    have g5 : aget 0 22 _ 628 (5 : Int32) = some (came S 5) := C _ 5 (by decide) y2
    have g4 : aget 0 22 _ 628 (4 : Int32) = some (came S 4) := C _ 4 (by decide) y3
    unfold D_m_bringPurge
    simp only [c597, Option.bind_some, p1, p597, g3, ix, P, g5, g4]
    rw [← hS17, show (0 : Int32) = Int32.ofNat 0 from rfl, l1]
    have z3 : ∀ X : mS, (∀ i, rd X 628 i = came S i) → aget 0 22 X 628 (3 : Int32) = some (Int32.ofNat j) := fun X hX => (aget_n (k := 3) (Or.inl rfl) (by decide) (by decide)).trans (by rw [hX, q7'])
    have z593 : aget 0 7 S2 593 (Int32.ofNat n) = some (rd S 593 n) := (aget_n (Or.inl rfl) h2 (by decide)).trans (by rw [s2n])
    have zp : aput 7 S2 593 (Int32.ofNat n) mx = some S32 := by rw [hS32]; exact aput_n h2 (by decide)
    have zm : (cond (m_c2 .le (Int32.ofNat j) (rd S 593 n)) (some (rd S 593 n)) (some (Int32.ofNat j))) = some mx := by
      rw [hmx]
      by_cases w : rd S 593 n < Int32.ofNat j
      · have w' : ¬ Int32.ofNat j ≤ rd S 593 n := Int32.not_le.mpr w
        simp [m_c2, w, w']
      · have w' : Int32.ofNat j ≤ rd S 593 n := Int32.not_lt.mp w
        simp [m_c2, w, w']
    unfold puTail
    simp only [z3 S2 cm2, z593, Option.bind_some, zm, zp, z3 S32 (fun i => congrFun cm32 i)]
    have bl : D_m_blank F (3 : Int32) (Int32.ofNat n) (0 : Int32) (Int32.ofNat j) (0 : Int32) S32 = some S36 := k1'
    rw [bl, Option.bind_some, a4]
    rfl
  · have cs : Cs T T' 1 19 := K_c_EdgeHouse_takePurge (F := F) _ hT'
    refine ⟨n1.post (cs h.1).1 a5 a6 a7 (fun i i1 i2 _ => a8 i i1 i2) a9 a10 (show ¬ (3 : Int32) = 2 by decide), cost_step hcost cs h.1, ?_⟩
    have vE' : vE S' = vE S32 := vE_ag ⟨fun a ha k => a9 _ _ (by revert a; decide) (by revert a; decide), fun i hi => by cases hi⟩
    have vS' : vS S' = vS S32 := vS_ag ⟨fun a ha k => a9 _ _ (by revert a; decide) (by revert a; decide), fun i hi' => a8 i (by revert i; decide) (by revert i; decide)⟩
    have agA : ∀ as is, (∀ a ∈ as, ¬ a = 593 ∧ ¬ a = 597 ∧ ¬ a = 598 ∧ ¬ a = 599 ∧ ¬ a = 600) → Ag as is S Sa := fun as is q => ⟨fun a ha k => by rw [rSa, if_neg (fun w => (q a ha).1 w.1)]; exact o17 a k (q a ha).2.1 (q a ha).2.2.1 (q a ha).2.2.2.1 (q a ha).2.2.2.2, fun i _ => iSa i⟩
    have vMa : vM Sa = vM S := vM_ag (agA _ _ (by decide))
    have vEa : vE Sa = vE S := vE_ag (agA _ _ (by decide))
    have vSa : vS Sa = puN (vS S) n (Int32.ofNat j) := by
      funext a k
      unfold puN
      by_cases w : a = 0 ∧ k = n
      · rw [if_pos w, w.1, w.2]
        show rd Sa 593 n = if rd S 593 n < Int32.ofNat j then Int32.ofNat j else rd S 593 n
        rw [rSa, if_pos ⟨rfl, rfl⟩, hmx]
      · rw [if_neg w]
        by_cases w2 : a = 6 ∧ k = n
        · rw [if_pos w2, w2.1, w2.2]
          show rd Sa 597 n = rd S 597 n + 1
          rw [rSa, if_neg (by omega), r17, if_pos ⟨rfl, rfl⟩, hK, p1]
        · rw [if_neg w2]
          show (if a = 0 then rd Sa 593 k else if a = 1 then rd Sa 596 k else if a = 2 then Sa.1 37 else if a = 3 then Sa.1 70 else if a = 4 then rd Sa 589 k else if a = 5 then rd Sa 590 k else if a = 6 then rd Sa 597 k else Sa.1 36) = (if a = 0 then rd S 593 k else if a = 1 then rd S 596 k else if a = 2 then S.1 37 else if a = 3 then S.1 70 else if a = 4 then rd S 589 k else if a = 5 then rd S 590 k else if a = 6 then rd S 597 k else S.1 36)
          have e1 : ∀ b k, ¬ b = 593 → ¬ b = 597 → ¬ b = 598 → ¬ b = 599 → ¬ b = 600 → rd Sa b k = rd S b k := fun b k v1 v2 v3 v4 v5 => by rw [rSa, if_neg (fun w => v1 w.1)]; exact o17 b k v2 v3 v4 v5
          rw [iSa, iSa, iSa, e1 596 k (by decide) (by decide) (by decide) (by decide) (by decide), e1 589 k (by decide) (by decide) (by decide) (by decide) (by decide), e1 590 k (by decide) (by decide) (by decide) (by decide) (by decide)]
          by_cases a0 : a = 0
          · rw [if_pos a0, if_pos a0, rSa, if_neg (by omega)]
            exact o17 593 k (by decide) (by decide) (by decide) (by decide)
          · rw [if_neg a0, if_neg a0]
            by_cases a6 : a = 6
            · subst a6
              show rd Sa 597 k = rd S 597 k
              rw [rSa, if_neg (by omega), r17, if_neg (by omega), if_neg (by omega), if_neg (by omega), if_neg (by omega)]
            · rw [if_neg a6, if_neg a6]
    rw [a10.view, vE', vS', n2, n3, n4, b2, b3, vMa, vSa, hM, ← q7']
    refine cU _ (cut (came S)) _ _ _ _ _ _ _ _ n hIv m0 m2 h1 h2 (fun e => ⟨?_, fun hen hh hhe => ?_⟩)
    · have := b4 e
      rw [vEa] at this
      exact this
    · unfold vE at hhe
      by_cases w : e < 7168 ∧ ¬ rd S1 601 e = 0
      · rw [if_pos w] at hhe
        cases hhe
        show v_purged (Int32.ofNat (eP e)) (rd S1 603 (9 * e + 7)) (came S 5) (came S 4) = false
        rw [r1' 603 _ (by decide)]
        cases pg : v_purged (Int32.ofNat (eP e)) (rd Sa 603 (9 * e + 7)) (came S 5) (came S 4) with
        | false => rfl
        | true =>
          exfalso
          apply w.2
          rw [d8]
          by_cases z : rd S 601 e = 0
          · by_cases q : 601 = 601 ∧ v_purged (Int32.ofNat (eP e)) (eT Sa e 7) (came S 5) (came S 4) = true ∧ ∃ r ∈ X n ++ Y n, r.2 = e
            · rw [if_pos q]
            · rw [if_neg q, f601, z]
          · obtain ⟨r, x1, x2⟩ := hR.2.2.2.2.2.2.2.2.1 e (by omega) (by omega) z
            rw [if_pos ⟨rfl, pg, r, List.mem_append.mpr x1, x2⟩]
      · rw [if_neg w] at hhe
        cases hhe
end
