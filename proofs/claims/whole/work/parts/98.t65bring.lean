/-! A message comes. -/
def brEnd (F : Nat) (S2 : mS) : Option mS := (aget 0 22 S2 628 (2 : Int32)).bind fun v4 => cond (m_c1 .le v4) (D_m_bring_57 F v4 S2) ((aget 4 7 S2 591 v4).bind fun v7 => cond (m_c1 .ne v7) (D_m_bring_57 F v4 S2) (some S2))
theorem lst_era {α : Type} {L : List α} {k : Nat} {x : α} (h : L[k]? = some x) : L = L.take k ++ x :: L.drop (k + 1) ∧ L.eraseIdx k = L.take k ++ L.drop (k + 1) := by
  obtain ⟨hk, hx⟩ := List.getElem?_eq_some_iff.mp h
  refine ⟨?_, List.eraseIdx_eq_take_drop_succ _ _⟩
  conv => lhs; rw [← List.take_append_drop k L]
  rw [List.drop_eq_getElem_cons hk, hx]
section
variable {I : Iv} {T T' : tT} {S S' : mS} {X Y : Nat → List (Nat × Nat)} {Z : Nat → List Fz} {Q cz Pd : List Rq} {j0 c F n k k1 k2 : Nat} {rs : List Nat}
theorem m_bring_loop (hk : k < 100) : ∀ (m x : Nat) (S : mS), x + m = 22 → ∀ g, m < g → ∃ S2, D_m_bring_2 F g (Int32.ofNat k) (Int32.ofNat x) S = ((D_m_remove F (Int32.ofNat k) S2).bind fun S2 => brEnd F S2) ∧ (∀ i, S2.1 i = S.1 i) ∧ ∀ a i, rd S2 a i = if a = 628 ∧ x ≤ i ∧ i < 22 then rd S 624 (22 * k + i) else rd S a i := by
  intro m
  induction m with
  | zero =>
    intro x S hx g hg
    obtain ⟨g, rfl⟩ : ∃ y, g = y + 1 := ⟨g - 1, by omega⟩
    refine ⟨S, ?_, fun _ => rfl, fun a i => by rw [if_neg (by omega)]⟩
    unfold D_m_bring_2
    rw [show m_c2 .ge (Int32.ofNat x) (22 : Int32) = decide (22 ≤ x) from ge_n (by omega) (by decide), decide_eq_true (by omega), cond_true]
    rfl
  | succ m ih =>
    intro x S hx g hg
    obtain ⟨g, rfl⟩ : ∃ y, g = y + 1 := ⟨g - 1, by omega⟩
    have ix : (22 : Int32) * Int32.ofNat k + Int32.ofNat x = Int32.ofNat (22 * k + x) := by rw [k22, i_add]
    have a1 : aget 0 2200 S 624 (Int32.ofNat (22 * k + x)) = some (rd S 624 (22 * k + x)) := aget_n (Or.inl rfl) (by omega) (by decide)
    have a2 : aput 22 S 628 (Int32.ofNat x) (rd S 624 (22 * k + x)) = some (up2 S 628 x (rd S 624 (22 * k + x))) := aput_n (by omega) (by decide)
    obtain ⟨S2, s1, s2, s3⟩ := ih (x + 1) (up2 S 628 x (rd S 624 (22 * k + x))) (by omega) g (by omega)
    refine ⟨S2, ?_, fun i => (s2 i).trans (by rw [up2_1]), fun a i => ?_⟩
    · rw [← s1]
      conv => lhs; unfold D_m_bring_2
      rw [show m_c2 .ge (Int32.ofNat x) (22 : Int32) = decide (22 ≤ x) from ge_n (by omega) (by decide), decide_eq_false (by omega), cond_false, ix, a1, Option.bind_some, a2, Option.bind_some, q1]
    · rw [s3, rd_up2, rd_up2, if_neg (show ¬ (624 = 628 ∧ 22 * k + i = x) by omega)]
      by_cases w : a = 628 ∧ i = x
      · rw [if_neg (by omega), if_pos w, if_pos (by omega), w.2]
      · rw [if_neg w]
        by_cases w2 : a = 628 ∧ x + 1 ≤ i ∧ i < 22
        · rw [if_pos w2, if_pos (by omega)]
        · rw [if_neg w2, if_neg (by omega)]
/-- a message is taken out -/
theorem RB.msg (hF : 2201 ≤ F) (h : RB T S X Y Z Q [] [] j0 rs c) (hn : S.1 77 = Int32.ofNat n) (hn1 : n ≤ 100) (hk : k < n) : ∃ b T1 S1 M1 M2, tlr T 523 (Int32.ofNat k) = some (b, T1) ∧ D_m_bring F (Int32.ofNat k) S = brEnd F S1 ∧ RB T1 S1 X Y Z Q [] [] j0 rs c ∧ isMsg T1 b (came S1) ∧ Cs T T1 0 0 ∧ vM S = M1 ++ cut (came S1) :: M2 ∧ vM S1 = M1 ++ M2 ∧ vE S1 = vE S ∧ vS S1 = vS S ∧ (came S1 0 = 2 → isPuM T1 S1 (came S1)) := by
  obtain ⟨r1, r2, r3, r4, r5, r6, r7, r8, r9, r10⟩ := id h
  obtain ⟨n', cap, ms, h1, h2, h3, h4, h5⟩ := id r3
  have nn : n' = n := by
    rw [hn] at h1
    have := congrArg Int32.toNatClampNeg h1
    rw [m_n_cl (by omega), m_n_cl (by omega)] at this
    exact this.symm
  subst nn
  obtain ⟨n, rfl⟩ : ∃ n9, n' = n9 + 1 := ⟨n' - 1, by omega⟩
  obtain ⟨b, hb⟩ : ∃ b, ms[k]? = some b := ⟨_, List.getElem?_eq_getElem (by omega)⟩
  obtain ⟨T1, hT1⟩ : ∃ x, x = tset T 523 (.inr (.inr (cap, ms.eraseIdx k))) := ⟨_, rfl⟩
  have e9 : tlr T 523 (Int32.ofNat k) = some (b, T1) := by
    simp only [tlr, tl, h3, Option.bind_some]
    rw [if_neg (m_n_neg (by omega)), m_n_cl (by omega), hb, hT1]
    rfl
  obtain ⟨S0, s1, s2, s3⟩ := m_bring_loop (F := F) (k := k) (by omega) 22 0 S rfl F (by omega)
  obtain ⟨S1, g1, g2, g3⟩ := m_remove (F := F) (S := S0) (n := n) (j := k) hF (by rw [s2]; exact h1) (by omega) (by omega)
  have i1 : ∀ i, ¬ i = 77 → S1.1 i = S.1 i := fun i hi => by rw [g2, if_neg hi, s2]
  have i77 : S1.1 77 = Int32.ofNat n := by rw [g2, if_pos rfl]
  have r1' : ∀ a i, ¬ a = 624 → ¬ a = 628 → rd S1 a i = rd S a i := fun a i w1 w2 => by rw [g3, if_neg (fun q => w1 q.1), s3, if_neg (fun q => w2 q.1)]
  have r624 : ∀ i, rd S1 624 i = if 22 * k ≤ i ∧ i < 22 * n then rd S 624 (i + 22) else rd S 624 i := fun i => by
    have e6 : ∀ i, rd S0 624 i = rd S 624 i := fun i => by rw [s3, if_neg (by omega)]
    rw [g3]
    simp only [true_and, e6]
  have cm : ∀ i, i < 22 → came S1 i = mRow S k i := fun i hi => by
    show rd S1 628 i = rd S 624 (22 * k + i)
    rw [g3, if_neg (by omega), s3, if_pos ⟨rfl, Nat.zero_le _, hi⟩]
  have st : ∀ x c9, T.1 x = some c9 → ¬ x = 523 → T1.1 x = some c9 := fun x c9 hx w => by rw [hT1]; exact tset_o hx w
  have st9 : ∀ x c9, T.1 x = some c9 → ¬ kd c9 = 21 → T1.1 x = some c9 := fun x c9 hx w => st x c9 hx (fun q => by rw [q, h3] at hx; cases hx; exact w rfl)
  have kq : ∀ {A K : List Nat}, 523 ∉ A → 21 ∉ K → Kq A K T T1 := by
    intro A K hA hK x c9 hx hk'
    rcases hk' with w | w
    · exact st9 x c9 hx (fun q => hK (q ▸ w))
    · exact st x c9 hx (fun q => hA (q ▸ w))
  have ag : ∀ as is, (∀ a ∈ as, ¬ a = 624 ∧ ¬ a = 628) → (∀ i ∈ is, ¬ i = 77) → Ag as is S S1 := fun as is p q => ⟨fun a ha i => r1' a i (p a ha).1 (p a ha).2, fun i hi => i1 i (q i hi)⟩
  have cs : Cs T T1 0 0 := K_tlr _ e9
  have sm : Same [9, 13] T T1 := fun x c9 hx hk' => st9 x c9 hx (fun q => by rw [q] at hk'; revert hk'; decide)
  have hP : RPost T1 S1 := RPost.rem (n := n) (j := k) (cap := cap) h1 (by omega) h4 h5 sm (by omega) (by rw [hT1]; exact tset_at) i77 r624
  have rowS : ∀ k', k' < n → ∀ i, i < 22 → mRow S1 k' i = mRow S (if k' < k then k' else k' + 1) i := fun k' hk' i hi => by
    show rd S1 624 (22 * k' + i) = rd S 624 (22 * _ + i)
    rw [r624]
    by_cases w : k' < k
    · rw [if_neg (by omega), if_pos w]
    · rw [if_pos (by omega), if_neg w]
      congr 1
      omega
  have hR : RB T1 S1 X Y Z Q [] [] j0 rs c := by
    refine ⟨(cs r1).1, r2.fr (kq (by decide) (by decide)) (ag _ _ (by decide) (by decide)), hP, r4.fr (kq (by decide) (by decide)), r5.fr (kq (by decide) (by decide)) (ag _ _ (by decide) (by decide)), r6.fr (kq (by decide) (by decide)) (ag _ _ (by decide) (by decide)), r7.fr (kq (by decide) (by decide)) (ag _ _ (by decide) (by decide)), r8.fr (kq (by decide) (by decide)) (ag _ _ (by decide) (by decide)) (fun z _ r _ => r1' _ _ (by decide) (by decide)) (fun k _ => r1' _ _ (by decide) (by decide)), r9.fr (kq (by decide) (by decide)) (ag _ _ (by decide) (by decide)), r10.fr (kq (by decide) (by decide)) (ag _ _ (by decide) (by decide)) (fun k' a b' d => ?_)⟩
    have hk' : k' < n := by
      rw [i77] at a
      exact (i_lt (by show k' < 2147483648; omega) (by show n < 2147483648; omega)).mp a
    refine ⟨if k' < k then k' else k' + 1, ⟨?_, ?_⟩, (rowS k' hk' 0 (by decide)).symm.trans d, rowS k' hk' 3 (by decide), rowS k' hk' 5 (by decide), rowS k' hk' 4 (by decide)⟩
    · rw [h1]
      refine (i_lt ?_ (by show n + 1 < 2147483648; omega)).mpr ?_
      · show (if k' < k then k' else k' + 1) < 2147483648
        split <;> omega
      · split <;> omega
    · split <;> omega
  -- the views
  have len : (S.1 77).toNatClampNeg = n + 1 := by rw [h1]; exact m_n_cl (by omega)
  have len1 : (S1.1 77).toNatClampNeg = n := by rw [i77]; exact m_n_cl (by omega)
  have vk : (vM S)[k]? = some (cut (came S1)) := by
    unfold vM
    rw [len, List.getElem?_map, List.getElem?_range (by omega), Option.map_some]
    congr 1
    funext i
    unfold cut
    by_cases w : i < 22
    · rw [if_pos w, if_pos w, cm i w]; rfl
    · rw [if_neg w, if_neg w]
  have ve : vM S1 = (vM S).eraseIdx k := by
    refine List.ext_getElem? (fun i => ?_)
    rw [List.getElem?_eraseIdx]
    unfold vM
    rw [len, len1, List.getElem?_map, List.getElem?_map, List.getElem?_map]
    by_cases w : i < n
    · rw [List.getElem?_range w]
      by_cases w2 : i < k
      · rw [if_pos w2, List.getElem?_range (by omega), Option.map_some, Option.map_some]
        congr 1
        funext x
        by_cases w3 : x < 22
        · rw [if_pos w3, if_pos w3]
          have := rowS i w x w3
          rw [if_pos w2] at this
          exact this
        · rw [if_neg w3, if_neg w3]
      · rw [if_neg w2, List.getElem?_range (by omega), Option.map_some, Option.map_some]
        congr 1
        funext x
        by_cases w3 : x < 22
        · rw [if_pos w3, if_pos w3]
          have := rowS i w x w3
          rw [if_neg w2] at this
          exact this
        · rw [if_neg w3, if_neg w3]
    · rw [if_neg (by omega), List.getElem?_eq_none (by rw [List.length_range]; omega), List.getElem?_eq_none (by rw [List.length_range]; omega)]
      rfl
  obtain ⟨x1, x2⟩ := lst_era vk
  refine ⟨b, T1, S1, (vM S).take k, (vM S).drop (k + 1), e9, ?_, hR, ((h5 k b hb).same sm).ext cm, cs, x1, ve.trans x2, vE_ag (ag _ _ (by decide) (by decide)), vS_ag (ag _ _ (by decide) (by decide)), fun w0 => ?_⟩
  · unfold D_m_bring
    rw [show (0 : Int32) = Int32.ofNat 0 from rfl, s1, g1, Option.bind_some]
  · obtain ⟨o, fb, fw, u1, u2, u3, u4, u5, u6, u7⟩ := r10.2.1
    obtain ⟨j, j1, j2, j3, j4, j5⟩ := u7 k (by rw [h1]; exact (i_lt (by show k < 2147483648; omega) (by show n + 1 < 2147483648; omega)).mpr (by omega)) (by omega) ((cm 0 (by decide)).symm.trans w0)
    exact ⟨o, fb, fw, j, (i1 37 (by decide)).trans u1, u2, st _ _ u3 (by decide), st _ _ u4 (by decide), j1, j2, (cm 3 (by decide)).trans j3, (cm 5 (by decide)).trans j4, (cm 4 (by decide)).trans j5⟩
/-- the count of ACKs changes -/
theorem RB.ack (h : RB T S X Y Z Q cz Pd j0 rs c) (hi : ∀ i, ¬ i = 38 → S'.1 i = S.1 i) (hr : ∀ a k, rd S' a k = rd S a k) : RB (tset T 512 (house S'.1)) S' X Y Z Q cz Pd j0 rs c ∧ Cs T (tset T 512 (house S'.1)) 0 0 ∧ vM S' = vM S ∧ vE S' = vE S ∧ vS S' = vS S := by
  obtain ⟨r1, r2, r3, r4, r5, r6, r7, r8, r9, r10⟩ := id h
  have hH : T.1 512 = some (house S.1) := r2
  have kq : ∀ {A K : List Nat}, 512 ∉ A → 0 ∉ K → Kq A K T (tset T 512 (house S'.1)) := by
    intro A K hA hK x c9 hx hk'
    refine tset_o hx (fun q => ?_)
    rcases hk' with w | w
    · rw [q, hH] at hx
      cases hx
      exact hK w
    · exact hA (q ▸ w)
  have ag : ∀ as is, (∀ i ∈ is, ¬ i = 38) → Ag as is S S' := fun as is q => ⟨fun a ha k => hr a k, fun i hi' => hi i (q i hi')⟩
  have cs : Cs T (tset T 512 (house S'.1)) 0 0 := by
    have : tpi T 512 0 12 (S'.1 38) = some (tset T 512 (house S'.1)) := by
      rw [Hp12 hH]
      congr 3
      funext i
      unfold fup
      by_cases w : i = 38
      · rw [if_pos w, w]
      · rw [if_neg w, hi i w]
    exact K_tpi _ this
  refine ⟨⟨(cs r1).1, tset_at, r3.fr (kq (by decide) (by decide)) (ag _ _ (by decide)), r4.fr (kq (by decide) (by decide)), r5.fr (kq (by decide) (by decide)) (ag _ _ (by decide)), r6.fr (kq (by decide) (by decide)) (ag _ _ (by decide)), r7.fr (kq (by decide) (by decide)) (ag _ _ (by decide)), r8.fr (kq (by decide) (by decide)) (ag _ _ (by decide)) (fun z _ r _ => hr _ _) (fun k _ => hr _ _), r9.fr (kq (by decide) (by decide)) (ag _ _ (by decide)), r10.fr (kq (by decide) (by decide)) (ag _ _ (by decide)) (fun k a b d => ?_)⟩, cs, vM_ag (ag _ _ (by decide)), vE_ag (ag _ _ (by decide)), vS_ag (ag _ _ (by decide))⟩
  have e9 : ∀ i, mRow S' k i = mRow S k i := fun i => hr _ _
  exact ⟨k, ⟨by rw [← hi 77 (by decide)]; exact a, b⟩, (e9 0).symm.trans d, e9 3, e9 5, e9 4⟩
end
