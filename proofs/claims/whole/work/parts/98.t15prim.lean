/-! Messages are posted, replies are closed: the whole relation stands. -/
def psh (M : List (Nat → Int32)) (m : Nat → Int32) : List (Nat → Int32) := if M.length < 100 then M ++ [m] else M
def cut (row : Nat → Int32) : Nat → Int32 := fun i => if i < 22 then row i else 0
theorem vM_len {S : mS} {n : Nat} (h : S.1 77 = Int32.ofNat n) (hn : n ≤ 100) : (vM S).length = n := by
  have : (S.1 77).toNatClampNeg = n := by rw [h]; exact m_n_cl (by omega)
  rw [vM, List.length_map, List.length_range, this]
theorem pst.view {S S' : mS} {row : Nat → Int32} (h : pst S S' row) : vM S' = psh (vM S) (cut row) := by
  obtain ⟨n, h1, h | h⟩ := h
  · obtain ⟨a, b, c⟩ := h
    have l := vM_len h1 (by omega)
    have e1 : (S.1 77).toNatClampNeg = n := by rw [h1]; exact m_n_cl (by omega)
    have e2 : (S'.1 77).toNatClampNeg = n + 1 := by rw [b]; exact m_n_cl (by omega)
    rw [psh, l, if_pos a]
    unfold vM
    rw [e1, e2, List.range_succ, List.map_append]
    congr 1
    · refine List.map_congr_left (fun k hk => ?_)
      have hk := List.mem_range.mp hk
      funext i
      by_cases hi : i < 22
      · rw [if_pos hi, if_pos hi, c, if_neg (by omega)]
      · rw [if_neg hi, if_neg hi]
    · simp only [List.map_cons, List.map_nil]
      congr 1
      funext i
      unfold cut
      by_cases hi : i < 22
      · rw [if_pos hi, if_pos hi, c, if_pos (by omega), show 22 * n + i - 22 * n = i by omega]
      · rw [if_neg hi, if_neg hi]
  · obtain ⟨a, b, c⟩ := h
    have l := vM_len h1 (by omega)
    rw [psh, l, if_neg (by omega)]
    unfold vM
    rw [b]
    simp only [c]
theorem FrC.kq {L A K : List Nat} {T T' : tT} (h : FrC L T T') (hk : ∀ b ∈ L, ∀ c, T.1 b = some c → kd c ∉ K ∧ b ∉ A) : Kq A K T T' := by
  intro b c hb hc
  by_cases z : b ∈ L
  · obtain ⟨a1, a2⟩ := hk b z c hb
    exact absurd hc (fun w => w.elim a1 a2)
  · exact h.1 b c hb z
def kX : List Nat := [1, 2, 3, 4, 5, 6, 7, 9, 10, 11, 12, 13, 20]
section
variable {T T' : tT} {S S' : mS} {X Y : Nat → List (Nat × Nat)} {Z : Nat → List Fz} {Q cz Pd : List Rq} {j0 c : Nat} {rs : List Nat}
/-- the one that is looked at is let go -/
theorem RB.uncz (h : RB T S X Y Z Q cz Pd j0 rs c) : RB T S X Y Z Q [] Pd j0 rs c := by
  obtain ⟨h1, h2, h3, h4, h5, h6, h7, ⟨⟨a1, a2, a3, a4⟩, b1, b2, b3, c1, c2, d⟩, h9⟩ := h
  have sub : (Q ++ ([] ++ Pd)).Sublist (Q ++ (cz ++ Pd)) := List.Sublist.append (List.Sublist.refl _) (List.sublist_append_right _ _)
  exact ⟨h1, h2, h3, h4, h5, h6, h7, ⟨⟨a1, Nat.le_trans sub.length_le a2, a3, Nat.zero_le _⟩, b1, fun z hz => (by cases hz), b3, c1.sublist (sub.map _), c2.sublist (sub.filterMap _), d⟩, h9⟩
theorem RB.kq (h : RB T S X Y Z Q cz Pd j0 rs c) (hF : FrC [512, 523] T T') {A K : List Nat} (hA : 512 ∉ A ∧ 523 ∉ A) (hK : 0 ∉ K ∧ 21 ∉ K) : Kq A K T T' := by
  refine hF.kq (fun b hb x hx => ?_)
  obtain ⟨n, cap, ms, z1, z2, z3, z4, z5⟩ := h.2.2.1
  simp only [List.mem_cons, List.mem_nil_iff, or_false] at hb
  rcases hb with rfl | rfl
  · rw [show T.1 512 = some (house S.1) from h.2.1] at hx
    cases hx
    exact ⟨hK.1, hA.1⟩
  · rw [z3] at hx
    cases hx
    exact ⟨hK.2, hA.2⟩
theorem RB.post (h : RB T S X Y Z Q cz Pd j0 rs c) (hL : okL T') (hH : RHouse T' S') (hP : RPost T' S') (hF : FrC [512, 523] T T') (hi : ∀ i, ¬ i = 77 → ¬ i = 39 → ¬ (84 ≤ i ∧ i ≤ 87) → S'.1 i = S.1 i) (hr : ∀ b k, ¬ b = 624 → ¬ b = 625 → rd S' b k = rd S b k) {row : Nat → Int32} (hp : pst S S' row) (h2 : ¬ row 0 = 2) : RB T' S' X Y Z Q cz Pd j0 rs c := by
  obtain ⟨_, _, h3, h4, h5, h6, h7, h8, h9, h10⟩ := id h
  have ag : ∀ as is, (∀ a ∈ as, ¬ a = 624 ∧ ¬ a = 625) → (∀ i ∈ is, ¬ i = 77 ∧ ¬ i = 39 ∧ ¬ (84 ≤ i ∧ i ≤ 87)) → Ag as is S S' := fun as is p q => ⟨fun a ha k => hr a k (p a ha).1 (p a ha).2, fun i hi' => hi i (q i hi').1 (q i hi').2.1 (q i hi').2.2⟩
  refine ⟨hL, hH, hP, h4.fr (h.kq hF (by decide) (by decide)), h5.fr (h.kq hF (by decide) (by decide)) (ag _ _ (by decide) (by decide)), h6.fr (h.kq hF (by decide) (by decide)) (ag _ _ (by decide) (by decide)), h7.fr (h.kq hF (by decide) (by decide)) (ag _ _ (by decide) (by decide)), h8.fr (h.kq hF (by decide) (by decide)) (ag _ _ (by decide) (by decide)) (fun z _ r _ => hr _ _ (by decide) (by decide)) (fun k _ => hr _ _ (by decide) (by decide)), h9.fr (h.kq hF (by decide) (by decide)) (ag _ _ (by decide) (by decide)), h10.fr (h.kq hF (by decide) (by decide)) (ag _ _ (by decide) (by decide)) ?_⟩
  intro k k1 k2 k3
  obtain ⟨n, p1, ⟨p2, p3, p4⟩ | ⟨p2, p3, p4⟩⟩ := hp
  · have hk : k < n + 1 := by
      rw [p3] at k1
      exact (i_lt (by show k < 2147483648; omega) (by show n + 1 < 2147483648; omega)).mp k1
    by_cases e : k = n
    · exfalso
      apply h2
      have : mRow S' k 0 = row 0 := by
        show rd S' 624 (22 * k + 0) = row 0
        rw [p4, if_pos (by omega)]
        congr 1
        omega
      rw [← this]
      exact k3
    · have e9 : ∀ i, i < 22 → mRow S' k i = mRow S k i := fun i hi => by
        show rd S' 624 (22 * k + i) = rd S 624 (22 * k + i)
        rw [p4, if_neg (by omega)]
      refine ⟨k, ⟨?_, k2⟩, (e9 0 (by decide)).symm.trans k3, e9 3 (by decide), e9 5 (by decide), e9 4 (by decide)⟩
      rw [p1]
      exact (i_lt (by show k < 2147483648; omega) (by show n < 2147483648; omega)).mpr (by omega)
  · have e9 : ∀ i, mRow S' k i = mRow S k i := fun i => p4 _
    exact ⟨k, ⟨by rw [← p3]; exact k1, k2⟩, (e9 0).symm.trans k3, e9 3, e9 5, e9 4⟩
/-- a client's reply is closed -/
theorem RB.closed {z : Rq} {r ra : Nat} {G : Nat → Int32} (h : RB T S X Y Z Q [z] Pd j0 rs c) (hz : z.2.2.1 = some r) (hra : rs[r]? = some ra) (hL : okL T') (hH : RHouse T' S') (hF : FrC [512, ra] T T') (hR : T'.1 ra = some (cReply G 31)) (hi : ∀ i, ¬ i = 71 → ¬ (84 ≤ i ∧ i ≤ 87) → S'.1 i = S.1 i) (hr : ∀ a q, ¬ a = 621 → ¬ a = 627 → rd S' a q = rd S a q) (h21 : ∀ q, rd S' 621 q = if q = r then 0 else rd S 621 q) (h27 : ∀ q, ¬ aRow r q → rd S' 627 q = rd S 627 q) (hA : isAns S' r G) (hE : G 0 = rd S' 627 (9 * r + 6)) : RB T' S' X Y Z Q [] Pd j0 rs c := by
  have h0 := h.uncz
  obtain ⟨_, _, h3, h4, h5, h6, h7, h8, h9, h10⟩ := id h
  obtain ⟨g9, s9, hg9, _⟩ := h9.2.2.2.2 r ra hra
  have kq : ∀ {A K : List Nat}, (512 ∉ A ∧ (∀ b ∈ A, ∀ g s, ¬ T.1 b = some (cReply g s))) → (0 ∉ K ∧ 8 ∉ K) → Kq A K T T' := by
    intro A K hA hK
    refine hF.kq (fun b hb x hx => ?_)
    simp only [List.mem_cons, List.mem_nil_iff, or_false] at hb
    rcases hb with rfl | rfl
    · rw [show T.1 512 = some (house S.1) from h.2.1] at hx
      cases hx
      exact ⟨hK.1, hA.1⟩
    · rw [hg9] at hx
      cases hx
      exact ⟨hK.2, fun w => hA.2 _ w _ _ hg9⟩
  have ag : ∀ as is, (∀ a ∈ as, ¬ a = 621 ∧ ¬ a = 627) → (∀ i ∈ is, ¬ i = 71 ∧ ¬ (84 ≤ i ∧ i ≤ 87)) → Ag as is S S' := fun as is p q => ⟨fun a ha k => hr a k (p a ha).1 (p a ha).2, fun i hi' => hi i (q i hi').1 (q i hi').2⟩
  obtain ⟨n, cap, ms, z1, z2, z3, z4, z5⟩ := id h3
  have n523 : ∀ g s, ¬ T.1 523 = some (cReply g s) := fun g s w => by rw [z3] at w; cases w
  have nL : ∀ {b k : Nat} {xs : List Nat}, T.1 b = some (.inr (.inr (k, xs))) → ∀ g s, ¬ T.1 b = some (cReply g s) := fun hb g s w => by rw [hb] at w; cases w
  have nA : ∀ {b t k : Nat} {f : Nat → Value}, T.1 b = some (.inr (.inl (t, k, f))) → ∀ g s, ¬ T.1 b = some (cReply g s) := fun hb g s w => by rw [hb] at w; cases w
  have a520 : Kq [520] [] T T' := by
    obtain ⟨f, e1, e2⟩ := id h4
    exact kq ⟨by decide, fun b hb => by rw [List.mem_singleton.mp hb]; exact nA e1⟩ (by decide)
  have a519 : Kq [519] [4, 20] T T' := by
    obtain ⟨⟨f, e1, e2⟩, _⟩ := id h5
    exact kq ⟨by decide, fun b hb => by rw [List.mem_singleton.mp hb]; exact nA e1⟩ (by decide)
  have a523 : Kq [523] [9, 13] T T' := kq ⟨by decide, fun b hb => by rw [List.mem_singleton.mp hb]; exact n523⟩ (by decide)
  have aSt : Kq [537, 538, 545, 546, 553, 554, 561, 562, 569, 570, 577, 578] [5, 11, 13] T T' := by
    refine kq ⟨by decide, fun b hb => ?_⟩ (by decide)
    have : ∃ n, 1 ≤ n ∧ n < 7 ∧ (b = 529 + 8 * n ∨ b = 530 + 8 * n) := by
      simp only [List.mem_cons, List.mem_nil_iff, or_false] at hb
      exact ⟨(b - 529) / 8, by omega, by omega, by omega⟩
    obtain ⟨n, n1, n2, n3⟩ := this
    obtain ⟨⟨_, _, ⟨cX, e1⟩, ⟨cY, e2⟩, _⟩, _⟩ := h6.1 n n1 n2
    rcases n3 with n3 | n3
    · rw [n3]; exact nL e1
    · rw [n3]; exact nL e2
  have aF : Kq [539, 547, 555, 563, 571, 579] [10] T T' := by
    refine kq ⟨by decide, fun b hb => ?_⟩ (by decide)
    have : ∃ n, 1 ≤ n ∧ n < 7 ∧ b = 531 + 8 * n := by
      simp only [List.mem_cons, List.mem_nil_iff, or_false] at hb
      exact ⟨(b - 531) / 8, by omega, by omega, by omega⟩
    obtain ⟨n, n1, n2, n3⟩ := this
    obtain ⟨⟨cX, e1⟩, _⟩ := h7.1 n n1 n2
    rw [n3]
    exact nL e1
  have a513 : Kq [513] [13, 20] T T' := by
    obtain ⟨f1, f2, f3, L, x2, x5, x6, x7, x8, x9, x10, x11, y13, y14, y15, e1, _⟩ := h10.2.2.2.1
    exact kq ⟨by decide, fun b hb g s w => by rw [List.mem_singleton.mp hb, e1] at w; cases w⟩ (by decide)
  have aQ : Kq [] [6, 7, 20] T T' := kq ⟨by decide, fun b hb => by cases hb⟩ (by decide)
  have hc2 := h8.2.2.2.2.2.1
  refine ⟨hL, hH, h3.fr a523 (ag _ _ (by decide) (by decide)), h4.fr a520, h5.fr a519 (ag _ _ (by decide) (by decide)), h6.fr aSt (ag _ _ (by decide) (by decide)), h7.fr aF (ag _ _ (by decide) (by decide)), ?_, ?_, h10.fr a513 (ag _ _ (by decide) (by decide)) ?_⟩
  · refine h0.2.2.2.2.2.2.2.1.fr aQ (ag _ _ (by decide) (by decide)) (fun y hy r' hr' => ?_) (fun k _ => hr _ _ (by decide) (by decide))
    have : ¬ r' = r := by
      intro e
      subst e
      rw [List.filterMap_append, List.filterMap_append, List.nodup_append, List.nodup_append] at hc2
      obtain ⟨d1, ⟨d2, d3, d4⟩, d5⟩ := hc2
      have zin : r' ∈ List.filterMap (fun z : Rq => z.2.2.1) [z] := List.mem_filterMap.mpr ⟨z, List.mem_singleton.mpr rfl, hz⟩
      rw [List.nil_append] at hy
      rcases List.mem_append.mp hy with w | w
      · exact d5 r' (List.mem_filterMap.mpr ⟨y, w, hr'⟩) r' (List.mem_append_left _ zin) rfl
      · exact d4 r' zin r' (List.mem_filterMap.mpr ⟨y, w, hr'⟩) rfl
    rw [h21, if_neg this]
  · obtain ⟨⟨cR, e1⟩, e2, e3, e4, e5⟩ := id h9
    have n524 : ¬ (524 : Nat) = ra := kd_ne e1 hg9 (show ¬ (21 : Nat) = 8 by decide)
    refine ⟨⟨cR, hF.1 _ _ e1 (by simp; exact n524)⟩, e2, (hi 70 (by decide) (by decide)).trans e3, ⟨e4.1, fun r' hr' => (h27 _ (fun w => ?_)).trans (e4.2.1 r' hr'), fun r' hr' => by rw [hr 620 _ (by decide) (by decide)]; exact e4.2.2 r' hr'⟩, fun r' a' hr' => ?_⟩
    · have := (List.getElem?_eq_some_iff.mp hra).1
      unfold aRow at w
      omega
    by_cases e : r' = r
    · subst e
      rw [hra] at hr'
      cases hr'
      refine ⟨G, 31, hR, Or.inl (by rw [h21, if_pos rfl]), hE, fun w => ?_, fun _ => ⟨hA, Or.inl rfl⟩⟩
      rw [h21, if_pos rfl] at w
      cases w
    · have na : ¬ a' = ra := by
        intro w
        subst w
        obtain ⟨i1, j1⟩ := List.getElem?_eq_some_iff.mp hr'
        obtain ⟨i2, j2⟩ := List.getElem?_eq_some_iff.mp hra
        exact e ((List.getElem_inj e4.1).mp (j1.trans j2.symm))
      have hrep := e5 r' a' hr'
      refine hrep.fr (fun x hx => ?_) (kq ⟨by decide, fun b hb => by cases hb⟩ (by decide)) (fun j => hr _ _ (by decide) (by decide)) (by rw [h21, if_neg e]) (fun j hj => h27 j (fun w => e ?_))
      · obtain ⟨g, s, q1, _⟩ := hrep
        rw [q1] at hx
        cases hx
        have n512 : ¬ a' = 512 := kd_ne q1 (show T.1 512 = some (house S.1) from h.2.1) (show ¬ (8 : Nat) = 0 by decide)
        exact hF.1 _ _ q1 (by simp; exact ⟨n512, na⟩)
      · unfold aRow at hj w
        omega
  · intro k k1 k2 k3
    have e9 : ∀ i, mRow S' k i = mRow S k i := fun i => hr _ _ (by decide) (by decide)
    exact ⟨k, ⟨by rw [← hi 77 (by decide) (by decide)]; exact k1, k2⟩, (e9 0).symm.trans k3, e9 3, e9 5, e9 4⟩
end
