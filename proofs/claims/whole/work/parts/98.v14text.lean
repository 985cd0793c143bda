/-! A reply's text is made, once. -/
def PI (T : tT) (m : Nat) : Prop := ∃ b f ml n, Pg T b m f ml (Int32.ofNat n) ∧ n ≤ 700 ∧ m ≤ 1400 ∧ ∀ (q b' : Nat) (l : List Value), T.1 q = some (.inl (12, .ref b' :: l)) → ¬ b' = b ∧ b' < T.2.1
section
variable {T T' : tT} {S S' : mS} {X Y : Nat → List (Nat × Nat)} {Z : Nat → List Fz} {Q cz Pd : List Rq} {j0 c r ra pb s s' F b m : Nat} {rs : List Nat} {g : Nat → Int32} {cs : List Int32} {ml : Int32}
theorem RB.text {f : Nat → Value} {x : Int32} (h : RB T S X Y Z Q cz Pd j0 rs c) (hra : rs[r]? = some ra) (hg : T.1 ra = some (cReply g s)) (h21 : rd S 621 r = 0) (hL : okL T') (pg : Pg T pb m f ml x) (np : ∀ (q b' : Nat) (l : List Value), T.1 q = some (.inl (12, .ref b' :: l)) → ¬ b' = pb) (st : ∀ b x, T.1 b = some x → ¬ b = 525 → ¬ b = pb → ¬ b = ra → T'.1 b = some x) (hR : T'.1 ra = some (cReply g s')) (hx : TX T' g s') (hi : ∀ i, ¬ i = 0 → ¬ i = 91 → S'.1 i = S.1 i) (hr : ∀ a k, ¬ a = 629 → rd S' a k = rd S a k) : RB T' S' X Y Z Q cz Pd j0 rs c := by
  obtain ⟨h1, h2, h3, h4, h5, h6, h7, h8, h9, h10⟩ := id h
  obtain ⟨pg1, pg2, pg3⟩ := pg
  have na : ∀ {b : Nat} {y : tC}, T.1 b = some y → ¬ kd y = 3 → ¬ kd y = 20 → ¬ kd y = 8 → ¬ b = 525 ∧ ¬ b = pb ∧ ¬ b = ra := fun hb k1 k2 k3 => ⟨fun q => by rw [q, pg1] at hb; cases hb; exact k1 rfl, fun q => by rw [q, pg2] at hb; cases hb; exact k2 rfl, fun q => by rw [q, hg] at hb; cases hb; exact k3 rfl⟩
  have nb : ∀ {b t n : Nat} {f : Nat → Value}, T.1 b = some (.inr (.inl (t, n, f))) → ¬ t = 3 → ¬ b = 525 ∧ ¬ b = pb ∧ ¬ b = ra := fun hb k => ⟨fun q => by (rw [q, pg1] at hb; cases hb), fun q => by (rw [q, pg2] at hb; cases hb; exact k rfl), fun q => by (rw [q, hg] at hb; cases hb)⟩
  have kq : ∀ {A K : List Nat}, (∀ b ∈ A, ¬ b = 525 ∧ ¬ b = pb ∧ ¬ b = ra) → (3 ∉ K ∧ 8 ∉ K ∧ 20 ∉ K) → Kq A K T T' := by
    intro A K hA hK b y hb hk
    rcases hk with w | w
    · obtain ⟨a1, a2, a3⟩ := na hb (fun q => hK.1 (q ▸ w)) (fun q => hK.2.2 (q ▸ w)) (fun q => hK.2.1 (q ▸ w))
      exact st b y hb a1 a2 a3
    · exact st b y hb (hA b w).1 (hA b w).2.1 (hA b w).2.2
  have kr : ∀ {A K : List Nat}, (∀ b ∈ A, ¬ b = 525 ∧ ¬ b = ra) → (3 ∉ K ∧ 8 ∉ K) → Kr A K T T' := by
    intro A K hA hK b y hb hk h3
    have n2 : ¬ b = pb := fun q => by rw [q, pg2] at hb; cases hb; exact Bool.noConfusion (show true = false from h3)
    rcases hk with w | w
    · exact st b y hb (fun q => by rw [q, pg1] at hb; cases hb; exact hK.1 w) n2 (fun q => by rw [q, hg] at hb; cases hb; exact hK.2 w)
    · exact st b y hb (hA b w).1 n2 (hA b w).2
  have ag : ∀ as is, (∀ a ∈ as, ¬ a = 629) → (∀ i ∈ is, ¬ i = 0 ∧ ¬ i = 91) → Ag as is S S' := fun as is p q => ⟨fun a ha k => hr a k (p a ha), fun i hi' => hi i (q i hi').1 (q i hi').2⟩
  have a512 : Kq [512] [] T T' := kq (fun b hb => by rw [List.mem_singleton.mp hb]; exact na (show T.1 512 = some (house S.1) from h2) (show ¬ (0 : Nat) = 3 by decide) (show ¬ (0 : Nat) = 20 by decide) (show ¬ (0 : Nat) = 8 by decide)) (by decide)
  have nl : ∀ {b k : Nat} {xs : List Nat}, T.1 b = some (.inr (.inr (k, xs))) → ¬ b = 525 ∧ ¬ b = pb ∧ ¬ b = ra := fun hb => na hb (show ¬ (21 : Nat) = 3 by decide) (show ¬ (21 : Nat) = 20 by decide) (show ¬ (21 : Nat) = 8 by decide)
  have a523 : Kq [523] [9, 13] T T' := by
    obtain ⟨n, cap, ms, z1, z2, z3, z4, z5⟩ := id h3
    exact kq (fun b hb => by rw [List.mem_singleton.mp hb]; exact nl z3) (by decide)
  have a520 : Kq [520] [] T T' := by
    obtain ⟨f, e1, e2⟩ := id h4
    exact kq (fun b hb => by rw [List.mem_singleton.mp hb]; exact nb e1 (by decide)) (by decide)
  have a519 : Kr [519] [4, 20] T T' := by
    obtain ⟨⟨f, e1, e2⟩, _⟩ := id h5
    exact kr (fun b hb => by rw [List.mem_singleton.mp hb]; exact ⟨(nb e1 (by decide)).1, (nb e1 (by decide)).2.2⟩) (by decide)
  have aSt : Kq [537, 538, 545, 546, 553, 554, 561, 562, 569, 570, 577, 578] [5, 11, 13] T T' := by
    refine kq (fun b hb => ?_) (by decide)
    have : ∃ n, 1 ≤ n ∧ n < 7 ∧ (b = 529 + 8 * n ∨ b = 530 + 8 * n) := by
      simp only [List.mem_cons, List.mem_nil_iff, or_false] at hb
      exact ⟨(b - 529) / 8, by omega, by omega, by omega⟩
    obtain ⟨n, n1, n2, n3⟩ := this
    obtain ⟨⟨_, _, ⟨cX, e1⟩, ⟨cY, e2⟩, _⟩, _⟩ := h6.1 n n1 n2
    rcases n3 with n3 | n3
    · rw [n3]; exact nl e1
    · rw [n3]; exact nl e2
  have aF : Kq [539, 547, 555, 563, 571, 579] [10] T T' := by
    refine kq (fun b hb => ?_) (by decide)
    have : ∃ n, 1 ≤ n ∧ n < 7 ∧ b = 531 + 8 * n := by
      simp only [List.mem_cons, List.mem_nil_iff, or_false] at hb
      exact ⟨(b - 531) / 8, by omega, by omega, by omega⟩
    obtain ⟨n, n1, n2, n3⟩ := this
    obtain ⟨⟨cX, e1⟩, _⟩ := h7.1 n n1 n2
    rw [n3]
    exact nl e1
  have a513 : Kr [513] [13, 20] T T' := by
    obtain ⟨f1, f2, f3, L, x2, x5, x6, x7, x8, x9, x10, x11, y13, y14, y15, e1, _⟩ := h10.2.2.2.1
    refine kr (fun b hb => ?_) (by decide)
    rw [List.mem_singleton.mp hb]
    exact ⟨by decide, fun q => by rw [q, hg] at e1; cases e1⟩
  have aQ : Kr [] [6, 7, 20] T T' := kr (fun b hb => by cases hb) (by decide)
  refine ⟨hL, h2.fr a512 (ag _ _ (by decide) (by decide)), h3.fr a523 (ag _ _ (by decide) (by decide)), h4.fr a520, h5.f3 a519 (ag _ _ (by decide) (by decide)), h6.fr aSt (ag _ _ (by decide) (by decide)), h7.fr aF (ag _ _ (by decide) (by decide)), h8.f3 aQ (ag _ _ (by decide) (by decide)) (fun _ _ _ _ => hr _ _ (by decide)) (fun _ _ => hr _ _ (by decide)), ?_, h10.f3 a513 (ag _ _ (by decide) (by decide)) (fun k k1 k2 k3 => ?_)⟩
  · obtain ⟨⟨cR, e1⟩, e2, e3, e4, e5⟩ := id h9
    refine ⟨⟨cR, st _ _ e1 (nl e1).1 (nl e1).2.1 (nl e1).2.2⟩, e2, (hi 70 (by decide) (by decide)).trans e3, ⟨e4.1, fun r' hr' => (hr 627 _ (by decide)).trans (e4.2.1 r' hr'), fun r' hr' => by rw [hr 620 _ (by decide)]; exact e4.2.2 r' hr'⟩, fun r' a' hr' => ?_⟩
    obtain ⟨g', s9, q1, q2, q3, q4, q5⟩ := e5 r' a' hr'
    have k1 : rd S' 621 r' = rd S 621 r' := hr 621 _ (by decide)
    have ans : ∀ {G : Nat → Int32}, isAns S r' G → isAns S' r' G := fun w => w.ag (fun j => hr 620 _ (by decide)) (fun j _ => hr 627 _ (by decide))
    by_cases e : r' = r
    · subst e
      rw [hra] at hr'
      cases hr'
      have gi : ∀ i, i < 13 → g i = g' i := fun i hi' => by
        have : i = 0 ∨ i = 1 ∨ i = 2 ∨ i = 3 ∨ i = 4 ∨ i = 5 ∨ i = 6 ∨ i = 7 ∨ i = 8 ∨ i = 9 ∨ i = 10 ∨ i = 11 ∨ i = 12 := by omega
        rcases this with z | z | z | z | z | z | z | z | z | z | z | z | z
        · rw [z]; exact Option.some.inj ((Rg0 hg).symm.trans (Rg0 q1))
        · rw [z]; exact Option.some.inj ((Rg1 hg).symm.trans (Rg1 q1))
        · rw [z]; exact Option.some.inj ((Rg2 hg).symm.trans (Rg2 q1))
        · rw [z]; exact Option.some.inj ((Rg3 hg).symm.trans (Rg3 q1))
        · rw [z]; exact Option.some.inj ((Rg4 hg).symm.trans (Rg4 q1))
        · rw [z]; exact Option.some.inj ((Rg5 hg).symm.trans (Rg5 q1))
        · rw [z]; exact Option.some.inj ((Rg6 hg).symm.trans (Rg6 q1))
        · rw [z]; exact Option.some.inj ((Rg7 hg).symm.trans (Rg7 q1))
        · rw [z]; exact Option.some.inj ((Rg8 hg).symm.trans (Rg8 q1))
        · rw [z]; exact Option.some.inj ((Rg9 hg).symm.trans (Rg9 q1))
        · rw [z]; exact Option.some.inj ((Rg10 hg).symm.trans (Rg10 q1))
        · rw [z]; exact Option.some.inj ((Rg11 hg).symm.trans (Rg11 q1))
        · rw [z]; exact Option.some.inj ((Rg12 hg).symm.trans (Rg12 q1))
      have ia : isAns S r' g := by
        have w := (q5 h21).1
        unfold isAns at w ⊢
        rw [gi 1 (by decide), gi 2 (by decide), gi 3 (by decide), gi 4 (by decide), gi 5 (by decide), gi 6 (by decide), gi 7 (by decide), gi 8 (by decide), gi 9 (by decide), gi 10 (by decide), gi 11 (by decide), gi 12 (by decide)]
        exact w
      refine ⟨g, s', hR, by rw [k1]; exact q2, by rw [hr 627 _ (by decide), gi 0 (by decide)]; exact q3, fun w => ?_, fun _ => ⟨ans ia, hx⟩⟩
      rw [k1, h21] at w
      exact absurd w (by decide)
    · have naa : ¬ a' = ra := by
        intro w
        subst w
        obtain ⟨i1, j1⟩ := List.getElem?_eq_some_iff.mp hr'
        obtain ⟨i2, j2⟩ := List.getElem?_eq_some_iff.mp hra
        exact e ((List.getElem_inj e4.1).mp (j1.trans j2.symm))
      refine ⟨g', s9, st _ _ q1 (fun q => by rw [q, pg1] at q1; cases q1) (fun q => by rw [q, pg2] at q1; cases q1) naa, by rw [k1]; exact q2, by rw [hr 627 _ (by decide)]; exact q3, by rw [k1]; exact q4, fun z => ⟨ans (q5 (k1 ▸ z)).1, ?_⟩⟩
      rcases (q5 (k1 ▸ z)).2 with w | ⟨b', n', f', h0, h1', a1, a2, a3, a4⟩
      · exact Or.inl w
      · have w1 := na a2 (show ¬ (12 : Nat) = 3 by decide) (show ¬ (12 : Nat) = 20 by decide) (show ¬ (12 : Nat) = 8 by decide)
        exact Or.inr ⟨b', n', f', h0, h1', a1, st _ _ a2 w1.1 w1.2.1 w1.2.2, st _ _ a3 (fun q => by rw [q, pg1] at a3; cases a3) (np _ _ _ a2) (fun q => by rw [q, hg] at a3; cases a3), a4⟩
  · have e9 : ∀ i, mRow S' k i = mRow S k i := fun i => hr _ _ (by decide)
    exact ⟨k, ⟨by rw [← hi 77 (by decide) (by decide)]; exact k1, k2⟩, (e9 0).symm.trans k3, e9 3, e9 5, e9 4⟩
theorem to_str (h : Pt T b m ml cs) (hN : okN T) (hl : cs.length ≤ 700) (hm : m ≤ 20000) : ∃ T' f', D_c_StringBuilder_toString F 525 T = some (some T.2.1, T') ∧ T'.1 T.2.1 = some (.inl (12, [.ref (T.2.1 + 1), .int 0, .int 0, .int 0])) ∧ T'.1 (T.2.1 + 1) = some (.inr (.inl (3, cs.length, f'))) ∧ (∀ i x, cs[i]? = some x → m_toI (f' i) &&& 255 = x) ∧ (∀ c x, T.1 c = some x → T'.1 c = some x) ∧ Cs T T' 2 (4 + cs.length) ∧ (∀ c x, T'.1 c = some x → c = T.2.1 ∨ c = T.2.1 + 1 ∨ T.1 c = some x) ∧ T'.2.1 = T.2.1 + 2 := by
  obtain ⟨f, ⟨p1', p2', p3'⟩, hlm, hc⟩ := h
  obtain ⟨n, hn⟩ : ∃ n, n = cs.length := ⟨_, rfl⟩
  rw [← hn] at hl hlm p1' ⊢
  obtain ⟨A, hA⟩ : ∃ A, A = T.2.1 := ⟨_, rfl⟩
  rw [← hA]
  have l5 := hN _ _ p1'
  have lb := hN _ _ p2'
  rw [← hA] at l5 lb
  obtain ⟨T2, h2⟩ : ∃ z, z = tadd T (.inl (12, [.null, .int 0, .int 0, .int 0])) 4 := ⟨_, rfl⟩
  have nw : tnw T 12 = some (A, T2) := by rw [h2, hA]; rfl
  have b2 : ∀ c, T2.1 c = if c = A then some (.inl (12, [.null, .int 0, .int 0, .int 0])) else T.1 c := fun c => by rw [h2, tadd_1, hA]
  have n2 : T2.2.1 = A + 1 := by rw [h2, hA]; rfl
  have x2 : T2.1 525 = some (SB b ml (Int32.ofNat n)) := by rw [b2, if_neg (by omega)]; exact p1'
  have y2 : T2.1 A = some (.inl (12, [.null, .int 0, .int 0, .int 0])) := by rw [b2, if_pos rfl]
  obtain ⟨T27, h27⟩ : ∃ z, z = tset T2 A (.inl (12, [.null, .int 0, .int 0, .int 0])) := ⟨_, rfl⟩
  have pb : tpb T2 A 12 1 (0 : Int32) = some T27 := by
    unfold tpb
    rw [if_pos ⟨by decide, by decide⟩, h27]
    exact (tp_o y2 (show 1 < 4 by decide)).trans rfl
  have b27 : ∀ c, T27.1 c = T2.1 c := fun c => by
    rw [h27, tset_1]
    by_cases w : c = A
    · rw [if_pos w, w, y2]
    · rw [if_neg w]
  have n27 : T27.2.1 = A + 1 := by rw [h27]; exact n2
  have z27 : T27.1 b = some (.inr (.inl (3, m, f))) := by rw [b27, b2, if_neg (by omega)]; exact p2'
  have al : tal T27 b = some (Int32.ofNat m) := by simp only [tal, z27]; rfl
  have Cs27 : Cs T T27 1 4 := by
    have q1' : Cs T T2 1 4 := by rw [h2]; exact Cs.new rfl
    have q2' : Cs T2 T27 0 0 := by rw [h27]; exact Cs.cell y2 rfl rfl
    exact (q1'.trans q2').mono (by omega) (by omega)
  have cp : ∃ T32 f', D_c_Arrays_copyOfRange F (some b) (0 : Int32) (Int32.ofNat n) T27 = some (some (A + 1), T32) ∧ (∀ c, T32.1 c = if c = A + 1 then some (.inr (.inl (3, n, f'))) else T27.1 c) ∧ (∀ i, i < n → f' i = f i) ∧ Cs T27 T32 1 n ∧ T32.2.1 = A + 2 := by
    unfold D_c_Arrays_copyOfRange
    rw [show m_c1 .ne (0 : Int32) = false from rfl, cond_false, Option.bind_some, al, Option.bind_some]
    have eqn : m_c2 .eq (Int32.ofNat n) (Int32.ofNat m) = decide (n = m) := by
      by_cases w : n = m
      · rw [w]; exact (decide_eq_true rfl).trans (decide_eq_true rfl).symm
      · rw [decide_eq_false w]
        exact decide_eq_false (fun q => w (by
          have := congrArg Int32.toNatClampNeg q
          rw [m_n_cl (by omega), m_n_cl (by omega)] at this
          exact this))
    rw [eqn]
    by_cases w : n = m
    · rw [decide_eq_true w, cond_true]
      obtain ⟨T12, h12⟩ : ∃ z, z = tadd T27 (.inr (.inl (3, m, f))) m := ⟨_, rfl⟩
      have cl : tcln T27 b = some (A + 1, T12) := by
        unfold tcln
        simp only [z27]
        rw [if_pos (List.all_eq_true.mpr (fun i hi => p3' i (List.mem_range.mp hi))), h12, n27]
      have b12 : ∀ c, T12.1 c = if c = A + 1 then some (.inr (.inl (3, m, f))) else T27.1 c := fun c => by rw [h12, tadd_1, n27]
      have ba : tba T12 (A + 1) = some () := by
        unfold tba
        simp only [b12, if_true]
      refine ⟨T12, f, by rw [cl]; simp only [bd2, ba, Option.bind_some], by rw [w]; exact b12, fun _ _ => rfl, by rw [h12, w]; exact Cs.new rfl, by rw [h12]; show T27.2.1 + 1 = _; rw [n27]⟩
    · rw [decide_eq_false w, cond_false]
      unfold D_c_Arrays_copyOfRange_10 D_c_Arrays_copyOfRangeByte D_c_Arrays_checkLength
      have g0 : m_c2 .ge (Int32.ofNat n) (0 : Int32) = true := by
        rw [show (0 : Int32) = Int32.ofNat 0 from rfl, ge_n (by omega) (by decide), decide_eq_true (Nat.zero_le _)]
      have s0 : ∀ k, Int32.ofNat k - (0 : Int32) = Int32.ofNat k := fun k => Int32.sub_zero _
      obtain ⟨T6, h6⟩ : ∃ z, z = tadd T27 (.inr (.inl (3, n, fun _ => .int 0))) n := ⟨_, rfl⟩
      have na : tna T27 3 (Int32.ofNat n) = some (A + 1, T6) := by
        unfold tna
        rw [if_neg (show ¬ (Int32.ofNat n < 0 ∨ 65536 < (Int32.ofNat n).toNatClampNeg) from ?_), m_n_cl (by omega), n27, h6]
        · rfl
        · rw [m_n_cl (by omega)]
          intro q
          rcases q with q | q
          · exact m_n_neg (by omega) q
          · omega
      have b6 : ∀ c, T6.1 c = if c = A + 1 then some (.inr (.inl (3, n, fun _ => .int 0))) else T27.1 c := fun c => by rw [h6, tadd_1, n27]
      have x6 : T6.1 b = some (.inr (.inl (3, m, f))) := by rw [b6, if_neg (by omega)]; exact z27
      have y6 : T6.1 (A + 1) = some (.inr (.inl (3, n, fun _ => .int 0))) := by rw [b6, if_pos rfl]
      have al6 : tal T6 b = some (Int32.ofNat m) := by simp only [tal, x6]; rfl
      have mn : (if Int32.ofNat n < Int32.ofNat m then Int32.ofNat n else Int32.ofNat m) = Int32.ofNat n := if_pos ((i_lt (a := n) (b := m) (by show n < 2147483648; omega) (by show m < 2147483648; omega)).mpr (by omega))
      obtain ⟨f', hf'⟩ : ∃ z : Nat → Value, z = fun j => if 0 ≤ j ∧ j < 0 + n then f (0 + (j - 0)) else .int 0 := ⟨_, rfl⟩
      obtain ⟨T16, h16⟩ : ∃ z, z = tset T6 (A + 1) (.inr (.inl (3, n, f'))) := ⟨_, rfl⟩
      have cpb : tcb T6 b 0 (A + 1) 0 (Int32.ofNat n) = some T16 := by
        unfold tcb
        simp only [x6, y6, m_n_cl (show n < 2147483648 by omega)]
        rw [if_pos ⟨⟨by decide, by decide, m_n_neg (by omega)⟩, ⟨by show 0 + n ≤ m; omega, by show 0 + n ≤ n; omega⟩, List.all_eq_true.mpr (fun i hi => by
          have := p3' i (Nat.lt_of_lt_of_le (List.mem_range.mp hi) hlm)
          show fits .byte (.int (m_toI (f (0 + i)))) = true
          rw [Nat.zero_add]
          exact this)⟩, h16, hf']
        rfl
      refine ⟨T16, f', ?_, fun c => ?_, fun i hi => ?_, ?_, ?_⟩
      · simp only [g0, cond_true, Option.bind_some, s0, na, bd2, al6, mn, cpb]
      · rw [h16, tset_1]
        by_cases z : c = A + 1
        · rw [if_pos z, if_pos z]
        · rw [if_neg z, if_neg z, b6, if_neg z]
      · rw [hf']
        show (if 0 ≤ i ∧ i < 0 + n then f (0 + (i - 0)) else .int 0) = f i
        rw [if_pos ⟨Nat.zero_le _, by omega⟩, Nat.zero_add, Nat.sub_zero]
      · have q1' : Cs T27 T6 1 n := by rw [h6]; exact Cs.new rfl
        have q2' : Cs T6 T16 0 0 := by rw [h16]; exact Cs.cell y6 rfl rfl
        exact (q1'.trans q2').mono (by omega) (by omega)
      · rw [h16, h6]; show T27.2.1 + 1 = _; rw [n27]
  obtain ⟨T32, f', c1, c2, c3, c4, c5⟩ := cp
  have y32 : T32.1 A = some (.inl (12, [.null, .int 0, .int 0, .int 0])) := by rw [c2, if_neg (by omega), b27]; exact y2
  obtain ⟨T36, h36⟩ : ∃ z, z = tset T32 A (.inl (12, [.ref (A + 1), .int 0, .int 0, .int 0])) := ⟨_, rfl⟩
  have pr : tpr T32 A 12 0 (some (A + 1)) = some T36 := by
    rw [h36]
    exact (tp_o y32 (show 0 < 4 by decide)).trans rfl
  have b36 : ∀ c, T36.1 c = if c = A then some (.inl (12, [.ref (A + 1), .int 0, .int 0, .int 0])) else if c = A + 1 then some (.inr (.inl (3, n, f'))) else T.1 c := fun c => by
    rw [h36, tset_1]
    by_cases w : c = A
    · rw [if_pos w, if_pos w]
    · rw [if_neg w, if_neg w, c2]
      by_cases w2 : c = A + 1
      · rw [if_pos w2, if_pos w2]
      · rw [if_neg w2, if_neg w2, b27, b2, if_neg w]
  have nA : ∀ c x, T.1 c = some x → ¬ c = A ∧ ¬ c = A + 1 := fun c x hc' => by
    have := hN c x hc'
    omega
  refine ⟨T36, f', ?_, by rw [b36, if_pos rfl], by rw [b36, if_neg (by omega), if_pos rfl], fun i x hx => ?_, fun c x hc' => ?_, ?_, fun c x hc' => ?_, ?_⟩
  · unfold D_c_StringBuilder_toString D_c_String_init191 D_c_String_init D_c_AbstractStringBuilder_getValue D_c_StringBuilder_length D_c_AbstractStringBuilder_length
    rw [nw]
    simp only [bd2, Option.bind_some, tcl_o x2, Sg0 x2, Sg3 x2, isl x2, show m_c1 .eq (1 : Int32) = false from rfl, cond_false, pb, c1, pr]
  · have := (List.getElem?_eq_some_iff.mp hx).1
    rw [c3 i (by omega)]
    exact hc i x hx
  · rw [b36, if_neg (nA c x hc').1, if_neg (nA c x hc').2]
    exact hc'
  · have q3' : Cs T32 T36 0 0 := by rw [h36]; exact Cs.cell y32 rfl rfl
    exact ((Cs27.trans c4).trans q3').mono (by omega) (by omega)
  · rw [b36] at hc'
    by_cases w : c = A
    · exact Or.inl w
    · rw [if_neg w] at hc'
      by_cases w2 : c = A + 1
      · exact Or.inr (Or.inl w2)
      · rw [if_neg w2] at hc'
        exact Or.inr (Or.inr hc')
  · rw [h36]; exact c5
end
