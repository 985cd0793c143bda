/-! A fetch is taken out of its node, those that wait for it are taken. -/
theorem map_eraseF {α β : Type} (f : α → β) : ∀ (L : List α) (i : Nat), (L.map f).eraseIdx i = (L.eraseIdx i).map f
  | [], _ => rfl
  | _ :: _, 0 => rfl
  | a :: L, i + 1 => by
    show f a :: (L.map f).eraseIdx i = f a :: (L.eraseIdx i).map f
    rw [map_eraseF f L i]
def RBm (T : tT) (S : mS) (X Y : Nat → List (Nat × Nat)) (rs : List Nat) (c : Nat) : Prop := okL T ∧ RHouse T S ∧ RPost T S ∧ RPts T ∧ RNodes T S ∧ RSt T S X Y c ∧ RRep T S rs ∧ RX T S
def RQx (T : tT) (S : mS) (rs : List Nat) (Q : List Rq) (f : Nat) : Prop := (S.1 74 = Int32.ofNat Q.length ∧ Q.length ≤ 700) ∧ (∀ k z, Q[k]? = some z → isQr T S rs z (fun i => rd S 622 (12 * k + i))) ∧ (Q.map Prod.fst).Nodup ∧ (Q.filterMap (fun z => z.2.2.1)).Nodup ∧ (∀ f, lnk T (ch Q f)) ∧ (∀ z ∈ Q, ¬ z.2.1 = f → rd S 609 z.2.1 = 1)
def RBx (T : tT) (S : mS) (X Y : Nat → List (Nat × Nat)) (Z : Nat → List Fz) (Q : List Rq) (rs : List Nat) (c f : Nat) : Prop := RBm T S X Y rs c ∧ RFx T S Z (ch Q) f ∧ RQx T S rs Q f
def zDel (Z : Nat → List Fz) (n i : Nat) : Nat → List Fz := fun m => if m = n then (Z n).eraseIdx i else Z m
section
variable {T : tT} {S : mS} {X Y : Nat → List (Nat × Nat)} {Z : Nat → List Fz} {C : Nat → List Nat} {Q : List Rq} {j0 c F n : Nat} {rs : List Nat} {y : Fz}
theorem RF.numinj (h : RF T S Z C) (h1 : 1 ≤ n) (h2 : n < 7) {i j : Nat} {a b : Fz} (hi : (Z n)[i]? = some a) (hj : (Z n)[j]? = some b) (e : a.2.2 7 = b.2.2 7) : i = j := by
  obtain ⟨_, _, a3, _⟩ := h.1 n h1 h2
  have en : nmb a = nmb b := by unfold nmb; rw [e]
  obtain ⟨i1, i2⟩ := List.getElem?_eq_some_iff.mp hi
  obtain ⟨j1, j2⟩ := List.getElem?_eq_some_iff.mp hj
  rcases Nat.lt_trichotomy i j with w | w | w
  · have := List.pairwise_iff_getElem.mp a3 i j i1 j1 w
    rw [i2, j2] at this
    omega
  · exact w
  · have := List.pairwise_iff_getElem.mp a3 j i j1 i1 w
    rw [i2, j2] at this
    omega
theorem c_takeF_loop (h : RF T S Z C) (h1 : 1 ≤ n) (h2 : n < 7) (hnode : T.1 (527 + 8 * n) = some (nodeC S n)) {cp : Nat} (hl : T.1 (531 + 8 * n) = some (.inr (.inr (cp, (Z n).map Prod.fst)))) (x : Int32) : ∀ (m i : Nat), i + m = (Z n).length → (∀ j z, j < i → (Z n)[j]? = some z → ¬ z.2.2 7 = x) → ∀ f, m < f → ((∀ z ∈ Z n, ¬ z.2.2 7 = x) ∧ D_c_Node_takeFetch_2 F f (527 + 8 * n) x (Int32.ofNat i) T = some (none, T)) ∨ ∃ k z, (Z n)[k]? = some z ∧ z.2.2 7 = x ∧ D_c_Node_takeFetch_2 F f (527 + 8 * n) x (Int32.ofNat i) T = some (some z.1, tset T (531 + 8 * n) (.inr (.inr (cp, ((Z n).eraseIdx k).map Prod.fst)))) := by
  obtain ⟨_, a2, _⟩ := h.1 n h1 h2
  have len := h.len h1 h2
  have e1 : tgr T (527 + 8 * n) 4 2 = some (some (531 + 8 * n)) := tgr_o (x := some (531 + 8 * n)) hnode rfl
  have e2 : tls T (531 + 8 * n) = some (Int32.ofNat (Z n).length) := by simp only [tls, tl, hl, Option.map_some, List.length_map]
  intro m
  induction m with
  | zero =>
    intro i hi hno f hf
    obtain ⟨f, rfl⟩ : ∃ g, f = g + 1 := ⟨f - 1, by omega⟩
    left
    refine ⟨fun z hz => ?_, ?_⟩
    · obtain ⟨j, hj⟩ := List.mem_iff_getElem?.mp hz
      exact hno j z (by have := (List.getElem?_eq_some_iff.mp hj).1; omega) hj
    · unfold D_c_Node_takeFetch_2
      simp only [e1, e2, Option.bind_some, ge_n (show i < 2147483648 by omega) (show (Z n).length < 2147483648 by omega), decide_eq_true (show (Z n).length ≤ i by omega), cond_true]
  | succ m ih =>
    intro i hi hno f hf
    obtain ⟨f, rfl⟩ : ∃ g, f = g + 1 := ⟨f - 1, by omega⟩
    have hil : i < (Z n).length := by omega
    obtain ⟨z, hz⟩ : ∃ z, (Z n)[i]? = some z := ⟨(Z n)[i], List.getElem?_eq_getElem hil⟩
    have hzm := List.mem_of_getElem? hz
    have c1 := (a2 z hzm).1
    have ni : ¬ Int32.ofNat i < 0 := by have := (@i_lt i 0 (by show i < 2147483648; omega) (by decide)); exact fun w => absurd (this.mp w) (Nat.not_lt_zero _)
    have e3 : tlg T (531 + 8 * n) (Int32.ofNat i) = some z.1 := by
      simp only [tlg, tl, hl, Option.bind_some]
      rw [if_neg ni, m_n_cl (by omega), List.getElem?_map, hz]
      rfl
    have e4 : tcc T (some z.1) 10 = some () := tcl_o c1
    have g7 : tgi T z.1 10 7 = some (z.2.2 7) := (Fg7 c1).trans rfl
    by_cases w : z.2.2 7 = x
    · right
      refine ⟨i, z, hz, w, ?_⟩
      have e5 : tlr T (531 + 8 * n) (Int32.ofNat i) = some (z.1, tset T (531 + 8 * n) (.inr (.inr (cp, ((Z n).eraseIdx i).map Prod.fst)))) := by
        simp only [tlr, tl, hl, Option.bind_some]
        rw [if_neg ni, m_n_cl (by omega), List.getElem?_map, hz]
        simp only [Option.map_some, map_eraseF]
      have e6 : tcc (tset T (531 + 8 * n) (.inr (.inr (cp, ((Z n).eraseIdx i).map Prod.fst)))) (some z.1) 10 = some () := tcl_o (tset_o c1 (kd_ne c1 hl (show ¬ (10 : Nat) = 21 by decide)))
      have nx : m_c2 .ne (z.2.2 7) x = false := by simp [m_c2, w]
      unfold D_c_Node_takeFetch_2
      simp only [e1, e2, e3, e4, g7, nx, Option.bind_some, ge_n (show i < 2147483648 by omega) (show (Z n).length < 2147483648 by omega), decide_eq_false (show ¬ (Z n).length ≤ i by omega), cond_false, bd2, e5, e6]
    · have nx : m_c2 .ne (z.2.2 7) x = true := by simp [m_c2, w]
      have step := ih (i + 1) (by omega) (fun j y hj hy => by
        by_cases wj : j = i
        · rw [wj, hz] at hy
          cases hy
          exact w
        · exact hno j y (by omega) hy) f (by omega)
      have go : D_c_Node_takeFetch_2 F (f + 1) (527 + 8 * n) x (Int32.ofNat i) T = D_c_Node_takeFetch_2 F f (527 + 8 * n) x (Int32.ofNat (i + 1)) T := by
        conv => lhs; unfold D_c_Node_takeFetch_2
        simp only [e1, e2, e3, e4, g7, nx, Option.bind_some, ge_n (show i < 2147483648 by omega) (show (Z n).length < 2147483648 by omega), decide_eq_false (show ¬ (Z n).length ≤ i by omega), cond_false, cond_true, q1]
      rw [go]
      exact step
/-- a fetch is taken out of its node -/
theorem RB.unlist (h : RB T S X Y Z Q [] [] j0 rs c) (h1 : 1 ≤ n) (h2 : n < 7) {i cp : Nat} (hi : (Z n)[i]? = some y) (hl : T.1 (531 + 8 * n) = some (.inr (.inr (cp, (Z n).map Prod.fst)))) : RBx (tset T (531 + 8 * n) (.inr (.inr (cp, ((Z n).eraseIdx i).map Prod.fst)))) S X Y (zDel Z n i) Q rs c y.2.1 ∧ Cs T (tset T (531 + 8 * n) (.inr (.inr (cp, ((Z n).eraseIdx i).map Prod.fst)))) 0 0 ∧ (∀ b x, T.1 b = some x → ¬ kd x = 21 → (tset T (531 + 8 * n) (.inr (.inr (cp, ((Z n).eraseIdx i).map Prod.fst)))).1 b = some x) ∧ (∀ m, 1 ≤ m → m < 7 → ∀ x ∈ zDel Z n i m, ¬ x.2.1 = y.2.1) := by
  obtain ⟨r1, r2, r3, r4, r5, r6, r7, r8, r9, r10⟩ := id h
  let T' : tT := tset T (531 + 8 * n) (.inr (.inr (cp, ((Z n).eraseIdx i).map Prod.fst)))
  have st : ∀ b x, T.1 b = some x → ¬ b = 531 + 8 * n → T'.1 b = some x := fun b x hb hne => tset_o hb hne
  have st21 : ∀ b x, T.1 b = some x → ¬ kd x = 21 → T'.1 b = some x := fun b x hb hk => st b x hb (fun w => by rw [w, hl] at hb; cases hb; exact hk rfl)
  have kq : ∀ {A K : List Nat}, 21 ∉ K → (∀ b ∈ A, ¬ b = 531 + 8 * n) → Kq A K T T' := by
    intro A K hK hA b x hb hk
    rcases hk with hk | hk
    · exact st21 b x hb (fun w => hK (w ▸ hk))
    · exact st b x hb (hA b hk)
  have cs : Cs T T' 0 0 := by
    intro h0
    have := h0.2 _ _ _ hl
    exact Cs.list (n := cp) (xs := (Z n).map Prod.fst) (n' := cp) (xs' := ((Z n).eraseIdx i).map Prod.fst) hl (fun _ => rfl) this.2.1 this.2.2 (Nat.le_refl _) (fun _ => Nat.le_refl _) (fun _ => Nat.le_refl _) h0
  have uniq : ∀ x ∈ (Z n).eraseIdx i, ¬ x.2.1 = y.2.1 := by
    intro x hx e
    have hxm := List.mem_of_mem_eraseIdx hx
    have := r7.same h1 h2 hxm (List.mem_of_getElem? hi) e
    subst this
    obtain ⟨k, hk⟩ := List.mem_iff_getElem?.mp hx
    obtain ⟨_, a2, a3, _⟩ := r7.1 n h1 h2
    have hd := h.2.2.2.2.2.2.1.inj h1 h2
    -- the same element twice
    rw [List.getElem?_eraseIdx] at hk
    by_cases w : k < i
    · rw [if_pos w] at hk
      have := r7.numinj h1 h2 hk hi rfl
      omega
    · rw [if_neg w] at hk
      have := r7.numinj h1 h2 hk hi rfl
      omega
  refine ⟨⟨⟨(cs r1).1, r2.fr (kq (by decide) (fun b hb => ?_)) Ag.refl, r3.fr (kq (by decide) (fun b hb => ?_)) Ag.refl, r4.fr (kq (by decide) (fun b hb => ?_)), r5.fr (kq (by decide) (fun b hb => ?_)) Ag.refl, r6.fr (kq (by decide) (fun b hb => ?_)) Ag.refl, r9.fr (kq (by decide) (fun b hb => ?_)) Ag.refl, r10.fr (kq (by decide) (fun b hb => ?_)) Ag.refl (fun k k1 k2 k3 => ⟨k, ⟨k1, k2⟩, k3, rfl, rfl, rfl⟩)⟩, ?_, ?_⟩, cs, st21, fun m m1 m2 x hx => ?_⟩
  · rw [List.mem_singleton.mp hb]; omega
  · rw [List.mem_singleton.mp hb]; omega
  · rw [List.mem_singleton.mp hb]; omega
  · rw [List.mem_singleton.mp hb]; omega
  · simp only [List.mem_cons, List.mem_nil_iff, or_false] at hb; omega
  · rw [List.mem_singleton.mp hb]; omega
  · rw [List.mem_singleton.mp hb]; omega
  · refine ⟨fun m m1 m2 => ?_, ?_⟩
    · obtain ⟨⟨cm, a1⟩, a2, a3, a4⟩ := r7.1 m m1 m2
      unfold zDel
      by_cases e : m = n
      · subst e
        simp only [if_true]
        refine ⟨⟨cp, tset_at⟩, fun z hz => ?_, a3.sublist (List.eraseIdx_sublist _ _), fun f f1 f2 f3 f4 => ?_⟩
        · have old := a2 z (List.mem_of_mem_eraseIdx hz)
          exact old.congr ((st21 _ _ old.1 (show ¬ (10 : Nat) = 21 by decide)).trans old.1.symm) (fun _ _ => rfl)
        · obtain ⟨z, z1, z2⟩ := a4 f f1 f2 f4
          refine ⟨z, ?_, z2⟩
          obtain ⟨k, hk⟩ := List.mem_iff_getElem?.mp z1
          have hki : ¬ k = i := fun w => by
            rw [w, hi] at hk
            cases hk
            exact f3 z2.symm
          refine List.mem_iff_getElem?.mpr ?_
          by_cases w : k < i
          · exact ⟨k, by rw [List.getElem?_eraseIdx, if_pos w]; exact hk⟩
          · exact ⟨k - 1, by rw [List.getElem?_eraseIdx, if_neg (by omega), show k - 1 + 1 = k by omega]; exact hk⟩
      · simp only [if_neg e]
        refine ⟨⟨cm, st _ _ a1 (by omega)⟩, fun z hz => ?_, a3, fun f f1 f2 _ f4 => a4 f f1 f2 f4⟩
        have old := a2 z hz
        exact old.congr ((st21 _ _ old.1 (show ¬ (10 : Nat) = 21 by decide)).trans old.1.symm) (fun _ _ => rfl)
    · intro m k z x m1 m2 k1 k2 hz hx e
      have mem : ∀ m z, z ∈ zDel Z n i m → z ∈ Z m := by
        intro m z hz
        unfold zDel at hz
        by_cases e : m = n
        · rw [if_pos e] at hz; rw [e]; exact List.mem_of_mem_eraseIdx hz
        · rw [if_neg e] at hz; exact hz
      exact r7.2 m k z x m1 m2 k1 k2 (mem m z hz) (mem k x hx) e
  · obtain ⟨⟨a1, a2, a3, a4⟩, b1, b2, b3, c1, c2, d1, dP, d2⟩ := id r8
    simp only [List.append_nil, List.nil_append] at a2 c1 c2
    refine ⟨⟨a1, a2⟩, fun k z hk => (b1 k z hk).fr (kq (by decide) (fun b hb => by cases hb)) Ag.refl (fun _ _ => rfl) (fun _ _ => rfl), c1, c2, fun f => (d1 f).fr (kq (by decide) (fun b hb => by cases hb)), fun z hz _ => d2 z hz⟩
  · unfold zDel at hx
    by_cases e : m = n
    · rw [if_pos e] at hx
      exact uniq x hx
    · rw [if_neg e] at hx
      intro w
      obtain ⟨_, ⟨p, v, p1', p2', p3', _⟩, _⟩ := (r7.1 m m1 m2).2.1 x hx
      obtain ⟨_, ⟨p', v', q1', q2', q3', _⟩, _⟩ := (r7.1 n h1 h2).2.1 y (List.mem_of_getElem? hi)
      omega
end
