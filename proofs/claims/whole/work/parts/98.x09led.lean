/-! The ledger: the origin answers; a node fails. -/
section
variable {κ : Ko} {G : Gh} {hc : Nat → Nat → Bool} {mo : Nat → Nat → Nat} {τ ν lam b1 b2 k1 k2 n i f : Nat} {M M1 M2 : List (Nat → Int32)} {Q R Pd : List Rq} {Z : Nat → List Fz} {E E' : Nat → Option (Nat → Int32)} {N N' : Nat → Nat → Int32} {y : Fz} {z : Rq} {m : Nat → Int32}
theorem or_0 {p l fo : Nat} : orAns N m p l fo 0 = 1 := by
  unfold orAns
  split <;> rfl
theorem Led.clOr : ClOr (Led τ ν lam b1 b2) := by
  intro M1 m M2 Q Z E N k1 k2 p l fo h m0 m2 hp m4 hl hfo m21
  obtain ⟨hpp, G, ⟨a1, a2, a3, a4, a5, a6, a7, a8, c1, c2⟩, p1', p2'⟩ := h
  obtain ⟨n, f1, f2, f3, ⟨f4, f6, f7⟩, f5⟩ := (a3 m (by simp)).1 m0
  have nn : 1 ≤ n ∧ n ≤ 2 := by
    rcases f2 with w | w
    · exact ⟨w.1, w.2.1⟩
    · rcases w.2.2 with q | q <;> (rw [m2] at q; exact absurd q (by decide))
  obtain ⟨o, ho⟩ : ∃ o, o = orAns N m p l fo := ⟨_, rfl⟩
  rw [← ho]
  have o0 : o 0 = 1 := by rw [ho]; exact or_0
  obtain ⟨_, l2⟩ := a1.2.1.cN (by decide)
  obtain ⟨q2, _⟩ := a1.2.1.cN (by decide)
  have hL : LI G Z N o := by
    rw [ho]
    unfold orAns
    by_cases w : N 4 (9 * p) = 0
    · rw [if_pos w]
      exact ⟨n, f1, by omega, by omega, f3, ⟨0, Nat.zero_le _, rfl⟩, fun y hy y7 => ⟨(f5 y hy y7).1, (f5 y hy y7).2.1⟩, Or.inl (Or.inl rfl)⟩
    · rw [if_neg w]
      have tp : toldH G N p (fun i => N 4 (9 * p + i)) := (a8 p hp).resolve_left w
      obtain ⟨d, hd⟩ : ∃ d : Nat → Int32, d = fun i => N 4 (9 * p + i) := ⟨_, rfl⟩
      rw [← hd] at tp ⊢
      have e1 : N 4 (9 * p + 1) = d 1 := by rw [hd]
      rw [e1]
      obtain ⟨z1, z1l, z1e⟩ := tp.2.2.2
      refine ⟨n, f1, by omega, by omega, f3, ⟨cN (N 2 0), Nat.le_refl _, q2⟩, fun y hy y7 => ⟨(f5 y hy y7).1, (f5 y hy y7).2.1⟩, Or.inr ⟨?_, ?_, ⟨p, hp, m4, ?_⟩, fun y hy y7 => ?_⟩⟩
      · show (if m 10 = d 0 then (304 : Int32) else 200) = 200 ∨ (if m 10 = d 0 then (304 : Int32) else 200) = 304
        split
        · exact Or.inr rfl
        · exact Or.inl rfl
      · obtain ⟨t, t1, t2⟩ := a1.1
        have ct : cN (N 7 0) = t := by rw [t2]; exact m_n_cl (by have := hpp.1; omega)
        refine ⟨t, by rw [ct]; exact Nat.le_refl _, ?_⟩
        show (0 - N 7 0) + Int32.ofNat t = 0
        rw [t2, Int32.sub_add_cancel]
      · refine ⟨fun i hi => (fi_told i hi).trans (tp.1 i hi), tp.2.1, tp.2.2.1, tp.2.2.2⟩
      · obtain ⟨x0, x1, x5, x6, x9, x10, _⟩ := f5 y hy y7
        obtain ⟨_, _, u9, _, um, _⟩ := (a2 n nn.1 (by omega)).1 y hy
        obtain ⟨_, ls⟩ := (a1.2.2.1 n nn.1 (by omega)).1.cN (by omega)
        have sn : seenN N n = cN (N 0 n) := rfl
        obtain ⟨_, l9⟩ := u9.cN (by omega)
        refine ⟨?_, fun _ => um, fun w => ?_, fun w => ?_⟩
        · show cN (y.2.2 9) ≤ cN (N 2 0)
          omega
        · show v_blocks (d 1) (y.2.2 5) (y.2.2 6) &&& ((if m 10 = d 0 then (0 : Int32) else v_blocks (d 1) 0 15 &&& v_blocks (d 1) (m 6) (m 7)) ^^^ -1) = 0
          have w' : (if m 10 = d 0 then (304 : Int32) else 200) = 200 := w
          by_cases q7 : m 10 = d 0
          · rw [if_pos q7] at w'
            exact absurd w' (by decide)
          · obtain ⟨k7, k7l, k7e⟩ := f7
            rw [if_neg q7, x5, x6, z1e, k7e, blk_sub z1l k7l]
            exact and_bits.mp Int32.and_self
        · show d 0 = G.1 n (nmb y)
          have w' : (if m 10 = d 0 then (304 : Int32) else 200) = 304 := w
          by_cases q7 : m 10 = d 0
          · rw [← x10]
            exact q7.symm
          · rw [if_neg q7] at w'
            exact absurd w' (by decide)
  have o2 : o 2 = Int32.ofNat n := by
    rw [ho]
    unfold orAns
    split
    · exact f1
    · exact f1
  have key : ∀ κ, Pot κ G.2.2.1 G.2.1 (psh (M1 ++ M2) o) Q [] Z N + κ.1 ≤ Pot κ G.2.2.1 G.2.1 (M1 ++ m :: M2) Q [] Z N := fun κ => by
    unfold Pot
    have w1 : wM κ m = κ.1 := by unfold wM; rw [if_pos m0, if_pos m2]
    have w2 : wM κ o = 0 := by unfold wM; rw [o0]; rfl
    have w3 := sM_psh (κ := κ) (M := M1 ++ M2) (m := o)
    rw [sM_rem (m := m), w1]
    omega
  have ks := key κs
  have kc := key κc
  have es : κs.1 = 47 := rfl
  have ec : κc.1 = 3 := rfl
  have t1 := tCnt_rem (M1 := M1) (M2 := M2) (m := m)
  have t2 := tCnt_psh (M := M1 ++ M2) (m := o)
  have no : ¬ ((o 0 = 0 ∧ ¬ o 2 = 0) ∨ (o 0 = 1 ∧ ¬ (o 2 = 1 ∨ o 2 = 2))) := fun w => by
    rcases w with w | w
    · rw [o0] at w; exact absurd w.1 (by decide)
    · refine w.2 ?_
      rw [o2]
      have : n = 1 ∨ n = 2 := by omega
      rcases this with q | q
      · left; rw [q]; rfl
      · right; rw [q]; rfl
  rw [if_neg no] at t2
  refine ⟨hpp, G, ⟨a1.le (by omega) (fun k => ?_), a2, LM.psh (a3.le NLe.refl (fun _ h => mem_rem h) (fun _ _ h => h)) (fun w => by rw [o0] at w; exact absurd w (by decide)) (fun _ => hL) (fun w => by rw [o0] at w; exact absurd w (by decide)), a4, a5, a6, a7, a8, c1, by omega⟩, by omega, by omega⟩
  rw [pCnt_psh (by rw [o0]; decide)]
  exact pCnt_rem
end
