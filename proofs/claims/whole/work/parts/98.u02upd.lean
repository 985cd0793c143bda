/-! update(). -/
def FaVer (I : Iv) : Prop := ∀ M Q Z E N k1 k2, I M Q [] Z E N k1 k2 → ∀ p, p < 32 → few 512 (N 5 p)
def ClUp (I I' : Iv) : Prop := ∀ M Q Z E N k1 k2, I M Q [] Z E N k1 k2 → I' M Q [] Z E N (k1 + 1) (k2 + 10) ∧ ∀ p d, p < 32 → okT d → d 0 = N 5 p + 1 → I' M Q [] Z E (fun j k => if j = 4 ∧ 9 * p ≤ k ∧ k < 9 * p + 9 then d (k - 9 * p) else if j = 5 ∧ k = p then N 5 p + 1 else N j k) (k1 + 1) (k2 + 10)
section
variable {I I' : Iv} {T T' : tT} {S S' : mS} {X Y : Nat → List (Nat × Nat)} {Z : Nat → List Fz} {Q cz Pd : List Rq} {c F n j0 k1 k2 : Nat} {rs : List Nat}
theorem RB.i0 {x : Int32} (h : RB T S X Y Z Q cz Pd j0 rs c) : RB T (up1 S 0 x) X Y Z Q cz Pd j0 rs c := by
  refine h.rdr h.1 (fun b x hb _ => hb) (fun i w _ => up1_no (by omega)) (fun a k _ => by rw [rd_up1]) ?_
  obtain ⟨f1, f2, f3, L, x2, x5, x6, x7, x8, x9, x10, x11, y13, y14, y15, q1', q2', q3', q4', q5', q6', q7'⟩ := id h.2.2.2.2.2.2.2.2.2.2.2.2.1
  exact ⟨f1, f2, f3, L, x2, x5, x6, x7, x8, x9, x10, x11, y13, y14, y15, q1', q2', q3', q4', q5', q6', q7'⟩
theorem i0_views {x : Int32} : vM (up1 S 0 x) = vM S ∧ vE (up1 S 0 x) = vE S ∧ vS (up1 S 0 x) = vS S := rdr_views (fun i w _ => up1_no (by omega)) (fun a k _ => by rw [rd_up1])
theorem flag_cond {x : Int32} (h : flag x) : (cond (m_c1 .eq x) (some (0 : Int32)) (some (1 : Int32))) = some x := by
  rcases h with h | h <;> (rw [h]; rfl)
/-- a row that is being written -/
def Pw (S4 : mS) (pa : Nat) (d : Nat → Int32) (i : Nat) (Si : mS) : Prop := (∀ a k, rd Si a k = if a = 589 ∧ 9 * pa ≤ k ∧ k < 9 * pa + i then d (k - 9 * pa) else if a = 590 ∧ k = pa then d 0 else rd S4 a k) ∧ ∀ j, Si.1 j = S4.1 j
theorem Pw.next {S4 Si : mS} {pa i : Nat} {d : Nat → Int32} (h : Pw S4 pa d i Si) : Pw S4 pa d (i + 1) (up2 Si 589 (9 * pa + i) (d i)) := by
  refine ⟨fun a k => ?_, fun j => h.2 j⟩
  rw [rd_up2]
  by_cases w : a = 589 ∧ k = 9 * pa + i
  · rw [if_pos w, if_pos ⟨w.1, by omega, by omega⟩, w.2, show 9 * pa + i - 9 * pa = i by omega]
  · rw [if_neg w, h.1]
    by_cases w2 : a = 589 ∧ 9 * pa ≤ k ∧ k < 9 * pa + i
    · rw [if_pos w2, if_pos ⟨w2.1, w2.2.1, by omega⟩]
    · have w3 : ¬ (a = 589 ∧ 9 * pa ≤ k ∧ k < 9 * pa + (i + 1)) := fun q => by
        have : ¬ k = 9 * pa + i := fun z => w ⟨q.1, z⟩
        exact w2 ⟨q.1, q.2.1, by omega⟩
      rw [if_neg w2, if_neg w3]
theorem m_upd {pa : Nat} {d : Nat → Int32} (hp : pa < 32) (h7 : S.1 7 = Int32.ofNat pa) (h5 : flag (S.1 29)) (h6 : flag (S.1 30)) (hd0 : d 0 = rd S 590 pa + 1) (hd : ∀ i, 1 ≤ i → i < 9 → d i = tdv S i) {S0 : mS} (hr : D_m_readText F 0 S0 = some (1, S)) : ∃ S', D_m_update F S0 = some (d 0, S') ∧ Pw (up1 S 0 0) pa d 9 S' := by
  obtain ⟨S4, hS4⟩ : ∃ z, z = up1 S 0 0 := ⟨_, rfl⟩
  have i4 : ∀ j, ¬ j = 0 → S4.1 j = S.1 j := fun j hj => by rw [hS4]; exact up1_no hj
  have r4 : ∀ a k, rd S4 a k = rd S a k := fun a k => by rw [hS4, rd_up1]
  have s47 : S4.1 7 = Int32.ofNat pa := (i4 7 (by decide)).trans h7
  obtain ⟨S8, hS8⟩ : ∃ z, z = up2 S4 590 pa (d 0) := ⟨_, rfl⟩
  have p0 : Pw S4 pa d 0 S8 := by
    refine ⟨fun a k => ?_, fun j => by rw [hS8]; rfl⟩
    rw [if_neg (fun q => by omega), hS8, rd_up2]
  have nx : ∀ i x Si, Pw S4 pa d i Si → i < 9 → x = d i → ∃ Sj, aput 288 Si 589 (Int32.ofNat (9 * pa) + Int32.ofNat i) x = some Sj ∧ Pw S4 pa d (i + 1) Sj := by
    intro i x Si h hi hx
    refine ⟨up2 Si 589 (9 * pa + i) (d i), ?_, h.next⟩
    rw [m_n_add, aput_n (by omega) (by decide), hx]
  have dv : ∀ i j Si, Pw S4 pa d j Si → ¬ i = 0 → Si.1 i = S.1 i := fun i j Si h hi => (h.2 i).trans (i4 i hi)
  obtain ⟨S12, a12, p1⟩ := nx 0 (d 0) S8 p0 (by decide) rfl
  obtain ⟨S14, a14, p2⟩ := nx 1 (S12.1 23) S12 p1 (by decide) ((dv 23 _ _ p1 (by decide)).trans (hd 1 (by decide) (by decide)).symm)
  obtain ⟨S16, a16, p3⟩ := nx 2 (S14.1 25) S14 p2 (by decide) ((dv 25 _ _ p2 (by decide)).trans (hd 2 (by decide) (by decide)).symm)
  obtain ⟨S18, a18, p4⟩ := nx 3 (S16.1 26) S16 p3 (by decide) ((dv 26 _ _ p3 (by decide)).trans (hd 3 (by decide) (by decide)).symm)
  obtain ⟨S20, a20, p5⟩ := nx 4 (S18.1 27) S18 p4 (by decide) ((dv 27 _ _ p4 (by decide)).trans (hd 4 (by decide) (by decide)).symm)
  obtain ⟨S26, a26, p6⟩ := nx 5 (S20.1 29) S20 p5 (by decide) ((dv 29 _ _ p5 (by decide)).trans (hd 5 (by decide) (by decide)).symm)
  obtain ⟨S32, a32, p7⟩ := nx 6 (S26.1 30) S26 p6 (by decide) ((dv 30 _ _ p6 (by decide)).trans (hd 6 (by decide) (by decide)).symm)
  obtain ⟨S34, a34, p8⟩ := nx 7 (S32.1 24) S32 p7 (by decide) ((dv 24 _ _ p7 (by decide)).trans (hd 7 (by decide) (by decide)).symm)
  obtain ⟨S36, a36, p9⟩ := nx 8 (S34.1 28) S34 p8 (by decide) ((dv 28 _ _ p8 (by decide)).trans (hd 8 (by decide) (by decide)).symm)
  have f29 : (cond (m_c1 .eq (S20.1 29)) (some (0 : Int32)) (some (1 : Int32))) = some (S20.1 29) := flag_cond (by rw [dv 29 _ _ p5 (by decide)]; exact h5)
  have f30 : (cond (m_c1 .eq (S26.1 30)) (some (0 : Int32)) (some (1 : Int32))) = some (S26.1 30) := flag_cond (by rw [dv 30 _ _ p6 (by decide)]; exact h6)
  have g4 : aget 0 32 S4 590 (Int32.ofNat pa) = some (rd S 590 pa) := (aget_n (Or.inl rfl) hp (by decide)).trans (by rw [r4])
  have w8 : aput 32 S4 590 (Int32.ofNat pa) (d 0) = some S8 := (aput_n hp (by decide)).trans (by rw [hS8])
  have gn : ∀ i Si, Pw S4 pa d i Si → aget 0 32 Si 590 (Int32.ofNat pa) = some (d 0) := fun i Si h => (aget_n (Or.inl rfl) hp (by decide)).trans (by rw [h.1, if_neg (fun q => by omega), if_pos ⟨rfl, rfl⟩])
  have s87 : S8.1 7 = Int32.ofNat pa := (p0.2 7).trans s47
  have s367 : S36.1 7 = Int32.ofNat pa := (p9.2 7).trans s47
  refine ⟨S36, ?_, by rw [← hS4]; exact p9⟩
  have a12' : aput 288 S8 589 (Int32.ofNat (9 * pa)) (d 0) = some S12 := by
    have e : Int32.ofNat (9 * pa) + Int32.ofNat 0 = Int32.ofNat (9 * pa) := m_n_add _ _
    rw [e] at a12
    exact a12
  unfold D_m_update
  rw [hr, Option.bind_some, show m_c1 .ne (1, S).1 = true from rfl, cond_true]
  simp only [fput, Option.bind_some]
  rw [← hS4, s47, g4, Option.bind_some, ← hd0, w8, Option.bind_some, s87, gn 0 S8 p0, Option.bind_some, k9, a12', Option.bind_some]
  rw [show (1 : Int32) = Int32.ofNat 1 from rfl, a14, Option.bind_some, show (2 : Int32) = Int32.ofNat 2 from rfl, a16, Option.bind_some, show (3 : Int32) = Int32.ofNat 3 from rfl, a18, Option.bind_some, show (4 : Int32) = Int32.ofNat 4 from rfl, a20, Option.bind_some]
  have f29' : (cond (m_c1 .eq (S20.1 29)) (some (0 : Int32)) (some (Int32.ofNat 1))) = some (S20.1 29) := f29
  have f30' : (cond (m_c1 .eq (S26.1 30)) (some (0 : Int32)) (some (Int32.ofNat 1))) = some (S26.1 30) := f30
  rw [f29', Option.bind_some, show (5 : Int32) = Int32.ofNat 5 from rfl, a26, Option.bind_some, f30', Option.bind_some, show (6 : Int32) = Int32.ofNat 6 from rfl, a32, Option.bind_some, show (7 : Int32) = Int32.ofNat 7 from rfl, a34, Option.bind_some, show (8 : Int32) = Int32.ofNat 8 from rfl, a36, Option.bind_some, s367, gn 9 S36 p9, Option.bind_some]
end
