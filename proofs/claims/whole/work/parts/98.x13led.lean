/-! The ledger: a new fetch and its FETCH. -/
section
variable {κ : Ko} {G : Gh} {τ ν k2 n J to0 la fo fa f : Nat} {M : List (Nat → Int32)} {Z : Nat → List Fz} {E : Nat → Option (Nat → Int32)} {N : Nat → Nat → Int32} {G0 : Nat → Int32} {had : Int32} {c : Bool}
theorem had_all {seen x w : Int32} (hE : LE G E N) (h : hadOK E seen G0 f x w had) (hne : ¬ had = 0) : ∀ e h, sE E f x w e → E e = some h → h 0 = had ∧ v_blocks (h 1) (G0 5) (G0 6) &&& (h 10 ^^^ -1) = 0 := by
  obtain ⟨o, o1, o2, o3⟩ := h
  intro e h hs he
  cases o with
  | none => exact absurd o3 hne
  | some e0 =>
    obtain ⟨s1, h0, s2, s3⟩ := o1 e0 rfl
    obtain ⟨r1, h', r2, r3⟩ := hs
    rw [he] at r2
    cases r2
    have v8 := hE.2 e e0 h h0 (by omega) he s2
    have em : e % 8 = e0 % 8 := ofNat_in (by omega) (by omega) (by rw [r3, s3, v8])
    have ee : e = e0 := by omega
    subst ee
    rw [he] at s2
    cases s2
    have o3' : had = if seen ≤ h 9 ∧ v_blocks (h 1) (G0 5) (G0 6) &&& (h 10 ^^^ -1) = 0 then h 0 else 0 := by
      rw [o3]
      show (match E e with | none => (0 : Int32) | some h => if seen ≤ h 9 ∧ v_blocks (h 1) (G0 5) (G0 6) &&& (h 10 ^^^ -1) = 0 then h 0 else 0) = _
      rw [he]
    by_cases q : seen ≤ h 9 ∧ v_blocks (h 1) (G0 5) (G0 6) &&& (h 10 ^^^ -1) = 0
    · rw [if_pos q] at o3'
      exact ⟨o3'.symm, q.2⟩
    · rw [if_neg q] at o3'
      exact absurd o3' hne
theorem had_none {seen x w : Int32} (h : hadOK E seen G0 f x w had) (hn : ∀ e, ¬ sE E f x w e) : had = 0 := by
  obtain ⟨o, o1, o2, o3⟩ := h
  cases o with
  | none => exact o3
  | some e => exact absurd (o1 e rfl) (hn e)
theorem mk7 (hJ : N 1 n = Int32.ofNat J) : (mkY N fa f n to0 G0).2.2 7 = Int32.ofNat (J + 1) := by
  show fup (fup (fup (fup G0 7 (N 1 n + 1)) 8 (Int32.ofNat to0)) 9 (N 0 n)) 10 (N 7 0) 7 = _
  rw [fup_ne (by decide), fup_ne (by decide), fup_ne (by decide), fup_eq, hJ]
  exact m_n_add J 1
theorem mk9 : (mkY N fa f n to0 G0).2.2 9 = N 0 n := by
  show fup (fup (fup (fup G0 7 (N 1 n + 1)) 8 (Int32.ofNat to0)) 9 (N 0 n)) 10 (N 7 0) 9 = _
  rw [fup_ne (by decide), fup_eq]
theorem mk10 : (mkY N fa f n to0 G0).2.2 10 = N 7 0 := by
  show fup (fup (fup (fup G0 7 (N 1 n + 1)) 8 (Int32.ofNat to0)) 9 (N 0 n)) 10 (N 7 0) 10 = _
  rw [fup_eq]
theorem mk_lo {i : Nat} (hi : i < 7) : (mkY N fa f n to0 G0).2.2 i = G0 i := by
  show fup (fup (fup (fup G0 7 (N 1 n + 1)) 8 (Int32.ofNat to0)) 9 (N 0 n)) 10 (N 7 0) i = _
  rw [fup_ne (by omega), fup_ne (by omega), fup_ne (by omega), fup_ne (by omega)]
theorem mk_nmb (hJ : N 1 n = Int32.ofNat J) (hl : J < 1000000000) : nmb (mkY N fa f n to0 G0) = J + 1 := by
  unfold nmb
  rw [mk7 hJ]
  exact m_n_cl (by omega)
theorem LZs.new (h : LZs G Z E N) (hE : LE G E N) (h2 : upto 60 (N 2 0)) (ht : upto τ (N 7 0)) (hτ : τ ≤ 60000) (h0 : upto (cN (N 2 0)) (N 0 n)) (n1 : 1 ≤ n) (n2 : n < 7) (hJ : N 1 n = Int32.ofNat J) (hl : J < 1000000000) (hf : f / 128 = n) (g0 : G0 0 = Int32.ofNat (f / 4 % 32)) (g5 : few 16 (G0 5)) (g6 : few 16 (G0 6)) (hno : ∀ y ∈ Z n, ¬ y.2.1 = f) (hh : hadOK E (N 0 n) G0 f (G0 2) (G0 3) had) (hcc : c = false → had = 0 ∧ ∀ e, ¬ sE E f (G0 2) (G0 3) e) : LZs (gNew G n (J + 1) had c (cN (N 2 0))) (zAdd Z n (mkY N fa f n to0 G0)) E (mkN N n) := by
  intro a a1 a2
  obtain ⟨hN, e1, e, eo⟩ := mkN_le hJ hl
  obtain ⟨x1, x2⟩ := h a a1 a2
  obtain ⟨q1, q2, q3⟩ := gs_new (hv := had) (c := c) (o := cN (N 2 0)) h hJ hl (mk7 (fa := fa) (f := f) (to0 := to0) (G0 := G0) hJ)
  have hs : seenN (mkN N n) a = seenN N a := seen_e (fun k => e 0 k (by decide)) a
  have old : ∀ y ∈ Z a, LZ (gNew G n (J + 1) had c (cN (N 2 0))) E (mkN N n) a y := fun y hy => by
    obtain ⟨w1, w2, w3⟩ := q2 a a1 a2 y hy
    exact ((x1 y hy).le a1 a2 hN (by rw [hs]; exact Nat.le_refl _) vShr.refl).g w1 w2 w3
  by_cases w : a = n
  · subst w
    rw [show zAdd Z a (mkY N fa f a to0 G0) a = Z a ++ [mkY N fa f a to0 G0] from if_pos rfl]
    obtain ⟨_, l2⟩ := h2.cN (by decide)
    obtain ⟨t, t1, t2⟩ := ht
    have ct : cN (N 7 0) = t := by rw [t2]; exact m_n_cl (by omega)
    have nb := mk_nmb (fa := fa) (f := f) (to0 := to0) (G0 := G0) hJ hl
    refine ⟨fun y hy => ?_, List.pairwise_append.mpr ⟨x2, List.pairwise_singleton _ _, fun b hb y hy => ?_⟩⟩
    · rcases List.mem_append.mp hy with q | q
      · exact old y q
      · rw [List.mem_singleton.mp q]
        unfold LZ
        rw [nb, mk7 hJ, mk9, mk10, mk_lo (show 0 < 7 by decide), mk_lo (show 2 < 7 by decide), mk_lo (show 3 < 7 by decide), mk_lo (show 5 < 7 by decide), mk_lo (show 6 < 7 by decide), e1, e 7 0 (by decide), e 2 0 (by decide)]
        have i1 : (gNew G a (J + 1) had c (cN (N 2 0))).1 a (J + 1) = had := if_pos ⟨rfl, rfl⟩
        have i2 : (gNew G a (J + 1) had c (cN (N 2 0))).2.1 a (J + 1) = c := if_pos ⟨rfl, rfl⟩
        have i3 : (gNew G a (J + 1) had c (cN (N 2 0))).2.2.1 a (J + 1) = cN (N 2 0) := if_pos ⟨rfl, rfl⟩
        rw [i1, i2, i3]
        refine ⟨⟨hf, g0, g5, g6⟩, ⟨J + 1, ?_, rfl⟩, ?_, ⟨t, by omega, t2⟩, Nat.le_refl _, hcc, fun hne => had_all hE hh hne⟩
        · have : cN (Int32.ofNat (J + 1)) = J + 1 := m_n_cl (by omega)
          omega
        · obtain ⟨z1, z2⟩ := h0.cN (by omega)
          rw [hs]
          exact ⟨cN (N 0 a), Nat.le_refl _, z1⟩
    · rw [List.mem_singleton.mp hy, mk10]
      refine ⟨hno b hb, ?_⟩
      obtain ⟨_, _, _, ⟨s, s1, s2⟩, _⟩ := x1 b hb
      rw [s2, t2]
      exact (i_le (by show s < 2147483648; omega) (by show t < 2147483648; omega)).mpr (by omega)
  · rw [show zAdd Z n (mkY N fa f n to0 G0) a = Z a from if_neg w]
    exact ⟨old, x2⟩
/-- its FETCH -/
theorem LF.new (h : LZs G Z E N) (h0 : upto (cN (N 2 0)) (N 0 n)) (n1 : 1 ≤ n) (n2 : n < 7) (hJ : N 1 n = Int32.ofNat J) (hl : J < 1000000000) (g5 : few 16 (G0 5)) (g6 : few 16 (G0 6)) (ht : toOK n to0) (hla : la < 4) (hfo : fo < 2) (g2 : G0 2 = Int32.ofNat la) (g3 : G0 3 = Int32.ofNat fo) : LF (gNew G n (J + 1) had c (cN (N 2 0))) (zAdd Z n (mkY N fa f n to0 G0)) (mkN N n) (mkM N n to0 G0 (Int32.ofNat (la + 4 * fo)) had) := by
  obtain ⟨hN, e1, e, eo⟩ := mkN_le hJ hl
  have m3 : mkM N n to0 G0 (Int32.ofNat (la + 4 * fo)) had 3 = Int32.ofNat (J + 1) := by
    show N 1 n + 1 = _
    rw [hJ]
    exact m_n_add J 1
  refine ⟨n, rfl, ?_, ?_, ⟨?_, g5, g6⟩, fun y hy y7 => ?_⟩
  · show (1 ≤ n ∧ n ≤ 2 ∧ Int32.ofNat to0 = 0) ∨ (3 ≤ n ∧ n ≤ 6 ∧ (Int32.ofNat to0 = 1 ∨ Int32.ofNat to0 = 2))
    rcases ht with ⟨t1, t2⟩ | ⟨t1, t2, t3⟩
    · left
      rw [t2]
      exact ⟨n1, t1, rfl⟩
    · right
      refine ⟨t1, by omega, ?_⟩
      have : to0 = 1 ∨ to0 = 2 := by omega
      rcases this with q | q
      · left; rw [q]; rfl
      · right; rw [q]; rfl
  · rw [m3, e1]
    have : cN (Int32.ofNat (J + 1)) = J + 1 := m_n_cl (by omega)
    exact ⟨J + 1, by omega, rfl⟩
  · rw [e 2 0 (by decide)]
    exact h0
  · rw [show zAdd Z n (mkY N fa f n to0 G0) n = Z n ++ [mkY N fa f n to0 G0] from if_pos rfl] at hy
    rcases List.mem_append.mp hy with q | q
    · exfalso
      have l := nmb_le ((h n n1 n2).1 y q) hJ hl
      unfold nmb at l
      rw [y7, m3, m_n_cl (by omega)] at l
      omega
    · rw [List.mem_singleton.mp q, mk_nmb hJ hl, mk9, mk_lo (show 0 < 7 by decide), mk_lo (show 1 < 7 by decide), mk_lo (show 2 < 7 by decide), mk_lo (show 3 < 7 by decide), mk_lo (show 5 < 7 by decide), mk_lo (show 6 < 7 by decide)]
      refine ⟨rfl, rfl, rfl, rfl, rfl, ?_, la, fo, hla, hfo, g2, g3, rfl⟩
      exact (if_pos ⟨rfl, rfl⟩ : (gNew G n (J + 1) had c (cN (N 2 0))).1 n (J + 1) = had).symm
end
