/-! The ledger: a row is answered and makes a fetch. -/
section
variable {κ : Ko} {G : Gh} {τ ν lam b1 b2 k1 k2 n J to0 la fo fa : Nat} {M : List (Nat → Int32)} {Q Pd : List Rq} {Z : Nat → List Fz} {E : Nat → Option (Nat → Int32)} {N : Nat → Nat → Int32} {z x : Rq} {had mi : Int32} {y : Fz} {c : Bool} {o : Nat}
theorem Led.clD : ClD (Led τ ν lam b1 b2) := by
  intro M Q Pd Z E N k1 k2 z m fa to0 la fo had h ha hk
  obtain ⟨hp, G, ⟨a1, a2, a3, a4, a5, a6, a7, a8, c1, c2⟩, p1', p2'⟩ := h
  obtain ⟨zl, zp⟩ := a6.lk
  have hz := (a4 (lk1 z) (by simp)).lk1
  obtain ⟨e0, z8, n1, n2, hkd⟩ := hz.node zl
  have mm0 : z.2.2.1 = none → m 0 = 1 := fun w => ans_0 w ha
  have hLg := gv_LM a3 (fun w => ans_LI hz zl w a7 a1.2.1 ha) mm0
  obtain ⟨Mg, hMg⟩ : ∃ x, x = gvM M z m := ⟨_, rfl⟩
  have sMg : ∀ κ, sM κ Mg ≤ sM κ M := fun κ => by rw [hMg]; exact gv_sM mm0
  have pMg : ∀ k, pCnt Mg k = pCnt M k := fun k => by rw [hMg]; exact gv_pCnt mm0
  have tMg : tCnt Mg ≤ tCnt M + gvC z := by rw [hMg]; exact gv_tCnt
  rw [← hMg] at hLg ⊢
  obtain ⟨n, hn⟩ : ∃ n, n = z.2.1 / 128 := ⟨_, rfl⟩
  obtain ⟨hno, hmi, g5, g6, hla, hfo, g2, g3, hto, hh⟩ := hk
  rw [← hn] at hno hto hh n1 n2 hkd ⊢
  obtain ⟨u0, ⟨J, j1, hJ⟩, _, _⟩ := a1.2.2.1 n n1 n2
  have hb := hp.2.2.2
  have hJl : J < 1000000000 := by omega
  obtain ⟨_, l2⟩ := a1.2.1.cN (by decide)
  obtain ⟨hN, e1, e, eo⟩ := mkN_le hJ hJl
  obtain ⟨G0, hG0⟩ : ∃ g, g = newG z.2.2.2.1 0 := ⟨_, rfl⟩
  rw [← hG0] at g5 g6 hh ⊢
  have G00 : G0 0 = z.2.2.2.1 0 := by rw [hG0]; rfl
  have G02 : G0 2 = z.2.2.2.1 2 := by rw [hG0]; rfl
  have G03 : G0 3 = z.2.2.2.1 3 := by rw [hG0]; rfl
  obtain ⟨y, hy⟩ : ∃ y, y = mkY N fa z.2.1 n to0 G0 := ⟨_, rfl⟩
  have y7 : y.2.2 7 = Int32.ofNat (J + 1) := by rw [hy]; exact mk7 hJ
  have hgs := gs_new (hv := had) (c := true) (o := cN (N 2 0)) a2 hJ hJl y7
  have hh' : hadOK E (N 0 n) G0 z.2.1 (G0 2) (G0 3) had := by rw [G02, G03]; exact hh
  have g0' : G0 0 = Int32.ofNat (z.2.1 / 4 % 32) := by rw [G00, ← e0]; exact hz.1.2.1
  have hZ := LZs.new (fa := fa) (to0 := to0) (c := true) a2 a7 a1.2.1 a1.1 hp.1 u0 n1 n2 hJ hJl hn.symm g0' g5 g6 hno hh' (fun q => by cases q)
  have hF := LF.new (E := E) (f := z.2.1) (fa := fa) (had := had) (c := true) a2 u0 n1 n2 hJ hJl g5 g6 hto hla hfo (G02.trans g2) (G03.trans g3)
  rw [← hy] at hZ hF ⊢
  have yin : y ∈ zAdd Z n y n := by
    rw [show zAdd Z n y n = Z n ++ [y] from if_pos rfl]
    exact List.mem_append_right _ List.mem_cons_self
  have yp : y.2.1 = z.2.1 := by rw [hy]; rfl
  have noQ : ∀ x ∈ Q, ¬ x.2.1 = z.2.1 := fun x hx q => by
    obtain ⟨_, u, u1, u2⟩ := a5 x hx
    rw [q, ← hn] at u1
    exact hno u u1 (u2.trans q)
  have key : ∀ κ, Pot κ (gNew G n (J + 1) had true (cN (N 2 0))).2.2.1 (gNew G n (J + 1) had true (cN (N 2 0))).2.1 (psh Mg (mkM N n to0 G0 (Int32.ofNat (la + 4 * fo)) had)) Q Pd (zAdd Z n y) (mkN N n) + κ.2.2.2 + κ.2.2.1 * gvC z ≤ Pot κ G.2.2.1 G.2.1 M Q (lk1 z :: Pd) Z N := fun κ => by
    have w1 := mk_pot (κ := κ) (M := Mg) (fa := fa) (had := had) (wants := Int32.ofNat (la + 4 * fo)) (G0 := G0) rfl a2 n1 n2 hn.symm hJ hJl (u0.le l2) hkd hno hto
    rw [← hy] at w1
    have w2 := rw_tl (κ := κ) (Z := zAdd Z n y) (N := mkN N n) zl zp
    have w3 : purse κ (zAdd Z n y) (mkN N n) z.2.1 = 0 := cif_neg (fun q => q.2 y (by rw [← hn]; exact yin) yp)
    have w4 := qw_mono (κ := κ) (mo := G.2.2.1) (mo' := (gNew G n (J + 1) had true (cN (N 2 0))).2.2.1) (Z := Z) (Z' := zAdd Z n y) (Q := Q) (fun x hx w => own_new a2 (by
      have := (a4 x (List.mem_append_left _ hx)).node (a5 x hx).1
      exact ⟨this.2.2.1, this.2.2.2.1⟩) hJ hJl y7 w) []
    have w7 := sMg κ
    have w8 := gv_bs (κ := κ) (z := z)
    unfold Pot
    rw [rw_lk zl]
    have w6 : wFu κ z = wBs κ z + wMk κ z := rfl
    omega
  have ks := key κs
  have kc := key κc
  have es : κs.2.2.2 = 33 := rfl
  have ec : κc.2.2.2 = 2 := rfl
  have es1 : κs.2.2.1 = 19 := rfl
  have ec1 : κc.2.2.1 = 1 := rfl
  rw [es1] at ks
  rw [ec1, Nat.one_mul] at kc
  have m0' : mkM N n to0 G0 (Int32.ofNat (la + 4 * fo)) had 0 = 0 := rfl
  have t1 := tCnt_psh (M := Mg) (m := mkM N n to0 G0 (Int32.ofNat (la + 4 * fo)) had)
  have cc := cnt_cons (A := Q) (B := Pd) (x := lk1 z)
  have gg1 : gvC (lk1 z) = gvC z := rfl
  have gg2 : (lk1 z).2.2.1 = z.2.2.1 := rfl
  rw [gg1, gg2] at cc
  have el : pl (lk1 z) = z.2.1 := by show (z.2.1 + 1024) % 1024 = _; omega
  have o1 : opn (zAdd Z n y) Pd = 0 := by
    cases Pd with
    | nil => rfl
    | cons x R =>
      have e := zp x List.mem_cons_self
      have e1 : pl x = z.2.1 := by unfold pl; omega
      refine cif_neg (fun q => ?_)
      rw [e1] at q
      exact q.2 y (by rw [← hn]; exact yin) yp
  have o2 : (if (mkM N n to0 G0 (Int32.ofNat (la + 4 * fo)) had 0 = 0 ∧ ¬ mkM N n to0 G0 (Int32.ofNat (la + 4 * fo)) had 2 = 0) ∨ (mkM N n to0 G0 (Int32.ofNat (la + 4 * fo)) had 0 = 1 ∧ ¬ (mkM N n to0 G0 (Int32.ofNat (la + 4 * fo)) had 2 = 1 ∨ mkM N n to0 G0 (Int32.ofNat (la + 4 * fo)) had 2 = 2)) then 1 else 0) ≤ opn Z (lk1 z :: Pd) := by
    rcases hto with ⟨t1', t2'⟩ | ⟨t1', _, _⟩
    · rw [if_neg (fun w => by
        rcases w with w | w
        · exact w.2 (by show Int32.ofNat to0 = 0; rw [t2']; rfl)
        · rw [m0'] at w; exact absurd w.1 (by decide))]
      exact Nat.zero_le _
    · have : opn Z (lk1 z :: Pd) = 1 := by
        refine cif_pos ?_
        rw [el, ← hn]
        exact ⟨t1', hno⟩
      rw [this]
      split <;> omega
  refine ⟨hp, gNew G n (J + 1) had true (cN (N 2 0)), ⟨?_, hZ, LM.psh (hLg.g hN hgs) (fun _ => hF) (fun w => by rw [m0'] at w; exact absurd w (by decide)) (fun w => by rw [m0'] at w; exact absurd w (by decide)), fun x hx => ?_, fun x hx => ?_, rOk.tl zl zp, (a7.le hN vShr.refl).g rfl, (a8.le hN (fun k => e 4 k (by decide))).g rfl, by omega, by omega⟩, by omega, by omega⟩
  · refine ⟨by rw [e 7 0 (by decide)]; exact a1.1, by rw [e 2 0 (by decide)]; exact a1.2.1, fun k k1' k2' => ?_, fun p hp => by rw [e 5 p (by decide)]; exact a1.2.2.2 p hp⟩
    obtain ⟨y1, y2, y3, y4⟩ := a1.2.2.1 k k1' k2'
    rw [e 2 0 (by decide), e 0 k (by decide), e 6 k (by decide), pCnt_psh (by rw [m0']; decide), pMg]
    refine ⟨y1, ?_, y3, y4⟩
    by_cases w : k = n
    · rw [w, e1]
      exact ⟨J + 1, by omega, rfl⟩
    · rw [eo k w]
      exact y2.le (by omega)
  · rcases List.mem_append.mp hx with w | w
    · exact (a4 x (List.mem_append_left _ w)).g hN hgs
    · exact (a4 x (List.mem_append_right _ (List.mem_cons_of_mem _ w))).g hN hgs
  · obtain ⟨q1, u, u1, u2⟩ := a5 x hx
    refine ⟨q1, u, ?_, u2⟩
    unfold zAdd
    split
    · rename_i q
      rw [q] at u1
      exact List.mem_append_left _ u1
    · exact u1
end
