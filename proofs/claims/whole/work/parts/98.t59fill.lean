/-! A FILL comes: both, whole. -/
theorem hIv_cut {m : Nat → Int32} {clk bl : Int32} : hIv (cut m) clk bl = hIv m clk bl := by
  funext i
  unfold hIv
  by_cases h : i < 9
  · rw [if_pos h, if_pos h]
    unfold cut
    rw [if_pos (by omega)]
  · rw [if_neg h, if_neg h]
    rfl
/-- what the taking in makes of the entries -/
def okIn (E E' : Nat → Option (Nat → Int32)) (N : Nat → Nat → Int32) (y : Fz) (m : Nat → Int32) (wh : Nat) (bl : Int32) : Prop := okR E y m wh ∧ vIn E E' y.2.1 (8 * y.2.1 + wh) (m 20) (hIv m (N 7 0) bl) ∧ (∀ h, E (8 * y.2.1 + wh) = some h → h 0 = m 12 → h 8 = m 20 → bl = m 11 ||| h 10) ∧ (bl = m 11 ∨ ∃ h, E (8 * y.2.1 + wh) = some h ∧ h 0 = m 12 ∧ h 8 = m 20 ∧ bl = m 11 ||| h 10)
def FaFill2 (I : Iv) : Prop := ∀ M1 m M2 Q Z E N k1 k2, I (M1 ++ m :: M2) Q [] Z E N k1 k2 → m 0 = 1 → (m 6 = 200 ∨ m 6 = 304) → few 100000 (m 10 + N 7 0)
/-- a FILL that is taken in, whose first request is given it -/
def ClOk1 (I : Iv) : Prop := ∀ M1 m M2 Q Z E E' N k1 k2 n i y wh bl z Pe, I (M1 ++ m :: M2) Q [] Z E N k1 k2 → 1 ≤ n → n < 7 → m 0 = 1 → m 2 = Int32.ofNat n → (Z n)[i]? = some y → y.2.2 7 = m 3 → (m 6 = 200 ∨ m 6 = 304) → okIn E E' N y m wh bl → qIn Q y.2.1 = z :: Pe → enR z (hIv m (N 7 0) bl) wh → I (gvM (M1 ++ M2) z (anR z (hIv m (N 7 0) bl) wh (N 7 0))) (qOut Q y.2.1) Pe (zDel Z n i) E' N (k1 + 1 + gvC z) (k2 + 9 + 19 * gvC z)
/-- a FILL that is taken in, and is not enough for the first -/
def ClOk2 (I : Iv) : Prop := ∀ M1 m M2 Q Z E E' N k1 k2 n i y wh bl, I (M1 ++ m :: M2) Q [] Z E N k1 k2 → 1 ≤ n → n < 7 → m 0 = 1 → m 2 = Int32.ofNat n → (Z n)[i]? = some y → y.2.2 7 = m 3 → (m 6 = 200 ∨ m 6 = 304) → okIn E E' N y m wh bl → (∀ z Pe, qIn Q y.2.1 = z :: Pe → ¬ enR z (hIv m (N 7 0) bl) wh) → I (M1 ++ M2) (qOut Q y.2.1) (qIn Q y.2.1) (zDel Z n i) E' N (k1 + 1) (k2 + 9)
section
variable {I : Iv} {T : tT} {S : mS} {X Y : Nat → List (Nat × Nat)} {Z : Nat → List Fz} {Q : List Rq} {j0 c F n k1 k2 : Nat} {rs : List Nat} {y : Fz} {M1 M2 : List (Nat → Int32)}
theorem fill_all (hF : 4001 ≤ F) (hI : Clo I) (hG : ClG I) (cL : ClLet I) (cM : ClRem I) (cR : ClRef I) (cS : ClShr I) (cF : FaFill I) (cA : FaFill2 I) (cK1 : ClOk1 I) (cK2 : ClOk2 I) (h1 : 1 ≤ n) (h2 : n < 7) (h : RB T S X Y Z Q [] [] j0 rs c) (hc : c + 3000 < 2147483648) (hcost : T.2.1 ≤ k1 + capS T ∧ T.2.2 ≤ k2 + 4 * capS T) (hM : vM S = M1 ++ M2) (hJ : I (M1 ++ cut (came S) :: M2) Q [] Z (vE S) (vS S) k1 k2) {am : Nat} (hm : isMsg T am (came S)) (m0 : came S 0 = 1) (m2 : came S 2 = Int32.ofNat n) :
    ∃ p T0 T' S' X' Y' Z' Q' k1' k2', D_c_EdgeHouse_takeFill F 512 (some (527 + 8 * n)) (some am) T = some (p, T0) ∧ D_c_EdgeHouse_carry_101 F F 512 (some (527 + 8 * n)) 1 p T0 = some T' ∧ D_m_bringFill F (Int32.ofNat n) S = some S' ∧ RA I T' S' X' Y' Z' Q' [] [] 0 rs (c + 2000) k1' k2' := by
  rcases P_fill (F := F) hF hI cL cM cR cS cF h1 h2 h hcost hM hJ hm m0 m2 with ⟨T', S', X', Y', Z', Q', q1', q2', e1, e2, e3⟩ | ⟨i, y, T1, S1, wh, t, gm, hy, hn7, x1, fe, hno, okr', cost1, ⟨eM, eE, eS, eC⟩, am1, t1, okt, m13, m16, m17, m6, e1, e2⟩
  · refine ⟨none, T', T', S', X', Y', Z', Q', q1', q2', e1, ?_, e2, e3.1.mono (by omega), e3.2⟩
    obtain ⟨F', hF'⟩ : ∃ x, F = x + 1 := ⟨F - 1, by omega⟩
    rw [hF']
    rfl
  · obtain ⟨⟨k0, kk⟩, _, _, _⟩ := cF _ _ _ _ _ _ _ _ _ hJ m0 n h1 h2 m2 y (List.mem_of_getElem? hy) hn7
    obtain ⟨fc, ⟨pp, v, hp, hv, yf, y0, y1⟩, ⟨la, fo, l1, l2, l3, l4, l5⟩, _⟩ := id fe
    have m4 : came S 4 = Int32.ofNat pp := (show y.2.2 0 = came S 4 from k0).symm.trans y0
    obtain ⟨okr1, okr2, okr3, okr4⟩ := id okr'
    have i36 : S1.1 36 = S.1 36 := congrFun (congrFun eS 7) 0
    obtain ⟨T2, S2, X2, Y2, bl, a1, a2, a3, a4, ⟨kp, a5⟩, a6, a7, a8, a9, a10, a11, a12, a13, a14⟩ := in_all (F := F) (T := T1) (S := S1) (Z := zDel Z n i) (t := t) (am := am) (gm := gm) hF hp hv okr3 h1 h2 yf (by omega) x1 hno am1 (by rw [eC]; exact m4) (by rw [eC]; exact t1) (by rw [eC]; exact okt) fc (show fup y.2.2 11 _ 0 = _ from y0) (show fup y.2.2 11 _ 1 = _ from y1) (show fup y.2.2 11 _ 2 = _ from l3) (show fup y.2.2 11 _ 3 = _ from l4) (by rw [← l3, ← l4]; exact okr2.symm) (by rw [eC]; exact m13) (by rw [eC]; exact m16) (by rw [eC]; exact m17)
    obtain ⟨S3, b1, b2, b3, b4, b5, b6, b7, b8, b9, b10, b11, b12⟩ := in_270 (F := F) (bl := bl) hF hp hv okr3 h1 h2 yf a3 a4 hno (by rw [a6, eC]; exact okt.2.2.1)
    have j36 : S2.1 36 = S.1 36 := (a7 36 (by decide)).trans i36
    have s36 : S3.1 36 = S.1 36 := b12.trans j36
    have c3 : came S3 = came S := b6.trans (a6.trans eC)
    have c2 : came S2 = came S := a6.trans eC
    have fc2 : T2.1 y.1 = some (cFetch (fup y.2.2 11 (Int32.ofNat (ch Q y.2.1).length)) ((qIn Q y.2.1).map Prod.fst).head? (ch Q y.2.1).getLast?) := a9 _ _ fc (show (10 : Nat) ∈ _ by decide)
    have t2 : T2.1 t = some (cTold (Int32.ofNat pp) (fun i => came S (12 + i))) := by rw [← m4]; exact a9 _ _ t1 (show (13 : Nat) ∈ _ by decide)
    have en2 : T2.1 T1.2.1 = some (cEntry (Int32.ofNat pp) (Int32.ofNat v) t (Int32.ofNat wh) (came S 8) (came S 10 + S3.1 36) (S3.1 36) bl kp) := by
      rw [a5, s36]
      unfold eNew
      rw [eC, i36]
    have cost2 := cost_step cost1 a8 x1.1.1
    have ki : okIn (vE S) (vE S3) (vS S) y (cut (came S)) wh bl := by
      refine ⟨?_, ?_, ?_, ?_⟩
      · rw [eE, eC] at okr'
        exact okr'
      · rw [hIv_cut, b4]
        have : hIv (came S) (vS S 7 0) bl = hIn S1 bl := by
          show hIv (came S) (S.1 36) bl = hIn S1 bl
          rw [← i36, ← eC]
          rfl
        rw [this, ← eE]
        have w20 : cut (came S) 20 = came S1 20 := by rw [eC]; rfl
        rw [w20]
        exact a12
      · intro hh q1' q2' q3'
        have := a13 hh (by rw [eE]; exact q1') (by rw [eC]; exact q2') (by rw [eC]; exact q3')
        rw [eC] at this
        exact this
      · rw [eE, eC] at a14
        exact a14
    obtain ⟨p, T0, T', S', X', Y', Z', Q', q1', q2', r1, r2, r3, r4⟩ := in_rest (F := F) (T := T2) (S := S3) (Q := qOut Q y.2.1) (Pd := qIn Q y.2.1) (m := came S) (g := fup y.2.2 11 (Int32.ofNat (ch Q y.2.1).length)) (k1 := k1 + 1) (k2 := k2 + 9) hF hI hG hp hv okr3 h1 h2 b2 (fun x hx => by
      rw [← yf]
      exact of_decide_eq_true (List.mem_filter.mp hx).2) (by omega) (by exact ⟨by omega, by omega⟩) fc2 en2 t2 okt (fun i hi => by rw [b7 i hi, c2]) b8 (by rw [b9, c2]) (by rw [b10, c2, s36, j36]) b11 (by show came S3 8 = _; rw [c3]) (by rw [s36]; exact cA _ _ _ _ _ _ _ _ _ hJ m0 m6) (fun z Pe hz he => by
        rw [s36] at he ⊢
        rw [b3, a10, eM, b5, a11, eS, hM]
        have := cK1 _ _ _ _ _ _ _ _ _ _ n i y wh bl z Pe hJ h1 h2 m0 m2 hy hn7 m6 ki hz (by rw [hIv_cut]; exact he)
        rw [hIv_cut] at this
        exact this) (fun hz => by
        rw [b3, a10, eM, b5, a11, eS, hM]
        exact cK2 _ _ _ _ _ _ _ _ _ _ n i y wh bl hJ h1 h2 m0 m2 hy hn7 m6 ki (fun z Pe hz' he => by
          rw [hIv_cut] at he
          exact hz z Pe hz' (by rw [s36]; exact he)))
    refine ⟨p, T0, T', S', X', Y', Z', Q', q1', q2', ?_, r2, ?_, r4.1.mono (by omega), r4.2⟩
    · rw [e1, a1]; exact r1
    · rw [e2, a2, b1]; exact r3
end
