/-! A FILL comes: up to the taking in. -/
def FaFill (I : Iv) : Prop := ∀ M1 m M2 Q Z E N k1 k2, I (M1 ++ m :: M2) Q [] Z E N k1 k2 → m 0 = 1 → ∀ n, 1 ≤ n → n < 7 → m 2 = Int32.ofNat n → ∀ z ∈ Z n, z.2.2 7 = m 3 → (z.2.2 0 = m 4 ∧ z.2.2 1 = m 5) ∧ few 61 (z.2.2 9) ∧ few 61 (m 8) ∧ ¬ N 2 0 < m 8
/-- what is left to do with a FILL that is taken in -/
def cIn (F n am fa t : Nat) (T : tT) : Option (Option Nat × tT) := bd2 (D_c_EdgeHouse_takeIn F 512 (some (527 + 8 * n)) (some fa) (some am) T) fun v58 T59 => (tgr T59 am 9 15).bind fun v63 => (v63).bind fun a67 => (tgi T59 a67 13 6).bind fun v70 => cond (m_c1 .ne v70) (D_c_EdgeHouse_takeFill_148 F 512 (some (527 + 8 * n)) (some fa) v58 T59) ((tgr T59 (527 + 8 * n) 4 1).bind fun v79 => (v79).bind fun a83 => (tcl T59 a83 5).bind fun _ => (D_c_Store_place F a83 v58 T59).bind fun T89 => D_c_EdgeHouse_takeFill_148 F 512 (some (527 + 8 * n)) (some fa) v58 T89)
section
variable {I : Iv} {T : tT} {S : mS} {X Y : Nat → List (Nat × Nat)} {Z : Nat → List Fz} {Q : List Rq} {j0 c F n k1 k2 : Nat} {rs : List Nat} {y : Fz} {M1 M2 : List (Nat → Int32)}
theorem m_which_some {a b : Int32} : ∃ w, D_m_whichOf F a b S = some w := by
  unfold D_m_whichOf
  cases m_c2 .ne (a &&& (1 : Int32)) (1 : Int32) <;> cases m_c2 .ne (a &&& (2 : Int32)) (2 : Int32) <;> exact ⟨_, rfl⟩
theorem m_78_504 {x1 x2 : Int32} {f : Nat} (hf : f < 896) (h6 : came S 6 = 504) : D_m_bringFill_78 F x1 x2 (Int32.ofNat f) S = D_m_failAll F x1 x2 S := by
  obtain ⟨w, hw⟩ := m_which_some (F := F) (S := S) (a := came S 20) (b := rd S 616 f)
  have c20 : aget 0 22 S 628 (20 : Int32) = some (came S 20) := aget_n (k := 20) (Or.inl rfl) (by decide) (by decide)
  have c6 : aget 0 22 S 628 (6 : Int32) = some (504 : Int32) := by rw [← h6]; exact aget_n (k := 6) (Or.inl rfl) (by decide) (by decide)
  have a16 : aget 0 896 S 616 (Int32.ofNat f) = some (rd S 616 f) := aget_n (Or.inl rfl) hf (by decide)
  unfold D_m_bringFill_78
  simp only [c20, Option.bind_some, a16, hw, c6, show m_c2 .ne (504 : Int32) (404 : Int32) = true from rfl, show m_c2 .ne (504 : Int32) (504 : Int32) = false from rfl, cond_true, cond_false]
  cases D_m_failAll F x1 x2 S <;> rfl
theorem m_78_404 {x1 x2 : Int32} {f : Nat} (hf : f < 896) (h6 : came S 6 = 404) : D_m_bringFill_78 F x1 x2 (Int32.ofNat f) S = (bput 896 S 609 (Int32.ofNat f) (0 : Int32)).bind fun S99 => D_m_bringFill_124 F F x1 x2 (Int32.ofNat f) (0 : Int32) S99 := by
  obtain ⟨w, hw⟩ := m_which_some (F := F) (S := S) (a := came S 20) (b := rd S 616 f)
  have c20 : aget 0 22 S 628 (20 : Int32) = some (came S 20) := aget_n (k := 20) (Or.inl rfl) (by decide) (by decide)
  have c6 : aget 0 22 S 628 (6 : Int32) = some (404 : Int32) := by rw [← h6]; exact aget_n (k := 6) (Or.inl rfl) (by decide) (by decide)
  have a16 : aget 0 896 S 616 (Int32.ofNat f) = some (rd S 616 f) := aget_n (Or.inl rfl) hf (by decide)
  unfold D_m_bringFill_78
  simp only [c20, Option.bind_some, a16, hw, c6, show m_c2 .ne (404 : Int32) (404 : Int32) = false from rfl, cond_false]
theorem RBx.trust9 {f fr : Nat} (h : RBx T S X Y Z Q rs c f) (hfr : (fr = 0 ∧ 1 ≤ n ∧ n ≤ 2) ∨ (1 ≤ fr ∧ fr ≤ 2 ∧ 3 ≤ n ∧ n ≤ 6)) : ∃ T' S', D_c_Node_trust F (527 + 8 * n) (Int32.ofNat fr) T = some T' ∧ (∀ k : mS → Option mS, cond (m_c2 .le (Int32.ofNat n) (2 : Int32)) (k S) ((D_m_forgive F (Int32.ofNat n) (Int32.ofNat fr) S).bind k) = k S') ∧ RBx T' S' X Y Z Q rs c f ∧ Cs T T' 0 0 ∧ (∀ b x, T.1 b = some x → ¬ kd x = 20 → T'.1 b = some x) ∧ (∀ a i, ¬ a = 618 → ¬ a = 619 → rd S' a i = rd S a i) ∧ ∀ i, S'.1 i = S.1 i := by
  have le2 : m_c2 .le (Int32.ofNat n) (2 : Int32) = decide (n ≤ 2) := by
    have : n = 0 ∨ n = 1 ∨ n = 2 ∨ n = 3 ∨ n = 4 ∨ n = 5 ∨ n = 6 := by omega
    rcases this with z | z | z | z | z | z | z <;> (subst z; rfl)
  rcases hfr with ⟨rfl, b1, b2⟩ | ⟨b1, b2, b3, b4⟩
  · refine ⟨T, S, ?_, fun k => by rw [le2, decide_eq_true b2, cond_true], h, Cs.refl, fun b x hb _ => hb, fun _ _ _ _ => rfl, fun _ => rfl⟩
    rfl
  · obtain ⟨T', S', t1, t2, t3, t4, t5, t6, t7⟩ := h.trust (F := F) (n := n) (p := fr) (by omega) (by omega) (by omega)
    exact ⟨T', S', t1, fun k => by rw [le2, decide_eq_false (by omega), cond_false, t2, Option.bind_some], t3, t4, t5, t6, t7⟩
theorem P_fill (hF : 4001 ≤ F) (hI : Clo I) (cL : ClLet I) (cM : ClRem I) (cR : ClRef I) (cS : ClShr I) (cF : FaFill I) (h1 : 1 ≤ n) (h2 : n < 7) (h : RB T S X Y Z Q [] [] j0 rs c) (hcost : T.2.1 ≤ k1 + capS T ∧ T.2.2 ≤ k2 + 4 * capS T) (hM : vM S = M1 ++ M2) (hIv : I (M1 ++ cut (came S) :: M2) Q [] Z (vE S) (vS S) k1 k2) {am : Nat} (hm : isMsg T am (came S)) (m0 : came S 0 = 1) (m2 : came S 2 = Int32.ofNat n) :
    (∃ T' S' X' Y' Z' Q' k1' k2', D_c_EdgeHouse_takeFill F 512 (some (527 + 8 * n)) (some am) T = some (none, T') ∧ D_m_bringFill F (Int32.ofNat n) S = some S' ∧ RA I T' S' X' Y' Z' Q' [] [] 0 rs c k1' k2') ∨
    ∃ i y T1 S1 wh t gm, (Z n)[i]? = some y ∧ y.2.2 7 = came S 3 ∧ RBx T1 S1 X Y (zDel Z n i) Q rs c y.2.1 ∧ isFe T1 S1 n y (ch Q y.2.1) ∧ (∀ m, 1 ≤ m → m < 7 → ∀ x ∈ zDel Z n i m, ¬ x.2.1 = y.2.1) ∧ okR (vE S1) y (came S1) wh ∧ (T1.2.1 ≤ k1 + capS T1 ∧ T1.2.2 ≤ k2 + 4 * capS T1) ∧ (vM S1 = vM S ∧ vE S1 = vE S ∧ vS S1 = vS S ∧ came S1 = came S) ∧ T1.1 am = some (cMsg gm (some t)) ∧ T1.1 t = some (cTold (came S 4) (fun i => came S (12 + i))) ∧ okT (fun i => came S (12 + i)) ∧ gm 13 = came S 8 ∧ gm 16 - gm 18 = came S 10 ∧ gm 17 = came S 11 ∧ (came S 6 = 200 ∨ came S 6 = 304) ∧ D_c_EdgeHouse_takeFill F 512 (some (527 + 8 * n)) (some am) T = cIn F n am y.1 t T1 ∧ D_m_bringFill F (Int32.ofNat n) S = D_m_bringFill_293 F (Int32.ofNat n) (Int32.ofNat y.2.1) (Int32.ofNat (8 * y.2.1 + wh)) S1 := by
  obtain ⟨gm, tm, c1, c2, c3, c4, c5⟩ := hm
  have c5 : isM1 T gm (came S) tm := by
    rcases c5 with w | w | w
    · rw [w.1] at m0; exact absurd m0 (by decide)
    · exact w
    · rcases w.2.2.2.2.2.2.2.2.2.2.2 with q | q
      · rw [q.1] at m0; exact absurd m0 (by decide)
      · rw [q.1] at m0; exact absurd m0 (by decide)
  obtain ⟨_, e12, e14, e11, _, ⟨pp, hp, e4⟩, ⟨v, hv, e5⟩, ⟨fr, to9, fr1, fr2, fr3⟩, cases9⟩ := id c5
  obtain ⟨r1, r2, r3, r4, r5, r6, r7, r8, r9, r10⟩ := id h
  have hnode := (r5.2.1 n h1 h2).1
  obtain ⟨⟨cp, hl⟩, z2, z3, z4⟩ := r7.1 n h1 h2
  have ton : to9 = n := by
    rw [m2] at fr2
    have := congrArg Int32.toNatClampNeg fr2
    rw [m_n_cl (by omega), m_n_cl (by omega)] at this
    exact this.symm
  subst ton
  have g3 : tgi T am 9 3 = some (came S 3) := (tgi_o c1 rfl).trans (by rw [c2 3 (by decide)])
  have tn4 : tcl T (527 + 8 * to9) 4 = some () := tcl_o hnode
  -- the reference's place
  have a4 : aget 0 22 S 628 (4 : Int32) = some (Int32.ofNat pp) := by rw [← e4]; exact aget_n (k := 4) (Or.inl rfl) (by decide) (by decide)
  have a5 : aget 0 22 S 628 (5 : Int32) = some (Int32.ofNat v) := by rw [← e5]; exact aget_n (k := 5) (Or.inl rfl) (by decide) (by decide)
  have a3 : aget 0 22 S 628 (3 : Int32) = some (came S 3) := aget_n (k := 3) (Or.inl rfl) (by decide) (by decide)
  have a6 : aget 0 22 S 628 (6 : Int32) = some (came S 6) := aget_n (k := 6) (Or.inl rfl) (by decide) (by decide)
  have a1 : aget 0 22 S 628 (1 : Int32) = some (Int32.ofNat fr) := by rw [← fr1]; exact aget_n (k := 1) (Or.inl rfl) (by decide) (by decide)
  have ixk : (4 : Int32) * Int32.ofNat pp + Int32.ofNat v = Int32.ofNat (4 * pp + v) := by rw [show (4 : Int32) * Int32.ofNat pp = Int32.ofNat (4 * pp) from m_n_mul 4 pp, i_add]
  have ixf : (128 : Int32) * Int32.ofNat to9 + Int32.ofNat (4 * pp + v) = Int32.ofNat (128 * to9 + (4 * pp + v)) := by rw [k128, i_add]
  have a609 : aget 4 896 S 609 (Int32.ofNat (128 * to9 + (4 * pp + v))) = some (rd S 609 (128 * to9 + (4 * pp + v))) := aget_n (Or.inr rfl) (by omega) (by decide)
  have a611 : aget 0 896 S 611 (Int32.ofNat (128 * to9 + (4 * pp + v))) = some (rd S 611 (128 * to9 + (4 * pp + v))) := aget_n (Or.inl rfl) (by omega) (by decide)
  have mst : D_m_bringFill F (Int32.ofNat to9) S = cond (m_c1 .eq (rd S 609 (128 * to9 + (4 * pp + v)))) (some S) (cond (m_c2 .eq (rd S 611 (128 * to9 + (4 * pp + v))) (came S 3)) (cond (m_c2 .eq (came S 6) (504 : Int32)) (D_m_bringFill_78 F (Int32.ofNat to9) (Int32.ofNat (4 * pp + v)) (Int32.ofNat (128 * to9 + (4 * pp + v))) S) (cond (m_c2 .le (Int32.ofNat to9) (2 : Int32)) (D_m_bringFill_78 F (Int32.ofNat to9) (Int32.ofNat (4 * pp + v)) (Int32.ofNat (128 * to9 + (4 * pp + v))) S) ((D_m_forgive F (Int32.ofNat to9) (Int32.ofNat fr) S).bind fun S25 => D_m_bringFill_78 F (Int32.ofNat to9) (Int32.ofNat (4 * pp + v)) (Int32.ofNat (128 * to9 + (4 * pp + v))) S25))) (some S)) := by
    unfold D_m_bringFill
    simp only [a4, a5, a3, a6, a1, Option.bind_some, ixk, ixf, a609, a611]
  have len := r7.len h1 h2
  rcases c_takeF_loop (F := F) r7 h1 h2 hnode hl (came S 3) (Z to9).length 0 (by omega) (fun j z hj => absurd hj (Nat.not_lt_zero _)) F (by omega) with ⟨no, cl⟩ | ⟨i, y, hy, hn7, cl⟩
  · left
    refine ⟨T, S, X, Y, Z, Q, k1, k2, ?_, ?_, h.j00, hcost, by rw [hM]; exact cM _ _ _ _ _ _ _ _ _ hIv⟩
    · have cl' : D_c_Node_takeFetch F (527 + 8 * to9) (came S 3) T = some (none, T) := cl
      unfold D_c_EdgeHouse_takeFill
      simp only [Option.bind_some, g3, tn4, cl', bd2, nc]
    · rw [mst]
      by_cases w : rd S 609 (128 * to9 + (4 * pp + v)) = 0
      · rw [w]; rfl
      · obtain ⟨z, hz, hzf⟩ := z4 _ (by omega) (by omega) w
        have fe := z2 z hz
        have e11 : rd S 611 (128 * to9 + (4 * pp + v)) = z.2.2 7 := by rw [← hzf]; exact fe.2.2.2.2.2.2.2.2.2.1
        have ne := no z hz
        rw [e11, show m_c2 .eq (z.2.2 7) (came S 3) = false by simp [m_c2, ne], cond_false]
        cases m_c1 .eq (rd S 609 (128 * to9 + (4 * pp + v))) <;> rfl
  · have hym := List.mem_of_getElem? hy
    obtain ⟨⟨k0, k1'⟩, k9, k8', kN⟩ := cF _ _ _ _ _ _ _ _ _ hIv m0 to9 h1 h2 m2 y hym hn7
    have k0 : y.2.2 0 = Int32.ofNat pp := k0.trans e4
    have k1' : y.2.2 1 = Int32.ofNat v := k1'.trans e5
    have fe := z2 y hym
    have yf : y.2.1 = 128 * to9 + (4 * pp + v) := by
      obtain ⟨_, ⟨p', v', b1, b2, b3, b4, b5⟩, _⟩ := id fe
      rw [k0] at b4
      rw [k1'] at b5
      have q1 := congrArg Int32.toNatClampNeg b4
      have q2 := congrArg Int32.toNatClampNeg b5
      rw [m_n_cl (by omega), m_n_cl (by omega)] at q1 q2
      omega
    obtain ⟨u1, u2, u3, u4⟩ := h.unlist h1 h2 hy hl
    have cl' : D_c_Node_takeFetch F (527 + 8 * to9) (came S 3) T = some (some y.1, tset T (531 + 8 * to9) (.inr (.inr (cp, ((Z to9).eraseIdx i).map Prod.fst)))) := cl
    obtain ⟨T14, hT14⟩ : ∃ x, x = tset T (531 + 8 * to9) (.inr (.inr (cp, ((Z to9).eraseIdx i).map Prod.fst))) := ⟨_, rfl⟩
    rw [← hT14] at u1 u2 u3 cl'
    have fe14 : isFe T14 S to9 y (ch Q y.2.1) := fe.fr (fun b x hb hk => by
      rcases hk with hk | hk
      · exact u3 b x hb (by rw [List.mem_singleton.mp hk]; decide)
      · cases hk) Ag.refl
    have cost14 := cost_step hcost u2 r1
    have hnew : ∀ m x, 1 ≤ m → m < 7 → x ∈ zDel Z to9 i m → ¬ x.1 = y.1 := fun m x m1 m2 hx e => by
      have := r7.adr h1 h2 m1 m2 hym (zDel_sub hx) e.symm
      exact u4 m m1 m2 x hx (by rw [this])
    have hIv0 : I (vM S) Q [] Z (vE S) (vS S) k1 k2 := by rw [hM]; exact cM _ _ _ _ _ _ _ _ _ hIv
    have w609 : rd S 609 (128 * to9 + (4 * pp + v)) = 1 := by rw [← yf]; exact fe.2.2.2.2.2.2.2.2.2.2.2.2.2.2.2
    have w611 : rd S 611 (128 * to9 + (4 * pp + v)) = came S 3 := by rw [← yf, ← hn7]; exact fe.2.2.2.2.2.2.2.2.2.1
    rw [w609, w611, show m_c1 .eq (1 : Int32) = false from rfl, cond_false, show m_c2 .eq (came S 3) (came S 3) = true by simp [m_c2], cond_true] at mst
    have am14 : T14.1 am = some (cMsg gm tm) := u3 _ _ c1 (show ¬ (9 : Nat) = 21 by decide)
    have ho14 : T14.1 512 = some (house S.1) := u1.1.2.1
    have s14 : tgi T14 am 9 12 = some (came S 6) := (Mg12 am14).trans (by rw [e12])
    by_cases e504 : came S 6 = 504
    · left
      rw [e504, show m_c2 .eq (504 : Int32) (504 : Int32) = true from rfl, cond_true, m_78_504 (by omega) e504] at mst
      obtain ⟨T', S', q1, q2, v1, v2, v3⟩ := P_failAll (F := F) hF hI cL hp hv h1 h2 hy yf u1 u4 cost14 hIv0
      refine ⟨T', S', X, Y, _, _, q1, q2, ?_, mst.trans v2, v3⟩
      unfold D_c_EdgeHouse_takeFill
      simp only [Option.bind_some, g3, tn4, cl', bd2, nc, s14, e504, show m_c2 .ne (504 : Int32) (504 : Int32) = false from rfl, cond_false, Fr12 fe14.1, tcl_o ho14, v1]
    · rw [show m_c2 .eq (came S 6) (504 : Int32) = false by simp [m_c2, e504], cond_false] at mst
      obtain ⟨T31, S25, x1, x2, x3, x4, x5, x6, x7⟩ := u1.trust9 (F := F) (n := to9) fr3
      rw [x2 (fun S25 => D_m_bringFill_78 F (Int32.ofNat to9) (Int32.ofNat (4 * pp + v)) (Int32.ofNat (128 * to9 + (4 * pp + v))) S25)] at mst
      have ag : ∀ as is, (∀ a ∈ as, ¬ a = 618 ∧ ¬ a = 619) → Ag as is S S25 := fun as is q => ⟨fun a ha k => x6 a k (q a ha).1 (q a ha).2, fun i _ => x7 i⟩
      have eM : vM S25 = vM S := vM_ag (ag _ _ (by decide))
      have eE : vE S25 = vE S := vE_ag (ag _ _ (by decide))
      have eS : vS S25 = vS S := vS_ag (ag _ _ (by decide))
      have eC : came S25 = came S := funext fun i => x6 628 i (by decide) (by decide)
      have fe31 : isFe T31 S25 to9 y (ch Q y.2.1) := fe14.fr (fun b x hb hk => by
        rcases hk with hk | hk
        · exact x5 b x hb (by rw [List.mem_singleton.mp hk]; decide)
        · cases hk) (ag _ _ (by decide))
      have cost31 := cost_step cost14 x4 u1.1.1
      have am31 : T31.1 am = some (cMsg gm tm) := x5 _ _ am14 (show ¬ (9 : Nat) = 20 by decide)
      have ho31 : T31.1 512 = some (house S25.1) := x3.1.2.1
      have no14 := (u1.1.2.2.2.2.1.2.1 to9 h1 h2).1
      have f14 : tgi T14 am 9 1 = some (Int32.ofNat fr) := (tgi_o am14 rfl).trans (by rw [c2 1 (by decide), fr1])
      have s31 : tgi T31 am 9 12 = some (came S 6) := (Mg12 am31).trans (by rw [e12])
      have ne504 : m_c2 .ne (came S 6) (504 : Int32) = true := by simp [m_c2, e504]
      have cst : D_c_EdgeHouse_takeFill F 512 (some (527 + 8 * to9)) (some am) T = cond (m_c2 .eq (came S 6) (404 : Int32)) (D_c_EdgeHouse_takeFill_61 F 512 (some (527 + 8 * to9)) (some y.1) T31) (nc tm (D_c_EdgeHouse_takeFill_61 F 512 (some (527 + 8 * to9)) (some y.1) T31) fun a44 => ((D_c_EdgeHouse_isRefused F 512 (some (527 + 8 * to9)) (some y.1) (some am) T31).bind fun v49 => cond (m_c1 .eq v49) (cIn F to9 am y.1 a44 T31) (bd2 (D_c_EdgeHouse_sendFetch F 512 (some (527 + 8 * to9)) (some y.1) T31) fun v96 T97 => cond (m_c1 .ne v96) (D_c_EdgeHouse_takeFill_118 F 512 T97) ((tgr T97 y.1 10 12).bind fun v107 => (tcl T97 512 0).bind fun _ => (D_c_EdgeHouse_failAll F 512 (some (527 + 8 * to9)) v107 T97).bind fun T114 => D_c_EdgeHouse_takeFill_118 F 512 T114)))) := by
        unfold D_c_EdgeHouse_takeFill
        simp only [Option.bind_some, g3, tn4, cl', bd2, nc, s14, ne504, cond_true, f14, tcl_o no14, x1, s31, Mr15 am31, tcl_o ho31, cIn]
      have hIv31 : I (vM S25) Q [] Z (vE S25) (vS S25) k1 k2 := by rw [eM, eE, eS]; exact hIv0
      rcases cases9 with ⟨t0, _, _, t3⟩ | ⟨t, t0, t1, t2, t3, t4, t5, t6⟩
      · have e404 : came S 6 = 404 := t3.resolve_right e504
        left
        obtain ⟨T', S', S0, X', Y', q1, q2, v1, v2, v3, v4⟩ := P_404 (F := F) hF hI cL cS hp hv h1 h2 hy yf k0 k1' x3 ⟨_, fe31.1⟩ u4 cost31 hIv31
        refine ⟨T', S', X', Y', _, _, q1, q2, ?_, ?_, v4⟩
        · rw [cst, e404]
          exact v1
        · rw [mst]
          show D_m_bringFill_78 F _ _ _ S25 = _
          rw [m_78_404 (by omega) (by rw [eC]; exact e404), ← yf, v2, Option.bind_some]
          exact v3
      · subst t0
        obtain ⟨la, fo, l1, l2, l3, l4, l5⟩ := fe31.2.2.1
        obtain ⟨mk, mk1, mk2⟩ := k8'
        have mk2 : came S 8 = Int32.ofNat mk := mk2
        have t31 : T31.1 t = some (cTold (came S25 4) (fun i => came S25 (12 + i))) := by
          rw [eC]
          exact x5 _ _ (u3 _ _ t1 (show ¬ (13 : Nat) = 21 by decide)) (show ¬ (13 : Nat) = 20 by decide)
        obtain ⟨rf, wh, b1, b2, b3, b4, b5, b6⟩ := refused_both (F := F) hF hp hv l1 l2 h1 h2 yf x3 k0 k1' l3 l4 fe31.2.2.2.2.2.2.2.2.2.2.2.2.2.1 l5 fe31.1 am31 t31 (by rw [eC]; exact t2) (by rw [eC]; exact e12) (by rw [eC]; exact c4) (by rw [eC]; exact t4) (by rw [eC]; exact mk2) (by omega) k9 (by rw [eC, x7]; exact kN)
        have ne404 : m_c2 .eq (came S 6) (404 : Int32) = false := by rcases t4 with w | w <;> rw [w] <;> rfl
        rw [ne404, cond_false] at cst
        have mst2 : D_m_bringFill F (Int32.ofNat to9) S = (if rf then D_m_bringFill_276 F (Int32.ofNat to9) (Int32.ofNat (4 * pp + v)) (Int32.ofNat y.2.1) S25 else D_m_bringFill_293 F (Int32.ofNat to9) (Int32.ofNat y.2.1) (Int32.ofNat (8 * y.2.1 + wh)) S25) := by
          rw [mst, ← b4, yf]
        cases rf with
        | true =>
          left
          obtain ⟨T', S', Z', Q', q1, q2, v1, v2, v3⟩ := P_276 (F := F) hF hI cL cM cR hp hv h1 h2 hy yf x3 fe31 u4 hnew cost31 (M1 := M1) (M2 := M2) (by rw [eM]; exact hM) (by rw [eC, eE, eS]; exact hIv) (by rw [eC]; exact m0) (by rw [eC]; exact m2) (by rw [eC]; exact hn7) (by rw [eC]; exact t4) (b5 rfl)
          refine ⟨T', S', X, Y, Z', Q', q1, q2, ?_, ?_, v3⟩
          · rw [cst]
            simp only [nc, b1, Option.bind_some]
            exact v1
          · rw [mst2]
            exact v2
        | false =>
          right
          refine ⟨i, y, T31, S25, wh, t, gm, hy, hn7, x3, fe31, u4, b6 rfl, cost31, ⟨eM, eE, eS, eC⟩, am31, by rw [eC] at t31; exact t31, t2, c4, t5, t6, t4, ?_, mst2⟩
          rw [cst]
          simp only [nc, b1, Option.bind_some]
          rfl
end
