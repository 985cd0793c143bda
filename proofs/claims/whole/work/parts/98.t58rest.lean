/-! Those that waited for what came: the first is given it if it is enough, the others are looked at again. -/
def hIv (m : Nat → Int32) (clk bl : Int32) : Nat → Int32 := fun i => if i < 9 then m (12 + i) else if i = 9 then m 8 else if i = 10 then bl else if i = 11 then m 10 + clk else if i = 12 then clk else 0
/-- what came is enough for a request -/
abbrev enR (z : Rq) (h : Nat → Int32) (wh : Nat) : Prop := Int32.ofNat wh = v_which (h 8) (z.2.2.2.1 2) (z.2.2.2.1 3) ∧ z.2.2.2.1 11 ≤ h 9 ∧ v_missing z.2.2.2.1 z.2.2.2.2 h (Int32.ofNat wh) (h 10) = 0
def anR (z : Rq) (h : Nat → Int32) (wh : Nat) (clk : Int32) : Nat → Int32 := cut (fiRow (z.2.1 / 128) z.2.2.2.1 h (Int32.ofNat wh) (h 9) (((h 11 + clk) - h 12) - clk) (h 10))
theorem fiRow_cut {n : Nat} {g d d' : Nat → Int32} {wh mk ag bl : Int32} (h : ∀ i, i < 9 → d i = d' i) : cut (fiRow n g d wh mk ag bl) = cut (fiRow n g d' wh mk ag bl) := by
  funext i
  unfold cut
  by_cases hi : i < 22
  · rw [if_pos hi, if_pos hi]
    unfold fiRow
    rw [h 0 (by decide), h 1 (by decide)]
    by_cases w : 12 ≤ i ∧ i < 21
    · rw [h (i - 12) (by omega)]
    · by_cases w2 : i = 21
      · rw [if_pos w2, if_pos w2]
      · rw [if_neg (show ¬ 12 ≤ i by omega), if_neg (show ¬ 12 ≤ i by omega)]
  · rw [if_neg hi, if_neg hi]
section
variable {I : Iv} {T T1 : tT} {S S2 : mS} {X Y : Nat → List (Nat × Nat)} {Z : Nat → List Fz} {Q Pd : List Rq} {j0 c F n k1 k2 : Nat} {rs : List Nat} {z : Rq}
theorem again_one (hF : 1100 ≤ F) (hI : Clo I) (hG : ClG I) (h : RA I T S X Y Z Q [] (z :: Pd) j0 rs c k1 k2) (hn : z.2.1 / 128 = n) (hc : c + 10 < 2147483648) {f : Nat} {S1 : mS} (ha : D_m_again F (Int32.ofNat j0) S = some (Int32.ofNat (wOf Q), S1)) : ∃ T2 S3 X2 Y2 Z2 Q2 m1 m2, D_c_EdgeHouse_carry_101 F (f + 1) 512 (some (527 + 8 * n)) 1 (some z.1) T = D_c_EdgeHouse_carry_101 F f 512 (some (527 + 8 * n)) 1 (Pd.map Prod.fst).head? T2 ∧ aput 48000 S1 622 (Int32.ofNat (wOf Q) + 10) 1 = some (up2 S1 622 (wOf Q + 10) 1) ∧ D_m_look F (Int32.ofNat (wOf Q)) (up2 S1 622 (wOf Q + 10) 1) = some S3 ∧ RA I T2 S3 X2 Y2 Z2 Q2 [] Pd (j0 + 1) rs (c + 2) m1 m2 := by
  obtain ⟨hR, hcost, hIv⟩ := h
  obtain ⟨S1', a1, a2, a3, a4, a5, a6, a7, a8, _⟩ := hR.again (F := F) (by omega)
  rw [a1] at ha
  cases ha
  have z896 : z.2.1 < 896 := by
    obtain ⟨_, n9, ⟨⟨b1, b2⟩, ⟨p9, v9, b3, b4, b5, _⟩, _⟩, _⟩ := hR.2.2.2.2.2.2.2.1.2.2.2.1 0 z rfl
    omega
  obtain ⟨cc, rr, hq⟩ := hR.lnk1
  have hH : T.1 512 = some (house S.1) := hR.2.1
  have p18 : tpr T z.1 6 18 none = some (tset T z.1 (cReq z.2.2.2.1 cc rr none)) := Qw18 hq
  have p12 : tpz (tset T z.1 (cReq z.2.2.2.1 cc rr none)) z.1 6 12 1 = some (tset T z.1 (cReq (fup z.2.2.2.1 12 1) cc rr none)) := by
    unfold tpz
    rw [if_pos (Or.inr rfl)]
    have := Qp12 (x := 1) (tset_at (T := T) (a := z.1) (c := cReq z.2.2.2.1 cc rr none))
    rw [tset_tset] at this
    exact this
  obtain ⟨T1, hT1⟩ : ∃ x, x = tset T z.1 (cReq (fup z.2.2.2.1 12 1) cc rr none) := ⟨_, rfl⟩
  rw [← hT1] at p12
  have cs1 : Cs T T1 0 0 := ((K_tpr _ p18).trans (K_tpz _ p12)).mono (by decide) (by decide)
  have p10' : aput 48000 S1 622 (Int32.ofNat (wOf Q) + 10) 1 = some (up2 S1 622 (wOf Q + 10) 1) := by
    rw [p10]
    exact aput_n (by have := a2.w.1; omega) (by decide)
  have n512 : ¬ 512 = z.1 := fun w => by rw [← w, hH] at hq; cases hq
  have hR2 : RB T1 (up2 S1 622 (wOf Q + 10) 1) X Y Z Q [ag1 z] Pd (j0 + 1) rs c := by
    refine a2.flagz (cs1 hR.1).1 (fun b x hb hne => by rw [hT1]; exact tset_o hb hne) (fun cc' rr' bb' hb => ?_) (fun i => by rw [up2_1]) (fun a k hak => by rw [rd_up2, if_neg hak]) (by rw [rd_up2, if_pos ⟨rfl, rfl⟩])
    rw [hq] at hb
    have e := Option.some.inj hb
    rw [hT1, tset_at]
    congr 1
    unfold cReq at e ⊢
    simp only [Sum.inl.injEq, Prod.mk.injEq, List.cons.injEq, Value.int.injEq, true_and, and_true] at e
    simp only [e]
  obtain ⟨w1, w2, w3⟩ := row_views (S := S1) (S2 := up2 S1 622 (wOf Q + 10) 1) (fun i => by rw [up2_1]) (fun a k w => by rw [rd_up2, if_neg (fun q => w q.1)])
  have hRA : RA I T1 (up2 S1 622 (wOf Q + 10) 1) X Y Z Q [ag1 z] Pd (j0 + 1) rs c k1 k2 := by
    refine ⟨hR2, (by have := cost_step hcost cs1 hR.1; exact ⟨by omega, by omega⟩), ?_⟩
    rw [w1, w2, w3, a3, a4, a5]
    exact hG _ _ _ _ _ _ _ _ _ hIv z896
  obtain ⟨T2, S3, X2, Y2, Z2, Q2, m1, m2, u1, u2, u3⟩ := look_both (F := F) hF hI hRA (by omega) (show (ag1 z).2.1 / 128 = n from hn) ⟨cc, rr, by rw [hT1]; exact tset_at⟩
  refine ⟨T2, S3, X2, Y2, Z2, Q2, m1, m2, ?_, p10', u2, u3⟩
  conv => lhs; unfold D_c_EdgeHouse_carry_101
  have u1' : D_c_EdgeHouse_look F 512 (some (527 + 8 * n)) (some z.1) T1 = some T2 := u1
  simp only [nc, Qr18 hq, Option.bind_some, p18, p12]
  show ((tcl T1 512 0).bind fun _ => (D_c_EdgeHouse_look F 512 (some (527 + 8 * n)) (some z.1) T1).bind fun T132 => D_c_EdgeHouse_carry_101 F f 512 (some (527 + 8 * n)) 1 (Pd.map Prod.fst).head? T132) = _
  rw [tcl_o (show T1.1 512 = some (house S.1) by rw [hT1]; exact tset_o hH n512), Option.bind_some, u1', Option.bind_some]
/-- the reference's test whether what came is enough for the first -/
theorem r_enough (hF : 17 ≤ F) (h : RB T S X Y Z Q [z] Pd j0 rs c) {m : Nat → Int32} {clk bl : Int32} {wh : Nat} (hd : okT (fun i => m (12 + i))) (h626 : ∀ i, i < 9 → rd S 626 i = m (12 + i)) (h87 : S.1 87 = Int32.ofNat wh) (h8 : rd S 628 8 = m 8) : ∃ v72 v74 v76, aget 0 9 S 626 1 = some v72 ∧ D_m_nowTag F S = some v74 ∧ D_m_needs F (Int32.ofNat (wOf Q)) v72 v74 S = some v76 ∧ ((cond (m_c1 .ne (0 : Int32)) (some (0 : Int32)) ((aget 0 9 S 626 (8 : Int32)).bind fun v81 => (aget 0 48000 S 622 (Int32.ofNat (wOf Q) + (11 : Int32))).bind fun v83 => (D_m_whichOf F v81 v83 S).bind fun v85 => cond (m_c2 .ne v85 (S.1 87)) (some (0 : Int32)) (cond (m_c2 .ne (bl &&& v76) v76) (some (0 : Int32)) ((aget 0 22 S 628 (8 : Int32)).bind fun v89 => (aget 0 48000 S 622 (Int32.ofNat (wOf Q) + (7 : Int32))).bind fun v91 => cond (m_c2 .lt v89 v91) (some (0 : Int32)) (some (1 : Int32))))))) = some (if enR z (hIv m clk bl) wh then 1 else 0) := by
  obtain ⟨zl, z1, z2⟩ := hd.2.2.1
  obtain ⟨n', p, v, la, fo, hn1, hp, hv, hla, hfo, hff, hfn, g0, g1, g2, g3, w0, w1, w11, w10, fl12, fl6, hnf, hnc⟩ := h.nd
  have a1 : aget 0 9 S 626 1 = some (m 13) := (aget_n (k := 1) (Or.inl rfl) (by decide) (by decide)).trans (by rw [h626 1 (by decide)])
  have a0 : aget 0 9 S 626 0 = some (m 12) := (aget_n (k := 0) (Or.inl rfl) (by decide) (by decide)).trans (by rw [h626 0 (by decide)])
  have a8 : aget 0 9 S 626 (8 : Int32) = some (m 20) := (aget_n (k := 8) (Or.inl rfl) (by decide) (by decide)).trans (by rw [h626 8 (by decide)])
  have b8 : aget 0 22 S 628 (8 : Int32) = some (m 8) := (aget_n (k := 8) (Or.inl rfl) (by decide) (by decide)).trans (by rw [h8])
  have z2' : m 13 = Int32.ofNat zl := z2
  have nd := m_needs (F := F) (tag := 8 * m 12 + S.1 87) hF h.rw.isRow z1
  rw [← z2'] at nd
  have nt : D_m_nowTag F S = some (8 * m 12 + S.1 87) := by
    unfold D_m_nowTag
    rw [a0]
    rfl
  refine ⟨_, _, _, a1, nt, nd, ?_⟩
  obtain ⟨vy, vy1, vy2⟩ := hd.2.2.2.2.2.2.2.2.2
  have vy2' : m 20 = Int32.ofNat vy := vy2
  have a11 := wait11 (S := S) h.w.1
  have a7 := wait7 (S := S) h.w.1
  rw [w11] at a11
  rw [h.rw.row7] at a7
  have wc := m_which (F := F) (S := S) vy1 hla hfo
  rw [← vy2', ← g2, ← g3] at wc
  simp only [show m_c1 .ne (0 : Int32) = false from rfl, cond_false, a8, a11, Option.bind_some, a7, b8]
  rw [show Int32.ofNat (la + 4 * fo) = Int32.ofNat (la + 4 * fo) from rfl, wc, Option.bind_some]
  have e : enR z (hIv m clk bl) wh ↔ (v_which (m 20) (z.2.2.2.1 2) (z.2.2.2.1 3) = Int32.ofNat wh ∧ bl &&& v_need z.2.2.2.1 z.2.2.2.2 (m 13) (8 * m 12 + Int32.ofNat wh) = v_need z.2.2.2.1 z.2.2.2.2 (m 13) (8 * m 12 + Int32.ofNat wh) ∧ z.2.2.2.1 11 ≤ m 8) := by
    unfold enR
    rw [v_miss_need]
    constructor
    · rintro ⟨x1, x2, x3⟩
      exact ⟨x1.symm, and_bits.mpr x3, x2⟩
    · rintro ⟨x1, x2, x3⟩
      exact ⟨x1.symm, x3, and_bits.mp x2⟩
  rw [h87]
  by_cases c1 : v_which (m 20) (z.2.2.2.1 2) (z.2.2.2.1 3) = Int32.ofNat wh
  · by_cases c2 : bl &&& v_need z.2.2.2.1 z.2.2.2.2 (m 13) (8 * m 12 + Int32.ofNat wh) = v_need z.2.2.2.1 z.2.2.2.2 (m 13) (8 * m 12 + Int32.ofNat wh)
    · by_cases c3 : z.2.2.2.1 11 ≤ m 8
      · rw [if_pos (e.mpr ⟨c1, c2, c3⟩)]
        have c3' : ¬ m 8 < z.2.2.2.1 11 := by rw [Int32.not_lt]; exact c3
        simp [m_c2, c1, c2, c3']
      · rw [if_neg (fun w => c3 (e.mp w).2.2)]
        have c3' : m 8 < z.2.2.2.1 11 := by rw [← Int32.not_le]; exact c3
        simp [m_c2, c1, c2, c3']
    · rw [if_neg (fun w => c2 (e.mp w).2.1)]
      simp [m_c2, c1, c2]
  · rw [if_neg (fun w => c1 (e.mp w).1)]
    simp [m_c2, c1]
/-- those that waited for what came -/
theorem in_rest (hF : 4001 ≤ F) (hI : Clo I) (hG : ClG I) {m : Nat → Int32} {bl kp : Int32} {wh pp v fa e t : Nat} {g : Nat → Int32} {tl : Option Nat} (hp : pp < 32) (hv : v < 4) (hw : wh < 8) (h1 : 1 ≤ n) (h2 : n < 7) (h : RB T S X Y Z Q [] Pd 0 rs c) (hpd : ∀ x ∈ Pd, x.2.1 = 128 * n + (4 * pp + v)) (hc : c + 2000 < 2147483648) (hcost : T.2.1 ≤ k1 + capS T ∧ T.2.2 ≤ k2 + 4 * capS T) (hfa : T.1 fa = some (cFetch g (Pd.map Prod.fst).head? tl)) (he : T.1 e = some (cEntry (Int32.ofNat pp) (Int32.ofNat v) t (Int32.ofNat wh) (m 8) (m 10 + S.1 36) (S.1 36) bl kp)) (ht : T.1 t = some (cTold (Int32.ofNat pp) (fun i => m (12 + i)))) (hd : okT (fun i => m (12 + i))) (h626 : ∀ i, i < 9 → rd S 626 i = m (12 + i)) (h87 : S.1 87 = Int32.ofNat wh) (h84 : S.1 84 = m 8) (h85 : S.1 85 = m 10 + S.1 36) (h86 : S.1 86 = bl) (h8 : rd S 628 8 = m 8) (hag : few 100000 (m 10 + S.1 36)) (hY : ∀ z Pe, Pd = z :: Pe → enR z (hIv m (S.1 36) bl) wh → I (gvM (vM S) z (anR z (hIv m (S.1 36) bl) wh (S.1 36))) Q Pe Z (vE S) (vS S) (k1 + gvC z) (k2 + 19 * gvC z)) (hN : (∀ z Pe, Pd = z :: Pe → ¬ enR z (hIv m (S.1 36) bl) wh) → I (vM S) Q Pd Z (vE S) (vS S) k1 k2) :
    ∃ p T0 T' S' X' Y' Z' Q' k1' k2', D_c_EdgeHouse_takeFill_148 F 512 (some (527 + 8 * n)) (some fa) (some e) T = some (p, T0) ∧ D_c_EdgeHouse_carry_101 F F 512 (some (527 + 8 * n)) 1 p T0 = some T' ∧ D_m_takeIn_359 F F bl (Int32.ofNat Pd.length) 0 S = some S' ∧ RA I T' S' X' Y' Z' Q' [] [] 0 rs (c + 1500) k1' k2' := by
  have pl : Pd.length ≤ 700 := by have := h.2.2.2.2.2.2.2.1.1.2.2.1; omega
  obtain ⟨F', hF'⟩ : ∃ x, F = x + 1 := ⟨F - 1, by omega⟩
  have hH : T.1 512 = some (house S.1) := h.2.1
  cases Pd with
  | nil =>
    refine ⟨none, T, T, S, X, Y, Z, Q, k1, k2, ?_, ?_, ?_, h.mono (by omega), hcost, hN (fun z Pe w => by cases w)⟩
    · unfold D_c_EdgeHouse_takeFill_148
      simp only [Option.bind_some, Fr12 hfa, List.map_nil, List.head?_nil, nc, D_c_EdgeHouse_takeFill_169]
    · rw [hF']; rfl
    · rw [hF']; rfl
  | cons z Pd =>
    have ll : (z :: Pd).length = Pd.length + 1 := rfl
    obtain ⟨S1, a1, a2, a3, a4, a5, a6, a7, a8, _⟩ := h.again (F := F) (by omega)
    obtain ⟨cc, rr, hq⟩ := h.lnk1
    have zf := hpd z List.mem_cons_self
    have zn : z.2.1 / 128 = n := by rw [zf]; omega
    obtain ⟨v72, v74, v76, n1, n2, n3, n4⟩ := r_enough (F := F) (clk := S.1 36) (bl := bl) (wh := wh) (by omega) a2 hd (fun i hi => (a7 626 i (by decide)).trans (h626 i hi)) ((a6 87).trans h87) ((a7 628 8 (by decide)).trans h8)
    obtain ⟨n', p', v', la, fo, hn1, hp', hv', hla, hfo, hff, hfn, g0, g1, g2, g3, _⟩ := a2.nd
    have epv : p' = pp ∧ v' = v := by omega
    obtain ⟨rfl, rfl⟩ := epv
    have hfirst : ∀ S3, D_m_takeIn_359 F F bl (Int32.ofNat (z :: Pd).length) 0 S = S3 → S3 = ((some (if enR z (hIv m (S.1 36) bl) wh then (1 : Int32) else 0)).bind fun v94 => (aput 48000 S1 622 (Int32.ofNat (wOf Q) + (10 : Int32)) (1 : Int32)).bind fun S95 => cond (m_c1 .eq v94) ((D_m_look F (Int32.ofNat (wOf Q)) S95).bind fun S103 => D_m_takeIn_359 F F' bl (Int32.ofNat (z :: Pd).length) (Int32.ofNat 1) S103) ((D_m_give F (Int32.ofNat (wOf Q)) (0 : Int32) S95).bind fun S105 => D_m_takeIn_359 F F' bl (Int32.ofNat (z :: Pd).length) (Int32.ofNat 1) S105)) := by
      intro S3 hS3
      rw [← hS3, ← n4]
      conv => lhs; rw [show D_m_takeIn_359 F F = D_m_takeIn_359 F (F' + 1) by rw [← hF']]; unfold D_m_takeIn_359
      rw [show m_c2 .ge (0 : Int32) (Int32.ofNat (z :: Pd).length) = decide ((z :: Pd).length ≤ 0) from ge_n (a := 0) (by omega) (by omega), decide_eq_false (by omega), cond_false, show D_m_again F (0 : Int32) S = some (Int32.ofNat (wOf Q), S1) from a1, Option.bind_some]
      simp only [n1, n2, n3, Option.bind_some, D_m_takeIn_493]
      rfl
    have hm := hfirst _ rfl
    have hC := a2.cur.1.hasC
    obtain ⟨cc', rr', bb', hq', hC⟩ := hC
    have hE : D_c_Entry_isEnoughFor F e (some z.1) T = some (if enR z (hIv m (S.1 36) bl) wh then 1 else 0) := by
      rw [c_enough hq' hC he ht]
      have : (decide (Int32.ofNat p' = z.2.2.2.1 0 ∧ Int32.ofNat v' = z.2.2.2.1 1 ∧ Int32.ofNat wh = v_which (m (12 + 8)) (z.2.2.2.1 2) (z.2.2.2.1 3)) && decide (z.2.2.2.1 11 ≤ m 8) && decide (v_missing z.2.2.2.1 z.2.2.2.2 (fun i => m (12 + i)) (Int32.ofNat wh) bl = 0)) = decide (enR z (hIv m (S.1 36) bl) wh) := by
        have e3 : v_missing z.2.2.2.1 z.2.2.2.2 (fun i => m (12 + i)) (Int32.ofNat wh) bl = v_missing z.2.2.2.1 z.2.2.2.2 (hIv m (S.1 36) bl) (Int32.ofNat wh) bl := v_missing_ext rfl rfl
        rw [e3, g0, g1]
        unfold enR
        rw [Bool.eq_iff_iff]
        simp only [Bool.and_eq_true, decide_eq_true_eq, true_and, and_assoc]
        exact Iff.rfl
      rw [this]
      by_cases w : enR z (hIv m (S.1 36) bl) wh
      · rw [if_pos w, decide_eq_true w]; rfl
      · rw [if_neg w, decide_eq_false w]; rfl
    have hd? : (List.map Prod.fst (z :: Pd)).head? = some z.1 := rfl
    rw [hd?] at hfa
    have cst : D_c_EdgeHouse_takeFill_148 F 512 (some (527 + 8 * n)) (some fa) (some e) T = cond (m_c1 .ne (if enR z (hIv m (S.1 36) bl) wh then (1 : Int32) else 0)) ((D_c_EdgeHouse_serve F 512 (some (527 + 8 * n)) (some z.1) (some e) (0 : Int32) T).bind fun T153 => (tgr T153 z.1 6 18).bind fun v157 => some (v157, T153)) (some (some z.1, T)) := by
      unfold D_c_EdgeHouse_takeFill_148
      simp only [Option.bind_some, Fr12 hfa, nc, tcl_o he, hE, tcl_o hH, D_c_EdgeHouse_takeFill_169]
    by_cases w : enR z (hIv m (S.1 36) bl) wh
    · rw [if_pos w] at cst hm
      have sub : (m 10 + S.1 36 + S1.1 36) - S.1 36 = m 10 + S.1 36 := by rw [a6]; simp
      obtain ⟨T2, S3, s1, s2, s3, s4, s5, s6, s7, s8, s9⟩ := P_giveU (F := F) (how := 0) (n := n) (e := e) (t := t) (d := fun i => m (12 + i)) (wh := Int32.ofNat wh) (mk := m 8) (ag := m 10 + S.1 36) (cm := S.1 36) (bl := bl) (kp := kp) (by omega) a2 zn (by rw [g0, g1]; exact he) (by rw [g0]; exact ht) hd ⟨wh, hw, rfl⟩ (by rw [sub]; exact hag) (by rw [sub]; exact ⟨fun i hi => (a7 626 i (by decide)).trans (h626 i hi), (a6 84).trans h84, (a6 85).trans h85, (a6 86).trans h86, (a6 87).trans h87⟩) (Or.inl rfl)
      have hRA : RA I T2 S3 X Y Z Q [] Pd 1 rs c (k1 + gvC z) (k2 + 19 * gvC z) := by
        refine ⟨s3, cost_step hcost s8 h.1, ?_⟩
        rw [s4, s5, s6, a3, a4, a5, a6, zn.symm]
        have := hY z Pd rfl w
        unfold anR at this
        rw [fiRow_cut (d := hIv m (S.1 36) bl) (d' := fun i => m (12 + i)) (fun i hi => if_pos hi)] at this
        exact this
      obtain ⟨T3, S4, X3, Y3, Z3, Q3, m3, m4, y1, y2, y3⟩ := again_loop (F := F) (n := n) (rs := rs) (by omega) hI hG Pd T2 S3 X Y Z Q 1 c _ _ bl hRA (fun x hx => by rw [hpd x (List.mem_cons_of_mem _ hx)]; omega) (by omega) (Nat.le_refl _) F F' (by omega) (by omega)
      refine ⟨(Pd.map Prod.fst).head?, T2, T3, S4, X3, Y3, Z3, Q3, m3, m4, ?_, y1, ?_, y3.1.j00.mono (by omega), y3.2⟩
      · rw [cst, s1]
        have := s7.k hq (show (6 : Nat) ∈ kX by decide)
        simp only [show m_c1 .ne (1 : Int32) = true from rfl, cond_true, Option.bind_some, Qr18 this]
      · rw [hm, Option.bind_some, show aput 48000 S1 622 (Int32.ofNat (wOf Q) + 10) 1 = some (up2 S1 622 (wOf Q + 10) 1) by rw [p10]; exact aput_n (by have := a2.w.1; omega) (by decide), Option.bind_some, show m_c1 .eq (1 : Int32) = false from rfl, cond_false, s2, Option.bind_some, show (z :: Pd).length = 1 + Pd.length by omega]
        exact y2
    · rw [if_neg w] at cst hm
      have hRA : RA I T S X Y Z Q [] (z :: Pd) 0 rs c k1 k2 := ⟨h, hcost, hN (fun z' Pe q => by cases q; exact w)⟩
      obtain ⟨T2, S3, X2, Y2, Z2, Q2, m1, m2, u1, u2, u3, u4⟩ := again_one (F := F) (n := n) (f := F') (by omega) hI hG hRA zn (by omega) a1
      obtain ⟨T3, S4, X3, Y3, Z3, Q3, m3, m4, y1, y2, y3⟩ := again_loop (F := F) (n := n) (rs := rs) (by omega) hI hG Pd T2 S3 X2 Y2 Z2 Q2 1 (c + 2) _ _ bl u4 (fun x hx => by rw [hpd x (List.mem_cons_of_mem _ hx)]; omega) (by omega) (Nat.le_refl _) F' F' (by omega) (by omega)
      refine ⟨some z.1, T, T3, S4, X3, Y3, Z3, Q3, m3, m4, ?_, ?_, ?_, y3.1.j00.mono (by omega), y3.2⟩
      · rw [cst]; rfl
      · rw [show D_c_EdgeHouse_carry_101 F F = D_c_EdgeHouse_carry_101 F (F' + 1) by rw [← hF'], u1]
        exact y1
      · rw [hm, Option.bind_some, u2, Option.bind_some, show m_c1 .eq (0 : Int32) = true from rfl, cond_true, u3, Option.bind_some, show (z :: Pd).length = 1 + Pd.length by omega]
        exact y2
end
