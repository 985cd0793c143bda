/-! A request is looked at, in both: a HIT, a stale entry, the rest. -/
section
variable {I : Iv} {T : tT} {S : mS} {X Y : Nat → List (Nat × Nat)} {Z : Nat → List Fz} {Q Pd : List Rq} {j0 c F n k1 k2 : Nat} {rs : List Nat} {z : Rq}
def Looked (I : Iv) (F : Nat) (T : tT) (S : mS) (Q Pd : List Rq) (j0 c n : Nat) (rs : List Nat) (z : Rq) : Prop := ∃ T' S' X' Y' Z' Q' k1' k2', D_c_EdgeHouse_look F 512 (some (527 + 8 * n)) (some z.1) T = some T' ∧ D_m_look F (Int32.ofNat (wOf Q)) S = some S' ∧ RA I T' S' X' Y' Z' Q' [] Pd j0 rs (c + 2) k1' k2'
theorem RSt.mono {d : Nat} (h : RSt T S X Y c) (hd : c ≤ d) : RSt T S X Y d := by
  obtain ⟨h1, h2, h3, U, h4, h5⟩ := h
  exact ⟨h1, h2, h3, U, h4, by omega⟩
theorem RB.mono {cz : List Rq} {d : Nat} (h : RB T S X Y Z Q cz Pd j0 rs c) (hd : c ≤ d) : RB T S X Y Z Q cz Pd j0 rs d := by
  obtain ⟨h1, h2, h3, h4, h5, h6, h7⟩ := h
  exact ⟨h1, h2, h3, h4, h5, h6.mono hd, h7⟩
theorem vS7 : vS S 7 0 = S.1 36 := rfl
theorem look_both (hF : 1100 ≤ F) (hI : Clo I) (h : RA I T S X Y Z Q [z] Pd j0 rs c k1 k2) (hc : c + 10 < 2147483648) (hn : z.2.1 / 128 = n) (hb : ∃ cc rr, T.1 z.1 = some (cReq z.2.2.2.1 cc rr none)) : Looked I F T S Q Pd j0 c n rs z := by
  obtain ⟨hR, hcost, hIv⟩ := id h
  obtain ⟨n', p, v, la, fo, hn1, hp, hv, hla, hfo, hff, hfn, g0, g1, g2, g3, w0, w1, w11, w10, fl12, fl6, hnf, hnc⟩ := hR.nd
  have : n' = n := hfn.symm.trans hn
  subst this
  obtain ⟨cA, cB, cC, cC0, cD, fJ, fE⟩ := id hI
  have hIv1 : I (vM S) Q (lk1 z :: Pd) Z (vE S) (vS S) k1 k2 := hIv
  have hA : okAge S := fun e h he => fE _ _ _ _ _ _ _ _ hIv e h he
  have hnode := (hR.2.2.2.2.1.2.1 n' hn1.1 hn1.2).1
  have hH : T.1 512 = some (house S.1) := hR.2.1
  obtain ⟨cc, rr, bb, hq, hC⟩ := hR.cur.1.hasC
  have e41 : tgr T (527 + 8 * n') 4 1 = some (some (528 + 8 * n')) := tgr_o (x := some (528 + 8 * n')) hnode rfl
  have e48 : tgi T (527 + 8 * n') 4 8 = some (rd S 594 n') := tgi_o hnode rfl
  have e5 : tcl T (528 + 8 * n') 5 = some () := (hR.2.2.2.2.2.1.1 n' hn1.1 hn1.2).1.stC.1
  have a0 : aget 0 48000 S 622 (Int32.ofNat (wOf Q)) = some (Int32.ofNat n') := by rw [← w0]; exact aget_n (Or.inl rfl) (by have := hR.w.1; omega) (by decide)
  have a1 : aget 0 48000 S 622 (Int32.ofNat (wOf Q) + 1) = some (Int32.ofNat (4 * p + v)) := by rw [← w1]; exact wait1 hR.w.1
  have a11 : aget 0 48000 S 622 (Int32.ofNat (wOf Q) + 11) = some (Int32.ofNat (la + 4 * fo)) := by rw [← w11]; exact wait11 hR.w.1
  have a2 := wait2 (S := S) hR.w.1
  have ekey : (128 : Int32) * Int32.ofNat n' + Int32.ofNat (4 * p + v) = Int32.ofNat z.2.1 := by rw [k128, i_add, hff]
  obtain ⟨o, o1, o2, o3, o4⟩ := hR.suB (F := F) (by omega) hn1.1 hn1.2 hff hp hv hla hfo g0 g1 g2 g3
  have oS1 : ∀ e, o.map Prod.snd = some e → suitE S z.2.1 la fo e := fun e he => by
    cases o with
    | none => cases he
    | some q => cases he; exact (o3 q rfl).2.1
  have oS2 : o.map Prod.snd = none → ∀ e, ¬ suitE S z.2.1 la fo e := fun he => by
    cases o with
    | none => exact o4 rfl
    | some q => cases he
  have hoS : ∀ e, o.map Prod.snd = some e → e < 7168 ∧ okT (eT S e) ∧ few 100000 ((rd S 605 e + S.1 36) - rd S 606 e) := fun e he => by
    cases o with
    | none => cases he
    | some q =>
      cases he
      obtain ⟨_, b2, b3, b4, _⟩ := o3 q rfl
      exact ⟨b3, b4, hA.at b3 b2.2.1⟩
  have mk := r_marked (F := F) hR.rw (o := o.map Prod.snd) (fun e he => (hoS e he).1)
  have fo9 := r_forced (F := F) hR.rw
  have mstart : D_m_look F (Int32.ofNat (wOf Q)) S = D_m_look F (Int32.ofNat (wOf Q)) S := rfl
  conv at mstart => rhs; unfold D_m_look
  rw [a0, Option.bind_some, a1, Option.bind_some, a11, Option.bind_some, ekey, o2, Option.bind_some, a2, Option.bind_some, mk, Option.bind_some, one_eq, fo9, Option.bind_some, flag_ne fl6] at mstart
  -- the rest
  have rest : ∀ x6 x7 : Int32, (cond (m_c1 .eq x7) (some (0 : Int32)) (cond (m_c1 .ne (z.2.2.2.1 12)) (some (0 : Int32)) (some x6))) = some (v_mi S z (o.map Prod.snd)) → D_c_EdgeHouse_look F 512 (some (527 + 8 * n')) (some z.1) T = D_c_EdgeHouse_look_199 F 512 (some (527 + 8 * n')) (some z.1) x6 x7 T → D_m_look F (Int32.ofNat (wOf Q)) S = D_m_look_168 F (Int32.ofNat (wOf Q)) (Int32.ofNat n') (Int32.ofNat z.2.1) (rd S 622 (wOf Q + 2)) S → Looked I F T S Q Pd j0 c n' rs z := by
    intro x6 x7 hx hc1 hm1
    obtain ⟨T', S', Z', Q', k1', k2', b1, b2, b3, b4, b5⟩ := look_rest (F := F) hF hI h hn hb hn1.1 hn1.2 hff hp hv hla hfo g0 g1 g2 g3 w11 oS1 oS2 hoS hx
    exact ⟨T', S', X, Y, Z', Q', k1', k2', hc1.trans b1, hm1.trans b2, b3.mono (by omega), b4, b5⟩
  cases o with
  | none =>
    refine rest 0 0 rfl ?_ ?_
    · unfold D_c_EdgeHouse_look
      simp only [Option.bind_some, e41, e5, o1, Option.map_none, nc]
      rfl
    · rw [mstart]; rfl
  | some q =>
    obtain ⟨q1', q2', q3', q4', t, kp, t1, t2⟩ := o3 q rfl
    have ws := r_whole (F := F) (by omega) hR.rw q3' q4'.2.2.1
    have fr := r_fresh (F := F) hR.rw q3' q4' (hA.at q3' q2'.2.1)
    have sl := r_stale (F := F) hR.rw q3' q4' (hA.at q3' q2'.2.1)
    have cm := c_missing (F := F) hq hC t1 t2
    have cf := c_fresh (F := F) (x := (rd S 605 q.2 + S.1 36) - rd S 606 q.2) hq t2
    have cs := c_stale (F := F) (x := (rd S 605 q.2 + S.1 36) - rd S 606 q.2) hq t2
    generalize hms : v_missing z.2.2.2.1 z.2.2.2.2 (eT S q.2) (Int32.ofNat (q.2 % 8)) (rd S 607 q.2) = ms at ws cm
    generalize hfr : v_fresh z.2.2.2.1 (eT S q.2) ((rd S 605 q.2 + S.1 36) - rd S 606 q.2) = bf at fr cf
    generalize hst : v_stale z.2.2.2.1 (eT S q.2) ((rd S 605 q.2 + S.1 36) - rd S 606 q.2) = bs at sl cs
    -- the class up to the cases
    have cstart : D_c_EdgeHouse_look F 512 (some (527 + 8 * n')) (some z.1) T = D_c_EdgeHouse_look_25 F 512 (some (527 + 8 * n')) (some z.1) (some q.1) ((rd S 605 q.2 + S.1 36) - rd S 606 q.2) T := by
      unfold D_c_EdgeHouse_look
      simp only [Option.bind_some, e41, e5, o1, Option.map_some, nc, Hg14 hH, tcl_o t1, c_ageAt t1]
    have us : (cond (m_c1 .ne (z.2.2.2.1 6)) (some (0 : Int32)) (cond (m_c2 .lt (rd S 604 q.2) (z.2.2.2.1 11)) (some (0 : Int32)) (some (1 : Int32)))) = some (b2i (decide (z.2.2.2.1 6 = 0) && decide (z.2.2.2.1 11 ≤ rd S 604 q.2))) := by
      rw [flag_ne fl6]
      rcases fl6 with w | w
      · rw [w]
        by_cases w2 : rd S 604 q.2 < z.2.2.2.1 11
        · have : ¬ z.2.2.2.1 11 ≤ rd S 604 q.2 := by rw [Int32.not_le]; exact w2
          simp [m_c2, w2, this, b2i]
        · have : z.2.2.2.1 11 ≤ rd S 604 q.2 := by rw [← Int32.not_lt]; exact w2
          simp [m_c2, w2, this, b2i]
      · rw [w]; rfl
    have c25 : D_c_EdgeHouse_look_25 F 512 (some (527 + 8 * n')) (some z.1) (some q.1) ((rd S 605 q.2 + S.1 36) - rd S 606 q.2) T = ((cond (m_c1 .eq (b2i (decide (z.2.2.2.1 6 = 0) && decide (z.2.2.2.1 11 ≤ rd S 604 q.2)))) (some (0 : Int32)) (some ms)).bind fun v64 => (cond (m_c1 .eq (b2i (decide (z.2.2.2.1 6 = 0) && decide (z.2.2.2.1 11 ≤ rd S 604 q.2)))) (some (0 : Int32)) (some (b2i bf))).bind fun v84 => cond (m_c1 .eq v84) (D_c_EdgeHouse_look_136 F 512 (some (527 + 8 * n')) (some z.1) (some q.1) ((rd S 605 q.2 + S.1 36) - rd S 606 q.2) (b2i (decide (z.2.2.2.1 6 = 0) && decide (z.2.2.2.1 11 ≤ rd S 604 q.2))) v64 v84 T) (cond (m_c1 .ne v64) (D_c_EdgeHouse_look_136 F 512 (some (527 + 8 * n')) (some z.1) (some q.1) ((rd S 605 q.2 + S.1 36) - rd S 606 q.2) (b2i (decide (z.2.2.2.1 6 = 0) && decide (z.2.2.2.1 11 ≤ rd S 604 q.2))) v64 v84 T) ((tpi T (527 + 8 * n') 4 8 (rd S 594 n' + 1)).bind fun T159 => (tgr T159 (527 + 8 * n') 4 1).bind fun v163 => (v163).bind fun a167 => (tcl T159 a167 5).bind fun _ => (D_c_Store_use F a167 (some q.1) T159).bind fun T173 => (tcl T173 512 0).bind fun _ => (D_c_EdgeHouse_serve F 512 (some (527 + 8 * n')) (some z.1) (some q.1) (1 : Int32) T173).bind fun T180 => some T180))) := by
      have bb2 : (cond (m_c1 .eq (b2i bf)) (some (0 : Int32)) (some (1 : Int32))) = some (b2i bf) := by cases bf <;> rfl
      unfold D_c_EdgeHouse_look_25
      simp only [nc, Option.bind_some, Qg6 hq, Eg4 t1, Qg11 hq, us, tcl_o hq, cm, Er2 t1, cf, bb2, e48]
    have mk2 : D_m_look F (Int32.ofNat (wOf Q)) S = ((cond (!decide (z.2.2.2.1 11 ≤ rd S 604 q.2)) (some (0 : Int32)) (cond (decide (z.2.2.2.1 6 = 1)) (some (0 : Int32)) (cond (!decide (ms = 0)) (some (0 : Int32)) (some (1 : Int32))))).bind fun v22 => cond (m_c1 .eq v22) (D_m_look_126 F (Int32.ofNat (wOf Q)) (Int32.ofNat n') (Int32.ofNat z.2.1) (Int32.ofNat q.2) (rd S 622 (wOf Q + 2)) v22 S) (cond (!bf) (D_m_look_126 F (Int32.ofNat (wOf Q)) (Int32.ofNat n') (Int32.ofNat z.2.1) (Int32.ofNat q.2) (rd S 622 (wOf Q + 2)) v22 S) ((aget 0 7 S 594 (Int32.ofNat n')).bind fun v61 => (aput 7 S 594 (Int32.ofNat n') (v61 + (1 : Int32))).bind fun S63 => (D_m_use F (Int32.ofNat n') (Int32.ofNat q.2) S63).bind fun S65 => (D_m_serve F (Int32.ofNat (wOf Q)) (Int32.ofNat q.2) (1 : Int32) S65).bind fun S67 => some S67))) := by
      refine mstart.trans ?_
      simp only [Option.map_some, oI]
      rw [ws, fr]
      simp only [Option.bind_some, one_eq]
    have mi0 : ¬ (z.2.2.2.1 6 = 0 ∧ z.2.2.2.1 11 ≤ rd S 604 q.2) → v_mi S z (some q.2) = 0 := fun w => if_neg (fun w2 => w ⟨w2.2.2.1, w2.2.1⟩)
    have mi1 : v_mi S z (some q.2) = if z.2.2.2.1 12 = 0 ∧ z.2.2.2.1 11 ≤ rd S 604 q.2 ∧ z.2.2.2.1 6 = 0 ∧ bf = true then ms else 0 := by
      unfold v_mi
      simp only []
      rw [hms, hfr]
    by_cases cu : z.2.2.2.1 6 = 0 ∧ z.2.2.2.1 11 ≤ rd S 604 q.2
    · have n6 : decide (z.2.2.2.1 6 = 1) = false := decide_eq_false (fun w => by rw [cu.1] at w; exact absurd w (by decide))
      rw [decide_eq_true cu.1, decide_eq_true cu.2] at c25
      rw [decide_eq_true cu.2, n6] at mk2
      simp only [Bool.and_true, show m_c1 .eq (b2i true) = false from rfl, cond_false, Option.bind_some, one_eq] at c25
      simp only [Bool.not_true, cond_false] at mk2
      by_cases cz : ms = 0
      · rw [decide_eq_true cz] at mk2
        simp only [Bool.not_true, cond_false, Option.bind_some, show m_c1 .eq (1 : Int32) = false from rfl] at mk2
        subst cz
        simp only [show m_c1 .ne (0 : Int32) = false from rfl, cond_false] at c25
        cases bf with
        | true =>
          -- a HIT
          simp only [Bool.not_true, cond_false] at c25 mk2
          obtain ⟨T1, T2, S2, A, B, u1, u2, u3, u4, u5, u6, u7, u8, u9, u10, u11, u12, u13, u14, u15⟩ := P_use (F := F) hF hR hc hn1.1 hn1.2 q1'
          obtain ⟨kp', t1'⟩ := u14 _ _ _ _ _ _ _ _ _ _ t1
          have t2' := u15.k t2 (show (13 : Nat) ∈ [0, 1, 2, 3, 5, 6, 7, 8, 9, 10, 12, 13, 20] by decide)
          have hH2 := u15.k hH (show (0 : Nat) ∈ [0, 1, 2, 3, 5, 6, 7, 8, 9, 10, 12, 13, 20] by decide)
          have f3 : ∀ k, rd S2 603 k = rd S 603 k := fun k => u12 603 k (by decide) (by decide)
          have f4 := u12 604 q.2 (by decide) (by decide)
          have f5 := u12 605 q.2 (by decide) (by decide)
          have f6 := u12 606 q.2 (by decide) (by decide)
          have f7 := u12 607 q.2 (by decide) (by decide)
          have fT : eT S2 q.2 = eT S q.2 := by funext i; exact f3 _
          have f36 := u13 36 (by decide)
          have fH : hE S2 q.2 = hE S q.2 := by
            funext i
            unfold hE
            rw [f4, f5, f6, f7, f3]
          obtain ⟨T3, S3, s1, s2, s3, s4, s5, s6, s7, s8, s9⟩ := P_serveC (F := F) (how := 1) (n := n') (by omega) u6 hn1.2 hff hp hv q3' (by rw [f4, f5, f6, f7]; exact t1') (by rw [fT]; exact t2') (by rw [fT]; exact q4') (by rw [f5, f6, f36]; exact hA.at q3' q2'.2.1) (Or.inr (Or.inl rfl))
          have a594 : aget 0 7 S 594 (Int32.ofNat n') = some (rd S 594 n') := aget_n (Or.inl rfl) (by omega) (by decide)
          have p594 : aput 7 S 594 (Int32.ofNat n') (rd S 594 n' + 1) = some (up2 S 594 n' (rd S 594 n' + 1)) := aput_n (by omega) (by decide)
          refine ⟨T3, S3, _, _, Z, Q, k1 + gvC z, k2 + 19 * gvC z, ?_, ?_, s3, ?_, ?_⟩
          · rw [cstart, c25, u1, Option.bind_some, u2, Option.bind_some, Option.bind_some, u3, Option.bind_some, u4, Option.bind_some, tcl_o hH2, Option.bind_some, s1]
            rfl
          · rw [mk2, a594, Option.bind_some, p594, Option.bind_some, u5, Option.bind_some, s2]
            rfl
          · have := cost_step (cost_step hcost u10 hR.1) s8 u6.1
            exact ⟨by omega, by omega⟩
          · rw [s4, s5, s6, u7, u8, fH, f36]
            refine cA _ _ _ _ _ _ _ _ _ _ _ hIv1 (fun hz => Or.inr ⟨q.2, hE S q.2, vE_some q3' q2'.2.1, q2'.1, by rw [g2, g3]; exact q2'.2.2, cu.2, (v_missing_ext rfl rfl).trans hms, by rw [hn, vS7]⟩) u9
        | false =>
          simp only [Bool.not_false, cond_true] at c25 mk2
          have c136 : D_c_EdgeHouse_look F 512 (some (527 + 8 * n')) (some z.1) T = cond (!bs) (D_c_EdgeHouse_look_199 F 512 (some (527 + 8 * n')) (some z.1) 0 (b2i false) T) ((D_c_EdgeHouse_serve F 512 (some (527 + 8 * n')) (some z.1) (some q.1) (2 : Int32) T).bind fun T303 => (tgi T303 z.1 6 0).bind fun v307 => (tgi T303 z.1 6 1).bind fun v310 => (tcl T303 (527 + 8 * n') 4).bind fun _ => (D_c_Node_fetchOf F (527 + 8 * n') v307 v310 T303).bind fun v319 => nc v319 (bd2 (tnw T303 10) fun a325 T326 => (D_c_Fetch_init F a325 (some z.1) T326).bind fun T330 => (tcl T330 512 0).bind fun _ => bd2 (D_c_EdgeHouse_sendFetch F 512 (some (527 + 8 * n')) (some a325) T330) fun v337 T338 => some T338) fun a323 => (some T303)) := by
            rw [cstart, c25]
            unfold D_c_EdgeHouse_look_136
            simp only [show m_c1 .eq (b2i true) = false from rfl, show m_c1 .ne (0 : Int32) = false from rfl, cond_false, Option.bind_some, Er2 t1, tcl_o hq, cs, one_eq, tcl_o hH]
          have m126 : D_m_look F (Int32.ofNat (wOf Q)) S = cond (!bs) (D_m_look_168 F (Int32.ofNat (wOf Q)) (Int32.ofNat n') (Int32.ofNat z.2.1) (rd S 622 (wOf Q + 2)) S) ((D_m_serve F (Int32.ofNat (wOf Q)) (Int32.ofNat q.2) (2 : Int32) S).bind fun S105 => (aget 4 896 S105 609 (Int32.ofNat z.2.1)).bind fun v107 => cond (m_c1 .ne v107) (some S105) ((D_m_fetch F (Int32.ofNat (wOf Q)) (Int32.ofNat z.2.1) S105).bind fun q113 => some q113.2)) := by
            rw [mk2]
            unfold D_m_look_126
            simp only [show m_c1 .eq (1 : Int32) = false from rfl, cond_false, sl, Option.bind_some, one_eq]
          have mz : v_mi S z (some q.2) = 0 := by rw [mi1]; split <;> rfl
          cases bs with
          | false => exact rest 0 (b2i false) (by rw [show (some q).map Prod.snd = some q.2 from rfl, mz]; rfl) c136 m126
          | true =>
            simp only [Bool.not_true, cond_false] at c136 m126
            obtain ⟨T1, S1, s1, s2, s3, s4, s5, s6, s7, s8, s9⟩ := P_serveC (F := F) (how := 2) (n := n') (by omega) hR hn1.2 hff hp hv q3' t1 t2 q4' (hA.at q3' q2'.2.1) (Or.inr (Or.inr rfl))
            have okA : okAns (vE S) (vS S 7 0) z (cut (fiRow n' z.2.2.2.1 (hE S q.2) (Int32.ofNat (q.2 % 8)) (hE S q.2 9) (((hE S q.2 11 + S.1 36) - hE S q.2 12) - S.1 36) (hE S q.2 10))) := fun hz => Or.inr ⟨q.2, hE S q.2, vE_some q3' q2'.2.1, q2'.1, by rw [g2, g3]; exact q2'.2.2, cu.2, (v_missing_ext rfl rfl).trans hms, by rw [hn, vS7]⟩
            have hq1 := s7.k hq (show (6 : Nat) ∈ kX by decide)
            have hnode1 := s7.k hnode (show (4 : Nat) ∈ kX by decide)
            have f609 := s9.1 609 z.2.1 (by decide)
            have a609 : aget 4 896 S1 609 (Int32.ofNat z.2.1) = some (rd S1 609 z.2.1) := aget_n (Or.inr rfl) (by omega) (by decide)
            have nodeS1 : nodeC S1 n' = nodeC S n' := by
              unfold nodeC
              rw [s9.1 591 n' (by decide), s9.1 593 n' (by decide), s9.1 594 n' (by decide), s9.1 595 n' (by decide), s9.1 596 n' (by decide)]
            have ccl : D_c_EdgeHouse_look F 512 (some (527 + 8 * n')) (some z.1) T = (D_c_Node_fetchOf F (527 + 8 * n') (Int32.ofNat p) (Int32.ofNat v) T1).bind fun v319 => nc v319 (bd2 (tnw T1 10) fun a325 T326 => (D_c_Fetch_init F a325 (some z.1) T326).bind fun T330 => (tcl T330 512 0).bind fun _ => bd2 (D_c_EdgeHouse_sendFetch F 512 (some (527 + 8 * n')) (some a325) T330) fun v337 T338 => some T338) fun a323 => (some T1) := by
              rw [c136, s1, Option.bind_some, Qg0 hq1, Option.bind_some, Qg1 hq1, Option.bind_some, tcl_o hnode1, Option.bind_some, g0, g1]
            have mcl : D_m_look F (Int32.ofNat (wOf Q)) S = cond (m_c1 .ne (rd S1 609 z.2.1)) (some S1) ((D_m_fetch F (Int32.ofNat (wOf Q)) (Int32.ofNat z.2.1) S1).bind fun q113 => some q113.2) := by
              rw [m126, s2, Option.bind_some, a609, Option.bind_some]
            rcases c_fetchOf (F := F) (by omega) s3.2.2.2.2.2.2.1 hn1.1 hn1.2 (by rw [nodeS1]; exact hnode1) hp hv with ⟨x1, x2, x3⟩ | ⟨y, x1, x2, x3, x4⟩
            · rw [← hff] at x1 x2
              obtain ⟨J, J1, J2, J3⟩ := fJ _ _ _ _ _ _ _ _ hIv n' hn1.1 hn1.2
              have suE : ∀ e, suitE S1 z.2.1 la fo e ↔ suitE S z.2.1 la fo e := fun e => by
                unfold suitE eT
                rw [s9.1 601 e (by decide), s9.1 603 (9 * e + 8) (by decide)]
              have eT1 : ∀ e, eT S1 e = eT S e := fun e => by funext i; exact s9.1 603 _ (by decide)
              have f36 := s9.2 36 (by decide)
              have mz1 : v_mi S1 z (some q.2) = 0 := by
                rw [← mz]
                unfold v_mi
                simp only [eT1, s9.1 604 _ (show ¬ (604 = 621 ∨ 604 = 624 ∨ 604 = 625 ∨ 604 = 626 ∨ 604 = 627) by decide), s9.1 605 _ (show ¬ (605 = 621 ∨ 605 = 624 ∨ 605 = 625 ∨ 605 = 626 ∨ 605 = 627) by decide), s9.1 606 _ (show ¬ (606 = 621 ∨ 606 = 624 ∨ 606 = 625 ∨ 606 = 626 ∨ 606 = 627) by decide), s9.1 607 _ (show ¬ (607 = 621 ∨ 607 = 624 ∨ 607 = 625 ∨ 607 = 626 ∨ 607 = 627) by decide), f36]
              have rw1 : Rw S1 (wOf Q) z := hR.rw.ag (fun a k ha => s9.1 a k (by omega))
              obtain ⟨T0, T5, y1, y2, y3, y4⟩ := P_back (F := F) (by omega) s3 rw1 hq1 hn1.1 hn1.2 hff hp hv hla hfo g0 g1 g2 g3 ((s9.1 622 _ (by decide)).trans w11) x1 x2 (o := some q.2) (fun e he => (suE e).mpr (oS1 e he)) (fun he => by cases he) (fun e he => by rw [eT1, s9.1 605 _ (by decide), s9.1 606 _ (by decide), f36]; exact hoS e he) mz1 (J := J) ⟨(s9.1 596 n' (by decide)).trans J1, J2, J3⟩
              have hH5 : tcl T5 512 0 = some () := tcl_o (y3.trans (s3.2.1))
              have hcl : ∀ (b : Int32) (T6 : tT), D_c_EdgeHouse_sendFetch F 512 (some (527 + 8 * n')) (some T1.2.1) T5 = some (b, T6) → D_c_EdgeHouse_look F 512 (some (527 + 8 * n')) (some z.1) T = some T6 := by
                intro b T6 hb6
                rw [ccl, x3, Option.bind_some]
                simp only [nc, bd2, y1, Option.bind_some, y2, hH5, hb6]
              have hml : ∀ (b : Int32) (S6 : mS), D_m_fetch F (Int32.ofNat (wOf Q)) (Int32.ofNat z.2.1) S1 = some (b, S6) → D_m_look F (Int32.ofNat (wOf Q)) S = some S6 := by
                intro b S6 hb6
                rw [mcl, x1, show m_c1 .ne (0 : Int32) = false from rfl, cond_false, hb6]
                rfl
              rcases y4 with ⟨S6, z1, z2, z3, z4, z5, z6, z7, z8⟩ | ⟨to0, T6, S6, z1, z2, z3, z4, z5, z6, z7, z8⟩
              · refine ⟨T5, S6, X, Y, Z, Q, k1 + 1 + gvC z, k2 + 14 + 19 * gvC z, hcl _ _ z2, hml _ _ z3, z4.mono (by omega), ?_, ?_⟩
                · have := cost_step (cost_step hcost s8 hR.1) z8 s3.1
                  exact ⟨by omega, by omega⟩
                · rw [z5, z6, z7, s4, s5, s6]
                  exact cC0 _ _ _ _ _ _ _ _ _ _ hIv1 (by rw [hn]; exact z1) okA
              · refine ⟨T6, S6, X, Y, _, Q, k1 + gvC z + 2, k2 + 19 * gvC z + 33, hcl _ _ z2, hml _ _ z3, z4.mono (by omega), ?_, ?_⟩
                · have := cost_step (cost_step hcost s8 hR.1) z8 s3.1
                  exact ⟨by omega, by omega⟩
                · have n56 := newG_few hR.rw hoS
                  rw [show (some q).map Prod.snd = some q.2 from rfl, mz] at n56
                  have hd : v_hadG S1 n' (newG z.2.2.2.1 0) (some q.2) = v_hadG S n' (newG z.2.2.2.1 0) (some q.2) := by
                    unfold v_hadG
                    simp only [eT1, s9.1 593 _ (show ¬ (593 = 621 ∨ 593 = 624 ∨ 593 = 625 ∨ 593 = 626 ∨ 593 = 627) by decide), s9.1 604 _ (show ¬ (604 = 621 ∨ 604 = 624 ∨ 604 = 625 ∨ 604 = 626 ∨ 604 = 627) by decide), s9.1 607 _ (show ¬ (607 = 621 ∨ 607 = 624 ∨ 607 = 625 ∨ 607 = 626 ∨ 607 = 627) by decide)]
                  have := cD _ _ _ _ _ _ _ _ _ _ T1.2.1 to0 la fo (v_hadG S n' (newG z.2.2.2.1 0) (some q.2)) hIv1 okA ⟨by rw [hn]; exact x2, Or.inl rfl, n56.1, n56.2, hla, hfo, g2, g3, by rw [hn]; exact z1, by rw [hn]; exact hadOK_of g2 g3 (by omega) oS1 oS2⟩
                  rw [hn] at this
                  rw [z5, z6, z7, s4, s5, s6, hd, s9.1 596 n' (by decide), s9.1 593 n' (by decide), f36]
                  exact this
            · refine ⟨T1, S1, X, Y, Z, Q, k1 + gvC z, k2 + 19 * gvC z, ?_, ?_, s3.mono (by omega), cost_step hcost s8 hR.1, ?_⟩
              · rw [ccl, x4]; rfl
              · rw [← hff] at x3
                rw [mcl, x3]; rfl
              · rw [s4, s5, s6]
                exact cA _ _ _ _ _ _ _ _ _ _ _ hIv1 okA vShr.refl
      · rw [decide_eq_false cz] at mk2
        simp only [Bool.not_false, cond_true, Option.bind_some, show m_c1 .eq (0 : Int32) = true from rfl] at mk2
        have nz : m_c1 .ne ms = true := by simp [m_c1, cz]
        have m168 : D_m_look F (Int32.ofNat (wOf Q)) S = D_m_look_168 F (Int32.ofNat (wOf Q)) (Int32.ofNat n') (Int32.ofNat z.2.1) (rd S 622 (wOf Q + 2)) S := by rw [mk2]; rfl
        have c199 : D_c_EdgeHouse_look F 512 (some (527 + 8 * n')) (some z.1) T = D_c_EdgeHouse_look_199 F 512 (some (527 + 8 * n')) (some z.1) ms (b2i bf) T := by
          rw [cstart, c25, nz]
          unfold D_c_EdgeHouse_look_136
          simp only [show m_c1 .eq (b2i true) = false from rfl, nz, cond_false, cond_true]
          cases bf <;> rfl
        refine rest ms (b2i bf) ?_ c199 m168
        rw [show (some q).map Prod.snd = some q.2 from rfl, mi1, one_eq, flag_ne fl12]
        cases bf with
        | false => simp
        | true =>
          rcases fl12 with w | w
          · rw [w]; simp [cu.1, cu.2]
          · rw [w]; simp
    · have nb : (decide (z.2.2.2.1 6 = 0) && decide (z.2.2.2.1 11 ≤ rd S 604 q.2)) = false := by
        by_cases w : z.2.2.2.1 6 = 0
        · have w2 : ¬ z.2.2.2.1 11 ≤ rd S 604 q.2 := fun w2 => cu ⟨w, w2⟩
          rw [decide_eq_false w2, Bool.and_false]
        · rw [decide_eq_false w, Bool.false_and]
      refine rest 0 0 (by rw [show (some q).map Prod.snd = some q.2 from rfl, mi0 cu]; rfl) ?_ ?_
      · rw [cstart, c25, nb]; rfl
      · rw [mk2]
        by_cases w : z.2.2.2.1 11 ≤ rd S 604 q.2
        · have w6 : z.2.2.2.1 6 = 1 := fl6.resolve_left (fun w6 => cu ⟨w6, w⟩)
          rw [decide_eq_true w, decide_eq_true w6]; rfl
        · rw [decide_eq_false w]; rfl
end
