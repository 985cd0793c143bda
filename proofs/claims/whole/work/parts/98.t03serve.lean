/-! serve for a client, in both. -/
theorem cReply_ext {g g' : Nat → Int32} {s : Nat} (h : ∀ i, i < 13 → g i = g' i) : cReply g s = cReply g' s := by
  unfold cReply
  rw [h 0 (by omega), h 1 (by omega), h 2 (by omega), h 3 (by omega), h 4 (by omega), h 5 (by omega), h 6 (by omega), h 7 (by omega), h 8 (by omega), h 9 (by omega), h 10 (by omega), h 11 (by omega), h 12 (by omega)]
section
variable {T : tT} {S : mS} {F : Nat}
/-- how many bytes are given -/
def v_count (S : mS) (r : Nat) (k d : Nat → Int32) (wh : Int32) (z : Nat) : Int32 := if v_match S r k (8 * d 0 + wh) = true then 0 else if v_counts k (8 * d 0 + wh) = false then Int32.ofNat z else if nFrom true k z < nEnd true k z then Int32.ofNat (nEnd true k z - nFrom true k z) else 0
/-- the reply behind serve -/
def v_reply (S : mS) (r : Nat) (gr g k d : Nat → Int32) (wh age how : Int32) (z : Nat) : Nat → Int32 := fun i => if i = 0 then gr 0 else if i = 1 then v_status S r k d wh z else if i = 2 then k 0 else if i = 3 then d 0 else if i = 4 then wh else if i = 5 then d 8 else if i = 6 then age else if i = 7 then how else if i = 8 then d 1 else if i = 9 then Int32.ofNat (nFrom (v_counts k (8 * d 0 + wh)) k z) else if i = 10 then v_count S r k d wh z else if i = 11 then ((31 * g 0 + 17 * g 1) + 5 * wh) + 13 * d 0 else if i = 12 then S.1 36 else gr i
theorem bytes_eq {r z : Nat} {k : Nat → Int32} {tag : Int32} (hcl : isCl S r k) (hz : z < 256) : (if (0 : Int32) < (v_to k (v_counts k tag) (Int32.ofNat z) - v_from k (v_counts k tag) (Int32.ofNat z)) + 1 then (v_to k (v_counts k tag) (Int32.ofNat z) - v_from k (v_counts k tag) (Int32.ofNat z)) + 1 else 0) = Int32.ofNat (nEnd (v_counts k tag) k z - nFrom (v_counts k tag) k z) := by
  have c1 := c_nFrom (tag := tag) hcl hz
  have c2 := c_nEnd (tag := tag) hcl hz
  rw [c1.1, c2.1]
  generalize nFrom (v_counts k tag) k z = f at *
  generalize nEnd (v_counts k tag) k z = e at *
  have e1 : Int32.ofNat e - 1 - Int32.ofNat f + 1 = Int32.ofNat e - Int32.ofNat f := by
    apply Int32.toBitVec_inj.mp
    simp only [Int32.toBitVec_add, Int32.toBitVec_sub]
    rw [BitVec.sub_sub, BitVec.add_comm _ (Int32.ofNat f).toBitVec, ← BitVec.sub_sub, BitVec.sub_add_cancel]
  rw [e1]
  have hi := (i_sub0 (a := e) (b := f) (by unfold sm; have := c2.2; omega) (by unfold sm; have := c1.2; omega)).1
  by_cases h : f < e
  · rw [if_pos (hi.mpr h), m_n_sub (by omega)]
  · rw [if_neg (fun w => h (hi.mp w)), show e - f = 0 by omega]
    rfl
theorem serve_client (hF : 30 ≤ F) (hH : RHouse T S) {q e t ca ra s sr r nd z : Nat} {g gr k d : Nat → Int32} {b : Option Nat} {wh mk ag cm bl kp how : Int32} (hq : T.1 q = some (cReq g (some ca) (some ra) b)) (hca : T.1 ca = some (cCond k s)) (htg : isTags T S r s k) (hra : T.1 ra = some (cReply gr sr)) (hgr : gr 10 = 0) (he : T.1 e = some (cEntry (g 0) (g 1) t wh mk ag cm bl kp)) (ht : T.1 t = some (cTold (g 0) d)) (hz : d 1 = Int32.ofNat z) (hz2 : z < 256) (hcl : isCl S r k) (hk0 : flag (k 0)) (hnow : isNow S d wh mk ((ag + S.1 36) - cm) bl) {w : Nat} (hw : w < 47988) (hwr : rd S 622 (w + 2) = Int32.ofNat r) : ∃ T' S', D_c_EdgeHouse_serve F 512 (some nd) (some q) (some e) how T = some T' ∧ D_m_give F (Int32.ofNat w) how S = some S' ∧ RHouse T' S' ∧ T'.1 ra = some (cReply (v_reply S r gr g k d wh ((ag + S.1 36) - cm) how z) sr) ∧ FrC [512, ra] T T' ∧ T'.2 = T.2 ∧ (∀ i, S'.1 i = if i = 71 then S.1 71 + 1 else S.1 i) ∧ (∀ a q, ¬ a = 621 → ¬ a = 627 → rd S' a q = rd S a q) ∧ (∀ q, rd S' 621 q = if q = r then 0 else rd S 621 q) ∧ (∀ q, ¬ aRow r q → rd S' 627 q = rd S 627 q) ∧ rd S' 627 (9 * r) = v_status S r k d wh z ∧ rd S' 627 (9 * r + 1) = d 0 ∧ rd S' 627 (9 * r + 2) = (ag + S.1 36) - cm ∧ rd S' 627 (9 * r + 3) = d 1 ∧ rd S' 627 (9 * r + 4) = how ∧ rd S' 627 (9 * r + 5) = S.1 36 ∧ rd S' 627 (9 * r + 6) = rd S 627 (9 * r + 6) ∧ rd S' 627 (9 * r + 7) = wh ∧ rd S' 627 (9 * r + 8) = d 8 := by
  have hr := hcl.1
  have n1 : ¬ q = ra := kd_ne hq hra (show ¬ (6 : Nat) = 8 by decide)
  have n2 : ¬ e = ra := kd_ne he hra (show ¬ (11 : Nat) = 8 by decide)
  have n3 : ¬ t = ra := kd_ne ht hra (show ¬ (13 : Nat) = 8 by decide)
  have n4 : ¬ ca = ra := kd_ne hca hra (show ¬ (7 : Nat) = 8 by decide)
  have n5 : ¬ 512 = ra := kd_ne (show T.1 512 = some (house S.1) from hH) hra (show ¬ (0 : Nat) = 8 by decide)
  have n6 : ¬ s = ra := by
    obtain ⟨-, f, n, -, -, hs, -⟩ := htg
    exact kd_ne hs hra (show ¬ (20 : Nat) = 8 by decide)
  have qq : ∀ X, (tset T ra X).1 q = some (cReq g (some ca) (some ra) b) := fun X => tset_o hq n1
  have ee : ∀ X, (tset T ra X).1 e = some (cEntry (g 0) (g 1) t wh mk ag cm bl kp) := fun X => tset_o he n2
  have tt : ∀ X, (tset T ra X).1 t = some (cTold (g 0) d) := fun X => tset_o ht n3
  have cc : ∀ X, (tset T ra X).1 ca = some (cCond k s) := fun X => tset_o hca n4
  have hh : ∀ X, (tset T ra X).1 512 = some (house S.1) := fun X => tset_o hH n5
  have tg : ∀ X, isTags (tset T ra X) S r s k := fun X => by
    obtain ⟨h4, f, n, y1, y2, hs, y3⟩ := htg
    exact ⟨h4, f, n, y1, y2, tset_o hs n6, y3⟩
  have rt : ∀ X : tT, ∀ G : Nat → Int32, (tset X ra (cReply G sr)).1 ra = some (cReply G sr) := fun X G => tset_at
  have pz : ∀ (X : tT) (G : Nat → Int32), X.1 ra = some (cReply G sr) → tpz X ra 8 2 (k 0) = some (tset X ra (cReply (fup G 2 (k 0)) sr)) := by
    intro X G hX
    unfold tpz
    rw [if_pos (show k 0 = 0 ∨ k 0 = 1 from hk0)]
    exact Rp2 hX
  let tag : Int32 := 8 * d 0 + wh
  let G0 : Nat → Int32 := fup (fup gr 7 how) 6 ((ag + S.1 36) - cm)
  let G1 : Nat → Int32 := fup (fup (fup (fup (fup (fup (fup G0 2 (k 0)) 3 (d 0)) 4 wh) 5 (d 8)) 8 (d 1)) 11 (((31 * g 0 + 17 * g 1) + 5 * wh) + 13 * d 0)) 9 (v_from k (v_counts k tag) (d 1))
  let G2 : Nat → Int32 := if v_match S r k tag = true then fup G1 1 304 else if v_counts k tag = false then fup (fup G1 1 200) 10 (Int32.ofNat z) else if nFrom true k z < nEnd true k z then fup (fup G1 1 206) 10 (Int32.ofNat (nEnd true k z - nFrom true k z)) else fup G1 1 416
  have st2 : G2 1 = v_status S r k d wh z := by
    show (if v_match S r k tag = true then fup G1 1 304 else if v_counts k tag = false then fup (fup G1 1 200) 10 (Int32.ofNat z) else if nFrom true k z < nEnd true k z then fup (fup G1 1 206) 10 (Int32.ofNat (nEnd true k z - nFrom true k z)) else fup G1 1 416) 1 = _
    unfold v_status
    split
    · rfl
    · split
      · rfl
      · split <;> rfl
  have fill : D_c_Reply_fillFrom F ra (some e) (some ca) (tset T ra (cReply G0 sr)) = some (tset T ra (cReply G2 sr)) := by
    have by9 := bytes_eq (tag := 8 * d 0 + wh) hcl hz2
    rw [← hz] at by9
    simp only [D_c_Reply_fillFrom, Option.bind_some, tcl_o (ee _), c_tag (ee _) (tt _), Cg0 (cc _), pz _ _ (rt _ _), tset_tset, Er2 (ee _), Tg1 (tt _), Rp3 (rt _ _), Eg3 (ee _), Rp4 (rt _ _), Tg9 (tt _), Rp5 (rt _ _), Tg2 (tt _), Rp8 (rt _ _), Eg0 (ee _), Eg1 (ee _), Rg4 (rt _ _), Rg3 (rt _ _), Rp11 (rt _ _), tcl_o (cc _), c_counts (cc _), Rg8 (rt _ _), c_from (cc _), Rp9 (rt _ _), c_to (cc _), Rg9 (rt _ _), c_match (F := F) (by omega) (cc _) (tg _)]
    simp only [fup, show ¬ (4 : Nat) = 8 by decide, show ¬ (4 : Nat) = 5 by decide, show ¬ (3 : Nat) = 8 by decide, show ¬ (3 : Nat) = 5 by decide, show ¬ (3 : Nat) = 4 by decide, show ¬ (8 : Nat) = 11 by decide, show ¬ (8 : Nat) = 9 by decide, if_true, if_false]
    rw [by9]
    simp only [Rp1 (rt _ _), Option.bind_some, tset_tset, D_c_Reply_fillFrom_170, Rp10 (rt _ _)]
    cases hm : v_match S r k (8 * d 0 + wh) with
    | true =>
      have g2 : G2 = fup G1 1 304 := if_pos hm
      rw [g2]
      rfl
    | false =>
      have hm' : ¬ v_match S r k tag = true := fun w => by rw [show v_match S r k tag = false from hm] at w; cases w
      cases hc : v_counts k (8 * d 0 + wh) with
      | false =>
        have g2 : G2 = fup (fup G1 1 200) 10 (Int32.ofNat z) := (if_neg hm').trans (if_pos hc)
        rw [g2]
        have e0 : nEnd false k z - nFrom false k z = z := by simp [nEnd, nFrom]
        rw [e0]
        have g1 : G1 = fup (fup (fup (fup (fup (fup (fup G0 2 (k 0)) 3 (d 0)) 4 wh) 5 (d 8)) 8 (d 1)) 11 (((31 * g 0 + 17 * g 1) + 5 * wh) + 13 * d 0)) 9 (v_from k false (d 1)) := by
          show fup _ 9 (v_from k (v_counts k tag) (d 1)) = _
          rw [show v_counts k tag = false from hc]
        rw [g1]
        rfl
      | true =>
        have hc' : ¬ v_counts k tag = false := fun w => by rw [show v_counts k tag = true from hc] at w; cases w
        have g1 : G1 = fup (fup (fup (fup (fup (fup (fup G0 2 (k 0)) 3 (d 0)) 4 wh) 5 (d 8)) 8 (d 1)) 11 (((31 * g 0 + 17 * g 1) + 5 * wh) + 13 * d 0)) 9 (v_from k true (d 1)) := by
          show fup _ 9 (v_from k (v_counts k tag) (d 1)) = _
          rw [show v_counts k tag = true from hc]
        have c2 := c_nEnd (tag := 8 * d 0 + wh) hcl hz2
        rw [hc] at c2
        by_cases hlt : nFrom true k z < nEnd true k z
        · have g2 : G2 = fup (fup G1 1 206) 10 (Int32.ofNat (nEnd true k z - nFrom true k z)) := (if_neg hm').trans ((if_neg hc').trans (if_pos hlt))
          rw [g2, g1]
          have hne : m_c1 .ne (Int32.ofNat (nEnd true k z - nFrom true k z)) = true := m_c1n (by have := c2.2; omega) (show m_cn .ne (nEnd true k z - nFrom true k z) 0 = true from decide_eq_true (by omega))
          rw [hne]
          rfl
        · have g2 : G2 = fup G1 1 416 := (if_neg hm').trans ((if_neg hc').trans (if_neg hlt))
          rw [g2, g1]
          have hne : m_c1 .ne (Int32.ofNat (nEnd true k z - nFrom true k z)) = false := m_c1n (by have := c2.2; omega) (show m_cn .ne (nEnd true k z - nFrom true k z) 0 = false from decide_eq_false (by omega))
          rw [hne]
          rfl
  have G2o : ∀ i, ¬ i = 1 → ¬ i = 10 → G2 i = G1 i := by
    intro i i1 i2
    show (if v_match S r k tag = true then fup G1 1 304 else if v_counts k tag = false then fup (fup G1 1 200) 10 (Int32.ofNat z) else if nFrom true k z < nEnd true k z then fup (fup G1 1 206) 10 (Int32.ofNat (nEnd true k z - nFrom true k z)) else fup G1 1 416) i = _
    split
    · exact fup_ne i1
    · split
      · rw [fup_ne i2, fup_ne i1]
      · split
        · rw [fup_ne i2, fup_ne i1]
        · exact fup_ne i1
  have G210 : G2 10 = v_count S r k d wh z := by
    have h10 : ∀ y : Int32, fup G1 1 y 10 = 0 := fun y => hgr
    show (if v_match S r k tag = true then fup G1 1 304 else if v_counts k tag = false then fup (fup G1 1 200) 10 (Int32.ofNat z) else if nFrom true k z < nEnd true k z then fup (fup G1 1 206) 10 (Int32.ofNat (nEnd true k z - nFrom true k z)) else fup G1 1 416) 10 = _
    unfold v_count
    split
    · exact h10 _
    · split
      · rfl
      · split
        · rfl
        · exact h10 _
  have hfin : cReply (fup (fup G2 1 (G2 1)) 12 (S.1 36)) sr = cReply (v_reply S r gr g k d wh ((ag + S.1 36) - cm) how z) sr := by
    refine cReply_ext (fun i hi => ?_)
    match i, hi with
    | 0, _ => rw [fup_ne (by decide), fup_ne (by decide), G2o 0 (by decide) (by decide)]; rfl
    | 1, _ => rw [fup_ne (by decide), fup_eq, st2]; rfl
    | 2, _ => rw [fup_ne (by decide), fup_ne (by decide), G2o 2 (by decide) (by decide)]; rfl
    | 3, _ => rw [fup_ne (by decide), fup_ne (by decide), G2o 3 (by decide) (by decide)]; rfl
    | 4, _ => rw [fup_ne (by decide), fup_ne (by decide), G2o 4 (by decide) (by decide)]; rfl
    | 5, _ => rw [fup_ne (by decide), fup_ne (by decide), G2o 5 (by decide) (by decide)]; rfl
    | 6, _ => rw [fup_ne (by decide), fup_ne (by decide), G2o 6 (by decide) (by decide)]; rfl
    | 7, _ => rw [fup_ne (by decide), fup_ne (by decide), G2o 7 (by decide) (by decide)]; rfl
    | 8, _ => rw [fup_ne (by decide), fup_ne (by decide), G2o 8 (by decide) (by decide)]; rfl
    | 9, _ =>
      rw [fup_ne (by decide), fup_ne (by decide), G2o 9 (by decide) (by decide)]
      show v_from k (v_counts k tag) (d 1) = Int32.ofNat (nFrom (v_counts k (8 * d 0 + wh)) k z)
      rw [hz]
      exact (c_nFrom hcl hz2).1
    | 10, _ => rw [fup_ne (by decide), fup_ne (by decide), G210]; rfl
    | 11, _ => rw [fup_ne (by decide), fup_ne (by decide), G2o 11 (by decide) (by decide)]; rfl
    | 12, _ => rw [fup_eq]; rfl
  obtain ⟨S', m1, m2, m3, m4, m5, m6, m7, m8, m9, m10, m11, m12, m13, m14⟩ := m_close (F := F) (S := S) (r := r) (st := v_status S r k d wh z) (how := how) (fr := 1) hr (Or.inr rfl)
  simp only [if_true] at m7 m8 m9 m10 m13 m14
  have cl := c_close (F := F) (T := tset T ra (cReply G2 sr)) (a := ra) (s := sr) (g := G2) (x9 := S.1) (x := G2 1) (hh _) (rt _ _)
  rw [tset_tset, hfin] at cl
  refine ⟨tset (tset T ra (cReply (v_reply S r gr g k d wh ((ag + S.1 36) - cm) how z) sr)) 512 (house (fup S.1 71 (S.1 71 + 1))), S', ?_, ?_, ?_, ?_, ?_, rfl, m2, m3, m4, m5, m6, by rw [m7]; exact hnow.1 0 (by decide), by rw [m8]; exact hnow.2.2.1, by rw [m9]; exact hnow.1 1 (by decide), m10, m11, m12, by rw [m13]; exact hnow.2.2.2.2, by rw [m14]; exact hnow.1 8 (by decide)⟩
  · simp only [D_c_EdgeHouse_serve, Option.bind_some, Qr14 hq, Qr13 hq, nc, Rp7 hra, Qr14 (qq _), Qr13 (qq _), Hg14 (hh _), tcl_o (ee _), c_ageAt (ee _), Rp6 (rt _ _), tset_tset, tcl_o (rt _ _)]
    show ((D_c_Reply_fillFrom F ra (some e) (some ca) (tset T ra (cReply G0 sr))).bind fun T65 => _) = _
    rw [fill, Option.bind_some]
    simp only [Option.bind_some, Qr14 (qq _), Rg1 (rt _ _), tcl_o (hh _), cl]
  · unfold D_m_give
    have h3 : ¬ (Int32.ofNat r = -1) := oI_ne (by omega)
    rw [wait2 hw, Option.bind_some, hwr, show m_c2 .eq (Int32.ofNat r) (-1) = false from decide_eq_false h3, cond_false, m_statusOf (F := F) (by omega) hcl htg hnow hz hz2, Option.bind_some, m1]
    rfl
  · show (tset _ _ _).1 512 = _
    rw [tset_at]
    congr 1
    unfold house
    simp only [m2, fup, show ¬ (39 = 71) by decide, show ¬ (38 = 71) by decide, show ¬ (37 = 71) by decide, show ¬ (36 = 71) by decide, if_false, if_true]
  · exact tset_o tset_at (fun w9 => n5 w9.symm)
  · have := (FrC.set (c := cReply (v_reply S r gr g k d wh ((ag + S.1 36) - cm) how z) sr) hra).trans (FrC.set (a := 512) (c := house (fup S.1 71 (S.1 71 + 1))) (hh (cReply (v_reply S r gr g k d wh ((ag + S.1 36) - cm) how z) sr)))
    exact this.mono (fun x hx => Or.inl (by simp at hx ⊢; rcases hx with hx | hx <;> simp [hx]))
end
