/-! A request is given what there is, or refused: the whole relation stands. -/
/-- what an answer leaves as it was -/
def FrA (S S' : mS) : Prop := (∀ a k, ¬ (a = 621 ∨ a = 624 ∨ a = 625 ∨ a = 626 ∨ a = 627) → rd S' a k = rd S a k) ∧ ∀ i, ¬ (i = 71 ∨ i = 77 ∨ i = 39 ∨ (84 ≤ i ∧ i ≤ 87)) → S'.1 i = S.1 i
theorem FrA.trans {S S1 S2 : mS} (h : FrA S S1) (h2 : FrA S1 S2) : FrA S S2 := ⟨fun a k ha => (h2.1 a k ha).trans (h.1 a k ha), fun i hi => (h2.2 i hi).trans (h.2 i hi)⟩
section
variable {T T' : tT} {S S' : mS} {X Y : Nat → List (Nat × Nat)} {Z : Nat → List Fz} {Q Pd : List Rq} {j0 c F : Nat} {rs : List Nat} {z : Rq}
def wOf (Q : List Rq) : Nat := 12 * (Q.length + 1)
theorem RB.w (h : RB T S X Y Z Q [z] Pd j0 rs c) : wOf Q < 47988 ∧ S.1 74 = Int32.ofNat Q.length ∧ Q.length ≤ 700 := by
  obtain ⟨a1, a2, _⟩ := h.2.2.2.2.2.2.2.1.1
  rw [List.length_append] at a2
  exact ⟨by unfold wOf; omega, a1, by omega⟩
theorem RB.cur (h : RB T S X Y Z Q [z] Pd j0 rs c) : isQr T S rs z (fun i => rd S 622 (wOf Q + i)) := h.2.2.2.2.2.2.2.1.2.2.1 z (List.mem_singleton.mpr rfl)
/-- the cells of a client's request -/
theorem isQr.client {row : Nat → Int32} {r : Nat} (h : isQr T S rs z row) (hz : z.2.2.1 = some r) : ∃ k ca ra s b n, z.2.2.2.2 = some k ∧ T.1 z.1 = some (cReq z.2.2.2.1 (some ca) (some ra) b) ∧ T.1 ca = some (cCond k s) ∧ isTags T S r s k ∧ rs[r]? = some ra ∧ rd S 621 r = 1 ∧ isQa z.2.1 z.2.2.2.1 row n ∧ isQc S r z.2.2.2.1 k row n := by
  obtain ⟨q, f, ro, g, cd⟩ := z
  obtain ⟨h1, n, h2, h3⟩ := h
  cases hz
  cases cd with
  | none => exact absurd h1 (fun w => w)
  | some k =>
    obtain ⟨⟨ca, ra, s, b, a1, a2, a3, a4⟩, a5⟩ := h1
    exact ⟨k, ca, ra, s, b, n, rfl, a1, a2, a3, a4, a5, h2, h3⟩
theorem isQr.fetch {row : Nat → Int32} (h : isQr T S rs z row) (hz : z.2.2.1 = none) : ∃ b n, z.2.2.2.2 = none ∧ T.1 z.1 = some (cReq z.2.2.2.1 none none b) ∧ isQa z.2.1 z.2.2.2.1 row n ∧ isQf z.2.2.2.1 row n := by
  obtain ⟨q, f, ro, g, cd⟩ := z
  obtain ⟨h1, n, h2, h3⟩ := h
  cases hz
  cases cd with
  | some k => exact absurd h1 (fun w => w)
  | none =>
    obtain ⟨b, a1⟩ := h1
    exact ⟨b, n, rfl, a1, h2, h3⟩
/-- a fetch's row as the earlier parts have it -/
theorem isFq_of {n : Nat} {w : Nat} (hw : w < 47988) {g : Nat → Int32} {f : Nat} (h2 : isQa f g (fun i => rd S 622 (w + i)) n) (h3 : isQf g (fun i => rd S 622 (w + i)) n) : isFq S w n g ∧ f / 128 = n := by
  obtain ⟨⟨n1, n2⟩, ⟨p, v, p1, p2, p3, p4, p5, p6, p7⟩, _⟩ := h2
  obtain ⟨q1, q2, q3, q4, q5, q6, q7, q8, q9, q10, _⟩ := h3
  exact ⟨⟨hw, q2, p6, q3, q5, q10, ⟨n1, q1⟩, (by obtain ⟨e, e1, e2, e3⟩ := q4; exact ⟨e, e3, e1, e2⟩), p, v, p1, p2, p4, p5, p7⟩, by omega⟩
/-- a client is refused -/
theorem P_refc {r : Nat} {st : Int32} (h : RB T S X Y Z Q [z] Pd j0 rs c) (hz : z.2.2.1 = some r) (hst : st = 400 ∨ st = 404 ∨ st = 502 ∨ st = 503 ∨ st = 504) (how : Int32) : ∃ T' S' ca ra b, T.1 z.1 = some (cReq z.2.2.2.1 (some ca) (some ra) b) ∧ D_c_EdgeHouse_close F 512 (some ra) st T = some T' ∧ D_m_close F (Int32.ofNat r) st how 0 S = some S' ∧ rd S 622 (wOf Q + 2) = Int32.ofNat r ∧ r < 300 ∧ RB T' S' X Y Z Q [] Pd j0 rs c ∧ vM S' = vM S ∧ vE S' = vE S ∧ vS S' = vS S ∧ Kq [] kX T T' ∧ Cs T T' 0 0 ∧ FrA S S' := by
  obtain ⟨k, ca, ra, s, b, n, hk, a1, a2, a3, a4, a5, a6, a7⟩ := h.cur.client hz
  obtain ⟨gr, sr, r1, r2, r3, r4, r5⟩ := h.2.2.2.2.2.2.2.2.1.2.2.2.2 r ra a4
  obtain ⟨q4, rfl⟩ := r4 a5
  have hH : T.1 512 = some (house S.1) := h.2.1
  have hr : r < 300 := a7.2.1.1
  have n5 : ¬ 512 = ra := kd_ne hH r1 (show ¬ (0 : Nat) = 8 by decide)
  obtain ⟨S', s1, s2, s3, s4, s5, s6, s7, s8, s9, s10, s11, s12, s13, s14⟩ := m_close (F := F) (S := S) (st := st) (how := how) (fr := 0) hr (Or.inl rfl)
  have e1 := c_close (F := F) (x := st) hH r1
  have fr : FrC [512, ra] T (tset (tset T ra (cReply (fup (fup gr 1 st) 12 (S.1 36)) 31)) 512 (house (fup S.1 71 (S.1 71 + 1)))) := ((FrC.set r1).trans (FrC.set (tset_o hH n5))).mono (fun b hb => Or.inl (by simp at hb ⊢; rcases hb with hb | hb <;> simp [hb]))
  have cs : Cs T _ 0 0 := K_c_EdgeHouse_close (F := F) _ e1
  simp only [show ¬ ((0 : Int32) = 1) by decide, if_false] at s7 s8 s9 s10 s13 s14
  refine ⟨_, S', ca, ra, b, a1, e1, s1, a7.2.2.2.1, hr, ?_, ?_, ?_, ?_, ?_, cs, ⟨fun a k ha => s3 a k (by omega) (by omega), fun i hi => by rw [s2, if_neg (by omega)]⟩⟩
  · refine h.closed (G := fup (fup gr 1 st) 12 (S.1 36)) hz a4 (cs h.1).1 ?_ fr ?_ (fun i i1 _ => by rw [s2, if_neg i1]) (fun a q i1 i2 => s3 a q i1 i2) s4 s5 ?_ ?_
    · show (tset _ _ _).1 512 = some (house S'.1)
      rw [tset_at]
      congr 2
      funext i
      rw [s2]
      rfl
    · exact tset_o tset_at (fun w => n5 w.symm)
    · refine ⟨by rw [s6]; rfl, by rw [s7]; exact q4 3 (by decide) (by decide), by rw [s8]; exact q4 6 (by decide) (by decide), by rw [s10]; exact q4 7 (by decide) (by decide), by rw [s11]; rfl, by rw [s13]; exact q4 4 (by decide) (by decide), by rw [s14]; exact q4 5 (by decide) (by decide), Or.inl ⟨q4 3 (by decide) (by decide), hst, q4 4 (by decide) (by decide), q4 5 (by decide) (by decide), q4 6 (by decide) (by decide), q4 7 (by decide) (by decide), q4 10 (by decide) (by decide), q4 9 (by decide) (by decide), s9⟩⟩
    · rw [s12]
      exact r3
  · exact vM_ag ⟨fun a ha k => s3 _ _ (by rw [List.mem_singleton.mp ha]; decide) (by rw [List.mem_singleton.mp ha]; decide), fun i hi => by rw [s2, if_neg (by rw [List.mem_singleton.mp hi]; decide)]⟩
  · exact vE_ag ⟨fun a ha k => s3 _ _ (by revert a; decide) (by revert a; decide), fun i hi => by cases hi⟩
  · exact vS_ag ⟨fun a ha k => s3 _ _ (by revert a; decide) (by revert a; decide), fun i hi => by rw [s2, if_neg (by revert i; decide)]⟩
  · refine fr.kq (fun b hb x hx => ⟨?_, by intro w; cases w⟩)
    simp only [List.mem_cons, List.mem_nil_iff, or_false] at hb
    rcases hb with rfl | rfl
    · rw [hH] at hx; cases hx; exact (show (0 : Nat) ∉ kX by decide)
    · rw [r1] at hx; cases hx; exact (show (8 : Nat) ∉ kX by decide)
/-- a FETCH is refused -/
theorem P_reff {st : Int32} (hF : 23 ≤ F) (h : RB T S X Y Z Q [z] Pd j0 rs c) (hz : z.2.2.1 = none) (hst : st = 404 ∨ st = 504) : ∃ T' S' n b, T.1 z.1 = some (cReq z.2.2.2.1 none none b) ∧ z.2.1 / 128 = n ∧ D_c_EdgeHouse_sendStatus F 512 (Int32.ofNat n) (some z.1) st T = some T' ∧ D_m_refuse F (Int32.ofNat (wOf Q)) st S = some S' ∧ RB T' S' X Y Z Q [] Pd j0 rs c ∧ vM S' = psh (vM S) (cut (stRow n z.2.2.2.1 st)) ∧ vE S' = vE S ∧ vS S' = vS S ∧ Kq [] kX T T' ∧ Cs T T' 1 19 ∧ FrA S S' := by
  obtain ⟨b, n, hk, a1, a2, a3⟩ := h.cur.fetch hz
  obtain ⟨fq, fn⟩ := isFq_of h.w.1 a2 a3
  obtain ⟨T', S', s1, s2, s3, s4, s5, s6, s7, s8⟩ := status_both (F := F) hF h.1.1 h.2.1 h.2.2.1 a1 fq hst
  have cs : Cs T T' 1 19 := K_c_EdgeHouse_sendStatus (F := F) _ s1
  refine ⟨T', S', n, b, a1, fn, s1, s2, (h.post (cs h.1).1 s3 s4 s5 (fun i i1 i2 _ => s6 i i1 i2) (fun x k x1 x2 => s7 x k x1 x2) s8 (show ¬ (1 : Int32) = 2 by decide)).uncz, s8.view, ?_, ?_, h.kq s5 (by decide) (by decide), cs, ⟨fun a k ha => s7 a k (by omega) (by omega), fun i hi => s6 i (by omega) (by omega)⟩⟩
  · exact vE_ag ⟨fun a ha k => s7 _ _ (by revert a; decide) (by revert a; decide), fun i hi => by cases hi⟩
  · exact vS_ag ⟨fun a ha k => s7 _ _ (by revert a; decide) (by revert a; decide), fun i hi => s6 i (by revert i; decide) (by revert i; decide)⟩
theorem K_serve_client {q ca ra nd e : Nat} {g : Nat → Int32} {b : Option Nat} {how : Int32} (hq : T.1 q = some (cReq g (some ca) (some ra) b)) : CsP idT T 0 0 (D_c_EdgeHouse_serve F 512 (some nd) (some q) (some e) how T) := by
  unfold D_c_EdgeHouse_serve
  rw [Option.bind_some, Qr14 hq, Option.bind_some]
  simp only [nc, Qr13 hq, Option.bind_some]
  repeat (first | exact CsP.ret | refine CsP.b0 K_tpi (fun _ => ?_) | refine CsP.b0 K_c_Reply_fillFrom (fun _ => ?_) | refine CsP.b0 K_c_EdgeHouse_close (fun _ => ?_) | refine CsP.bp (fun _ => ?_))
/-- a client is given what there is -/
theorem P_givec {r e t nd : Nat} {d : Nat → Int32} {wh mk ag cm bl kp how : Int32} (hF : 30 ≤ F) (h : RB T S X Y Z Q [z] Pd j0 rs c) (hz : z.2.2.1 = some r) (he : T.1 e = some (cEntry (z.2.2.2.1 0) (z.2.2.2.1 1) t wh mk ag cm bl kp)) (ht : T.1 t = some (cTold (z.2.2.2.1 0) d)) (hd : okT d) (hwh : few 8 wh) (hag : few 100000 ((ag + S.1 36) - cm)) (hnow : isNow S d wh mk ((ag + S.1 36) - cm) bl) (hhow : how = 0 ∨ how = 1 ∨ how = 2) : ∃ T' S', D_c_EdgeHouse_serve F 512 (some nd) (some z.1) (some e) how T = some T' ∧ D_m_give F (Int32.ofNat (wOf Q)) how S = some S' ∧ RB T' S' X Y Z Q [] Pd j0 rs c ∧ vM S' = vM S ∧ vE S' = vE S ∧ vS S' = vS S ∧ Kq [] kX T T' ∧ Cs T T' 0 0 ∧ FrA S S' := by
  obtain ⟨k, ca, ra, s, b, n, hk, a1, a2, a3, a4, a5, a6, a7⟩ := h.cur.client hz
  obtain ⟨gr, sr, r1, r2, r3, r4, r5⟩ := h.2.2.2.2.2.2.2.2.1.2.2.2.2 r ra a4
  obtain ⟨q4, rfl⟩ := r4 a5
  have hH : T.1 512 = some (house S.1) := h.2.1
  have hr : r < 300 := a7.2.1.1
  obtain ⟨zl, z1, z2⟩ := hd.2.2.1
  obtain ⟨T', S', s1, s2, s3, s4, s5, s5', s6, s7, s8, s9, s10, s11, s12, s13, s14, s15, s16, s17, s18⟩ := serve_client (F := F) (how := how) (nd := nd) hF hH a1 a2 a3 r1 (q4 10 (by decide) (by decide)) he ht z2 z1 a7.2.1 a7.2.2.1 hnow h.w.1 a7.2.2.2.1
  have e620 : ∀ j, rd S' 620 j = rd S 620 j := fun j => s7 _ _ (by decide) (by decide)
  have emt : ∀ tag, v_match S' r k tag = v_match S r k tag := fun tag => by simp only [v_match, v_tags, e620]
  have cs : Cs T T' 0 0 := K_serve_client (F := F) a1 _ s1
  refine ⟨T', S', s1, s2, ?_, ?_, ?_, ?_, ?_, cs, ⟨fun a k ha => s7 a k (by omega) (by omega), fun i hi => by rw [s6, if_neg (by omega)]⟩⟩
  · refine h.closed hz a4 (cs h.1).1 s3 s5 s4 (fun i i1 _ => by rw [s6, if_neg i1]) (fun a q i1 i2 => s7 a q i1 i2) s8 s9 ?_ ?_
    · refine ⟨by rw [s10]; rfl, by rw [s11]; rfl, by rw [s12]; rfl, by rw [s14]; rfl, by rw [s15]; rfl, by rw [s17]; rfl, by rw [s18]; rfl, Or.inr ⟨k, d, wh, zl, a7.2.1.ag (fun j => s7 _ _ (by decide) (by decide)), a7.2.2.1, rfl, hd, z1, z2, rfl, rfl, hwh, rfl, rfl, s13, hhow, hag, ?_, rfl, ?_, ?_⟩⟩
      · show v_status S r k d wh zl = v_status S' r k d wh zl
        simp only [v_status, emt]
      · show v_count S r k d wh zl = v_count S' r k d wh zl
        simp only [v_count, emt]
      · rw [e620, e620, a7.2.2.2.2.2.2.2.2.2.2.2.2.2.2.2.2.1, a7.2.2.2.2.2.2.2.2.2.2.2.2.2.2.2.2.2]
        rfl
    · rw [s16]
      exact r3
  · exact vM_ag ⟨fun a ha k => s7 _ _ (by rw [List.mem_singleton.mp ha]; decide) (by rw [List.mem_singleton.mp ha]; decide), fun i hi => by rw [s6, if_neg (by rw [List.mem_singleton.mp hi]; decide)]⟩
  · exact vE_ag ⟨fun a ha k => s7 _ _ (by revert a; decide) (by revert a; decide), fun i hi => by cases hi⟩
  · exact vS_ag ⟨fun a ha k => s7 _ _ (by revert a; decide) (by revert a; decide), fun i hi => by rw [s6, if_neg (by revert i; decide)]⟩
  · refine s5.kq (fun b hb x hx => ⟨?_, by intro w; cases w⟩)
    simp only [List.mem_cons, List.mem_nil_iff, or_false] at hb
    rcases hb with rfl | rfl
    · rw [hH] at hx; cases hx; exact (show (0 : Nat) ∉ kX by decide)
    · rw [r1] at hx; cases hx; exact (show (8 : Nat) ∉ kX by decide)
/-- a FETCH is given what there is -/
theorem P_givef {e t : Nat} {d : Nat → Int32} {wh mk ag cm bl kp how : Int32} (hF : 30 ≤ F) (h : RB T S X Y Z Q [z] Pd j0 rs c) (hz : z.2.2.1 = none) (he : T.1 e = some (cEntry (z.2.2.2.1 0) (z.2.2.2.1 1) t wh mk ag cm bl kp)) (ht : T.1 t = some (cTold (z.2.2.2.1 0) d)) (hd : okT d) (hnow : isNow S d wh mk ((ag + S.1 36) - cm) bl) : ∃ T' S' n, z.2.1 / 128 = n ∧ D_c_EdgeHouse_serve F 512 (some (527 + 8 * n)) (some z.1) (some e) how T = some T' ∧ D_m_give F (Int32.ofNat (wOf Q)) how S = some S' ∧ RB T' S' X Y Z Q [] Pd j0 rs c ∧ vM S' = psh (vM S) (cut (fiRow n z.2.2.2.1 d wh mk (((ag + S.1 36) - cm) - S.1 36) bl)) ∧ vE S' = vE S ∧ vS S' = vS S ∧ Kq [] kX T T' ∧ Cs T T' 1 19 ∧ FrA S S' := by
  obtain ⟨b, n, hk, a1, a2, a3⟩ := h.cur.fetch hz
  obtain ⟨fq, fn⟩ := isFq_of h.w.1 a2 a3
  have hfl : ∃ f l, f < 16 ∧ l < 16 ∧ z.2.2.2.1 4 = Int32.ofNat f ∧ z.2.2.2.1 5 = Int32.ofNat l ∧ rd S 622 (wOf Q + 5) = Int32.ofNat f ∧ rd S 622 (wOf Q + 6) = Int32.ofNat l := by
    obtain ⟨f1, f2, f3⟩ := a2.2.2.2.2.2.2.1
    obtain ⟨l1, l2, l3⟩ := a2.2.2.2.2.2.2.2
    exact ⟨f1, l1, f2, l2, f3, l3, a3.2.2.2.2.2.1.trans f3, a3.2.2.2.2.2.2.1.trans l3⟩
  obtain ⟨T', S', s1, s2, s3, s4, s5, s6, s7, s8⟩ := fill_both (F := F) (how := how) (by omega) h.1.1 h.2.1 h.2.2.1 a1 fq hfl he ht hd hnow
  have cs : Cs T T' 1 19 := K_c_EdgeHouse_sendFill (F := F) _ s1
  have hn := a2.1
  have hnode := (h.2.2.2.2.1.2.1 n hn.1 hn.2).1
  refine ⟨T', S', n, fn, ?_, s2, (h.post (cs h.1).1 s3 s4 s5 (fun i i1 i2 _ => s6 i i1 i2) (fun x k x1 x2 => s7 x k x1 x2) s8 (show ¬ (1 : Int32) = 2 by decide)).uncz, s8.view, ?_, ?_, h.kq s5 (by decide) (by decide), cs, ⟨fun a k ha => s7 a k (by omega) (by omega), fun i hi => s6 i (by omega) (by omega)⟩⟩
  · have hH : T.1 512 = some (house S.1) := h.2.1
    simp only [D_c_EdgeHouse_serve, Option.bind_some, Qr14 a1, nc, D_c_EdgeHouse_serve_14, tgi_o hnode (show ([_, _, _, _, _, _, _, _, _, _, _] : List Value)[0]? = some (.int (Int32.ofNat n)) from rfl), tcl_o hH, s1]
  · exact vE_ag ⟨fun a ha k => s7 _ _ (by revert a; decide) (by revert a; decide), fun i hi => by cases hi⟩
  · exact vS_ag ⟨fun a ha k => s7 _ _ (by revert a; decide) (by revert a; decide), fun i hi => s6 i (by revert i; decide) (by revert i; decide)⟩
end
