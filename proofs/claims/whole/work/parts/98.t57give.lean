/-! The first that waited is given what came: its row bears a mark that the class does not set. -/
section
variable {T T' : tT} {S S' S2 : mS} {X Y : Nat → List (Nat × Nat)} {Z : Nat → List Fz} {Q Pd : List Rq} {j0 c F : Nat} {rs : List Nat} {z : Rq}
/-- the row behind those that wait has no weight once it is let go -/
theorem RB.row (h : RB T S X Y Z Q [] Pd j0 rs c) (hi : ∀ i, S2.1 i = S.1 i) (hr : ∀ a k, ¬ (a = 622 ∧ k = wOf Q + 10) → rd S2 a k = rd S a k) : RB T S2 X Y Z Q [] Pd j0 rs c := by
  obtain ⟨h1, h2, h3, h4, h5, h6, h7, h8, h9, h10⟩ := h
  have ag : ∀ as is, (∀ a ∈ as, ¬ a = 622) → Ag as is S S2 := fun as is p => ⟨fun a ha k => hr a k (fun w => p a ha w.1), fun i _ => hi i⟩
  refine ⟨h1, h2.fr Kq.refl (ag _ _ (by decide)), h3.fr Kq.refl (ag _ _ (by decide)), h4, h5.fr Kq.refl (ag _ _ (by decide)), h6.fr Kq.refl (ag _ _ (by decide)), h7.fr Kq.refl (ag _ _ (by decide)), ?_, h9.fr Kq.refl (ag _ _ (by decide)), h10.fr Kq.refl (ag _ _ (by decide)) (fun k a b d => ?_)⟩
  · obtain ⟨⟨a1, a2, a3, a4⟩, b1, b2, b3, c1, c2, d1, dP, d2⟩ := h8
    have hS' : Ag [620] [] S S2 := ag _ _ (by decide)
    refine ⟨⟨(hi 74).trans a1, a2, a3, a4⟩, fun k z hz => ?_, fun z hz => (by cases hz), fun k z hz => ?_, c1, c2, d1, dP, fun z hz => by rw [hr 609 _ (by omega)]; exact d2 z hz⟩
    · have hk : k < Q.length := (List.getElem?_eq_some_iff.mp hz).1
      exact (b1 k z hz).fr Kq.refl hS' (fun r _ => hr _ _ (by omega)) (fun i hi => hr _ _ (by unfold wOf; omega))
    · exact (b3 k z hz).fr Kq.refl hS' (fun r _ => hr _ _ (by omega)) (fun i hi => hr _ _ (by omega))
  · have e9 : ∀ i, mRow S2 k i = mRow S k i := fun i => hr _ _ (by omega)
    exact ⟨k, ⟨by rw [← hi 77]; exact a, b⟩, (e9 0).symm.trans d, e9 3, e9 5, e9 4⟩
theorem row_views (hi : ∀ i, S2.1 i = S.1 i) (hr : ∀ a k, ¬ a = 622 → rd S2 a k = rd S a k) : vM S2 = vM S ∧ vE S2 = vE S ∧ vS S2 = vS S := by
  have ag : ∀ as is, (∀ a ∈ as, ¬ a = 622) → Ag as is S S2 := fun as is p => ⟨fun a ha k => hr a k (p a ha), fun i _ => hi i⟩
  exact ⟨vM_ag (ag _ _ (by decide)), vE_ag (ag _ _ (by decide)), vS_ag (ag _ _ (by decide))⟩
theorem P_givecU {r e t nd : Nat} {d : Nat → Int32} {wh mk ag cm bl kp how : Int32} (hF : 30 ≤ F) (h : RB T S X Y Z Q [z] Pd j0 rs c) (hz : z.2.2.1 = some r) (he : T.1 e = some (cEntry (z.2.2.2.1 0) (z.2.2.2.1 1) t wh mk ag cm bl kp)) (ht : T.1 t = some (cTold (z.2.2.2.1 0) d)) (hd : okT d) (hwh : few 8 wh) (hag : few 100000 ((ag + S.1 36) - cm)) (hnow : isNow S d wh mk ((ag + S.1 36) - cm) bl) (hhow : how = 0 ∨ how = 1 ∨ how = 2) : ∃ T' S', D_c_EdgeHouse_serve F 512 (some nd) (some z.1) (some e) how T = some T' ∧ D_m_give F (Int32.ofNat (wOf Q)) how (up2 S 622 (wOf Q + 10) 1) = some S' ∧ RB T' S' X Y Z Q [] Pd j0 rs c ∧ vM S' = vM S ∧ vE S' = vE S ∧ vS S' = vS S ∧ Kq [] kX T T' ∧ Cs T T' 0 0 ∧ ∀ i, ¬ (i = 71 ∨ i = 77 ∨ i = 39 ∨ (84 ≤ i ∧ i ≤ 87)) → S'.1 i = S.1 i := by
  obtain ⟨k, ca, ra, s, b, n, hk, a1, a2, a3, a4, a5, a6, a7⟩ := h.cur.client hz
  obtain ⟨gr, sr, r1, r2, r3, r4, r5⟩ := h.2.2.2.2.2.2.2.2.1.2.2.2.2 r ra a4
  obtain ⟨q4, rfl⟩ := r4 a5
  have hH : T.1 512 = some (house S.1) := h.2.1
  have hr : r < 300 := a7.2.1.1
  obtain ⟨zl, z1, z2⟩ := hd.2.2.1
  obtain ⟨S0, hS0⟩ : ∃ x, x = up2 S 622 (wOf Q + 10) 1 := ⟨_, rfl⟩
  have i0 : ∀ i, S0.1 i = S.1 i := fun i => by rw [hS0, up2_1]
  have f0 : S0.1 = S.1 := funext i0
  have r0 : ∀ a k, ¬ (a = 622 ∧ k = wOf Q + 10) → rd S0 a k = rd S a k := fun a k w => by rw [hS0, rd_up2, if_neg w]
  have e620 : ∀ j, rd S0 620 j = rd S 620 j := fun j => r0 _ _ (by omega)
  have emt : ∀ tag, v_match S0 r k tag = v_match S r k tag := fun tag => by simp only [v_match, v_tags, e620]
  have hnow0 : isNow S0 d wh mk ((ag + S0.1 36) - cm) bl := ⟨fun i hi => (r0 _ _ (by omega)).trans (hnow.1 i hi), by rw [f0]; exact hnow.2.1, by rw [f0]; exact hnow.2.2.1, by rw [f0]; exact hnow.2.2.2.1, by rw [f0]; exact hnow.2.2.2.2⟩
  obtain ⟨T', S', s1, s2, s3, s4, s5, s5', s6, s7, s8, s9, s10, s11, s12, s13, s14, s15, s16, s17, s18⟩ := serve_client (F := F) (S := S0) (how := how) (nd := nd) hF (show T.1 512 = some (house S0.1) by rw [f0]; exact hH) a1 a2 (a3.ag Kq.refl e620) r1 (q4 10 (by decide) (by decide)) he ht z2 z1 (a7.2.1.ag e620) a7.2.2.1 hnow0 h.w.1 ((r0 _ _ (by omega)).trans a7.2.2.2.1)
  have cs : Cs T T' 0 0 := K_serve_client (F := F) a1 _ s1
  obtain ⟨Su, hSu⟩ : ∃ x, x = up2 S' 622 (wOf Q + 10) (rd S 622 (wOf Q + 10)) := ⟨_, rfl⟩
  have iu : ∀ i, Su.1 i = S'.1 i := fun i => by rw [hSu, up2_1]
  have fu : Su.1 = S'.1 := funext iu
  have ru : ∀ a k, ¬ (a = 622 ∧ k = wOf Q + 10) → rd Su a k = rd S' a k := fun a k w => by rw [hSu, rd_up2, if_neg w]
  have u620 : ∀ j, rd Su 620 j = rd S 620 j := fun j => (ru _ _ (by omega)).trans ((s7 _ _ (by decide) (by decide)).trans (e620 j))
  have emu : ∀ tag, v_match Su r k tag = v_match S0 r k tag := fun tag => by simp only [v_match, v_tags, u620, e620]
  have rall : ∀ a q, ¬ a = 621 → ¬ a = 627 → rd Su a q = rd S a q := fun a q q1' q2' => by
    by_cases w : a = 622 ∧ q = wOf Q + 10
    · rw [hSu, rd_up2, if_pos w, w.1, w.2]
    · rw [ru a q w, s7 a q q1' q2', r0 a q w]
  have R1 : RB T' Su X Y Z Q [] Pd j0 rs c := by
    refine h.closed hz a4 (cs h.1).1 (show T'.1 512 = some (house Su.1) by rw [fu]; exact s3) s5 s4 (fun i i1 _ => by rw [iu, s6, if_neg i1, i0]) rall (fun q => by rw [ru 621 q (by omega), s8, r0 621 q (by omega)]) (fun q hq => by rw [ru 627 q (by omega), s9 q hq, r0 627 q (by omega)]) ?_ ?_
    · have u7 : ∀ j, rd Su 627 j = rd S' 627 j := fun j => ru _ _ (by omega)
      refine ⟨by rw [u7, s10]; rfl, by rw [u7, s11]; rfl, by rw [u7, s12]; rfl, by rw [u7, s14]; rfl, by rw [u7, s15]; rfl, by rw [u7, s17]; rfl, by rw [u7, s18]; rfl, Or.inr ⟨k, d, wh, zl, a7.2.1.ag u620, a7.2.2.1, rfl, hd, z1, z2, rfl, rfl, hwh, rfl, rfl, by rw [u7]; exact s13, hhow, (show few 100000 ((ag + S0.1 36) - cm) by rw [f0]; exact hag), ?_, rfl, ?_, ?_⟩⟩
      · show v_status S0 r k d wh zl = v_status Su r k d wh zl
        simp only [v_status, emu]
      · show v_count S0 r k d wh zl = v_count Su r k d wh zl
        simp only [v_count, emu]
      · rw [u620, u620, a7.2.2.2.2.2.2.2.2.2.2.2.2.2.2.2.2.1, a7.2.2.2.2.2.2.2.2.2.2.2.2.2.2.2.2.2]
        rfl
    · rw [ru 627 _ (by omega), s16, r0 627 _ (by omega)]
      exact r3
  have R2 : RB T' S' X Y Z Q [] Pd j0 rs c := R1.row (fun i => (iu i).symm) (fun a k w => (ru a k w).symm)
  have rS : ∀ a q, ¬ a = 621 → ¬ a = 627 → ¬ a = 622 → rd S' a q = rd S a q := fun a q w1 w2 w3 => by rw [s7 a q w1 w2, r0 a q (fun w => w3 w.1)]
  refine ⟨T', S', s1, by rw [← hS0]; exact s2, R2, ?_, ?_, ?_, ?_, cs, fun i hi => by rw [s6, if_neg (by omega), i0]⟩
  · exact vM_ag ⟨fun a ha k => rS _ _ (by rw [List.mem_singleton.mp ha]; decide) (by rw [List.mem_singleton.mp ha]; decide) (by rw [List.mem_singleton.mp ha]; decide), fun i hi => by rw [s6, if_neg (by rw [List.mem_singleton.mp hi]; decide), i0]⟩
  · exact vE_ag ⟨fun a ha k => rS _ _ (by revert a; decide) (by revert a; decide) (by revert a; decide), fun i hi => by cases hi⟩
  · exact vS_ag ⟨fun a ha k => rS _ _ (by revert a; decide) (by revert a; decide) (by revert a; decide), fun i hi => by rw [s6, if_neg (by revert i; decide), i0]⟩
  · refine s5.kq (fun b hb x hx => ⟨?_, by intro w; cases w⟩)
    simp only [List.mem_cons, List.mem_nil_iff, or_false] at hb
    rcases hb with rfl | rfl
    · rw [hH] at hx; cases hx; exact (show (0 : Nat) ∉ kX by decide)
    · rw [r1] at hx; cases hx; exact (show (8 : Nat) ∉ kX by decide)
theorem P_givefU {e t : Nat} {d : Nat → Int32} {wh mk ag cm bl kp how : Int32} (hF : 30 ≤ F) (h : RB T S X Y Z Q [z] Pd j0 rs c) (hz : z.2.2.1 = none) (he : T.1 e = some (cEntry (z.2.2.2.1 0) (z.2.2.2.1 1) t wh mk ag cm bl kp)) (ht : T.1 t = some (cTold (z.2.2.2.1 0) d)) (hd : okT d) (hnow : isNow S d wh mk ((ag + S.1 36) - cm) bl) : ∃ T' S' n, z.2.1 / 128 = n ∧ D_c_EdgeHouse_serve F 512 (some (527 + 8 * n)) (some z.1) (some e) how T = some T' ∧ D_m_give F (Int32.ofNat (wOf Q)) how (up2 S 622 (wOf Q + 10) 1) = some S' ∧ RB T' S' X Y Z Q [] Pd j0 rs c ∧ vM S' = psh (vM S) (cut (fiRow n z.2.2.2.1 d wh mk (((ag + S.1 36) - cm) - S.1 36) bl)) ∧ vE S' = vE S ∧ vS S' = vS S ∧ Kq [] kX T T' ∧ Cs T T' 1 19 ∧ ∀ i, ¬ (i = 71 ∨ i = 77 ∨ i = 39 ∨ (84 ≤ i ∧ i ≤ 87)) → S'.1 i = S.1 i := by
  obtain ⟨b, n, hk, a1, a2, a3⟩ := h.cur.fetch hz
  obtain ⟨fq, fn⟩ := isFq_of h.w.1 a2 a3
  obtain ⟨S0, hS0⟩ : ∃ x, x = up2 S 622 (wOf Q + 10) 1 := ⟨_, rfl⟩
  have i0 : ∀ i, S0.1 i = S.1 i := fun i => by rw [hS0, up2_1]
  have f0 : S0.1 = S.1 := funext i0
  have r0 : ∀ a k, ¬ (a = 622 ∧ k = wOf Q + 10) → rd S0 a k = rd S a k := fun a k w => by rw [hS0, rd_up2, if_neg w]
  have hnow0 : isNow S0 d wh mk ((ag + S0.1 36) - cm) bl := ⟨fun i hi => (r0 _ _ (by omega)).trans (hnow.1 i hi), by rw [f0]; exact hnow.2.1, by rw [f0]; exact hnow.2.2.1, by rw [f0]; exact hnow.2.2.2.1, by rw [f0]; exact hnow.2.2.2.2⟩
  have hfl : ∃ f l, f < 16 ∧ l < 16 ∧ z.2.2.2.1 4 = Int32.ofNat f ∧ z.2.2.2.1 5 = Int32.ofNat l ∧ rd S0 622 (wOf Q + 5) = Int32.ofNat f ∧ rd S0 622 (wOf Q + 6) = Int32.ofNat l := by
    obtain ⟨f1, f2, f3⟩ := a2.2.2.2.2.2.2.1
    obtain ⟨l1, l2, l3⟩ := a2.2.2.2.2.2.2.2
    exact ⟨f1, l1, f2, l2, f3, l3, (r0 _ _ (by omega)).trans (a3.2.2.2.2.2.1.trans f3), (r0 _ _ (by omega)).trans (a3.2.2.2.2.2.2.1.trans l3)⟩
  have fq0 : isFq S0 (wOf Q) n z.2.2.2.1 := by
    unfold isFq at fq ⊢
    have e0 : rd S0 622 (wOf Q) = rd S 622 (wOf Q) := r0 _ _ (by omega)
    have e1 : rd S0 622 (wOf Q + 1) = rd S 622 (wOf Q + 1) := r0 _ _ (by omega)
    have e2 : rd S0 622 (wOf Q + 2) = rd S 622 (wOf Q + 2) := r0 _ _ (by omega)
    have e3 : rd S0 622 (wOf Q + 3) = rd S 622 (wOf Q + 3) := r0 _ _ (by omega)
    have e4 : rd S0 622 (wOf Q + 4) = rd S 622 (wOf Q + 4) := r0 _ _ (by omega)
    have e9 : rd S0 622 (wOf Q + 9) = rd S 622 (wOf Q + 9) := r0 _ _ (by omega)
    simp only [e0, e1, e2, e3, e4, e9]
    exact fq
  have hH0 : RHouse T S0 := by show T.1 512 = some (house S0.1); rw [f0]; exact h.2.1
  have ag0 : ∀ as is, (∀ a ∈ as, ¬ a = 622) → Ag as is S S0 := fun as is p => ⟨fun a ha k => r0 a k (fun w => p a ha w.1), fun i _ => i0 i⟩
  obtain ⟨T', S', s1, s2, s3, s4, s5, s6, s7, s8⟩ := fill_both (F := F) (S := S0) (how := how) (by omega) h.1.1 hH0 (h.2.2.1.fr Kq.refl (ag0 _ _ (by decide))) a1 fq0 hfl he ht hd hnow0
  have cs : Cs T T' 1 19 := K_c_EdgeHouse_sendFill (F := F) _ s1
  have hn := a2.1
  have hnode := (h.2.2.2.2.1.2.1 n hn.1 hn.2).1
  obtain ⟨Su, hSu⟩ : ∃ x, x = up2 S' 622 (wOf Q + 10) (rd S 622 (wOf Q + 10)) := ⟨_, rfl⟩
  have iu : ∀ i, Su.1 i = S'.1 i := fun i => by rw [hSu, up2_1]
  have fu : Su.1 = S'.1 := funext iu
  have ru : ∀ a k, ¬ (a = 622 ∧ k = wOf Q + 10) → rd Su a k = rd S' a k := fun a k w => by rw [hSu, rd_up2, if_neg w]
  have agu : ∀ as is, (∀ a ∈ as, ¬ a = 622) → Ag as is S' Su := fun as is p => ⟨fun a ha k => ru a k (fun w => p a ha w.1), fun i _ => iu i⟩
  have rall : ∀ a q, ¬ a = 624 → ¬ a = 625 → rd Su a q = rd S a q := fun a q q1' q2' => by
    by_cases w : a = 622 ∧ q = wOf Q + 10
    · rw [hSu, rd_up2, if_pos w, w.1, w.2]
    · rw [ru a q w, s7 a q q1' q2', r0 a q w]
  rw [f0] at s8
  have ps : pst S Su (fiRow n z.2.2.2.1 d wh mk (((ag + S.1 36) - cm) - S.1 36) bl) := by
    unfold pst at s8 ⊢
    rw [f0] at s8
    have e1 : ∀ k, rd S0 624 k = rd S 624 k := fun k => r0 _ _ (by omega)
    have e2 : ∀ k, rd Su 624 k = rd S' 624 k := fun k => ru _ _ (by omega)
    rw [fu]
    simp only [e2]
    simp only [e1] at s8
    exact s8
  have R1 : RB T' Su X Y Z Q [] Pd j0 rs c := (h.post (cs h.1).1 (show T'.1 512 = some (house Su.1) by rw [fu]; exact s3) (s4.fr Kq.refl (agu _ _ (by decide))) s5 (fun i i1 i2 _ => by rw [iu, s6 i i1 i2, i0]) rall ps (show ¬ (1 : Int32) = 2 by decide)).uncz
  have R2 : RB T' S' X Y Z Q [] Pd j0 rs c := R1.row (fun i => (iu i).symm) (fun a k w => (ru a k w).symm)
  have vm : vM Su = vM S' := vM_ag (agu _ _ (by decide))
  refine ⟨T', S', n, fn, ?_, by rw [← hS0]; exact s2, R2, by rw [← vm]; exact ps.view, ?_, ?_, h.kq s5 (by decide) (by decide), cs, fun i hi => by rw [s6 i (by omega) (by omega), i0]⟩
  · have hH : T.1 512 = some (house S.1) := h.2.1
    simp only [D_c_EdgeHouse_serve, Option.bind_some, Qr14 a1, nc, D_c_EdgeHouse_serve_14, tgi_o hnode (show ([_, _, _, _, _, _, _, _, _, _, _] : List Value)[0]? = some (.int (Int32.ofNat n)) from rfl), tcl_o hH, s1]
  · exact vE_ag ⟨fun a ha k => (s7 _ _ (by revert a; decide) (by revert a; decide)).trans (r0 _ _ (fun w => (show ¬ a = 622 by clear w; revert a; decide) w.1)), fun i hi => by cases hi⟩
  · exact vS_ag ⟨fun a ha k => (s7 _ _ (by revert a; decide) (by revert a; decide)).trans (r0 _ _ (fun w => (show ¬ a = 622 by clear w; revert a; decide) w.1)), fun i hi => (s6 i (by revert i; decide) (by revert i; decide)).trans (i0 i)⟩
theorem P_giveU {e t n : Nat} {d : Nat → Int32} {wh mk ag cm bl kp how : Int32} (hF : 30 ≤ F) (h : RB T S X Y Z Q [z] Pd j0 rs c) (hn : z.2.1 / 128 = n) (he : T.1 e = some (cEntry (z.2.2.2.1 0) (z.2.2.2.1 1) t wh mk ag cm bl kp)) (ht : T.1 t = some (cTold (z.2.2.2.1 0) d)) (hd : okT d) (hwh : few 8 wh) (hag : few 100000 ((ag + S.1 36) - cm)) (hnow : isNow S d wh mk ((ag + S.1 36) - cm) bl) (hhow : how = 0 ∨ how = 1 ∨ how = 2) : ∃ T' S', D_c_EdgeHouse_serve F 512 (some (527 + 8 * n)) (some z.1) (some e) how T = some T' ∧ D_m_give F (Int32.ofNat (wOf Q)) how (up2 S 622 (wOf Q + 10) 1) = some S' ∧ RB T' S' X Y Z Q [] Pd j0 rs c ∧ vM S' = gvM (vM S) z (cut (fiRow n z.2.2.2.1 d wh mk (((ag + S.1 36) - cm) - S.1 36) bl)) ∧ vE S' = vE S ∧ vS S' = vS S ∧ Kq [] kX T T' ∧ Cs T T' (gvC z) (19 * gvC z) ∧ ∀ i, ¬ (i = 71 ∨ i = 77 ∨ i = 39 ∨ (84 ≤ i ∧ i ≤ 87)) → S'.1 i = S.1 i := by
  unfold gvM gvC
  cases hz : z.2.2.1 with
  | none =>
    obtain ⟨T', S', n', s0, s1, s2, s3, s4, s5, s6, s7, s8, s9⟩ := P_givefU (F := F) (how := how) hF h hz he ht hd hnow
    rw [hn] at s0
    subst s0
    exact ⟨T', S', s1, s2, s3, s4, s5, s6, s7, s8, s9⟩
  | some r =>
    obtain ⟨T', S', s1, s2, s3, s4, s5, s6, s7, s8, s9⟩ := P_givecU (F := F) (how := how) (nd := 527 + 8 * n) hF h hz he ht hd hwh hag hnow hhow
    exact ⟨T', S', s1, s2, s3, s4, s5, s6, s7, s8, s9⟩
end
