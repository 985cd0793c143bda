/-! A request makes a fetch: the whole relation stands. -/
section
variable {T : tT} {S : mS} {X Y : Nat → List (Nat × Nat)} {Z : Nat → List Fz} {Q cz Pd : List Rq} {j0 c F n : Nat} {rs : List Nat} {z : Rq}
/-- what suits does not hang on more than the entries -/
theorem suits_of {A B : List (Nat × Nat)} (hF : 9 ≤ F) (hR : RS T S n A B) (hV : RV S) {p v la fo : Nat} (hp : p < 32) (hv : v < 4) (hla : la < 4) (hfo : fo < 2) {o : Option Nat} (o1 : ∀ e, o = some e → suitE S (128 * n + (4 * p + v)) la fo e) (o2 : o = none → ∀ e, ¬ suitE S (128 * n + (4 * p + v)) la fo e) {S7 : mS} (h1 : ∀ k, rd S7 601 k = rd S 601 k) (h3 : ∀ k, rd S7 603 k = rd S 603 k) : D_m_suits F (Int32.ofNat (128 * n + (4 * p + v))) (Int32.ofNat (la + 4 * fo)) S7 = some (oI o) := by
  have hn := hR.1
  have hk : ∀ e, e / 8 = 128 * n + (4 * p + v) → ¬ rd S 601 e = 0 → few 4 (eT S e 8) := by
    intro e he ht
    obtain ⟨q, hq, q2⟩ := hR.2.2.2.2.2.2.2.2.1 e (by omega) (by omega) ht
    have : q ∈ A ++ B := List.mem_append.mpr hq
    obtain ⟨k, hk⟩ := hR.ent this
    obtain ⟨t, _, _, t3⟩ := hk.full
    rw [q2] at t3
    exact t3.2.2.2.2.2.2.2.2.2
  have e1 : ∀ e, suitE S7 (128 * n + (4 * p + v)) la fo e ↔ suitE S (128 * n + (4 * p + v)) la fo e := fun e => by
    unfold suitE eT
    rw [h1 e, h3 (9 * e + 8)]
  obtain ⟨o', p1', p2', p3'⟩ := m_suits_loop (F := F) (S := S7) (f := 128 * n + (4 * p + v)) (la := la) (fo := fo) (by omega) hla hfo (fun e he ht => by
    have := hk e he (by rw [← h1 e]; exact ht)
    unfold eT at this ⊢
    rw [h3 _]
    exact this) 8 0 rfl (fun j hj => absurd hj (Nat.not_lt_zero _)) F (by omega)
  have : o' = o := by
    cases o with
    | none =>
      cases o' with
      | none => rfl
      | some e => exact absurd ((e1 e).mp (p2' e rfl)) (o2 rfl e)
    | some e =>
      cases o' with
      | none => exact absurd ((e1 e).mpr (o1 e rfl)) (p3' rfl e)
      | some e' =>
        have a1 := (e1 e').mp (p2' e' rfl)
        have a2 := o1 e rfl
        rw [suitE.uniq hV (by have := a1.1; omega) (by have := a2.1; omega) a1 a2]
  rw [← this]
  exact p1'
/-- the numbers of a node's fetches -/
def okJ (S : mS) (Z : Nat → List Fz) (n J : Nat) : Prop := rd S 596 n = Int32.ofNat J ∧ J + 1 < 1000000000 ∧ ∀ y ∈ Z n, nmb y ≤ J
theorem newG_few {w0 : Nat} (h : Rw S w0 z) {o : Option Nat} (ho : ∀ e, o = some e → e < 7168 ∧ okT (eT S e) ∧ few 100000 ((rd S 605 e + S.1 36) - rd S 606 e)) : few 16 (newG z.2.2.2.1 (v_mi S z o) 5) ∧ few 16 (newG z.2.2.2.1 (v_mi S z o) 6) := by
  have hb : few 16 (z.2.2.2.1 4) ∧ few 16 (z.2.2.2.1 5) := by
    obtain ⟨_, n, h2, _⟩ := h
    exact ⟨h2.2.2.2.2.2.2.1, h2.2.2.2.2.2.2.2⟩
  by_cases w : v_mi S z o = 0
  · unfold newG
    simp only [show ¬ (5 : Nat) = 0 by decide, show ¬ (5 : Nat) = 1 by decide, show ¬ (5 : Nat) = 2 by decide, show ¬ (5 : Nat) = 3 by decide, show ¬ (5 : Nat) = 4 by decide, show ¬ (6 : Nat) = 0 by decide, show ¬ (6 : Nat) = 1 by decide, show ¬ (6 : Nat) = 2 by decide, show ¬ (6 : Nat) = 3 by decide, show ¬ (6 : Nat) = 4 by decide, show ¬ (6 : Nat) = 5 by decide, if_false, if_true, w]
    exact hb
  · have hm : ∃ k, k < 65536 ∧ v_mi S z o = Int32.ofNat k := by
      cases o with
      | none => exact ⟨0, by decide, rfl⟩
      | some e =>
        obtain ⟨_, hd, _⟩ := ho e rfl
        obtain ⟨zl, z1, z2⟩ := hd.2.2.1
        unfold v_mi
        simp only []
        split
        · exact missing_few h.isRow z1 z2
        · exact ⟨0, by decide, rfl⟩
    obtain ⟨k, k1, k2⟩ := hm
    have k0 : 0 < k := by
      rcases Nat.eq_zero_or_pos k with e | e
      · subst e; exact absurd k2 w
      · exact e
    unfold newG
    simp only [show ¬ (5 : Nat) = 0 by decide, show ¬ (5 : Nat) = 1 by decide, show ¬ (5 : Nat) = 2 by decide, show ¬ (5 : Nat) = 3 by decide, show ¬ (5 : Nat) = 4 by decide, show ¬ (6 : Nat) = 0 by decide, show ¬ (6 : Nat) = 1 by decide, show ¬ (6 : Nat) = 2 by decide, show ¬ (6 : Nat) = 3 by decide, show ¬ (6 : Nat) = 4 by decide, show ¬ (6 : Nat) = 5 by decide, if_false, if_true, w]
    rw [k2]
    exact ⟨ntz_few k0 k1, nlz_few k0 k1⟩
/-- the chain of a place that has no fetch -/
theorem RB.noch (h : RB T S X Y Z Q cz Pd j0 rs c) {f : Nat} (h0 : rd S 609 f = 0) : ch Q f = [] := by
  obtain ⟨_, _, _, _, _, _, _, _, d2⟩ := h.2.2.2.2.2.2.2.1
  cases e : ch Q f with
  | nil => rfl
  | cons a L =>
    obtain ⟨x, x1, _, x3⟩ := ch_mem (show a ∈ ch Q f by rw [e]; exact List.mem_cons_self)
    have := d2 x x1
    rw [x3, h0] at this
    exact absurd this (by decide)
theorem RF.ext {C C' : Nat → List Nat} (h : RF T S Z C) (hc : ∀ n, 1 ≤ n → n < 7 → ∀ z ∈ Z n, C z.2.1 = C' z.2.1) : RF T S Z C' := ⟨fun n a b => ⟨(h.1 n a b).1, fun z hz => by rw [← hc n a b z hz]; exact (h.1 n a b).2.1 z hz, (h.1 n a b).2.2⟩, h.2⟩
theorem up2_same {a j : Nat} {x : Int32} (hx : rd S a j = x) (b k : Nat) : rd (up2 S a j x) b k = rd S b k := by
  rw [rd_up2]
  by_cases w : b = a ∧ k = j
  · rw [if_pos w, w.1, w.2, hx]
  · rw [if_neg w]
theorem P_make (hF : 400 ≤ F) (h : RB T S X Y Z Q [z] Pd j0 rs c) {p v la fo : Nat} (h1 : 1 ≤ n) (h2 : n < 7) (hff : z.2.1 = 128 * n + (4 * p + v)) (hp : p < 32) (hv : v < 4) (hla : la < 4) (hfo : fo < 2) (g0 : z.2.2.2.1 0 = Int32.ofNat p) (g1 : z.2.2.2.1 1 = Int32.ofNat v) (g2 : z.2.2.2.1 2 = Int32.ofNat la) (g3 : z.2.2.2.1 3 = Int32.ofNat fo) (w11 : rd S 622 (wOf Q + 11) = Int32.ofNat (la + 4 * fo)) (h0 : rd S 609 z.2.1 = 0) (hno : ∀ y ∈ Z n, ¬ y.2.1 = z.2.1) (hof : D_c_Node_fetchOf F (527 + 8 * n) (Int32.ofNat p) (Int32.ofNat v) T = some none) {o : Option Nat} (o1 : ∀ e, o = some e → suitE S z.2.1 la fo e) (o2 : o = none → ∀ e, ¬ suitE S z.2.1 la fo e) (ho : ∀ e, o = some e → e < 7168 ∧ okT (eT S e) ∧ few 100000 ((rd S 605 e + S.1 36) - rd S 606 e)) {J : Nat} (hJ : okJ S Z n J) :
    ∃ T1, D_c_EdgeHouse_letWait F 512 (some (527 + 8 * n)) (some z.1) (v_mi S z o) T = some (some T.2.1, T1) ∧ Cs T T1 1 14 ∧
      ((∃ S1, n ≥ 3 ∧ D_c_EdgeHouse_sendFetch F 512 (some (527 + 8 * n)) (some T.2.1) T1 = some (0, T1) ∧ D_m_fetch F (Int32.ofNat (wOf Q)) (Int32.ofNat z.2.1) (up2 S 595 n (rd S 595 n + 1)) = some (0, S1) ∧ RB T1 S1 X Y Z Q [z] Pd j0 rs c ∧ vM S1 = vM S ∧ vE S1 = vE S ∧ vS S1 = vS S ∧ (∃ cc rr, T1.1 z.1 = some (cReq z.2.2.2.1 cc rr none))) ∨
      ∃ (to0 : Nat) (T' : tT) (S1 S' : mS), ((n ≤ 2 ∧ to0 = 0) ∨ (3 ≤ n ∧ 1 ≤ to0 ∧ to0 ≤ 2)) ∧ D_c_EdgeHouse_sendFetch F 512 (some (527 + 8 * n)) (some T.2.1) T1 = some (1, T') ∧ D_m_fetch F (Int32.ofNat (wOf Q)) (Int32.ofNat z.2.1) (up2 S 595 n (rd S 595 n + 1)) = some (1, S1) ∧ D_m_stay F (Int32.ofNat (wOf Q)) S1 = some S' ∧ RB T' S' X Y (zAdd Z n (T.2.1, z.2.1, fup (fup (fup (fup (newG z.2.2.2.1 (v_mi S z o)) 7 (rd S 596 n + 1)) 8 (Int32.ofNat to0)) 9 (rd S 593 n)) 10 (S.1 36))) (Q ++ [z]) [] Pd j0 rs c ∧ vM S' = psh (vM S) (cut (fetRow n to0 (rd S 596 n + 1) (rd S 593 n) (newG z.2.2.2.1 (v_mi S z o)) (Int32.ofNat (la + 4 * fo)) (v_hadG S n (newG z.2.2.2.1 (v_mi S z o)) o))) ∧ vE S' = vE S ∧ (vS S' = fun j k => if j = 1 ∧ k = n then rd S 596 n + 1 else vS S j k) ∧ Cs T1 T' 1 19) := by
  obtain ⟨r1, r2, r3, r4, r5, r6, r7, r8, r9, r10⟩ := id h
  have hnode := (r5.2.1 n h1 h2).1
  have hcur := h.cur
  obtain ⟨cc, rr, bb, hq⟩ := hcur.1.cell
  have fl6 : flag (z.2.2.2.1 6) := by
    obtain ⟨_, m, q2, _⟩ := hcur
    exact q2.2.2.2.2.2.1
  obtain ⟨T1, t1, t2, t3, t4, t5, t6⟩ := c_letNew (F := F) r1.1 hnode hq g0 g1 fl6 hof (v_mi S z o)
  have cs1 : Cs T T1 1 14 := K_c_EdgeHouse_letWait (F := F) _ t1
  -- the reference
  let S95 : mS := up2 S 595 n (rd S 595 n + 1)
  have a95 : ∀ a k, ¬ a = 595 → rd S95 a k = rd S a k := fun a k ha => by
    show rd (up2 S 595 n _) a k = _
    rw [rd_up2, if_neg (fun w => ha w.1)]
  have rw95 : Rw S95 (wOf Q) z := h.rw.ag (fun a k ha => a95 a k (by omega))
  have e95 : ∀ e, eT S95 e = eT S e := fun e => by funext i; exact a95 603 _ (by decide)
  have mi95 : v_mi S95 z o = v_mi S z o := by
    unfold v_mi
    cases o with
    | none => rfl
    | some e => simp only [e95, a95 604 _ (show ¬ 604 = 595 by decide), a95 605 _ (show ¬ 605 = 595 by decide), a95 606 _ (show ¬ 606 = 595 by decide), a95 607 _ (show ¬ 607 = 595 by decide)]; rfl
  have ho95 : ∀ e, o = some e → e < 7168 ∧ okT (eT S95 e) ∧ few 100000 ((rd S95 605 e + S95.1 36) - rd S95 606 e) := fun e he => by
    rw [e95, a95 605 _ (by decide), a95 606 _ (by decide)]
    exact ho e he
  have su95 : D_m_suits F (Int32.ofNat z.2.1) (rd S95 622 (wOf Q + 11)) S95 = some (oI o) := by
    rw [a95 622 _ (by decide), w11, hff]
    rw [hff] at o1 o2
    exact suits_of (by omega) (r6.1 n h1 h2).1 r6.2.2.1 hp hv hla hfo o1 o2 (fun k => a95 601 k (by decide)) (fun k => a95 603 k (by decide))
  obtain ⟨S2, d1, d2, d3⟩ := r_fetch (F := F) (by omega) rw95 (show z.2.1 < 896 by omega) su95 ho95
  rw [mi95] at d3
  -- both made ready
  have hi : ∀ i, S2.1 i = S.1 i := fun i => d2 i
  have hr : ∀ a k, ¬ a = 594 → ¬ a = 595 → ¬ (610 ≤ a ∧ a ≤ 617 ∧ rd S 609 k = 0) → rd S2 a k = rd S a k := by
    intro a k x1 x2 x3
    have : ¬ (k = z.2.1 ∧ (610 ≤ a ∧ a ≤ 617)) := fun w => x3 ⟨w.2.1, w.2.2, by rw [w.1]; exact h0⟩
    rw [d3, if_neg (by omega), if_neg (by omega), if_neg (by omega), if_neg (by omega)]
    exact a95 a k x2
  have nodeE : ∀ m, 1 ≤ m → m < 7 → T1.1 (527 + 8 * m) = some (nodeC S2 m) := by
    intro m m1 m2
    have x1 := hr 591 m (by decide) (by decide) (by omega)
    have x2 := hr 593 m (by decide) (by decide) (by omega)
    have x4 := hr 596 m (by decide) (by decide) (by omega)
    have x3 : rd S2 594 m = rd S 594 m := by
      rw [d3, if_neg (by omega), if_neg (by omega), if_neg (by omega), if_neg (by omega)]
      exact a95 594 m (by decide)
    have x5 : rd S2 595 m = if m = n then rd S 595 n + 1 else rd S 595 m := by
      rw [d3, if_neg (by omega), if_neg (by omega), if_neg (by omega), if_neg (by omega)]
      show rd (up2 S 595 n _) 595 m = _
      rw [rd_up2]
      by_cases w : m = n
      · rw [if_pos ⟨rfl, w⟩, if_pos w]
      · rw [if_neg (fun q => w q.2), if_neg w]
    unfold nodeC
    rw [x1, x2, x3, x4, x5]
    by_cases w : m = n
    · subst w
      rw [if_pos rfl]
      exact t4
    · rw [if_neg w]
      exact t6 _ _ (r5.2.1 m m1 m2).1 (by omega) (fun q => by have := (r5.2.1 m m1 m2).1; rw [q, hq] at this; cases this)
  have hst : ∀ b x, T.1 b = some x → ¬ kd x = 4 → (∀ y ∈ [z], ¬ b = y.1) → T1.1 b = some x := fun b x hb k4 hz => t6 b x hb (fun w => by rw [w, hnode] at hb; cases hb; exact k4 rfl) (hz z (List.mem_singleton.mpr rfl))
  have rb1 : RB T1 S2 X Y Z Q [z] Pd j0 rs c := by
    refine h.prep (cs1 r1).1 hst (fun y hy g c' r' b' hb => ?_) nodeE hi hr
    rw [List.mem_singleton.mp hy] at hb ⊢
    rw [hq] at hb
    exact ⟨none, by rw [t5, cReq_b (Option.some.inj hb) none]⟩
  obtain ⟨v1, v2, v3⟩ := prep_views hi hr
  obtain ⟨q1', q2', q3', q4', q5', q6', q7', q8', q9', q10'⟩ := id rb1
  obtain ⟨n5, n6⟩ := newG_few h.rw ho
  have at13 : rd S2 613 z.2.1 = newG z.2.2.2.1 (v_mi S z o) 5 := by rw [d3, if_pos ⟨rfl, rfl⟩]
  have at14 : rd S2 614 z.2.1 = newG z.2.2.2.1 (v_mi S z o) 6 := by rw [d3, if_neg (by omega), if_pos ⟨rfl, rfl⟩]
  have at10 : rd S2 610 z.2.1 = newG z.2.2.2.1 (v_mi S z o) 4 := by rw [d3, if_neg (by omega), if_neg (by omega), if_pos ⟨rfl, rfl⟩]; rfl
  have at16 : rd S2 616 z.2.1 = Int32.ofNat (la + 4 * fo) := by
    rw [d3, if_neg (by omega), if_neg (by omega), if_neg (by omega), if_pos ⟨rfl, rfl⟩, ← w11]
    exact a95 622 _ (by decide)
  have e596 : rd S2 596 n = rd S 596 n := hr 596 n (by decide) (by decide) (by omega)
  have e593 : rd S2 593 n = rd S 593 n := hr 593 n (by decide) (by decide) (by omega)
  have suEq : ∀ e, suitE S2 z.2.1 la fo e ↔ suitE S z.2.1 la fo e := fun e => by
    unfold suitE eT
    rw [hr 601 e (by decide) (by decide) (by omega), hr 603 (9 * e + 8) (by decide) (by decide) (by omega)]
  have faN : ∀ m y, 1 ≤ m → m < 7 → y ∈ Z m → ¬ y.1 = T.2.1 := by
    intro m y m1 m2 hy e
    have := ((r7.1 m m1 m2).2.1 y hy).1
    rw [e, t3] at this
    cases this
  -- the rows as if the fetch were out
  have rq1 : RQ T1 (up2 S2 609 z.2.1 1) rs Q [z] Pd j0 := by
    obtain ⟨a, b1, b2, b3, c1, c2, dd, dP, d2'⟩ := id q8'
    have hrw : ∀ b k, ¬ b = 609 → rd (up2 S2 609 z.2.1 1) b k = rd S2 b k := fun b k hb => by rw [rd_up2, if_neg (fun w => hb w.1)]
    have hQ := q8'
    obtain ⟨a', b1', b2', b3', _⟩ := id q8'
    refine ⟨a, fun k x hk => (b1 k x hk).fr Kq.refl ⟨fun a ha j => hrw _ _ (by rw [List.mem_singleton.mp ha]; decide), fun i hi => by cases hi⟩ (fun r _ => hrw _ _ (by decide)) (fun i _ => hrw _ _ (by decide)), fun x hx => (b2 x hx).fr Kq.refl ⟨fun a ha j => hrw _ _ (by rw [List.mem_singleton.mp ha]; decide), fun i hi => by cases hi⟩ (fun r _ => hrw _ _ (by decide)) (fun i _ => hrw _ _ (by decide)), fun k x hk => (b3 k x hk).fr Kq.refl ⟨fun a ha j => hrw _ _ (by rw [List.mem_singleton.mp ha]; decide), fun i hi => by cases hi⟩ (fun r _ => hrw _ _ (by decide)) (fun i _ => hrw _ _ (by decide)), c1, c2, dd, dP, fun x hx => ?_⟩
    rw [rd_up2]
    split
    · rfl
    · exact d2' x hx
  rcases sent_all (F := F) (C := ch Q) (L := [z.1]) (g := newG z.2.2.2.1 (v_mi S z o)) hF q1' q2' q3' q4' q5' q6' (q7'.x z.2.1) q8' q9' q10' h1 h2 hff t2 faN hno hp hv hla hfo g0 g1 g2 g3 fl6 n5 n6 at10 at13 at14 at16 (e596.trans hJ.1) hJ.2.1 hJ.2.2 rq1 with ⟨w1, w2, w3⟩ | w
  · -- nobody to ask
    refine ⟨T1, t1, cs1, Or.inl ⟨up2 S2 609 z.2.1 0, w1, w2, ?_, ?_, ?_, ?_, ?_, ⟨_, _, t5⟩⟩⟩
    · rw [d1, w3]; rfl
    · have o9 : rd S2 609 z.2.1 = 0 := (hr 609 _ (by decide) (by decide) (by omega)).trans h0
      have same := fun b k => up2_same o9 b k
      exact rb1.now (fun i _ _ => by rw [up2_1]) (fun b k _ _ _ => same b k) (by rw [same]; exact rb1.2.2.2.2.2.2.2.2.2.2.2.2.2)
    · have o9 : rd S2 609 z.2.1 = 0 := (hr 609 _ (by decide) (by decide) (by omega)).trans h0
      exact (now_views (S := S2) (fun i _ _ => by rw [up2_1]) (fun b k _ _ _ => up2_same o9 b k)).1.trans v1
    · have o9 : rd S2 609 z.2.1 = 0 := (hr 609 _ (by decide) (by decide) (by omega)).trans h0
      exact (now_views (S := S2) (fun i _ _ => by rw [up2_1]) (fun b k _ _ _ => up2_same o9 b k)).2.1.trans v2
    · have o9 : rd S2 609 z.2.1 = 0 := (hr 609 _ (by decide) (by decide) (by omega)).trans h0
      exact (now_views (S := S2) (fun i _ _ => by rw [up2_1]) (fun b k _ _ _ => up2_same o9 b k)).2.2.trans v3
  · obtain ⟨o', to0, T', S', s1, s2, s3, s4, s5, ⟨p1', p2', p3', p4', p5', p6', p7', p8', p9', p10'⟩, s6, s7, s8, s9, s10, s11, s12, s13⟩ := w
    have oo : o' = o := by
      cases o with
      | none =>
        cases o' with
        | none => rfl
        | some e => exact absurd ((suEq e).mp (s1 e rfl)) (o2 rfl e)
      | some e =>
        cases o' with
        | none => exact absurd ((suEq e).mpr (o1 e rfl)) (s2 rfl e)
        | some e' =>
          have a1 := (suEq e').mp (s1 e' rfl)
          have a2 := o1 e rfl
          rw [suitE.uniq r6.2.2.1 (by have := a1.1; omega) (by have := a2.1; omega) a1 a2]
    subst oo
    -- the row stays
    obtain ⟨⟨l1, l2, l3, l4⟩, m1, m2, m3, m4, m5, m6, m7, m8⟩ := id p8'
    obtain ⟨S9, y1, y2, y3⟩ := m_stay (F := F) (S := S') (w := wOf Q) (n := Q.length) (by omega) l1 (by have := h.w.1; omega) (by unfold wOf; omega)
    have hag : ∀ as is, (∀ a ∈ as, ¬ a = 622) → (∀ i ∈ is, ¬ i = 74) → Ag as is S' S9 := fun as is x1 x2 => ⟨fun a ha k => by rw [y3, if_neg (fun w => x1 a ha w.1)], fun i hi => by rw [y2, if_neg (x2 i hi)]⟩
    refine ⟨T1, t1, cs1, Or.inr ⟨to0, T', S', S9, s3, s4, by rw [d1, s5]; rfl, y1, ⟨p1', p2'.fr Kq.refl (hag _ _ (by decide) (by decide)), p3'.fr Kq.refl (hag _ _ (by decide) (by decide)), p4', p5'.fr Kq.refl (hag _ _ (by decide) (by decide)), p6'.fr Kq.refl (hag _ _ (by decide) (by decide)), ?_, ?_, p9'.fr Kq.refl (hag _ _ (by decide) (by decide)), p10'.fr Kq.refl (hag _ _ (by decide) (by decide)) (fun k k1 k2 k3 => ?_)⟩, ?_, ?_, ?_, s13⟩⟩
    · have := p7'.fr (T' := T') (S' := S9) Kq.refl (hag _ _ (by decide) (by decide))
      rw [e596, e593, hi] at this
      refine this.ext (fun m m1 m2 x hx => ?_)
      unfold cAdd
      rw [ch_app]
      by_cases e : x.2.1 = z.2.1
      · rw [if_pos e, if_pos e.symm, e, h.noch h0]
        rfl
      · rw [if_neg e, if_neg (fun w => e w.symm), List.append_nil]
    · have as : (Q ++ [z]) ++ ([] ++ Pd) = Q ++ ([z] ++ Pd) := by simp
      have frx : ∀ (x : Rq) row row', isQr T' S' rs x row → (∀ i, i < 12 → row' i = row i) → isQr T' S9 rs x row' := fun x row row' hx hrr => hx.fr Kq.refl (hag _ _ (by decide) (by decide)) (fun r _ => (hag [621] [] (by decide) (by decide)).1 621 (by decide) r) hrr
      refine ⟨⟨by rw [y2, if_pos rfl, List.length_append]; rfl, by rw [as]; exact l2, l3, Nat.zero_le _⟩, fun k x hk => ?_, fun x hx => (by cases hx), fun k x hk => frx x _ _ (m3 k x hk) (fun i hi => (hag [623] [] (by decide) (by decide)).1 623 (by decide) _), by rw [as]; exact m4, by rw [as]; exact m5, fun f => ?_, m7, fun x hx => ?_⟩
      · by_cases hkl : k < Q.length
        · rw [List.getElem?_append_left hkl] at hk
          exact frx x _ _ (m1 k x hk) (fun i hi => by rw [y3, if_neg (by omega)])
        · have hkl2 : k = Q.length := by
            have := (List.getElem?_eq_some_iff.mp hk).1
            rw [List.length_append] at this
            simp at this
            omega
          rw [hkl2, List.getElem?_append_right (Nat.le_refl _), Nat.sub_self] at hk
          have : x = z := by simpa using hk.symm
          subst this
          refine frx x _ _ (m2 x (List.mem_singleton.mpr rfl)) (fun i hi => ?_)
          rw [y3, if_pos ⟨rfl, by omega, by omega⟩]
          congr 1
          unfold wOf
          omega
      · rw [ch_app]
        by_cases e : z.2.1 = f
        · rw [if_pos e, ← e, h.noch h0]
          exact ⟨⟨_, _, _, s12 _ _ t5 (Or.inl (show (6 : Nat) ∈ [1, 2, 3, 5, 6, 7, 8, 11, 12, 13, 20] by decide))⟩, trivial⟩
        · rw [if_neg e, List.append_nil]
          exact m6 f
      · rw [y3, if_neg (by omega)]
        rcases List.mem_append.mp hx with w | w
        · exact m8 x w
        · rw [List.mem_singleton.mp w]; exact s11
    · have e9 : ∀ i, mRow S9 k i = mRow S' k i := fun i => by show rd S9 624 _ = rd S' 624 _; rw [y3, if_neg (by omega)]
      exact ⟨k, ⟨by rw [y2, if_neg (by decide)] at k1; exact k1, k2⟩, (e9 0).symm.trans k3, e9 3, e9 5, e9 4⟩
    · rw [vM_ag (hag _ _ (by decide) (by decide)), s6, v1, e596, e593]
      congr 3
      unfold v_hadG
      cases o' with
      | none => rfl
      | some e =>
        have x4 := hr 604 e (by decide) (by decide) (by omega)
        have x7 := hr 607 e (by decide) (by decide) (by omega)
        have xT : eT S2 e = eT S e := by funext i; exact hr 603 _ (by decide) (by decide) (by omega)
        simp only [x4, x7, xT, e593]
    · rw [vE_ag (hag _ _ (by decide) (by decide)), s7, v2]
    · rw [vS_ag (hag _ _ (by decide) (by decide)), s8, v3, e596]
end
