/-! The taking in: both sides, up to those that wait. -/
def hIn (S : mS) (bl : Int32) : Nat → Int32 := fun i => if i < 9 then came S (12 + i) else if i = 9 then came S 8 else if i = 10 then bl else if i = 11 then came S 10 + S.1 36 else if i = 12 then S.1 36 else 0
def vIn (E E' : Nat → Option (Nat → Int32)) (f e : Nat) (vy : Int32) (h : Nat → Int32) : Prop := ∀ k, E' k = none ∨ (¬ k = e ∧ E' k = E k ∧ (k / 8 = f → ∀ g, E k = some g → g 8 = vy)) ∨ (k = e ∧ E' k = some h)
section
variable {T : tT} {S : mS} {X Y : Nat → List (Nat × Nat)} {Z : Nat → List Fz} {Q : List Rq} {c F n f : Nat} {rs : List Nat}
theorem RBx.mono {c' : Nat} (h : RBx T S X Y Z Q rs c f) (hc : c ≤ c') : RBx T S X Y Z Q rs c' f := by
  obtain ⟨⟨r1, r2, r3, r4, r5, ⟨s1, s2, s3, U, s4, s5⟩, r9, r10⟩, r7, r8⟩ := h
  exact ⟨⟨r1, r2, r3, r4, r5, ⟨s1, s2, s3, U, s4, by omega⟩, r9, r10⟩, r7, r8⟩
theorem vIn_of {S' : mS} {e : Nat} {bl : Int32} (H1 : ∀ k, k < 7168 → ¬ k = e → ¬ rd S' 601 k = 0 → ¬ rd S 601 k = 0 ∧ (k / 8 = f → eT S k 8 = came S 20)) (H2 : ∀ b k, 604 ≤ b → b ≤ 607 → ¬ k = e → rd S' b k = rd S b k) (H3 : ∀ k i, ¬ k = e → i < 9 → rd S' 603 (9 * k + i) = rd S 603 (9 * k + i)) (H4 : ¬ rd S' 601 e = 0 → (∀ i, i < 9 → rd S' 603 (9 * e + i) = came S (12 + i)) ∧ rd S' 604 e = came S 8 ∧ rd S' 605 e = came S 10 + S.1 36 ∧ rd S' 606 e = S.1 36 ∧ rd S' 607 e = bl) : vIn (vE S) (vE S') f e (came S 20) (hIn S bl) := by
  intro k
  by_cases w : k < 7168 ∧ ¬ rd S' 601 k = 0
  · right
    by_cases z : k = e
    · right
      refine ⟨z, ?_⟩
      obtain ⟨q1', q2', q3', q4', q5'⟩ := H4 (by rw [← z]; exact w.2)
      unfold vE
      rw [if_pos w, z, q2', q3', q4', q5']
      congr 1
      funext i
      unfold hIn
      by_cases hi : i < 9
      · rw [if_pos hi, if_pos hi, q1' i hi]
      · rw [if_neg hi, if_neg hi]
    · left
      obtain ⟨u1, u2⟩ := H1 k w.1 z w.2
      refine ⟨z, ?_, fun hkf g hg => ?_⟩
      · unfold vE
        rw [if_pos w, if_pos ⟨w.1, u1⟩, H2 604 k (by decide) (by decide) z, H2 605 k (by decide) (by decide) z, H2 606 k (by decide) (by decide) z, H2 607 k (by decide) (by decide) z]
        congr 1
        funext i
        by_cases hi : i < 9
        · rw [if_pos hi, if_pos hi, H3 k i z hi]
        · rw [if_neg hi, if_neg hi]
      · unfold vE at hg
        rw [if_pos ⟨w.1, u1⟩] at hg
        cases hg
        exact u2 hkf
  · left
    unfold vE
    rw [if_neg w]
theorem in_all (hF : 4001 ≤ F) {pp v la fo wh am fa t : Nat} {gm g : Nat → Int32} {hd tl : Option Nat} (hp : pp < 32) (hv : v < 4) (hw : wh < 8) (h1 : 1 ≤ n) (h2 : n < 7) (hf : f = 128 * n + (4 * pp + v)) (hc : c + 200 < 2147483648) (h : RBx T S X Y Z Q rs c f) (hno : ∀ m, 1 ≤ m → m < 7 → ∀ x ∈ Z m, ¬ x.2.1 = f) (hm : T.1 am = some (cMsg gm (some t))) (m4 : came S 4 = Int32.ofNat pp) (ht : T.1 t = some (cTold (came S 4) (fun i => came S (12 + i)))) (hok : okT (fun i => came S (12 + i))) (hfa : T.1 fa = some (cFetch g hd tl)) (g0 : g 0 = Int32.ofNat pp) (g1 : g 1 = Int32.ofNat v) (g2 : g 2 = Int32.ofNat la) (g3 : g 3 = Int32.ofNat fo) (hwh : v_which (came S 20) (Int32.ofNat la) (Int32.ofNat fo) = Int32.ofNat wh) (m13 : gm 13 = came S 8) (m16 : gm 16 - gm 18 = came S 10) (m17 : gm 17 = came S 11) :
    ∃ T' S' X' Y' bl, cIn F n am fa t T = D_c_EdgeHouse_takeFill_148 F 512 (some (527 + 8 * n)) (some fa) (some T.2.1) T' ∧ D_m_bringFill_293 F (Int32.ofNat n) (Int32.ofNat f) (Int32.ofNat (8 * f + wh)) S = D_m_takeIn_270 F (Int32.ofNat n) (Int32.ofNat f) (Int32.ofNat (8 * f + wh)) bl S' ∧ RBx T' S' X' Y' Z Q rs (c + 2) f ∧ rd S' 609 f = 0 ∧ (∃ kp', T'.1 T.2.1 = some (eNew S pp v t wh bl kp')) ∧ came S' = came S ∧ (∀ i, ¬ i = 58 → S'.1 i = S.1 i) ∧ Cs T T' 1 9 ∧ (∀ b x, T.1 b = some x → kd x ∈ [0, 1, 4, 6, 7, 8, 9, 10, 13, 20] → T'.1 b = some x) ∧ vM S' = vM S ∧ vS S' = vS S ∧ vIn (vE S) (vE S') f (8 * f + wh) (came S 20) (hIn S bl) ∧ (∀ h, vE S (8 * f + wh) = some h → h 0 = came S 12 → h 8 = came S 20 → bl = came S 11 ||| h 10) ∧ (bl = came S 11 ∨ ∃ h, vE S (8 * f + wh) = some h ∧ h 0 = came S 12 ∧ h 8 = came S 20 ∧ bl = came S 11 ||| h 10) := by
  obtain ⟨T2, S2, g', X2, Y2, a1, a2, a3, a4, a5, a6, a7, a8, a9, a10, a11, a12⟩ := in_old (F := F) hF hp hv hw h1 h2 hf h hno hm ht hfa g0 g1 g2 g3 hwh m13 m16 m17
  have ca2 : came S2 = came S := funext fun i => a7 628 i (by decide) (by omega)
  have e7 : 8 * f + wh < 7168 := by omega
  have m2 : T2.1 am = some (cMsg gm (some t)) := a12 _ _ hm (show ¬ (9 : Nat) = 21 by decide)
  have t2 : T2.1 t = some (cTold (came S 4) (fun i => came S (12 + i))) := a12 _ _ ht (show ¬ (13 : Nat) = 21 by decide)
  have hnode : T.1 (527 + 8 * n) = some (nodeC S n) := (h.1.2.2.2.2.1.2.1 n h1 h2).1
  have no2 : T2.1 (527 + 8 * n) = some (nodeC S n) := a12 _ _ hnode (show ¬ (4 : Nat) = 21 by decide)
  have nd2 : tgr T2 (527 + 8 * n) 4 1 = some (some (528 + 8 * n)) := tgr_o (x := some (528 + 8 * n)) no2 rfl
  have st2 := (a3.1.2.2.2.2.2.1.1 n h1 h2).1.stC.1
  have fl17 : flag (came S 17) := hok.2.2.2.2.2.2.1
  have b293 : D_m_bringFill_293 F (Int32.ofNat n) (Int32.ofNat f) (Int32.ofNat (8 * f + wh)) S = D_m_takeIn F (Int32.ofNat n) (Int32.ofNat f) (Int32.ofNat (8 * f + wh)) S := by
    unfold D_m_bringFill_293
    cases D_m_takeIn F (Int32.ofNat n) (Int32.ofNat f) (Int32.ofNat (8 * f + wh)) S <;> rfl
  have ref := (b293.trans a2).trans (m_in13e (F := F) (S := S2) (x1 := Int32.ofNat n) (g := g') (f := f) (by omega) e7)
  rw [ca2] at ref
  have c31 : ∀ b x, T.1 b = some x → kd x ∈ [0, 1, 4, 6, 7, 8, 9, 10, 13, 20] → T2.1 b = some x := fun b x hb hk => a12 b x hb (fun w => by rw [w] at hk; revert hk; decide)
  have en : ∀ bl kp, eNew S pp v t wh bl kp = cEntry (Int32.ofNat pp) (Int32.ofNat v) t (Int32.ofNat wh) (came S2 8) (came S2 10 + S2.1 36) (S2.1 36) bl kp := fun bl kp => by unfold eNew; rw [ca2, a9]
  have agG : ∀ as is, (∀ b ∈ as, ¬ b = 601 ∧ ¬ b = 609) → Ag as is S (up2 S2 601 (8 * f + wh) 0) := fun as is q => ⟨fun b hb k => by rw [rd_up2, if_neg (fun z => (q b hb).1 z.1)]; exact a7 b k (q b hb).1 (fun z => (q b hb).2 z.1), fun i _ => by rw [up2_1]; exact a9 i⟩
  have vMg : vM (up2 S2 601 (8 * f + wh) 0) = vM S := vM_ag (agG _ _ (by decide))
  have vSg : vS (up2 S2 601 (8 * f + wh) 0) = vS S := vS_ag (agG _ _ (by decide))
  have T1 : ∀ k, k < 7168 → ¬ rd S2 601 k = 0 → ¬ rd S 601 k = 0 ∧ (k / 8 = f → eT S k 8 = came S 20) := fun k _ hk => by
    rw [a10] at hk
    by_cases z : 8 * f ≤ k ∧ k < 8 * f + 8
    · rw [if_pos z] at hk
      by_cases y : ¬ rd S 601 k = 0 ∧ eT S k 8 = came S 20
      · exact ⟨y.1, fun _ => y.2⟩
      · rw [if_neg y] at hk; exact absurd rfl hk
    · rw [if_neg z] at hk
      exact ⟨hk, fun q => absurd (show 8 * f ≤ k ∧ k < 8 * f + 8 by omega) z⟩
  have eE0 : eT S2 (8 * f + wh) 0 = eT S (8 * f + wh) 0 := a7 603 _ (by decide) (by omega)
  have e607 : rd S2 607 (8 * f + wh) = rd S 607 (8 * f + wh) := a7 607 _ (by decide) (by omega)
  have r601 : rd S2 601 (8 * f + wh) = (if ¬ rd S 601 (8 * f + wh) = 0 ∧ eT S (8 * f + wh) 8 = came S 20 then 1 else 0) := by rw [a10, if_pos ⟨by omega, by omega⟩]
  have blA : ∀ h, vE S (8 * f + wh) = some h → h 0 = came S 12 → h 8 = came S 20 → inBl S2 (8 * f + wh) = came S 11 ||| h 10 := fun hh q1' q2' q3' => by
    by_cases z : ¬ rd S 601 (8 * f + wh) = 0
    · rw [vE_some e7 z] at q1'
      cases q1'
      have q3 : eT S (8 * f + wh) 8 = came S 20 := q3'
      have q2 : eT S (8 * f + wh) 0 = came S 12 := q2'
      unfold inBl
      have r1 : rd S2 601 (8 * f + wh) = 1 := by rw [r601, if_pos ⟨z, q3⟩]
      rw [r1, eE0, ca2, if_pos ⟨by decide, q2⟩, e607]
      rfl
    · unfold vE at q1'
      rw [if_neg (fun y => z y.2)] at q1'
      cases q1'
  have blB : inBl S2 (8 * f + wh) = came S 11 ∨ ∃ h, vE S (8 * f + wh) = some h ∧ h 0 = came S 12 ∧ h 8 = came S 20 ∧ inBl S2 (8 * f + wh) = came S 11 ||| h 10 := by
    by_cases z : (¬ rd S 601 (8 * f + wh) = 0 ∧ eT S (8 * f + wh) 8 = came S 20) ∧ eT S (8 * f + wh) 0 = came S 12
    · exact Or.inr ⟨_, vE_some e7 z.1.1, z.2, z.1.2, blA _ (vE_some e7 z.1.1) z.2 z.1.2⟩
    · left
      unfold inBl
      rw [if_neg (fun y => z ⟨by
        have y1 := y.1
        rw [r601] at y1
        by_cases q : ¬ rd S 601 (8 * f + wh) = 0 ∧ eT S (8 * f + wh) 8 = came S 20
        · exact q
        · rw [if_neg q] at y1; exact absurd rfl y1, by rw [← eE0, y.2, ca2]⟩), ca2]
      simp
  by_cases w : came S 17 = 1
  · rw [if_pos w] at ref
    refine ⟨T2, up2 S2 601 (8 * f + wh) 0, X2, Y2, inBl S2 (8 * f + wh), ?_, ref, a3.mono (by omega), by rw [rd_up2, if_neg (by omega)]; exact a8, ⟨_, a4⟩, funext fun i => by show rd _ 628 i = rd S 628 i; rw [rd_up2, if_neg (by omega)]; exact a7 628 i (by decide) (by omega), fun i _ => by rw [up2_1]; exact a9 i, a11, c31, vMg, vSg, vIn_of (fun k k7 ke k0 => T1 k k7 (fun y => k0 (by rw [rd_up2, if_neg (fun q => ke q.2)]; exact y))) (fun b k b1 b2 ke => by rw [rd_up2, if_neg (by omega)]; exact a7 b k (by omega) (by omega)) (fun k i ke hi => by rw [rd_up2, if_neg (by omega)]; exact a7 603 _ (by decide) (by omega)) (fun y => absurd (by rw [rd_up2, if_pos ⟨rfl, rfl⟩]) y), blA, blB⟩
    unfold cIn
    simp only [a1, bd2, Option.bind_some, Mr15 m2, Tg6 t2]
    rw [show came S (12 + 5) = 1 from w]
    rfl
  · rw [if_neg w] at ref
    have w0 : came S 17 = 0 := fl17.resolve_right w
    have a512 : 512 ≤ T.2.1 := by
      have := h.1.1.1 512 _ (show T.1 512 = some (house S.1) from h.1.2.1)
      omega
    obtain ⟨T', S', A, B, p1', p2', p3', p4', p5', p6', p7', ⟨kp', p8'⟩, p9', p10', p11', p12', p13', p14', p15', p16', p17', p18'⟩ := in_place (F := F) (T2 := T2) (S2 := S2) (a := T.2.1) (t := t) hF hp hv hw h1 h2 hf hc a512 a3 (by rw [← en]; exact a4) inKp_flag (by rw [ca2, ← m4]; exact t2) (by rw [ca2]; exact hok) a5 a6 (fun k k1 k2 k3 => by
      rw [a10, if_pos ⟨k1, k2⟩] at k3
      by_cases z : ¬ rd S 601 k = 0 ∧ eT S k 8 = came S 20
      · rw [ca2, ← z.2]
        exact a7 603 _ (by decide) (by omega)
      · rw [if_neg z] at k3
        exact absurd rfl k3)
    refine ⟨T', S', _, _, inBl S2 (8 * f + wh), ?_, ref.trans p2', p3', by rw [p9' 609 f (by omega)]; exact a8, ⟨kp', by rw [en]; exact p8'⟩, funext fun i => by show rd _ 628 i = rd S 628 i; rw [p9' 628 i (by omega)]; exact a7 628 i (by decide) (by omega), fun i hi => (p10' i hi).trans (a9 i), (a11.trans p7').mono (by decide) (by decide), fun b x hb hk => p6'.k (c31 b x hb hk) hk, p4'.trans vMg, p5'.trans vSg, vIn_of (fun k k7 ke k0 => T1 k k7 (p11' k k7 ke k0)) (fun b k b1 b2 ke => (p12' b k b1 b2 ke).trans (a7 b k (by omega) (by omega))) (fun k i ke hi => (p13' k i ke hi).trans (a7 603 _ (by decide) (by omega))) (fun _ => ⟨fun i hi => by rw [p14' i hi, ca2], by rw [p15', ca2], by rw [p16', ca2, a9], by rw [p17', a9], p18'⟩), blA, blB⟩
    unfold cIn
    simp only [a1, bd2, Option.bind_some, Mr15 m2, Tg6 t2]
    rw [show came S (12 + 5) = 0 from w0, show m_c1 .ne (0 : Int32) = false from rfl, cond_false, nd2, Option.bind_some, Option.bind_some, st2, Option.bind_some, p1', Option.bind_some]
end
