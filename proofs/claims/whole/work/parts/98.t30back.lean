/-! A fetch for which nobody waits. -/
section
variable {T : tT} {S : mS} {X Y : Nat → List (Nat × Nat)} {Z : Nat → List Fz} {Q Pd : List Rq} {j0 c F n : Nat} {rs : List Nat} {z : Rq}
theorem P_back (hF : 400 ≤ F) (h : RB T S X Y Z Q [] Pd j0 rs c) {w0 : Nat} (hrw : Rw S w0 z) {cc rr bb : Option Nat} (hq : T.1 z.1 = some (cReq z.2.2.2.1 cc rr bb)) {p v la fo : Nat} (h1 : 1 ≤ n) (h2 : n < 7) (hff : z.2.1 = 128 * n + (4 * p + v)) (hp : p < 32) (hv : v < 4) (hla : la < 4) (hfo : fo < 2) (g0 : z.2.2.2.1 0 = Int32.ofNat p) (g1 : z.2.2.2.1 1 = Int32.ofNat v) (g2 : z.2.2.2.1 2 = Int32.ofNat la) (g3 : z.2.2.2.1 3 = Int32.ofNat fo) (w11 : rd S 622 (w0 + 11) = Int32.ofNat (la + 4 * fo)) (h0 : rd S 609 z.2.1 = 0) (hno : ∀ y ∈ Z n, ¬ y.2.1 = z.2.1) {o : Option Nat} (o1 : ∀ e, o = some e → suitE S z.2.1 la fo e) (o2 : o = none → ∀ e, ¬ suitE S z.2.1 la fo e) (ho : ∀ e, o = some e → e < 7168 ∧ okT (eT S e) ∧ few 100000 ((rd S 605 e + S.1 36) - rd S 606 e)) (hmi : v_mi S z o = 0) {J : Nat} (hJ : okJ S Z n J) :
    ∃ T0 T1, tnw T 10 = some (T.2.1, T0) ∧ D_c_Fetch_init F T.2.1 (some z.1) T0 = some T1 ∧ T1.1 512 = T.1 512 ∧
      ((∃ S', n ≥ 3 ∧ D_c_EdgeHouse_sendFetch F 512 (some (527 + 8 * n)) (some T.2.1) T1 = some (0, T1) ∧ D_m_fetch F (Int32.ofNat w0) (Int32.ofNat z.2.1) S = some (0, S') ∧ RB T1 S' X Y Z Q [] Pd j0 rs c ∧ vM S' = vM S ∧ vE S' = vE S ∧ vS S' = vS S ∧ Cs T T1 1 14) ∨
      ∃ (to0 : Nat) (T' : tT) (S' : mS), ((n ≤ 2 ∧ to0 = 0) ∨ (3 ≤ n ∧ 1 ≤ to0 ∧ to0 ≤ 2)) ∧ D_c_EdgeHouse_sendFetch F 512 (some (527 + 8 * n)) (some T.2.1) T1 = some (1, T') ∧ D_m_fetch F (Int32.ofNat w0) (Int32.ofNat z.2.1) S = some (1, S') ∧ RB T' S' X Y (zAdd Z n (T.2.1, z.2.1, fup (fup (fup (fup (newG z.2.2.2.1 0) 7 (rd S 596 n + 1)) 8 (Int32.ofNat to0)) 9 (rd S 593 n)) 10 (S.1 36))) Q [] Pd j0 rs c ∧ vM S' = psh (vM S) (cut (fetRow n to0 (rd S 596 n + 1) (rd S 593 n) (newG z.2.2.2.1 0) (Int32.ofNat (la + 4 * fo)) (v_hadG S n (newG z.2.2.2.1 0) o))) ∧ vE S' = vE S ∧ (vS S' = fun j k => if j = 1 ∧ k = n then rd S 596 n + 1 else vS S j k) ∧ Cs T T' 2 33) := by
  obtain ⟨r1, r2, r3, r4, r5, r6, r7, r8, r9, r10⟩ := id h
  have fl6 : flag (z.2.2.2.1 6) := by
    obtain ⟨_, m, q2, _⟩ := hrw
    exact q2.2.2.2.2.2.1
  obtain ⟨m1, m2, m3⟩ := new_fetch r1.1
  have mf := c_newF (F := F) r1.1 hq fl6
  let T1 : tT := tset (tadd T (cFetch (fun _ => 0) none none) 14) T.2.1 (cFetch (newG z.2.2.2.1 0) none none)
  have t6 : ∀ b x, T.1 b = some x → T1.1 b = some x := by
    intro b x hb
    have : ¬ b = T.2.1 := fun w => by rw [w, m3] at hb; cases hb
    show (tset (tadd T _ 14) T.2.1 _).1 b = _
    rw [tset_1, if_neg this, tadd_1, if_neg this]
    exact hb
  have cs1 : Cs T T1 1 14 := by
    have a1 : Cs T (tadd T (cFetch (fun _ => 0) none none) 14) 1 14 := Cs.new rfl
    have a2 := K_c_Fetch_init (F := F) _ mf
    exact (a1.trans a2).mono (by decide) (by decide)
  have su : D_m_suits F (Int32.ofNat z.2.1) (rd S 622 (w0 + 11)) S = some (oI o) := by
    rw [w11, hff]
    rw [hff] at o1 o2
    exact suits_of (by omega) (r6.1 n h1 h2).1 r6.2.2.1 hp hv hla hfo o1 o2 (fun k => rfl) (fun k => rfl)
  obtain ⟨S2, d1, d2, d3⟩ := r_fetch (F := F) (by omega) hrw (show z.2.1 < 896 by omega) su ho
  rw [hmi] at d3
  have hi : ∀ i, S2.1 i = S.1 i := fun i => d2 i
  have hr0 : ∀ a k, ¬ (610 ≤ a ∧ a ≤ 617 ∧ rd S 609 k = 0) → rd S2 a k = rd S a k := by
    intro a k x3
    have : ¬ (k = z.2.1 ∧ (610 ≤ a ∧ a ≤ 617)) := fun w => x3 ⟨w.2.1, w.2.2, by rw [w.1]; exact h0⟩
    rw [d3, if_neg (by omega), if_neg (by omega), if_neg (by omega), if_neg (by omega)]
  have hr : ∀ a k, ¬ a = 594 → ¬ a = 595 → ¬ (610 ≤ a ∧ a ≤ 617 ∧ rd S 609 k = 0) → rd S2 a k = rd S a k := fun a k _ _ x3 => hr0 a k x3
  have nodeE : ∀ m, 1 ≤ m → m < 7 → T1.1 (527 + 8 * m) = some (nodeC S2 m) := by
    intro m m1 m2
    have : nodeC S2 m = nodeC S m := by
      unfold nodeC
      rw [hr0 591 m (by omega), hr0 593 m (by omega), hr0 594 m (by omega), hr0 595 m (by omega), hr0 596 m (by omega)]
    rw [this]
    exact t6 _ _ (r5.2.1 m m1 m2).1
  have rb1 : RB T1 S2 X Y Z Q [] Pd j0 rs c := h.prep (cs1 r1).1 (fun b x hb _ _ => t6 b x hb) (fun y hy => by cases hy) nodeE hi hr
  obtain ⟨v1, v2, v3⟩ := prep_views hi hr
  obtain ⟨q1', q2', q3', q4', q5', q6', q7', q8', q9', q10'⟩ := id rb1
  have n56 := newG_few hrw ho
  rw [hmi] at n56
  have at13 : rd S2 613 z.2.1 = newG z.2.2.2.1 0 5 := by rw [d3, if_pos ⟨rfl, rfl⟩]
  have at14 : rd S2 614 z.2.1 = newG z.2.2.2.1 0 6 := by rw [d3, if_neg (by omega), if_pos ⟨rfl, rfl⟩]
  have at10 : rd S2 610 z.2.1 = newG z.2.2.2.1 0 4 := by rw [d3, if_neg (by omega), if_neg (by omega), if_pos ⟨rfl, rfl⟩]; rfl
  have at16 : rd S2 616 z.2.1 = Int32.ofNat (la + 4 * fo) := by
    rw [d3, if_neg (by omega), if_neg (by omega), if_neg (by omega), if_pos ⟨rfl, rfl⟩, ← w11]
  have e596 : rd S2 596 n = rd S 596 n := hr0 596 n (by omega)
  have e593 : rd S2 593 n = rd S 593 n := hr0 593 n (by omega)
  have suEq : ∀ e, suitE S2 z.2.1 la fo e ↔ suitE S z.2.1 la fo e := fun e => by
    unfold suitE eT
    rw [hr0 601 e (by omega), hr0 603 (9 * e + 8) (by omega)]
  have faN : ∀ m y, 1 ≤ m → m < 7 → y ∈ Z m → ¬ y.1 = T.2.1 := by
    intro m y m1 m2 hy e
    have := ((r7.1 m m1 m2).2.1 y hy).1
    rw [e, m3] at this
    cases this
  have rq1 : RQ T1 (up2 S2 609 z.2.1 1) rs Q [] Pd j0 := by
    obtain ⟨a, b1, b2, b3, c1, c2, dd, dP, d2'⟩ := id q8'
    have hrw : ∀ b k, ¬ b = 609 → rd (up2 S2 609 z.2.1 1) b k = rd S2 b k := fun b k hb => by rw [rd_up2, if_neg (fun w => hb w.1)]
    refine ⟨a, fun k x hk => (b1 k x hk).fr Kq.refl ⟨fun a ha j => hrw _ _ (by rw [List.mem_singleton.mp ha]; decide), fun i hi => by cases hi⟩ (fun r _ => hrw _ _ (by decide)) (fun i _ => hrw _ _ (by decide)), fun x hx => (by cases hx), fun k x hk => (b3 k x hk).fr Kq.refl ⟨fun a ha j => hrw _ _ (by rw [List.mem_singleton.mp ha]; decide), fun i hi => by cases hi⟩ (fun r _ => hrw _ _ (by decide)) (fun i _ => hrw _ _ (by decide)), c1, c2, dd, dP, fun x hx => ?_⟩
    rw [rd_up2]
    split
    · rfl
    · exact d2' x hx
  have fa1 : T1.1 T.2.1 = some (cFetch (fup (newG z.2.2.2.1 0) 11 (Int32.ofNat ([] : List Nat).length)) ([] : List Nat).head? ([] : List Nat).getLast?) := tset_at
  refine ⟨tadd T (cFetch (fun _ => 0) none none) 14, T1, m1, mf, (t6 512 _ r2).trans (show T.1 512 = some (house S.1) from r2).symm, ?_⟩
  rcases sent_all (F := F) (C := ch Q) (L := []) (g := newG z.2.2.2.1 0) hF q1' q2' q3' q4' q5' q6' (q7'.x z.2.1) q8' q9' q10' h1 h2 hff fa1 faN hno hp hv hla hfo g0 g1 g2 g3 fl6 n56.1 n56.2 at10 at13 at14 at16 (e596.trans hJ.1) hJ.2.1 hJ.2.2 rq1 with ⟨w1, w2, w3⟩ | w
  · left
    have o9 : rd S2 609 z.2.1 = 0 := (hr0 609 _ (by omega)).trans h0
    obtain ⟨u1, u2, u3⟩ := now_views (S := S2) (S' := up2 S2 609 z.2.1 0) (fun i _ _ => by rw [up2_1]) (fun b k _ _ _ => up2_same o9 b k)
    exact ⟨up2 S2 609 z.2.1 0, w1, w2, by rw [d1, w3]; rfl, rb1.now (fun i _ _ => by rw [up2_1]) (fun b k _ _ _ => up2_same o9 b k) (by rw [up2_same o9]; exact rb1.2.2.2.2.2.2.2.2.2.2.2.2.2), u1.trans v1, u2.trans v2, u3.trans v3, cs1⟩
  · right
    obtain ⟨o', to0, T', S', s1, s2, s3, s4, s5, ⟨p1', p2', p3', p4', p5', p6', p7', p8', p9', p10'⟩, s6, s7, s8, s9, s10, s11, s12, s13⟩ := w
    have oo : o' = o := by
      cases o with
      | none =>
        cases o' with
        | none => rfl
        | some e => exact absurd ((suEq e).mp (s1 e rfl)) (o2 rfl e)
      | some e =>
        cases o' with
        | none => exact absurd ((suEq e).mpr (o1 e rfl)) (s2 rfl e)
        | some e' =>
          have a1 := (suEq e').mp (s1 e' rfl)
          have a2 := o1 e rfl
          rw [suitE.uniq r6.2.2.1 (by have := a1.1; omega) (by have := a2.1; omega) a1 a2]
    subst oo
    rw [e596, e593, hi] at p7'
    refine ⟨to0, T', S', s3, s4, by rw [d1, s5]; rfl, ⟨p1', p2', p3', p4', p5', p6', p7'.ext (fun m m1 m2 x hx => ?_), p8', p9', p10'⟩, ?_, by rw [s7, v2], by rw [s8, v3, e596], (cs1.trans s13).mono (by decide) (by decide)⟩
    · unfold cAdd
      by_cases e : x.2.1 = z.2.1
      · rw [if_pos e, e, h.noch h0]
      · rw [if_neg e]
    · rw [s6, v1, e596, e593]
      congr 3
      unfold v_hadG
      cases o' with
      | none => rfl
      | some e =>
        have xT : eT S2 e = eT S e := by funext i; exact hr0 603 _ (by omega)
        simp only [hr0 604 e (by omega), hr0 607 e (by omega), xT, e593]
end
