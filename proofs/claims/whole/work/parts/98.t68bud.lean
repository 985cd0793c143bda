/-! budget(node, size). -/
section
variable {I : Iv} {T T' : tT} {S S' : mS} {X Y : Nat → List (Nat × Nat)} {Z : Nat → List Fz} {Q cz Pd : List Rq} {j0 c F n k k1 k2 : Nat} {rs : List Nat}
theorem c_isNode {x : Int32} : (∃ n, 1 ≤ n ∧ n < 7 ∧ x = Int32.ofNat n ∧ D_c_EdgeHouse_isNode F x T = some 1 ∧ D_m_isNode F x S = some 1) ∨ ((¬ ∃ n, 1 ≤ n ∧ n < 7 ∧ x = Int32.ofNat n) ∧ D_c_EdgeHouse_isNode F x T = some 0 ∧ D_m_isNode F x S = some 0) := by
  unfold D_c_EdgeHouse_isNode D_m_isNode
  rcases i_cases x with hx | ⟨p, hk, rfl⟩
  · right
    have w1 : m_c2 .lt x (1 : Int32) = true := by
      have : x < 1 := Int32.lt_trans hx (by decide)
      simp [m_c2, this]
    have w2 : m_c1 .le x = true := by
      have : x ≤ 0 := Int32.le_of_lt hx
      simp [m_c1, this]
    refine ⟨fun ⟨n, n1, n2, e⟩ => ?_, by rw [w1]; rfl, by rw [w2]; rfl⟩
    rw [e] at hx
    exact m_n_neg (by omega) hx
  · have le0 : m_c1 .le (Int32.ofNat p) = decide (p ≤ 0) := le_n (b := 0) hk (by decide)
    have ge7 : m_c2 .ge (Int32.ofNat p) (7 : Int32) = decide (7 ≤ p) := ge_n hk (by decide)
    rw [show m_c2 .lt (Int32.ofNat p) (1 : Int32) = decide (p < 1) from lt_n hk (by decide), show m_c2 .gt (Int32.ofNat p) (6 : Int32) = decide (6 < p) from gt_n hk (by decide)]
    by_cases w : 1 ≤ p ∧ p < 7
    · left
      refine ⟨p, w.1, w.2, rfl, ?_, ?_⟩
      · rw [decide_eq_false (by omega), decide_eq_false (by omega)]; rfl
      · rw [le0, ge7, decide_eq_false (by omega), decide_eq_false (by omega)]; rfl
    · right
      refine ⟨fun ⟨n, n1, n2, e⟩ => ?_, ?_, ?_⟩
      · have := congrArg Int32.toNatClampNeg e
        rw [m_n_cl hk, m_n_cl (by omega)] at this
        omega
      · by_cases w2 : p < 1
        · rw [decide_eq_true w2]; rfl
        · rw [decide_eq_false w2, decide_eq_true (by omega)]; rfl
      · rw [le0, ge7]
        by_cases w2 : p ≤ 0
        · rw [decide_eq_true w2]; rfl
        · rw [decide_eq_false w2, decide_eq_true (by omega)]; rfl
/-- the size that a node's entries may have changes -/
theorem RB.bud {b : Nat} (h : RB T S X Y Z Q cz Pd j0 rs c) (h1 : 1 ≤ n) (h2 : n < 7) (b1 : 32 ≤ b) (b2 : b ≤ 2000) : tpi T (528 + 8 * n) 5 2 (Int32.ofNat b) = some (tset T (528 + 8 * n) (.inl (5, [.ref (529 + 8 * n), .ref (530 + 8 * n), .int (Int32.ofNat b)]))) ∧ RB (tset T (528 + 8 * n) (.inl (5, [.ref (529 + 8 * n), .ref (530 + 8 * n), .int (Int32.ofNat b)]))) (up2 S 592 n (Int32.ofNat b)) X Y Z Q cz Pd j0 rs c ∧ Cs T (tset T (528 + 8 * n) (.inl (5, [.ref (529 + 8 * n), .ref (530 + 8 * n), .int (Int32.ofNat b)]))) 0 0 ∧ vM (up2 S 592 n (Int32.ofNat b)) = vM S ∧ vE (up2 S 592 n (Int32.ofNat b)) = vE S ∧ vS (up2 S 592 n (Int32.ofNat b)) = vS S := by
  obtain ⟨r1, r2, r3, r4, r5, r6, r7, r8, r9, r10⟩ := id h
  have hst := (r6.1 n h1 h2).1.2.1
  have e1 : tpi T (528 + 8 * n) 5 2 (Int32.ofNat b) = some (tset T (528 + 8 * n) (.inl (5, [.ref (529 + 8 * n), .ref (530 + 8 * n), .int (Int32.ofNat b)]))) := (tp_o hst (show 2 < 3 by decide)).trans rfl
  obtain ⟨T1, hT1⟩ : ∃ x, x = tset T (528 + 8 * n) (.inl (5, [.ref (529 + 8 * n), .ref (530 + 8 * n), .int (Int32.ofNat b)])) := ⟨_, rfl⟩
  obtain ⟨S1, hS1⟩ : ∃ x, x = up2 S 592 n (Int32.ofNat b) := ⟨_, rfl⟩
  rw [← hT1] at e1 ⊢
  rw [← hS1]
  have st : ∀ x c9, T.1 x = some c9 → ¬ x = 528 + 8 * n → T1.1 x = some c9 := fun x c9 hx w => by rw [hT1]; exact tset_o hx w
  have st5 : ∀ x c9, T.1 x = some c9 → ¬ kd c9 = 5 → T1.1 x = some c9 := fun x c9 hx w => st x c9 hx (fun q => by rw [q, hst] at hx; cases hx; exact w rfl)
  have kq : ∀ {A K : List Nat}, (∀ a ∈ A, ¬ a = 528 + 8 * n) → 5 ∉ K → Kq A K T T1 := by
    intro A K hA hK x c9 hx hk'
    rcases hk' with w | w
    · exact st5 x c9 hx (fun q => hK (q ▸ w))
    · exact st x c9 hx (hA x w)
  have na : ∀ {A : List Nat}, (∀ a ∈ A, ¬ (a = 536 ∨ a = 544 ∨ a = 552 ∨ a = 560 ∨ a = 568 ∨ a = 576)) → ∀ a ∈ A, ¬ a = 528 + 8 * n := fun q a ha e => q a ha (by omega)
  have rS : ∀ a k, rd S1 a k = if a = 592 ∧ k = n then Int32.ofNat b else rd S a k := fun a k => by rw [hS1, rd_up2]
  have iS : ∀ i, S1.1 i = S.1 i := fun i => by rw [hS1, up2_1]
  have ag : ∀ as is, (∀ a ∈ as, ¬ a = 592) → Ag as is S S1 := fun as is q => ⟨fun a ha k => by rw [rS, if_neg (fun w => q a ha w.1)], fun i _ => iS i⟩
  have cs : Cs T T1 0 0 := K_tpi _ e1
  have tnE : tn S1 = tn S := funext fun e => by unfold tn; rw [rS, if_neg (by omega)]
  have hRSt : RSt T1 S1 X Y c := by
    obtain ⟨s1, s2, s3, U, s4, s5⟩ := r6
    refine ⟨fun m m1 m2 => ⟨?_, (s1 m m1 m2).2⟩, s2, ?_, U, ⟨(iS 58).trans s4.1, fun e he t => ?_⟩, s5⟩
    · obtain ⟨a1, a2, ⟨cX, a3⟩, ⟨cY, a4⟩, a5, a6, a7, a8, a9, bb, a10, a11, a12⟩ := (s1 m m1 m2).1
      have en : ∀ q k, isEnt T S m q k → isEnt T1 S1 m q k := fun q k hq => by
        obtain ⟨fs, hcell⟩ := hq.cell
        exact hq.fr ((st5 _ _ hcell (show ¬ (11 : Nat) = 5 by decide)).trans hcell.symm) (fun x c9 hx hk' => st5 x c9 hx (fun q => by rw [q] at hk'; revert hk'; decide)) (fun j => by rw [rS, if_neg (by omega)]) (fun a ha _ => by rw [rS, if_neg (by omega)])
      refine ⟨a1, ?_, ⟨cX, st5 _ _ a3 (show ¬ (21 : Nat) = 5 by decide)⟩, ⟨cY, st5 _ _ a4 (show ¬ (21 : Nat) = 5 by decide)⟩, fun q hq => en q _ (a5 q hq), fun q hq => en q _ (a6 q hq), by rw [tnE]; exact a7, by rw [tnE]; exact a8, fun e e1 e2 e3 => a9 e e1 e2 (by rw [rS, if_neg (by omega)] at e3; exact e3), ?_⟩
      · by_cases w : m = n
        · subst w
          rw [rS, if_pos ⟨rfl, rfl⟩, hT1]
          exact tset_at
        · rw [rS, if_neg (fun q => w q.2)]
          exact st _ _ a2 (by omega)
      · by_cases w : m = n
        · subst w
          exact ⟨b, b1, b2, by rw [rS, if_pos ⟨rfl, rfl⟩]⟩
        · exact ⟨bb, a10, a11, by rw [rS, if_neg (fun q => w q.2)]; exact a12⟩
    · have et : ∀ e, eT S1 e = eT S e := fun e => funext fun i => by show rd S1 603 _ = rd S 603 _; rw [rS, if_neg (by omega)]
      intro e e' he he' t1 t2 e3
      rw [rS, if_neg (by omega)] at t1 t2
      rw [et, et]
      exact s3 e e' he he' t1 t2 e3
    · rw [rS, if_neg (by omega)] at t
      rw [rS, if_neg (by omega)]
      exact s4.2 e he t
  refine ⟨e1, ⟨(cs r1).1, r2.fr (kq (na (by decide)) (by decide)) (ag _ _ (by decide)), r3.fr (kq (na (by decide)) (by decide)) (ag _ _ (by decide)), r4.fr (kq (na (by decide)) (by decide)), r5.fr (kq (na (by decide)) (by decide)) (ag _ _ (by decide)), hRSt, r7.fr (kq (na (by decide)) (by decide)) (ag _ _ (by decide)), r8.fr (kq (na (by decide)) (by decide)) (ag _ _ (by decide)) (fun z _ r _ => by rw [rS, if_neg (by omega)]) (fun k _ => by rw [rS, if_neg (by omega)]), r9.fr (kq (na (by decide)) (by decide)) (ag _ _ (by decide)), r10.fr (kq (na (by decide)) (by decide)) (ag _ _ (by decide)) (fun k a b' d => ?_)⟩, cs, vM_ag (ag _ _ (by decide)), vE_ag (ag _ _ (by decide)), vS_ag (ag _ _ (by decide))⟩
  have e9 : ∀ i, mRow S1 k i = mRow S k i := fun i => by show rd S1 624 _ = rd S 624 _; rw [rS, if_neg (by omega)]
  exact ⟨k, ⟨by rw [← iS 77]; exact a, b'⟩, (e9 0).symm.trans d, e9 3, e9 5, e9 4⟩
theorem op_budget (hF : 1100 ≤ F) (cS : ClShr I) {x y : Int32} (h : RA I T S X Y Z Q [] [] 0 rs c k1 k2) (hc : c + 3000 < 2147483648) : ∃ v T' S' X' Y', D_c_EdgeHouse_budget F 512 x y T = some (v, T') ∧ D_m_budget F x y S = some (v, S') ∧ RA I T' S' X' Y' Z Q [] [] 0 rs c k1 k2 := by
  have h0 := h.zero
  obtain ⟨S0, hS0⟩ : ∃ x, x = up1 S 0 0 := ⟨_, rfl⟩
  rw [← hS0] at h0
  obtain ⟨hR, hcost, hIv⟩ := id h0
  have hH : T.1 512 = some (house S0.1) := hR.2.1
  have stay : ∃ v T' S' X' Y', (some ((0 : Int32), T) : Option (Int32 × tT)) = some (v, T') ∧ (some ((0 : Int32), S0) : Option (Int32 × mS)) = some (v, S') ∧ RA I T' S' X' Y' Z Q [] [] 0 rs c k1 k2 := ⟨0, T, S0, X, Y, rfl, rfl, h0⟩
  unfold D_c_EdgeHouse_budget D_m_budget
  simp only [fput, Option.bind_some]
  rw [← hS0]
  rcases c_isNode (F := F) (T := T) (S := S0) (x := x) with ⟨n, h1, h2, rfl, i1, i2⟩ | ⟨_, i1, i2⟩
  · rw [i1, i2, Option.bind_some, Option.bind_some, show m_c1 .eq (1 : Int32) = false from rfl, cond_false, cond_false]
    rcases i_cases y with hx | ⟨b, hk, rfl⟩
    · rw [show m_c2 .lt y (32 : Int32) = true by
        have : y < 32 := Int32.lt_trans hx (by decide)
        simp [m_c2, this]]
      exact stay
    · rw [show m_c2 .lt (Int32.ofNat b) (32 : Int32) = decide (b < 32) from lt_n hk (by decide), show m_c2 .le (Int32.ofNat b) (2000 : Int32) = decide (b ≤ 2000) from le_n hk (by decide)]
      by_cases w : 32 ≤ b ∧ b ≤ 2000
      · rw [decide_eq_false (show ¬ b < 32 by omega), decide_eq_true w.2, cond_false, cond_true, cond_false, cond_true]
        obtain ⟨p1', R1, cs1, v1, v2, v3⟩ := hR.bud h1 h2 w.1 w.2
        obtain ⟨T1, hT1⟩ : ∃ x, x = tset T (528 + 8 * n) (.inl (5, [.ref (529 + 8 * n), .ref (530 + 8 * n), .int (Int32.ofNat b)])) := ⟨_, rfl⟩
        obtain ⟨S1, hS1⟩ : ∃ x, x = up2 S0 592 n (Int32.ofNat b) := ⟨_, rfl⟩
        rw [← hT1] at p1' R1 cs1
        rw [← hS1] at R1 v1 v2 v3
        obtain ⟨hRS, hl, h5⟩ := R1.2.2.2.2.2.1.1 n h1 h2
        obtain ⟨U, hU1, hU2⟩ := R1.2.2.2.2.2.1.2.2.2
        have hYn : (Y n).length ≤ sumY Y := by
          have := sumY_up (Y := Y) (A := []) h1 h2
          simp at this
          omega
        obtain ⟨T', S', A, B, U', e1, e2, ⟨e3, e4, e5, e6, e7, e8, e9⟩, e10⟩ := balance (F := F) hF (by omega) hRS hU1 (by omega)
        have cs2 : Cs T1 T' 0 0 := K_c_Store_balance (F := F) _ e1
        obtain ⟨rb2, y1, y2, y3⟩ := R1.store (A := A) (B := B) (Zs := (Y n).map Prod.fst) (d := 0) h1 h2 (cs2 R1.1).1 e3 (by omega) (fun U9 hU9 hU99 => by
          have eU : U9 = U := by
            have a := hU9.1
            rw [hU1.1] at a
            have := congrArg Int32.toNatClampNeg a
            rw [m_n_cl (by omega), m_n_cl (by omega)] at this
            exact this.symm
          subst eU
          exact ⟨U', e4, by omega⟩) e6 e7.1 (fun a k hak => e7.2.1 a k hak) (fun a k hk => e7.2.2 a k hk) e8 (fun a ha => by
            obtain ⟨q, q1', q2'⟩ := e9 a ha
            exact ⟨q, Or.inr q1', q2'⟩)
        have hH1 : T1.1 512 = some (house S1.1) := R1.2.1
        have ar0 := hR.2.2.2.2.1.get h2
        have ar1 := R1.2.2.2.2.1.get h2
        have e41 : tgr T (527 + 8 * n) 4 1 = some (some (528 + 8 * n)) := tgr_o (x := some (528 + 8 * n)) (hR.2.2.2.2.1.2.1 n h1 h2).1 rfl
        have e411 : tgr T1 (527 + 8 * n) 4 1 = some (some (528 + 8 * n)) := tgr_o (x := some (528 + 8 * n)) (R1.2.2.2.2.1.2.1 n h1 h2).1 rfl
        have p592 : aput 7 S0 592 (Int32.ofNat n) (Int32.ofNat b) = some S1 := by rw [hS1]; exact aput_n h2 (by decide)
        refine ⟨1, T', S', upL X n A, upL Y n B, ?_, ?_, rb2, (by have := cost_step (cost_step hcost cs1 hR.1) cs2 R1.1; exact ⟨by omega, by omega⟩), ?_⟩
        · simp only [Hr3 hH, Option.bind_some, ar0, e41, p1', Hr3 hH1, ar1, e411, hRS.stC.1, e1]
        · rw [p592, Option.bind_some, e2]
          rfl
        · rw [y1, y2, v1, v3]
          rw [v2] at y3
          exact cS _ _ _ _ _ _ _ _ _ hIv y3
      · by_cases w2 : b < 32
        · rw [decide_eq_true w2]
          exact stay
        · rw [decide_eq_false w2, decide_eq_false (show ¬ b ≤ 2000 by omega)]
          exact stay
  · rw [i1, i2]
    exact stay
end
