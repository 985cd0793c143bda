/-! update(), both. -/
section
variable {I I' : Iv} {T T' : tT} {S S' : mS} {X Y : Nat → List (Nat × Nat)} {Z : Nat → List Fz} {Q cz Pd : List Rq} {c F n j0 k1 k2 : Nat} {rs : List Nat}
theorem RB.thing {A pa : Nat} {d : Nat → Int32} {f7 f8 : Nat → Value} (h : RB T S X Y Z Q cz Pd j0 rs c) (hp : pa < 32) (hA : T.1 A = some (cTold (Int32.ofNat pa) d)) (hd : okT d) (t1 : T.1 517 = some (.inr (.inl (6, 32, f7)))) (t3 : T.1 518 = some (.inr (.inl (0, 32, f8)))) (hS : Pw S pa d 9 S') (hT : T' = tset (tset T 518 (.inr (.inl (0, 32, fun j => if j = pa then .int (d 0) else f8 j)))) 517 (.inr (.inl (6, 32, fun j => if j = pa then .ref A else f7 j)))) : RB T' S' X Y Z Q cz Pd j0 rs c ∧ Cs T T' 0 0 := by
  obtain ⟨r1, r2, r3, r4, r5, r6, r7, r8, r9, r10⟩ := id h
  obtain ⟨⟨⟨ft, t1', t2⟩, t3'⟩, e2, e3, e4, e5⟩ := id r10
  obtain ⟨f8', y1, y2⟩ := t3'
  have ef : ft = f7 := by rw [t1] at t1'; cases t1'; rfl
  have e8 : f8' = f8 := by rw [t3] at y1; cases y1; rfl
  subst ef
  subst e8
  have rS := hS.1
  have iS := hS.2
  have cs : Cs T T' 0 0 := by
    rw [hT]
    exact ((Cs.cell t3 rfl rfl).trans (Cs.cell (tset_o t1 (by decide)) rfl rfl)).mono (by decide) (by decide)
  have st : ∀ b x, T.1 b = some x → ¬ (b = 517 ∨ b = 518) → T'.1 b = some x := fun b x hb w => by
    rw [hT]
    exact tset_o (tset_o hb (fun q => w (Or.inr q))) (fun q => w (Or.inl q))
  have ag : ∀ as is, (∀ a ∈ as, ¬ a = 589 ∧ ¬ a = 590) → Ag as is S S' := fun as is q => ⟨fun a ha k => by rw [rS, if_neg (fun w => (q a ha).1 w.1), if_neg (fun w => (q a ha).2 w.1)], fun i _ => iS i⟩
  have rO : ∀ a k, ¬ a = 589 → ¬ a = 590 → rd S' a k = rd S a k := fun a k n1 n2 => by rw [rS, if_neg (fun w => n1 w.1), if_neg (fun w => n2 w.1)]
  have kq : ∀ {A K : List Nat}, (517 ∉ A ∧ 518 ∉ A) → 20 ∉ K → Kq A K T T' := by
    intro A K hA hK b x hb hk'
    refine st b x hb (fun q => ?_)
    rcases q with q | q
    · rcases hk' with w | w
      · rw [q, t1] at hb
        cases hb
        exact hK w
      · exact hA.1 (q ▸ w)
    · rcases hk' with w | w
      · rw [q, t3] at hb
        cases hb
        exact hK w
      · exact hA.2 (q ▸ w)
  have hX : RX T' S' := by
    refine ⟨⟨⟨_, by rw [hT]; exact tset_at, fun p' hp' => ?_⟩, ?_⟩, e2.fa (kq (by decide) (by decide)) (ag _ _ (by decide)), fun m m1 m2 => ?_, e4.fa (kq (by decide) (by decide)) (ag _ _ (by decide)), by rw [rO 626 _ (by decide) (by decide)]; exact e5⟩
    · by_cases w : p' = pa
      · right
        have en : ∀ i, i < 9 → d i = rd S' 589 (9 * p' + i) := fun i hi => by rw [rS, if_pos ⟨rfl, by omega, by omega⟩, w, show 9 * pa + i - 9 * pa = i by omega]
        refine ⟨A, if_pos w, ?_, okT_ext en hd⟩
        rw [← cTold_ext en, w]
        exact st _ _ hA (fun q => by rcases q with q | q <;> (rw [q] at hA; first | (rw [t1] at hA; cases hA) | (rw [t3] at hA; cases hA)))
      · have rN : ∀ i, i < 9 → rd S 589 (9 * p' + i) = rd S' 589 (9 * p' + i) := fun i hi => by rw [rS, if_neg (by omega), if_neg (fun q => absurd q.1 (by decide))]
        rcases t2 p' hp' with ⟨y1', y2'⟩ | ⟨t', y1', y2', y3'⟩
        · left
          exact ⟨(rN 0 (by decide)).symm.trans y1', by rw [if_neg w]; exact y2'⟩
        · right
          refine ⟨t', by rw [if_neg w]; exact y1', ?_, okT_ext rN y3'⟩
          rw [← cTold_ext rN]
          exact st _ _ y2' (fun q => by rcases q with q | q <;> (rw [q] at y2'; first | (rw [t1] at y2'; cases y2') | (rw [t3] at y2'; cases y2')))
    · refine ⟨fun j => if j = pa then .int (d 0) else f8' j, by rw [hT]; exact tset_o tset_at (by decide), fun q hq => ?_⟩
      rw [rS, if_neg (fun w => absurd w.1 (by decide))]
      by_cases w : q = pa
      · rw [if_pos ⟨rfl, w⟩]
        show m_toI (if q = pa then _ else _) = _
        rw [if_pos w]
        rfl
      · rw [if_neg (fun z => w z.2)]
        show m_toI (if q = pa then _ else _) = _
        rw [if_neg w]
        exact y2 q hq
    · obtain ⟨g', k', a1, a2, a3⟩ := e3 m m1 m2
      refine ⟨g', k', st _ _ a1 (by omega), st _ _ a2 (by omega), ?_⟩
      simp only [rO 618 _ (by decide) (by decide), rO 619 _ (by decide) (by decide)]
      exact a3
  have hN : RNodes T' S' := by
    obtain ⟨⟨f9, n1, n2⟩, n3, n4⟩ := r5
    refine ⟨⟨f9, st _ _ n1 (by decide), n2⟩, fun m m1 m2 => ?_, fun m m1 m2 => ?_⟩
    · have e : nodeC S' m = nodeC S m := by
        unfold nodeC
        simp only [rO 591 _ (by decide) (by decide), rO 593 _ (by decide) (by decide), rO 594 _ (by decide) (by decide), rO 595 _ (by decide) (by decide), rO 596 _ (by decide) (by decide)]
      rw [e, rO 591 _ (by decide) (by decide)]
      exact ⟨st _ _ (n3 m m1 m2).1 (by omega), (n3 m m1 m2).2⟩
    · obtain ⟨g', a1, a2, a3⟩ := n4 m m1 m2
      exact ⟨g', st _ _ a1 (by omega), by rw [rO 619 _ (by decide) (by decide)]; exact a2, by rw [rO 619 _ (by decide) (by decide)]; exact a3⟩
  refine ⟨h.arr2 (B := fun b => b = 517 ∨ b = 518) (cs r1).1 st (fun b hb => ?_) (by decide) (ag _ _ (by decide)) (ag _ _ (by decide)) hN hX, cs⟩
  rcases hb with hb | hb
  · rw [hb]; exact ⟨_, t1, Or.inr ⟨6, 32, _, rfl, by decide⟩⟩
  · rw [hb]; exact ⟨_, t3, Or.inr ⟨0, 32, _, rfl, by decide⟩⟩
theorem Pw.views {pa : Nat} {d : Nat → Int32} (hS : Pw S pa d 9 S') (hd : d 0 = rd S 590 pa + 1) : vM S' = vM S ∧ vE S' = vE S ∧ vS S' = fun j k => if j = 4 ∧ 9 * pa ≤ k ∧ k < 9 * pa + 9 then d (k - 9 * pa) else if j = 5 ∧ k = pa then vS S 5 pa + 1 else vS S j k := by
  have rS := hS.1
  have iS := hS.2
  have ag : ∀ as is, (∀ a ∈ as, ¬ a = 589 ∧ ¬ a = 590) → Ag as is S S' := fun as is q => ⟨fun a ha k => by rw [rS, if_neg (fun w => (q a ha).1 w.1), if_neg (fun w => (q a ha).2 w.1)], fun i _ => iS i⟩
  refine ⟨vM_ag (ag _ _ (by decide)), vE_ag (ag _ _ (by decide)), ?_⟩
  funext j k
  have v5 : vS S 5 pa = rd S 590 pa := rfl
  by_cases w4 : j = 4
  · subst w4
    show rd S' 589 k = _
    rw [rS]
    by_cases w : 9 * pa ≤ k ∧ k < 9 * pa + 9
    · rw [if_pos ⟨rfl, w⟩, if_pos ⟨rfl, w⟩]
    · rw [if_neg (show ¬ ((589 : Nat) = 589 ∧ 9 * pa ≤ k ∧ k < 9 * pa + 9) from fun q => w q.2), if_neg (show ¬ ((589 : Nat) = 590 ∧ k = pa) from fun q => absurd q.1 (by decide)), if_neg (show ¬ ((4 : Nat) = 4 ∧ 9 * pa ≤ k ∧ k < 9 * pa + 9) from fun q => w q.2), if_neg (show ¬ ((4 : Nat) = 5 ∧ k = pa) from fun q => absurd q.1 (by decide))]
      rfl
  · rw [if_neg (fun q => w4 q.1)]
    by_cases w5 : j = 5
    · subst w5
      show rd S' 590 k = _
      rw [rS, if_neg (fun q => absurd q.1 (by decide))]
      by_cases w : k = pa
      · rw [if_pos ⟨rfl, w⟩, if_pos ⟨rfl, w⟩, v5, hd]
      · rw [if_neg (fun q => w q.2), if_neg (fun q => w q.2)]
        rfl
    · rw [if_neg (fun q => w5 q.1)]
      have rO : ∀ a k, ¬ a = 589 → ¬ a = 590 → rd S' a k = rd S a k := fun a k n1 n2 => by rw [rS, if_neg (fun w => n1 w.1), if_neg (fun w => n2 w.1)]
      unfold vS
      simp only [w4, w5, if_false, rO 593 _ (by decide) (by decide), rO 596 _ (by decide) (by decide), rO 597 _ (by decide) (by decide), iS]
end
section
variable {I I' : Iv} {T T' : tT} {S S' : mS} {X Y : Nat → List (Nat × Nat)} {Z : Nat → List Fz} {Q cz Pd : List Rq} {c F n j0 k1 k2 : Nat} {rs : List Nat}
theorem okT.up {x : Int32} (h : okD S) (h0 : few 512 x) : okT (fup (tdv S) 0 (x + 1)) := by
  obtain ⟨a1, a2, a3, a4, a5, a6, a7, a8⟩ := h
  obtain ⟨k, k1', k2'⟩ := h0
  have e : x + 1 = Int32.ofNat (k + 1) := by rw [k2']; exact m_n_add k 1
  refine ⟨⟨k + 1, by omega, by rw [fup_eq]; exact e⟩, ?_, a1, a2, a3, a4, a5, a6, a7, a8⟩
  rw [fup_eq, e]
  intro q
  have := congrArg Int32.toInt q
  rw [Int32.toInt_ofNat_of_lt (by omega)] at this
  have e1 : (0 : Int32).toInt = 0 := rfl
  omega
/-- update() -/
theorem op_update (hF : 400 < F) (fV : FaVer I) (cU : ClUp I I') (h : RA I T S X Y Z Q [] [] 0 rs c k1 k2) :
    (∃ v T' S', D_c_EdgeHouse_update F 512 T = some (v, T') ∧ D_m_update F S = some (v, S') ∧ S'.1 0 = 0 ∧ RA I' T' S' X Y Z Q [] [] 0 rs c (k1 + 1) (k2 + 10)) ∨
    (∃ T1 T2 S', D_c_Reader_readThing F 513 T = some (none, T1) ∧ D_c_Reader_empty F 513 T1 = some T2 ∧ D_m_update F S = some (0, S') ∧ S'.1 0 = 1 ∧ RA I' T2 S' X Y Z Q [] [] 0 rs c (k1 + 1) (k2 + 10)) := by
  obtain ⟨hR, hcost, hIv⟩ := id h
  obtain ⟨cU1, cU2⟩ := cU _ _ _ _ _ _ _ hIv
  rcases up_read (F := F) hF hR with ⟨T1, T2, S1, pa, y1, y2, y0, y3, y4, y5, y6, y7, y8, y9, y10, y11, y12, y13⟩ | ⟨T1, T2, S1, y1, y2, y0, y3, y4, y5, y6, y7, y8⟩
  · left
    obtain ⟨A, hA⟩ : ∃ A, A = T.2.1 := ⟨_, rfl⟩
    rw [← hA] at y1 y11 y13
    have hp : pa < 32 := by omega
    obtain ⟨v, hv⟩ : ∃ v, v = rd S1 590 pa := ⟨_, rfl⟩
    have fv : few 512 v := by
      have := fV _ _ _ _ _ _ _ hIv pa hp
      rw [← y8] at this
      rw [hv]
      exact this
    obtain ⟨d, hd⟩ : ∃ d, d = fup (tdv S1) 0 (v + 1) := ⟨_, rfl⟩
    have okd : okT d := by rw [hd]; exact okT.up y12 fv
    have d0 : d 0 = v + 1 := by rw [hd]; exact fup_eq
    have dn : ∀ i, 1 ≤ i → i < 9 → d i = tdv S1 i := fun i hi _ => by rw [hd]; exact fup_ne (by omega)
    obtain ⟨S5, m1, m2⟩ := m_upd (F := F) (d := d) hp y10 y12.2.2.2.2.1 y12.2.2.2.2.2.1 (by rw [d0, hv]) dn y3
    obtain ⟨TT, hTT⟩ : ∃ z, z = tset T2 A (cTold (Int32.ofNat pa) d) := ⟨_, rfl⟩
    have R1 : RB TT (up1 S1 0 0) X Y Z Q [] [] 0 rs c := by rw [hTT]; exact (y13 _ rfl).i0
    have hH2 : T2.1 512 = some (house S1.1) := y4.2.1
    obtain ⟨⟨ft, t1, _⟩, f8, t3, t4⟩ := id y4.2.2.2.2.2.2.2.2.2.1
    have okN2 : okN T := hR.1.1
    have nA : ∀ b, b = 512 ∨ b = 513 ∨ b = 517 ∨ b = 518 → ¬ b = A := by
      obtain ⟨⟨ft', t1', _⟩, f8', t3', t4'⟩ := id hR.2.2.2.2.2.2.2.2.2.1
      have l1 := okN2 _ _ t3'
      intro b hb
      omega
    have TT1 : TT.1 517 = some (.inr (.inl (6, 32, ft))) := by rw [hTT]; exact tset_o t1 (nA _ (by omega))
    have TT3 : TT.1 518 = some (.inr (.inl (0, 32, f8))) := by rw [hTT]; exact tset_o t3 (nA _ (by omega))
    obtain ⟨T', hT'⟩ : ∃ z, z = tset (tset TT 518 (.inr (.inl (0, 32, fun j => if j = pa then .int (d 0) else f8 j)))) 517 (.inr (.inl (6, 32, fun j => if j = pa then .ref A else ft j))) := ⟨_, rfl⟩
    obtain ⟨R2, cs2⟩ := R1.thing (A := A) hp (by rw [hTT]; exact tset_at) okd TT1 TT3 m2 hT'
    have cs1 : Cs T TT 1 10 := by rw [hTT]; exact (y5.trans (Cs.cell y11 rfl rfl)).mono (by decide) (by decide)
    obtain ⟨w1, w2, w3⟩ := m2.views (by rw [d0, hv, rd_up1])
    obtain ⟨x1, x2, x3⟩ := i0_views (S := S1) (x := 0)
    obtain ⟨T3, hT3⟩ : ∃ z, z = tset T2 518 (.inr (.inl (0, 32, fun j => if j = pa then .int (d 0) else f8 j))) := ⟨_, rfl⟩
    obtain ⟨T4, hT4⟩ : ∃ z, z = tset T3 A (cTold (Int32.ofNat pa) d) := ⟨_, rfl⟩
    have e45 : tset T4 517 (.inr (.inl (6, 32, fun j => if j = pa then .ref A else ft j))) = T' := by
      rw [hT4, hT3, hT', hTT, tset_comm (nA 518 (by omega))]
    have T3H : T3.1 512 = some (house S1.1) := by rw [hT3]; exact tset_o hH2 (by decide)
    have T3A : T3.1 A = some (cTold (Int32.ofNat pa) (tdv S1)) := by rw [hT3]; exact tset_o y11 (fun q => nA 518 (by omega) q.symm)
    have T38 : T3.1 518 = some (.inr (.inl (0, 32, fun j => if j = pa then .int (d 0) else f8 j))) := by rw [hT3]; exact tset_at
    have T4H : T4.1 512 = some (house S1.1) := by rw [hT4]; exact tset_o T3H (nA 512 (by omega))
    have T4A : T4.1 A = some (cTold (Int32.ofNat pa) d) := by rw [hT4]; exact tset_at
    have T47 : T4.1 517 = some (.inr (.inl (6, 32, ft))) := by rw [hT4]; exact tset_o (by rw [hT3]; exact tset_o t1 (by decide)) (nA 517 (by omega))
    have T'A : T'.1 A = some (cTold (Int32.ofNat pa) d) := by rw [← e45]; exact tset_o T4A (fun q => nA 517 (by omega) q.symm)
    refine ⟨d 0, T', S5, ?_, m1, ?_, R2, ?_, ?_⟩
    · have hH : T.1 512 = some (house S.1) := hR.2.1
      have hH1 : tgr T1 512 0 0 = some (some 513) := Hr0 (y0.trans hH2)
      have cl : ∀ U : tT, (∃ L0 g0 a0 b0 d0, U.1 513 = some (cRd L0 g0 a0 b0 d0)) → tcl U 513 1 = some () := fun U ⟨L0, g0, a0, b0, d0, q⟩ => tcl_o q
      have cl0 : tcl T 513 1 = some () := by
        obtain ⟨t, L, g, a, b, d', f2, f3, q1', _⟩ := RRd.tape hR.2.2.2.2.2.2.2.2.2.2.2.2.1
        exact tcl_o q1'
      have cl1 : tcl T1 513 1 = some () := by
        unfold D_c_Reader_empty at y2
        cases e : tpi T1 513 1 1 (0 : Int32) with
        | none => rw [e] at y2; cases y2
        | some U =>
          obtain ⟨fs, q1', _⟩ := tp_ok e
          exact tcl_o q1'
      have ver : tai T2 518 0 (Int32.ofNat pa) = some v := by
        unfold tai
        rw [ta_o t3 hp (by decide), Option.map_some, t4 pa hp, hv]
      have ver3 : tai T3 518 0 (Int32.ofNat pa) = some (d 0) := by
        unfold tai
        rw [ta_o T38 hp (by decide), Option.map_some, if_pos rfl]
        rfl
      have s1 : tasi T2 518 (Int32.ofNat pa) (v + 1) = some T3 := by
        unfold tasi
        rw [tas_n t3 hp (by decide), hT3, d0]
      have s2 : tpi T3 A 13 1 (d 0) = some T4 := (tp_o T3A (show 1 < 10 by decide)).trans (by rw [hT4, hd]; rfl)
      have s3 : tasr T4 517 6 (Int32.ofNat pa) (some A) = some T' := by
        rw [← e45]
        have q : tasr T4 517 6 (Int32.ofNat pa) (some A) = tas T4 517 6 (Int32.ofNat pa) (.ref A) := by
          unfold tasr
          simp only [T4A, cTold]
          rw [if_pos (by decide)]
        rw [q]
        exact tas_n T47 hp (by decide)
      have g0 : tgi T2 A 13 0 = some (Int32.ofNat pa) := tgi_o y11 rfl
      have g3 : tgi T3 A 13 0 = some (Int32.ofNat pa) := tgi_o T3A rfl
      have g4 : tgi T4 A 13 0 = some (Int32.ofNat pa) := tgi_o T4A rfl
      have g5 : tgi T' A 13 1 = some (d 0) := tgi_o T'A rfl
      have isP : D_c_EdgeHouse_isPath F (Int32.ofNat pa) T2 = some 1 := by
        unfold D_c_EdgeHouse_isPath
        rw [m_c1_ltf (by omega), cond_false, show (32 : Int32) = Int32.ofNat 32 from rfl, ge_n (by omega) (by decide), decide_eq_false (by omega)]
        rfl
      unfold D_c_EdgeHouse_update
      simp only [Hr0 hH, Option.bind_some, cl0, y1, bd2, hH1, cl1, y2, nc, g0, isP, show m_c1 .ne (1 : Int32) = true from rfl, cond_true, Hr2 hH2, ver, s1, Hr2 T3H, g3, ver3, s2, Hr1 T4H, g4, s3, g5]
    · rw [m2.2 0]; exact up1_at
    · have := cost_step hcost (cs1.trans cs2) hR.1
      exact ⟨by omega, by omega⟩
    · rw [w1, w2, w3, x1, x2, x3, y6, y7, y8]
      refine cU2 pa d hp okd ?_
      rw [d0, hv]
      show rd S1 590 pa + 1 = vS S 5 pa + 1
      rw [← y8]
      rfl
  · right
    obtain ⟨x1, x2, x3⟩ := i0_views (S := S1) (x := 1)
    refine ⟨T1, T2, up1 S1 0 1, y1, y2, ?_, up1_at, y4.i0, ?_, ?_⟩
    · unfold D_m_update
      rw [y3]
      rfl
    · have := cost_step hcost y5 hR.1
      exact ⟨by omega, by omega⟩
    · rw [x1, x2, x3, y6, y7, y8]
      exact cU1
end
