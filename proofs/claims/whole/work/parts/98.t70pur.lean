/-! purge(by, what): both. -/
section
variable {I I' : Iv} {T T1 : tT} {S S' S3 : mS} {X Y : Nat → List (Nat × Nat)} {Z : Nat → List Fz} {Q cz Pd : List Rq} {j0 c F n k k1 k2 : Nat} {rs : List Nat}
theorem RB.ord {o : Nat} {b w : Int32} {fb fw : Nat → Value} (h : RB T S X Y Z Q cz Pd j0 rs c) (ho : S.1 37 = Int32.ofNat o) (ho6 : o < 60) (hb : T.1 521 = some (.inr (.inl (0, 61, fb)))) (hw : T.1 522 = some (.inr (.inl (0, 61, fw)))) (hp : isPu b w) (st : ∀ x c9, T.1 x = some c9 → ¬ x = 512 → ¬ x = 521 → ¬ x = 522 → T1.1 x = some c9) (t1 : T1.1 512 = some (house S'.1)) (t2 : T1.1 521 = some (.inr (.inl (0, 61, fun j => if j = o + 1 then .int b else fb j)))) (t3 : T1.1 522 = some (.inr (.inl (0, 61, fun j => if j = o + 1 then .int w else fw j)))) (hL : okL T1) (hi : ∀ i, ¬ i = 37 → ¬ i = 38 → S'.1 i = S.1 i) (i37 : S'.1 37 = Int32.ofNat (o + 1)) (hr : ∀ a k, rd S' a k = rd S a k) : RB T1 S' X Y Z Q cz Pd j0 rs c := by
  obtain ⟨r1, r2, r3, r4, r5, r6, r7, r8, r9, r10⟩ := id h
  have hH : T.1 512 = some (house S.1) := r2
  have kq : ∀ {A K : List Nat}, (512 ∉ A ∧ 521 ∉ A ∧ 522 ∉ A) → (0 ∉ K ∧ 20 ∉ K) → Kq A K T T1 := by
    intro A K hA hK x c9 hx hk'
    rcases hk' with q | q
    · refine st x c9 hx (fun e => ?_) (fun e => ?_) (fun e => ?_)
      · rw [e, hH] at hx; cases hx; exact hK.1 q
      · rw [e, hb] at hx; cases hx; exact hK.2 q
      · rw [e, hw] at hx; cases hx; exact hK.2 q
    · exact st x c9 hx (fun e => hA.1 (e ▸ q)) (fun e => hA.2.1 (e ▸ q)) (fun e => hA.2.2 (e ▸ q))
  have k8 : K8 T T1 := fun x t m f hx hf => st x _ hx (fun e => by rw [e, hH] at hx; cases hx) (fun e => by rw [e, hb] at hx; cases hx; revert hf; decide) (fun e => by rw [e, hw] at hx; cases hx; revert hf; decide)
  have ag : ∀ as is, (∀ i ∈ is, ¬ i = 37 ∧ ¬ i = 38) → Ag as is S S' := fun as is q => ⟨fun a ha k => hr a k, fun i hi' => hi i (q i hi').1 (q i hi').2⟩
  have hN : RNodes T1 S' := by
    obtain ⟨⟨f9, n1, n2⟩, n3, n4⟩ := r5
    refine ⟨⟨f9, st _ _ n1 (by decide) (by decide) (by decide), n2⟩, fun m m1 m2 => ?_, fun m m1 m2 => ?_⟩
    · have e : nodeC S' m = nodeC S m := by
        unfold nodeC
        simp only [hr]
      rw [e, hr]
      exact ⟨st _ _ (n3 m m1 m2).1 (by omega) (by omega) (by omega), (n3 m m1 m2).2⟩
    · obtain ⟨g', a1, a2, a3⟩ := n4 m m1 m2
      exact ⟨g', st _ _ a1 (by omega) (by omega) (by omega), by rw [hr]; exact a2, by rw [hr]; exact a3⟩
  have hX : RX T1 S' := by
    obtain ⟨e1, e2, e3, e4, e5⟩ := r10
    refine ⟨e1.fr (kq (by decide) (by decide)) (ag _ _ (by decide)), ?_, fun m m1 m2 => ?_, e4.fa (kq (by decide) (by decide)) (ag _ _ (by decide)), by rw [hr]; exact e5⟩
    · obtain ⟨o', fb', fw', u1, u2, u3, u4, u5, u6, u7⟩ := id e2
      have oo : o' = o := by
        rw [ho] at u1
        have := congrArg Int32.toNatClampNeg u1
        rw [m_n_cl (by omega), m_n_cl (by omega)] at this
        exact this.symm
      subst oo
      have fbb : fb' = fb := by rw [hb] at u3; cases u3; rfl
      have fww : fw' = fw := by rw [hw] at u4; cases u4; rfl
      subst fbb fww
      refine ⟨o' + 1, _, _, i37, by omega, t2, t3, fun k k1 k2 => ?_, fun m m1 m2 => ?_, fun k a1 a2 a3 => ?_⟩
      · by_cases e : k = o' + 1
        · rw [if_pos e, if_pos e]
          exact hp
        · rw [if_neg e, if_neg e]
          exact u5 k k1 (by omega)
      · obtain ⟨fk, K, y1, y2, y3, y4, y5⟩ := u6 m m1 m2
        refine ⟨fk, K, st _ _ y1 (by omega) (by omega) (by omega), by rw [hr]; exact y2, y3, fun i hi' => ?_, fun j a1 a2 => ?_⟩
        · obtain ⟨j, v1, v2, v3, v4, v5, v6, v7⟩ := y4 i hi'
          exact ⟨j, v1, by omega, by rw [hr]; exact v3, by rw [hr]; simp only [if_neg (show ¬ j = o' + 1 by omega)]; exact v4, by rw [hr]; simp only [if_neg (show ¬ j = o' + 1 by omega)]; exact v5, v6, by rw [hr]; exact v7⟩
        · rcases y5 j a1 a2 with q | ⟨q1', i, q2', q3'⟩
          · exact Or.inl q
          · exact Or.inr ⟨q1', i, q2', by rw [hr]; exact q3'⟩
      · have e9 : ∀ i, mRow S' k i = mRow S k i := fun i => hr _ _
        rw [hi 77 (by decide) (by decide)] at a1
        obtain ⟨j, v1, v2, v3, v4, v5⟩ := u7 k a1 a2 ((e9 0).symm.trans a3)
        exact ⟨j, v1, by omega, (e9 3).trans v3, by rw [e9 5, if_neg (by omega)]; exact v4, by rw [e9 4, if_neg (by omega)]; exact v5⟩
    · obtain ⟨g', k', a1, a2, a3⟩ := e3 m m1 m2
      refine ⟨g', k', st _ _ a1 (by omega) (by omega) (by omega), st _ _ a2 (by omega) (by omega) (by omega), ?_⟩
      simp only [hr]
      exact a3
  exact ⟨hL, t1, r3.fr (kq (by decide) (by decide)) (ag _ _ (by decide)), r4.fr (kq (by decide) (by decide)), hN, r6.fr (kq (by decide) (by decide)) (ag _ _ (by decide)), r7.fr (kq (by decide) (by decide)) (ag _ _ (by decide)), r8.fa (kq (by decide) (by decide)) k8 (ag _ _ (by decide)), r9.fa (kq (by decide) (by decide)) k8 (ag _ _ (by decide)), hX⟩
theorem purge_loop (hF : 100 ≤ F) {o : Nat} {b w : Int32} {fb fw : Nat → Value} (ho1 : 1 ≤ o) (ho6 : o ≤ 60) (hp : isPu b w) (hfb : m_toI (fb o) = b) (hfw : m_toI (fw o) = w) (u : Nat → Bool) : ∀ (m x : Nat) (T : tT) (S : mS), x + m = 7 → 1 ≤ x → RB T S X Y Z Q cz Pd j0 rs c → S.1 37 = Int32.ofNat o → T.1 521 = some (.inr (.inl (0, 61, fb))) → T.1 522 = some (.inr (.inl (0, 61, fw))) → (∀ n, m_c1 .ne (rd S 591 n) = u n) → ∀ f g, m < f → m < g → ∃ T' S', D_c_EdgeHouse_purge_85 F f 512 b w (Int32.ofNat x) T = some (Int32.ofNat o, T') ∧ D_m_purge_61 F g b w (Int32.ofNat x) S = some (Int32.ofNat o, S') ∧ RB T' S' X Y Z Q cz Pd j0 rs c ∧ vM S' = puM u (Int32.ofNat o) b w m x (vM S) ∧ vE S' = vE S ∧ vS S' = vS S ∧ Cs T T' m (19 * m) := by
  intro m
  induction m with
  | zero =>
    intro x T S hx hx1 h h37 hb hw hu f g hf hg
    obtain ⟨f, rfl⟩ : ∃ y, f = y + 1 := ⟨f - 1, by omega⟩
    obtain ⟨g, rfl⟩ : ∃ y, g = y + 1 := ⟨g - 1, by omega⟩
    have hH : T.1 512 = some (house S.1) := h.2.1
    refine ⟨T, S, ?_, ?_, h, rfl, rfl, rfl, Cs.refl⟩
    · unfold D_c_EdgeHouse_purge_85
      rw [show m_c2 .gt (Int32.ofNat x) (6 : Int32) = decide (6 < x) from gt_n (by omega) (by decide), decide_eq_true (by omega), cond_true, Hg13 hH, h37]
      rfl
    · unfold D_m_purge_61
      rw [show m_c2 .ge (Int32.ofNat x) (7 : Int32) = decide (7 ≤ x) from ge_n (by omega) (by decide), decide_eq_true (by omega), cond_true, h37]
  | succ m ih =>
    intro x T S hx hx1 h h37 hb hw hu f g hf hg
    obtain ⟨f, rfl⟩ : ∃ y, f = y + 1 := ⟨f - 1, by omega⟩
    obtain ⟨g, rfl⟩ : ∃ y, g = y + 1 := ⟨g - 1, by omega⟩
    have hH : T.1 512 = some (house S.1) := h.2.1
    have x7 : x < 7 := by omega
    obtain ⟨u1, _⟩ := h.2.2.2.2.1.up hx1 x7
    have g5 := h.2.2.2.2.1.get x7
    have a591 : aget 4 7 S 591 (Int32.ofNat x) = some (rd S 591 x) := aget_n (Or.inr rfl) x7 (by decide)
    have hux := hu x
    have cst : D_c_EdgeHouse_purge_85 F (f + 1) 512 b w (Int32.ofNat x) T = cond (u x) ((bd2 (tnw T 9) fun a100 T101 => (tgi T101 512 0 13).bind fun v105 => (D_c_Message_init F a100 (2 : Int32) (0 : Int32) (Int32.ofNat x) v105 T101).bind fun T108 => (tpi T108 a100 9 4 w).bind fun T112 => (tpi T112 a100 9 5 b).bind fun T116 => (tcl T116 512 0).bind fun _ => D_c_EdgeHouse_send F 512 (some a100) T116).bind fun T123 => D_c_EdgeHouse_purge_85 F f 512 b w (Int32.ofNat (x + 1)) T123) (D_c_EdgeHouse_purge_85 F f 512 b w (Int32.ofNat (x + 1)) T) := by
      conv => lhs; unfold D_c_EdgeHouse_purge_85
      rw [show m_c2 .gt (Int32.ofNat x) (6 : Int32) = decide (6 < x) from gt_n (by omega) (by decide), decide_eq_false (by omega), cond_false]
      simp only [Hr3 hH, Option.bind_some, g5, u1, D_c_EdgeHouse_purge_140, q1]
      rw [show m_c1 .eq (rd S 591 x) = !u x by rw [← hux]; simp [m_c1]]
      cases u x
      · rfl
      · simp only [Bool.not_true, cond_false, cond_true, bd2, Option.bind_assoc]
    have mst : D_m_purge_61 F (g + 1) b w (Int32.ofNat x) S = cond (u x) ((D_m_blank F (2 : Int32) (0 : Int32) (Int32.ofNat x) (S.1 37) (0 : Int32) S).bind fun S31 => (aput 22 S31 625 (4 : Int32) w).bind fun S33 => (aput 22 S33 625 (5 : Int32) b).bind fun S35 => (D_m_post F S35).bind fun S37 => D_m_purge_61 F g b w (Int32.ofNat (x + 1)) S37) (D_m_purge_61 F g b w (Int32.ofNat (x + 1)) S) := by
      conv => lhs; unfold D_m_purge_61
      rw [show m_c2 .ge (Int32.ofNat x) (7 : Int32) = decide (7 ≤ x) from ge_n (by omega) (by decide), decide_eq_false (by omega), cond_false, a591, Option.bind_some, hux]
      simp only [D_m_purge_109, q1]
    cases ux : u x with
    | false =>
      rw [ux, cond_false] at cst mst
      obtain ⟨T', S', y1, y2, y3, y4, y5, y6, y7⟩ := ih (x + 1) T S (by omega) (by omega) h h37 hb hw hu f g (by omega) (by omega)
      refine ⟨T', S', cst.trans y1, mst.trans y2, y3, ?_, y5, y6, y7.mono (by omega) (by omega)⟩
      rw [y4]
      conv => rhs; unfold puM
      rw [ux]
      rfl
    | true =>
      rw [ux, cond_true] at cst mst
      obtain ⟨S31, k1', k2', k3'⟩ := m_blank (F := F) (S := S) (x1 := 2) (x2 := 0) (x3 := Int32.ofNat x) (x4 := Int32.ofNat o) (key := 0) (by omega) (by omega)
      obtain ⟨S3, hS3⟩ : ∃ y, y = up2 (up2 S31 625 4 w) 625 5 b := ⟨_, rfl⟩
      have hand : ∀ i, i < 22 → rd S3 625 i = puRow x (Int32.ofNat o) b w i := by
        intro i hi
        rw [hS3, rd_up2, rd_up2, k3', if_pos (show 625 = 625 ∧ i < 22 from ⟨rfl, hi⟩)]
        unfold puRow
        simp only [true_and]
        by_cases w5 : i = 5
        · subst w5; rfl
        · rw [if_neg w5]
          by_cases w4 : i = 4
          · subst w4; rfl
          · rw [if_neg w4]
            by_cases w0 : i = 0
            · rw [if_pos w0, if_pos w0]
            · rw [if_neg w0, if_neg w0]
              by_cases w1 : i = 1
              · subst w1; rfl
              · rw [if_neg w1]
                by_cases w2 : i = 2
                · rw [if_pos w2, if_pos w2]
                · rw [if_neg w2, if_neg w2]
                  by_cases w3 : i = 3
                  · rw [if_pos w3, if_pos w3]
                  · rw [if_neg w3, if_neg w3, if_neg w4, if_neg w5, if_neg w4, if_neg w5]
      obtain ⟨T2, S2, p1', p2', p3', p4', p5', p6', p7', p8', p9'⟩ := purge_core (F := F) (T := T) (S := S) (S3 := S3) (n := x) (j := o) (b := b) (w := w) (by omega) h.1.1 h.2.1 h.2.2.1 h37 ho1 ho6 hp (fun i => by rw [hS3, up2_1, up2_1]; exact k2' i) (fun a k ha => by rw [hS3, rd_up2, if_neg (fun q => ha q.1), rd_up2, if_neg (fun q => ha q.1), k3', if_neg (fun q => ha q.1)]) hand hx1 x7
      have R2 : RB T2 S2 X Y Z Q cz Pd j0 rs c := h.postP (p9' h.1).1 p3' p4' p5' p6' p7' p8' h37 ho6 hb hw ho1 (Nat.le_refl _) rfl hfb.symm hfw.symm
      obtain ⟨T', S', y1, y2, y3, y4, y5, y6, y7⟩ := ih (x + 1) T2 S2 (by omega) (by omega) R2 ((p6' 37 (by decide) (by decide)).trans h37) (p5'.1 _ _ hb (by decide)) (p5'.1 _ _ hw (by decide)) (fun n => by rw [p7' 591 n (by decide) (by decide)]; exact hu n) f g (by omega) (by omega)
      have vE' : vE S2 = vE S := vE_ag ⟨fun a ha k => p7' _ _ (by revert a; decide) (by revert a; decide), fun i hi => by cases hi⟩
      have vS' : vS S2 = vS S := vS_ag ⟨fun a ha k => p7' _ _ (by revert a; decide) (by revert a; decide), fun i hi' => p6' i (by revert i; decide) (by revert i; decide)⟩
      refine ⟨T', S', ?_, ?_, y3, ?_, y5.trans vE', y6.trans vS', (p9'.trans y7).mono (by omega) (by omega)⟩
      · rw [cst, p1', Option.bind_some]
        exact y1
      · have b1 : D_m_blank F (2 : Int32) (0 : Int32) (Int32.ofNat x) (Int32.ofNat o) (0 : Int32) S = some S31 := k1'
        have e4 : aput 22 S31 625 (4 : Int32) w = some (up2 S31 625 4 w) := h625 (k := 4) (by decide)
        have e5 : aput 22 (up2 S31 625 4 w) 625 (5 : Int32) b = some S3 := by rw [hS3]; exact h625 (k := 5) (by decide)
        rw [mst, h37, b1, Option.bind_some, e4, Option.bind_some, e5, Option.bind_some, p2', Option.bind_some]
        exact y2
      · rw [y4, p8'.view]
        conv => rhs; unfold puM
        rw [ux, if_pos rfl]
theorem op_purge (hF : 100 ≤ F) (hLe : Le I I') (cG : ClPg I I') {x y : Int32} (h : RA I T S X Y Z Q [] [] 0 rs c k1 k2) : ∃ v T' S' k1' k2', D_c_EdgeHouse_purge F 512 x y T = some (v, T') ∧ D_m_purge F x y S = some (v, S') ∧ RA I' T' S' X Y Z Q [] [] 0 rs c k1' k2' := by
  have h0 := h.zero
  obtain ⟨S0, hS0⟩ : ∃ x, x = up1 S 0 0 := ⟨_, rfl⟩
  rw [← hS0] at h0
  obtain ⟨hR, hcost, hIv⟩ := id h0
  have hH : T.1 512 = some (house S0.1) := hR.2.1
  have stay : ∃ v T' S' k1' k2', (some ((-1 : Int32), T) : Option (Int32 × tT)) = some (v, T') ∧ (some ((-1 : Int32), S0) : Option (Int32 × mS)) = some (v, S') ∧ RA I' T' S' X Y Z Q [] [] 0 rs c k1' k2' := ⟨-1, T, S0, k1, k2, rfl, rfl, hR, hcost, hLe _ _ _ _ _ _ _ _ hIv⟩
  have hd : (isPu x y ∧ D_c_EdgeHouse_purge F 512 x y T = ((tgi T 512 0 13).bind fun v28 => cond (m_c2 .lt v28 (60 : Int32)) ((tgi T 512 0 13).bind fun v33 => (tpi T 512 0 13 (v33 + (1 : Int32))).bind fun T36 => (tpi T36 512 0 12 (0 : Int32)).bind fun T40 => (tgr T40 512 0 5).bind fun v44 => (tgi T40 512 0 13).bind fun v48 => (v44).bind fun a51 => (tasi T40 a51 v48 x).bind fun T54 => (tgr T54 512 0 6).bind fun v58 => (tgi T54 512 0 13).bind fun v62 => (v58).bind fun a65 => (tasi T54 a65 v62 y).bind fun T68 => D_c_EdgeHouse_purge_85 F F 512 x y (1 : Int32) T68) (some (((-1) : Int32), T))) ∧ D_m_purge F x y S = cond (m_c2 .ne (S0.1 37) (60 : Int32)) ((fput S0 37 ((S0.1 37) + (1 : Int32))).bind fun S12 => (fput S12 38 (0 : Int32)).bind fun S14 => D_m_purge_61 F F x y (1 : Int32) S14) (some (((-1) : Int32), S0))) ∨ (D_c_EdgeHouse_purge F 512 x y T = some (-1, T) ∧ D_m_purge F x y S = some (-1, S0)) := by
    unfold D_c_EdgeHouse_purge D_m_purge D_c_EdgeHouse_isPath
    simp only [fput, Option.bind_some]
    rw [← hS0]
    rcases i_cases x with hx | ⟨b, hb, rfl⟩
    · right
      have w1 : m_c1 .ne x = true := by
        have : ¬ x = 0 := fun e => by rw [e] at hx; exact absurd hx (by decide)
        simp [m_c1, this]
      have w2 : m_c2 .ne x (1 : Int32) = true := by
        have : ¬ x = 1 := fun e => by rw [e] at hx; exact absurd hx (by decide)
        simp [m_c2, this]
      rw [w1, w2, c1_neg hx]
      exact ⟨rfl, rfl⟩
    · rw [show m_c1 .lt (Int32.ofNat b) = false from m_c1_ltf hb, cond_false, show m_c2 .gt (Int32.ofNat b) (1 : Int32) = decide (1 < b) from gt_n hb (by decide), show m_c1 .ne (Int32.ofNat b) = decide (¬ b = 0) from ne_n (b := 0) hb (by decide), show m_c2 .ne (Int32.ofNat b) (1 : Int32) = decide (¬ b = 1) from ne_n hb (by decide)]
      by_cases b0 : b = 0
      · subst b0
        rw [decide_eq_false (show ¬ ¬ (0 : Nat) = 0 by omega), decide_eq_false (show ¬ 1 < 0 by omega), cond_false, cond_false, cond_false, decide_eq_true (show ¬ (0 : Nat) = 1 by omega)]
        rcases i_cases y with hy | ⟨w, hw, rfl⟩
        · right
          rw [c1_neg hy]
          exact ⟨rfl, rfl⟩
        · rw [show m_c1 .lt (Int32.ofNat w) = false from m_c1_ltf hw, cond_false, cond_false, show m_c2 .ge (Int32.ofNat w) (32 : Int32) = decide (32 ≤ w) from ge_n hw (by decide), Option.bind_some, show m_c2 .gt (Int32.ofNat w) (31 : Int32) = decide (31 < w) from gt_n hw (by decide)]
          by_cases w2 : w < 32
          · left
            rw [decide_eq_false (show ¬ 32 ≤ w by omega), decide_eq_false (show ¬ 31 < w by omega), cond_false, cond_false]
            exact ⟨Or.inl ⟨rfl, w, w2, rfl⟩, rfl, rfl⟩
          · right
            rw [decide_eq_true (show 32 ≤ w by omega), decide_eq_true (show 31 < w by omega)]
            exact ⟨rfl, rfl⟩
      · by_cases b1 : b = 1
        · subst b1
          rw [decide_eq_true (show ¬ (1 : Nat) = 0 by omega), decide_eq_false (show ¬ 1 < 1 by omega), cond_true, cond_false, cond_true, decide_eq_false (show ¬ ¬ (1 : Nat) = 1 by omega), cond_false]
          rcases i_cases y with hy | ⟨w, hw, rfl⟩
          · right
            rw [c1_neg hy]
            exact ⟨rfl, rfl⟩
          · rw [show m_c1 .lt (Int32.ofNat w) = false from m_c1_ltf hw, cond_false, cond_false, show m_c2 .ge (Int32.ofNat w) (8 : Int32) = decide (8 ≤ w) from ge_n hw (by decide), Option.bind_some, show m_c2 .gt (Int32.ofNat w) (7 : Int32) = decide (7 < w) from gt_n hw (by decide)]
            by_cases w2 : w < 8
            · left
              rw [decide_eq_false (show ¬ 8 ≤ w by omega), decide_eq_false (show ¬ 7 < w by omega), cond_false, cond_false]
              exact ⟨Or.inr ⟨rfl, w, w2, rfl⟩, rfl, rfl⟩
            · right
              rw [decide_eq_true (show 8 ≤ w by omega), decide_eq_true (show 7 < w by omega)]
              exact ⟨rfl, rfl⟩
        · right
          rw [decide_eq_true b0, decide_eq_true b1, decide_eq_true (show 1 < b by omega)]
          exact ⟨rfl, rfl⟩
  rcases hd with ⟨hp, c1, m1⟩ | ⟨c1, m1⟩
  · obtain ⟨o, fb, fw, u1, u2, u3, u4, u5, u6, u7⟩ := hR.2.2.2.2.2.2.2.2.2.2.1
    rw [c1, m1, Hg13 hH, u1]
    simp only [Option.bind_some]
    rw [show m_c2 .lt (Int32.ofNat o) (60 : Int32) = decide (o < 60) from lt_n (by omega) (by decide), show m_c2 .ne (Int32.ofNat o) (60 : Int32) = decide (¬ o = 60) from ne_n (by omega) (by decide)]
    by_cases ho : o < 60
    · rw [decide_eq_true ho, decide_eq_true (show ¬ o = 60 by omega), cond_true, cond_true]
      simp only [fput, Option.bind_some, p1]
      obtain ⟨S1, hS1⟩ : ∃ z, z = up1 (up1 S0 37 (Int32.ofNat (o + 1))) 38 0 := ⟨_, rfl⟩
      rw [← hS1]
      have i1 : ∀ i, ¬ i = 37 → ¬ i = 38 → S1.1 i = S0.1 i := fun i w1 w2 => by rw [hS1, up1_1, if_neg w2, up1_1, if_neg w1]
      have i37 : S1.1 37 = Int32.ofNat (o + 1) := by rw [hS1, up1_1, if_neg (by decide), up1_1, if_pos rfl]
      have r1 : ∀ a k, rd S1 a k = rd S0 a k := fun a k => by rw [hS1, rd_up1, rd_up1]
      have hS1f : S1.1 = fup (fup S0.1 37 (Int32.ofNat (o + 1))) 38 0 := by
        funext i
        rw [hS1, up1_1, up1_1]
        rfl
      obtain ⟨T40, hT40⟩ : ∃ z, z = tset T 512 (house S1.1) := ⟨_, rfl⟩
      have e1 : tpi T 512 0 13 (Int32.ofNat (o + 1)) = some (tset T 512 (house (fup S0.1 37 (Int32.ofNat (o + 1))))) := Hp13 hH
      have e2 : tpi (tset T 512 (house (fup S0.1 37 (Int32.ofNat (o + 1))))) 512 0 12 0 = some T40 := (Hp12 tset_at).trans (by rw [tset_tset, hT40, hS1f])
      have h40 : T40.1 512 = some (house S1.1) := by rw [hT40]; exact tset_at
      have a521 : T40.1 521 = some (.inr (.inl (0, 61, fb))) := by rw [hT40]; exact tset_o u3 (by decide)
      have a522 : T40.1 522 = some (.inr (.inl (0, 61, fw))) := by rw [hT40]; exact tset_o u4 (by decide)
      have w1 : tasi T40 521 (Int32.ofNat (o + 1)) x = some (tset T40 521 (.inr (.inl (0, 61, fun j => if j = o + 1 then .int x else fb j)))) := tas_n a521 (by omega) (by decide)
      obtain ⟨T54, hT54⟩ : ∃ z, z = tset T40 521 (.inr (.inl (0, 61, fun j => if j = o + 1 then .int x else fb j))) := ⟨_, rfl⟩
      rw [← hT54] at w1
      have h54 : T54.1 512 = some (house S1.1) := by rw [hT54]; exact tset_o h40 (by decide)
      have b522 : T54.1 522 = some (.inr (.inl (0, 61, fw))) := by rw [hT54]; exact tset_o a522 (by decide)
      have w2 : tasi T54 522 (Int32.ofNat (o + 1)) y = some (tset T54 522 (.inr (.inl (0, 61, fun j => if j = o + 1 then .int y else fw j)))) := tas_n b522 (by omega) (by decide)
      obtain ⟨T68, hT68⟩ : ∃ z, z = tset T54 522 (.inr (.inl (0, 61, fun j => if j = o + 1 then .int y else fw j))) := ⟨_, rfl⟩
      rw [← hT68] at w2
      have cs0 : Cs T T68 0 0 := ((((K_tpi _ e1).trans (K_tpi _ e2)).trans (K_tasi _ w1)).trans (K_tasi _ w2)).mono (by decide) (by decide)
      have c521 : T68.1 521 = some (.inr (.inl (0, 61, fun j => if j = o + 1 then .int x else fb j))) := by rw [hT68]; exact tset_o (by rw [hT54]; exact tset_at) (by decide)
      have c522 : T68.1 522 = some (.inr (.inl (0, 61, fun j => if j = o + 1 then .int y else fw j))) := by rw [hT68]; exact tset_at
      have R1 : RB T68 S1 X Y Z Q [] [] 0 rs c := hR.ord u1 ho u3 u4 hp (fun z c9 hz n1 n2 n3 => by
        rw [hT68, tset_1, if_neg n3, hT54, tset_1, if_neg n2, hT40, tset_1, if_neg n1]
        exact hz) (by rw [hT68]; exact tset_o h54 (by decide)) c521 c522 (cs0 hR.1).1 i1 i37 r1
      obtain ⟨T', S', y1, y2, y3, y4, y5, y6, y7⟩ := purge_loop (F := F) hF (o := o + 1) (b := x) (w := y) (by omega) (by omega) hp (by rw [if_pos rfl]; rfl) (by rw [if_pos rfl]; rfl) (fun n => m_c1 .ne (rd S1 591 n)) 6 1 T68 S1 rfl (Nat.le_refl _) R1 i37 c521 c522 (fun _ => rfl) F F (by omega) (by omega)
      refine ⟨Int32.ofNat (o + 1), T', S', k1 + 6, k2 + 114, ?_, y2, y3, (by have := cost_step (cost_step hcost cs0 hR.1) y7 R1.1; exact ⟨by omega, by omega⟩), ?_⟩
      · simp only [e1, Option.bind_some, e2, Hr5 h40, Hg13 h40, i37, w1, Hr6 h54, Hg13 h54, w2]
        exact y1
      · have vM1 : vM S1 = vM S0 := vM_ag ⟨fun a _ k => r1 a k, fun i hi => i1 i (by revert i; decide) (by revert i; decide)⟩
        have vE1 : vE S1 = vE S0 := vE_ag ⟨fun a _ k => r1 a k, fun i hi => by cases hi⟩
        have vS1 : vS S1 = fun j k => if j = 2 then Int32.ofNat (o + 1) else vS S0 j k := by
          funext j k
          by_cases w : j = 2
          · subst w
            exact i37
          · rw [if_neg w]
            unfold vS
            simp only [r1, i1 70 (by decide) (by decide), i1 36 (by decide) (by decide), w, if_false]
        rw [y4, y5, y6, vM1, vE1, vS1]
        exact cG _ _ _ _ _ _ _ o x y _ hIv u1 ho hp
    · rw [decide_eq_false ho, decide_eq_false (show ¬ ¬ o = 60 by omega)]
      exact stay
  · rw [c1, m1]
    exact stay
end
