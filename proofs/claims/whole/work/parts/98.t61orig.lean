/-! A FETCH comes to the origin. -/
def orAns (N : Nat → Nat → Int32) (m : Nat → Int32) (p l fo : Nat) : Nat → Int32 := if N 4 (9 * p) = 0 then cut (stRow 0 (qM m l fo) 404) else cut (fiRow 0 (qM m l fo) (fun i => N 4 (9 * p + i)) (v_which (N 4 (9 * p + 8)) (Int32.ofNat l) (Int32.ofNat fo)) (N 2 0) (0 - N 7 0) (v_blocks (N 4 (9 * p + 1)) 0 15))
def ClOr (I : Iv) : Prop := ∀ M1 m M2 Q Z E N k1 k2 p l fo, I (M1 ++ m :: M2) Q [] Z E N k1 k2 → m 0 = 0 → m 2 = 0 → p < 32 → m 4 = Int32.ofNat p → l < 4 → fo < 2 → m 21 = Int32.ofNat (l + 4 * fo) → I (psh (M1 ++ M2) (orAns N m p l fo)) Q [] Z E N (k1 + 3) (k2 + 47)
section
variable {I : Iv} {T : tT} {S : mS} {X Y : Nat → List (Nat × Nat)} {Z : Nat → List Fz} {Q : List Rq} {j0 c F n k1 k2 : Nat} {rs : List Nat} {M1 M2 : List (Nat → Int32)}
theorem m_or_loop {x3 : Nat} (h3 : x3 + 9 ≤ 288) : ∀ (m i : Nat) (S : mS), i + m = 9 → ∀ f, m < f → ∃ S2, D_m_bringFetch_409 F f (Int32.ofNat x3) (Int32.ofNat i) S = (D_m_post F S2).bind (fun S57 => some S57) ∧ (∀ j, S2.1 j = S.1 j) ∧ ∀ a k, rd S2 a k = if a = 625 ∧ 12 + i ≤ k ∧ k < 21 then rd S 589 (x3 + (k - 12)) else rd S a k := by
  intro m
  induction m with
  | zero =>
    intro i S h f hf
    obtain ⟨f, rfl⟩ : ∃ f9, f = f9 + 1 := ⟨f - 1, by omega⟩
    rw [D_m_bringFetch_409, show (9 : Int32) = Int32.ofNat 9 from rfl, ge_n (by omega) (by omega), decide_eq_true (by omega), cond_true]
    exact ⟨S, rfl, fun _ => rfl, fun a k => by rw [if_neg (by omega)]⟩
  | succ m ih =>
    intro i S h f hf
    obtain ⟨f, rfl⟩ : ∃ f9, f = f9 + 1 := ⟨f - 1, by omega⟩
    rw [D_m_bringFetch_409, show (9 : Int32) = Int32.ofNat 9 from rfl, ge_n (by omega) (by omega), decide_eq_false (by omega), cond_false, i_add, aget_n (Or.inl rfl) (by omega) (by decide), Option.bind_some, show (12 : Int32) + Int32.ofNat i = Int32.ofNat (12 + i) from m_n_add 12 i, aput_n (by omega) (by decide), Option.bind_some, q1]
    obtain ⟨S2, g1, g2, g3⟩ := ih (i + 1) (up2 S 625 (12 + i) (rd S 589 (x3 + i))) (by omega) f (by omega)
    refine ⟨S2, g1, fun j => by rw [g2, up2_1], fun a k => ?_⟩
    rw [g3]
    simp only [rd_up2, show ¬ (589 = 625) by decide, false_and, if_false]
    by_cases e : a = 625
    · subst e
      by_cases e2 : k = 12 + i
      · subst e2
        simp only [true_and, if_neg (show ¬ (12 + (i + 1) ≤ 12 + i ∧ 12 + i < 21) by omega), if_true, if_pos (show 12 + i ≤ 12 + i ∧ 12 + i < 21 by omega)]
        congr 1
        omega
      · by_cases e3 : 12 + (i + 1) ≤ k ∧ k < 21
        · simp only [true_and, if_pos e3, if_pos (show 12 + i ≤ k ∧ k < 21 by omega)]
        · simp only [true_and, if_neg e3, if_neg e2, if_neg (show ¬ (12 + i ≤ k ∧ k < 21) by omega)]
    · simp only [e, false_and, if_false]
/-- a message's own facts, for a FETCH -/
theorem isMsg.m0 {am : Nat} {m : Nat → Int32} (h : isMsg T am m) (m0 : m 0 = 0) : ∃ gm l fo p v, T.1 am = some (cMsg gm none) ∧ (∀ i, i < 6 → gm i = m i) ∧ gm 10 = m 9 ∧ gm 13 = m 8 ∧ gm 8 = m 6 ∧ gm 9 = m 7 ∧ gm 11 = m 10 ∧ flag (m 9) ∧ p < 32 ∧ m 4 = Int32.ofNat p ∧ v < 4 ∧ m 5 = Int32.ofNat v ∧ few 16 (m 6) ∧ few 16 (m 7) ∧ l < 4 ∧ fo < 2 ∧ gm 6 = Int32.ofNat l ∧ gm 7 = Int32.ofNat fo ∧ m 21 = Int32.ofNat (l + 4 * fo) ∧ ∃ a b, m 1 = Int32.ofNat a ∧ m 2 = Int32.ofNat b ∧ ((1 ≤ a ∧ a ≤ 2 ∧ b = 0) ∨ (3 ≤ a ∧ a ≤ 6 ∧ 1 ≤ b ∧ b ≤ 2)) := by
  obtain ⟨gm, tm, c1, c2, c3, c4, c5⟩ := h
  rcases c5 with w | w | w
  · obtain ⟨_, rfl, e8, e9, e11, fl, ⟨p, hp, e4⟩, ⟨v, hv, e5⟩, f6, f7, ⟨l, fo, l1, l2, l3, l4, l5⟩, ab⟩ := w
    exact ⟨gm, l, fo, p, v, c1, c2, c3, c4, e8, e9, e11, fl, hp, e4, hv, e5, f6, f7, l1, l2, l3, l4, l5, ab⟩
  · rw [w.1] at m0; exact absurd m0 (by decide)
  · rcases w.2.2.2.2.2.2.2.2.2.2.2 with q | q
    · rw [q.1] at m0; exact absurd m0 (by decide)
    · rw [q.1] at m0; exact absurd m0 (by decide)
theorem P_origin (hF : 100 ≤ F) (cO : ClOr I) (h : RB T S X Y Z Q [] [] j0 rs c) (hcost : T.2.1 ≤ k1 + capS T ∧ T.2.2 ≤ k2 + 4 * capS T) (hM : vM S = M1 ++ M2) (hIv : I (M1 ++ cut (came S) :: M2) Q [] Z (vE S) (vS S) k1 k2) {am : Nat} (hm : isMsg T am (came S)) (m0 : came S 0 = 0) (m2 : came S 2 = 0) :
    ∃ T' S' k1' k2', D_c_EdgeHouse_takeAtOrigin F 512 (some am) T = some T' ∧ D_m_bringFetch F 0 S = some S' ∧ RA I T' S' X Y Z Q [] [] j0 rs c k1' k2' := by
  obtain ⟨gm, l, fo, p, v, c1, c2, c3, c4, e8, e9, e11, fl, hp, e4, hv, e5, ⟨fi, fi1, fi2⟩, ⟨la, la1, la2⟩, l1, l2, l3, l4, l5, ea, eb, ea1, eb1, eab⟩ := hm.m0 m0
  have hb0 : eb = 0 := by
    rw [m2] at eb1
    have := congrArg Int32.toNatClampNeg eb1
    rw [m_n_cl (by omega)] at this
    exact this.symm
  have hea : 1 ≤ ea ∧ ea ≤ 2 := by omega
  obtain ⟨r1, r2, r3, r4, r5, r6, r7, r8, r9, r10⟩ := id h
  have hN : okN T := r1.1
  have hH : T.1 512 = some (house S.1) := r2
  obtain ⟨m1, m2', m3⟩ := new_req hN
  have rq := c_req129 (F := F) (m := came S) hN c1 c2 c3 c4 e8 e9 e11 l3 l4 fl
  obtain ⟨T1, hT1⟩ : ∃ x, x = tset (tadd T (cReq (fun _ => 0) none none none) 19) T.2.1 (cReq (qM (came S) l fo) none none none) := ⟨_, rfl⟩
  have f1 : ∀ x c9, T.1 x = some c9 → T1.1 x = some c9 := by
    intro x c9 hx
    have : ¬ x = T.2.1 := fun z => by rw [z, m3] at hx; cases hx
    rw [hT1, tset_1, if_neg this, tadd_1, if_neg this]
    exact hx
  have q1' : T1.1 T.2.1 = some (cReq (qM (came S) l fo) none none none) := by rw [hT1]; exact tset_at
  have n1 : T1.2 = (T.2.1 + 1, T.2.2 + 19) := by rw [hT1]; rfl
  have N1 : okN T1 := by
    intro x c9 hx
    rw [hT1, tset_1, tadd_1] at hx
    rw [n1]
    show x < T.2.1 + 1
    split at hx
    · omega
    · exact Nat.lt_succ_of_lt (hN x c9 hx)
  have H1 : RHouse T1 S := f1 _ _ hH
  have P1 : RPost T1 S := r3.fr (fun b x hb _ => f1 b x hb) Ag.refl
  rw [← hT1] at rq
  have C0 : ∀ i, i < 22 → aget 0 22 S 628 (Int32.ofNat i) = some (came S i) := fun i hi => aget_n (Or.inl rfl) hi (by decide)
  -- the thing
  obtain ⟨⟨ft, th1, th2⟩, _⟩ := r10.1
  have th9 := th2 p hp
  have isP : D_c_EdgeHouse_isPath F (Int32.ofNat p) T1 = some 1 := by
    unfold D_c_EdgeHouse_isPath
    rw [show m_c1 .lt (Int32.ofNat p) = false from m_c1_ltf (by omega), cond_false, show m_c2 .ge (Int32.ofNat p) (32 : Int32) = decide (32 ≤ p) from ge_n (by omega) (by decide), decide_eq_false (by omega)]
    rfl
  have t4 : tgi T1 am 9 4 = some (Int32.ofNat p) := (Mg4 (f1 _ _ c1)).trans (by rw [c2 4 (by decide), e4])
  have tA : tar T1 517 6 (Int32.ofNat p) = vr (ft p) := by
    unfold tar
    rw [ta_o (f1 _ _ th1) hp (by decide), Option.bind_some]
  have cst : D_c_EdgeHouse_takeAtOrigin F 512 (some am) T = (vr (ft p)).bind fun v41 => D_c_EdgeHouse_takeAtOrigin_62 F 512 (some T.2.1) v41 T1 := by
    unfold D_c_EdgeHouse_takeAtOrigin
    simp only [Option.bind_some, Mg0 c1, c2 0 (by decide), m0, show m_c2 .ne (0 : Int32) (3 : Int32) = true from rfl, cond_true, bd2, m1, rq, t4, isP, show m_c1 .eq (1 : Int32) = false from rfl, cond_false, Hr1 H1, tA]
  -- the reference
  have key : (4 : Int32) * Int32.ofNat p + Int32.ofNat v = Int32.ofNat (4 * p + v) := by rw [k4, i_add]
  obtain ⟨S1, b1, b2, b3⟩ := m_blank (F := F) (S := S) (x1 := 1) (x2 := 0) (x3 := came S 1) (x4 := came S 3) (key := 4 * p + v) (by omega) (by omega)
  have a628 : ∀ (X : mS) (k : Nat), k < 22 → (∀ j, rd X 628 j = rd S 628 j) → aget 0 22 X 628 (Int32.ofNat k) = some (came S k) := fun X k hk hX => (aget_n (Or.inl rfl) hk (by decide)).trans (by rw [hX]; rfl)
  have r628 : ∀ j, rd S1 628 j = rd S 628 j := fun j => by rw [b3, if_neg (by omega)]
  have r589 : ∀ j, rd S1 589 j = rd S 589 j := fun j => by rw [b3, if_neg (by omega)]
  have x4 : aget 0 22 S 628 (4 : Int32) = some (Int32.ofNat p) := (a628 S 4 (by decide) (fun _ => rfl)).trans (by rw [e4])
  have x5 : aget 0 22 S 628 (5 : Int32) = some (Int32.ofNat v) := (a628 S 5 (by decide) (fun _ => rfl)).trans (by rw [e5])
  have x6 : aget 0 22 S 628 (6 : Int32) = some (Int32.ofNat fi) := (a628 S 6 (by decide) (fun _ => rfl)).trans (by rw [fi2])
  have x7 : aget 0 22 S 628 (7 : Int32) = some (Int32.ofNat la) := (a628 S 7 (by decide) (fun _ => rfl)).trans (by rw [la2])
  have x1 : aget 0 22 S 628 (1 : Int32) = some (came S 1) := a628 S 1 (by decide) (fun _ => rfl)
  have x3 : aget 0 22 S 628 (3 : Int32) = some (came S 3) := a628 S 3 (by decide) (fun _ => rfl)
  have u6 : ∀ (X : mS) (x : Int32), aput 22 X 625 (6 : Int32) x = some (up2 X 625 6 x) := fun X x => h625 (k := 6) (by decide)
  have g589 : ∀ (X : mS) (j : Nat), j < 288 → aget 0 288 X 589 (Int32.ofNat j) = some (rd X 589 j) := fun X j hj => aget_n (Or.inl rfl) hj (by decide)
  have k9p : (9 : Int32) * Int32.ofNat p = Int32.ofNat (9 * p) := k9 p
  have few0 : few 32 (qM (came S) l fo 0) := ⟨p, hp, e4⟩
  have few1 : few 4 (qM (came S) l fo 1) := ⟨v, hv, e5⟩
  have ed1 : qM (came S) l fo 15 = Int32.ofNat ea := ea1
  have n48 : vS S 4 (9 * p) = rd S 589 (9 * p) := rfl
  have finish : ∀ (T' : tT) (S' : mS) (ans : Nat → Int32), D_c_EdgeHouse_takeAtOrigin F 512 (some am) T = some T' → RHouse T' S' → RPost T' S' → FrC [512, 523] T1 T' → (∀ i, ¬ i = 77 → ¬ i = 39 → S'.1 i = S.1 i) → (∀ b k, ¬ b = 624 → ¬ b = 625 → rd S' b k = rd S b k) → pst S S' ans → ¬ ans 0 = 2 → cut ans = orAns (vS S) (cut (came S)) p l fo → RA I T' S' X Y Z Q [] [] j0 rs c (k1 + 3) (k2 + 47) := by
    intro T' S' ans hT hH' hP' hFr hi hr hps hn2 hans
    have cs : Cs T T' 3 47 := K_c_EdgeHouse_takeAtOrigin (F := F) _ hT
    have fr : FrC [512, 523] T T' := by
      refine ⟨fun x c9 hx hl => hFr.1 x c9 (f1 x c9 hx) hl, fun _ => hFr.2.1 N1, Nat.le_trans ?_ hFr.2.2.1, Nat.le_trans ?_ hFr.2.2.2⟩
      · rw [n1]; exact Nat.le_succ _
      · rw [n1]; exact Nat.le_add_right _ _
    refine ⟨h.post (cs h.1).1 hH' hP' fr (fun i i1 i2 _ => hi i i1 i2) hr hps hn2, cost_step hcost cs h.1, ?_⟩
    have vE' : vE S' = vE S := vE_ag ⟨fun a ha k => hr _ _ (by revert a; decide) (by revert a; decide), fun i hi => by cases hi⟩
    have vS' : vS S' = vS S := vS_ag ⟨fun a ha k => hr _ _ (by revert a; decide) (by revert a; decide), fun i hi' => hi i (by revert i; decide) (by revert i; decide)⟩
    rw [hps.view, vE', vS', hM, hans]
    exact cO _ _ _ _ _ _ _ _ _ p l fo hIv m0 m2 hp e4 l1 l2 l5
  rcases th9 with ⟨z0, znull⟩ | ⟨t, zt, zc, zok⟩
  · -- nothing is there
    obtain ⟨S3, hS3⟩ : ∃ x, x = up2 S1 625 6 404 := ⟨_, rfl⟩
    have hand : ∀ i, i < 22 → rd S3 625 i = stRow 0 (qM (came S) l fo) 404 i := by
      intro i hi
      rw [hS3, rd_up2, b3, if_pos (show 625 = 625 ∧ i < 22 from ⟨rfl, hi⟩), show (4 * p + v) / 4 = p by omega, show (4 * p + v) % 4 = v by omega]
      unfold stRow
      simp only [true_and]
      rw [show qM (came S) l fo 0 = Int32.ofNat p from e4, show qM (came S) l fo 1 = Int32.ofNat v from e5]
      rfl
    obtain ⟨T', S', s1, s2, s3, s4, s5, s6, s7, s8⟩ := status_core (F := F) (n := 0) (T := T1) (S := S) (S3 := S3) (by omega) N1 H1 P1 q1' (st := 404) (Or.inl rfl) (fun j => by rw [hS3, up2_1, b2]) (fun a k ha => by rw [hS3, rd_up2, if_neg (fun w => ha w.1), b3, if_neg (fun w => ha w.1)]) hand few0 few1 ed1 (Or.inl ⟨rfl, hea⟩)
    have hT' : D_c_EdgeHouse_takeAtOrigin F 512 (some am) T = some T' := by
      rw [cst, znull]
      show D_c_EdgeHouse_takeAtOrigin_62 F 512 (some T.2.1) none T1 = some T'
      unfold D_c_EdgeHouse_takeAtOrigin_62
      simp only [nc, tcl_o (show T1.1 512 = some (house S.1) from H1), Option.bind_some]
      rw [show (0 : Int32) = Int32.ofNat 0 from rfl, s1]
      rfl
    refine ⟨T', S', _, _, hT', ?_, finish T' S' _ hT' s3 s4 s5 s6 s7 s8 (show ¬ (1 : Int32) = 2 by decide) ?_⟩
    · have g0 : ∀ X : mS, (∀ j, rd X 589 j = rd S 589 j) → aget 0 288 X 589 (Int32.ofNat (9 * p)) = some 0 := fun X hX => (g589 X (9 * p) (by omega)).trans (by rw [hX, z0])
      unfold D_m_bringFetch
      simp only [x4, x5, x6, x7, x1, x3, Option.bind_some, show m_c1 .le (0 : Int32) = true from rfl, cond_true, key, b1, k9p, g0 S1 r589, show m_c1 .ne (0 : Int32) = false from rfl, cond_false, u6]
      rw [← hS3]
      have : aget 0 288 S3 589 (Int32.ofNat (9 * p)) = some 0 := g0 S3 (fun j => by rw [hS3, rd_up2, if_neg (by omega)]; exact r589 j)
      simp only [this, Option.bind_some, show m_c1 .le (0 : Int32) = true from rfl, cond_true, D_m_bringFetch_441, s2]
    · unfold orAns
      rw [n48, z0, if_pos rfl]
      rfl
  · -- the thing as it is told
    obtain ⟨ver, ver1, ver2⟩ := zok.1
    have verN : ¬ ver = 0 := fun w => zok.2.1 (by rw [ver2, w]; rfl)
    obtain ⟨zl, zl1, zl2⟩ := zok.2.2.1
    obtain ⟨vy, vy1, vy2⟩ := zok.2.2.2.2.2.2.2.2.2
    have d0 : rd S 589 (9 * p) = Int32.ofNat ver := ver2
    have d1 : rd S 589 (9 * p + 1) = Int32.ofNat zl := zl2
    have d8 : rd S 589 (9 * p + 8) = Int32.ofNat vy := vy2
    obtain ⟨d, hd⟩ : ∃ x : Nat → Int32, x = fun i => rd S 589 (9 * p + i) := ⟨_, rfl⟩
    have zc1 : T1.1 t = some (cTold (Int32.ofNat p) d) := by rw [hd]; exact f1 _ _ zc
    have hdi : ∀ i, d i = rd S 589 (9 * p + i) := fun i => by rw [hd]
    -- the class makes an entry
    obtain ⟨w1, w2, w3⟩ := new_entry N1
    obtain ⟨T2, hT2⟩ : ∃ x, x = tset (tadd T1 eBlank 9) T1.2.1 (cEntry (Int32.ofNat p) (Int32.ofNat v) t (v_which (d 8) (Int32.ofNat l) (Int32.ofNat fo)) (S.1 37) 0 (S.1 36) (v_blocks (d 1) 0 15) 0) := ⟨_, rfl⟩
    have f2 : ∀ x c9, T1.1 x = some c9 → T2.1 x = some c9 := by
      intro x c9 hx
      have : ¬ x = T1.2.1 := fun z => by rw [z, w3] at hx; cases hx
      rw [hT2, tset_1, if_neg this, tadd_1, if_neg this]
      exact hx
    have n2 : T2.2 = (T1.2.1 + 1, T1.2.2 + 9) := by rw [hT2]; rfl
    have N2 : okN T2 := by
      intro x c9 hx
      rw [hT2, tset_1, tadd_1] at hx
      rw [n2]
      show x < T1.2.1 + 1
      split at hx
      · omega
      · exact Nat.lt_succ_of_lt (N1 x c9 hx)
    have en : T2.1 T1.2.1 = some (cEntry (qM (came S) l fo 0) (Int32.ofNat v) t (v_which (d 8) (Int32.ofNat l) (Int32.ofNat fo)) (S.1 37) 0 (S.1 36) (v_blocks (d 1) 0 15) 0) := by
      rw [show qM (came S) l fo 0 = Int32.ofNat p from e4, hT2]
      exact tset_at
    -- the reference lays the row out
    obtain ⟨st, hst⟩ : ∃ x : Int32, x = if came S 10 = d 0 then 304 else 200 := ⟨_, rfl⟩
    obtain ⟨bk, hbk⟩ : ∃ x : Int32, x = if came S 10 = d 0 then 0 else v_blocks (d 1) (came S 6) (came S 7) := ⟨_, rfl⟩
    obtain ⟨S2, hS2⟩ : ∃ x, x = up2 (up2 (up2 (up2 (up2 (up2 S1 625 6 st) 625 7 (d 0)) 625 8 (S.1 37)) 625 10 (-(S.1 36))) 625 11 bk) 625 21 (v_which (d 8) (Int32.ofNat l) (Int32.ofNat fo)) := ⟨_, rfl⟩
    obtain ⟨S3, o1, o2, o3⟩ := m_or_loop (F := F) (x3 := 9 * p) (by omega) 9 0 S2 rfl F (by omega)
    have hS2r : ∀ a k, ¬ a = 625 → rd S2 a k = rd S a k := fun a k ha => by
      rw [hS2]
      simp only [rd_up2, ha, false_and, if_false]
      rw [b3, if_neg (fun w => ha w.1)]
    have hS2i : ∀ i, S2.1 i = S.1 i := fun i => by
      rw [hS2]
      simp only [up2_1]
      exact b2 i
    have neg : ((0 + S.1 36) - S.1 36) - S.1 36 = -(S.1 36) := by simp
    have bkE : bk = if came S 10 = d 0 then 0 else v_blocks (d 1) 0 15 &&& v_blocks (d 1) (came S 6) (came S 7) := by
      rw [hbk, fi2, la2, hdi 1, d1, blk_sub zl1 la1]
    have hand : ∀ i, i < 22 → rd S3 625 i = fiRow 0 (qM (came S) l fo) d (v_which (d 8) (Int32.ofNat l) (Int32.ofNat fo)) (S.1 37) (((0 + S.1 36) - S.1 36) - S.1 36) (v_blocks (d 1) 0 15) i := by
      intro i hi
      rw [neg, o3]
      by_cases w : 12 ≤ i ∧ i < 21
      · rw [if_pos ⟨rfl, by omega, w.2⟩, hS2r 589 _ (by decide), ← hdi]
        unfold fiRow
        simp only [show ¬ i = 21 by omega, show ¬ i = 11 by omega, show ¬ i = 10 by omega, show ¬ i = 8 by omega, show ¬ i = 7 by omega, show ¬ i = 6 by omega, show ¬ i = 0 by omega, show ¬ i = 1 by omega, show ¬ i = 2 by omega, show ¬ i = 3 by omega, show ¬ i = 4 by omega, show ¬ i = 5 by omega, w.1, if_false, if_true]
      · rw [if_neg (by omega), hS2]
        simp only [rd_up2, true_and]
        rw [b3, if_pos (show 625 = 625 ∧ i < 22 from ⟨rfl, hi⟩), show (4 * p + v) / 4 = p by omega, show (4 * p + v) % 4 = v by omega]
        unfold fiRow
        rw [show qM (came S) l fo 0 = Int32.ofNat p from e4, show qM (came S) l fo 1 = Int32.ofNat v from e5, show qM (came S) l fo 17 = came S 10 from rfl, show qM (came S) l fo 4 = came S 6 from rfl, show qM (came S) l fo 5 = came S 7 from rfl, ← bkE, ← hst, show qM (came S) l fo 15 = came S 1 from rfl, show qM (came S) l fo 16 = came S 3 from rfl]
        by_cases w21 : i = 21
        · simp only [w21, if_true]
        · simp only [w21, show ¬ 12 ≤ i by omega, if_false]
          rfl
    obtain ⟨T', S', s1, s2, s3, s4, s5, s6, s7, s8⟩ := fill_core (F := F) (n := 0) (T := T2) (S := S) (S3 := S3) (by omega) N2 (f2 _ _ H1) (P1.fr (fun b x hb _ => f2 b x hb) Ag.refl) (f2 _ _ q1') en (by rw [show qM (came S) l fo 0 = Int32.ofNat p from e4]; exact f2 _ _ zc1) (by rw [hd]; exact zok) (fun j => (o2 j).trans (hS2i j)) (fun a k ha => by rw [o3, if_neg (fun w => ha w.1)]; exact hS2r a k ha) hand few0 few1 ed1 (Or.inl ⟨rfl, hea⟩)
    have hT' : D_c_EdgeHouse_takeAtOrigin F 512 (some am) T = some T' := by
      rw [cst, zt]
      show D_c_EdgeHouse_takeAtOrigin_62 F 512 (some T.2.1) (some t) T1 = some T'
      have ee : ∀ X, (tset (tadd T1 eBlank 9) T1.2.1 X).1 T.2.1 = some (cReq (qM (came S) l fo) none none none) := fun X => by
        have : ¬ T.2.1 = T1.2.1 := by rw [n1]; show ¬ T.2.1 = T.2.1 + 1; omega
        rw [tset_1, if_neg this, tadd_1, if_neg this]
        exact q1'
      have qb : (tadd T1 eBlank 9).1 T.2.1 = some (cReq (qM (came S) l fo) none none none) := by
        have : ¬ T.2.1 = T1.2.1 := by rw [n1]; show ¬ T.2.1 = T.2.1 + 1; omega
        rw [tadd_1, if_neg this]
        exact q1'
      have ftt : ∀ X, (tset (tadd T1 eBlank 9) T1.2.1 X).1 t = some (cTold (Int32.ofNat p) d) := fun X => by
        have : ¬ t = T1.2.1 := fun z => by rw [z, w3] at zc1; cases zc1
        rw [tset_1, if_neg this, tadd_1, if_neg this]
        exact zc1
      have tb : (tadd T1 eBlank 9).1 t = some (cTold (Int32.ofNat p) d) := by
        have : ¬ t = T1.2.1 := fun z => by rw [z, w3] at zc1; cases zc1
        rw [tadd_1, if_neg this]
        exact zc1
      have hh : ∀ X, (tset (tadd T1 eBlank 9) T1.2.1 X).1 512 = some (house S.1) := fun X => by
        have : ¬ 512 = T1.2.1 := fun z => by rw [← z] at w3; rw [show T1.1 512 = some (house S.1) from H1] at w3; cases w3
        rw [tset_1, if_neg this, tadd_1, if_neg this]
        exact H1
      have i0 : tgi (tadd T1 eBlank 9) T.2.1 6 0 = some (Int32.ofNat p) := (Qg0 qb).trans (by rw [show qM (came S) l fo 0 = Int32.ofNat p from e4])
      have i1 : tgi (tadd T1 eBlank 9) T.2.1 6 1 = some (Int32.ofNat v) := (Qg1 qb).trans (by rw [show qM (came S) l fo 1 = Int32.ofNat v from e5])
      have i2 : tgi (tadd T1 eBlank 9) T.2.1 6 2 = some (Int32.ofNat l) := Qg2 qb
      have i3 : tgi (tadd T1 eBlank 9) T.2.1 6 3 = some (Int32.ofNat fo) := Qg3 qb
      unfold D_c_EdgeHouse_takeAtOrigin_62
      simp only [nc, bd2, w1, Option.bind_some, i0, i1, i2, i3, tcl_o tb, c_which tb, e_init N1, Hg13 (hh _), Ep4 tset_at, tset_tset, Hg14 (hh _), Ep6 tset_at, tcl_o (ftt _), c_blocks (ftt _), Ep7 tset_at, tcl_o (hh _)]
      rw [← hT2, show (0 : Int32) = Int32.ofNat 0 from rfl, s1]
      rfl
    refine ⟨T', S', _, _, hT', ?_, finish T' S' _ hT' s3 s4 ⟨fun x c9 hx hl => s5.1 x c9 (f2 x c9 hx) hl, fun _ => s5.2.1 N2, Nat.le_trans (by rw [n2]; exact Nat.le_succ _) s5.2.2.1, Nat.le_trans (by rw [n2]; exact Nat.le_add_right _ _) s5.2.2.2⟩ s6 s7 s8 (show ¬ (1 : Int32) = 2 by decide) ?_⟩
    · have g0 : ∀ (X : mS) (j : Nat), j < 9 → (∀ k, rd X 589 k = rd S 589 k) → aget 0 288 X 589 (Int32.ofNat (9 * p + j)) = some (d j) := fun X j hj hX => (g589 X (9 * p + j) (by omega)).trans (by rw [hX, hdi])
      have g00 : ∀ (X : mS), (∀ k, rd X 589 k = rd S 589 k) → aget 0 288 X 589 (Int32.ofNat (9 * p)) = some (d 0) := fun X hX => g0 X 0 (by decide) hX
      have d0v : d 0 = Int32.ofNat ver := (hdi 0).trans d0
      have nle : m_c1 .le (d 0) = false := by
        rw [d0v]
        have : ¬ Int32.ofNat ver ≤ 0 := by
          rw [Int32.not_le]
          exact (i_lt (a := 0) (by decide) (by show ver < 2147483648; omega)).mpr (by omega)
        simp [m_c1, this]
      have nne : m_c1 .ne (d 0) = true := by
        have : ¬ d 0 = 0 := by rw [hdi 0]; exact zok.2.1
        simp [m_c1, this]
      have hhad : (cond (m_c2 .ne (came S 10) (d 0)) (some (0 : Int32)) (some (1 : Int32))) = some (b2i (decide (came S 10 = d 0))) := by
        by_cases z : came S 10 = d 0 <;> simp [m_c2, z, b2i]
      have hst' : (cond (m_c1 .eq (b2i (decide (came S 10 = d 0)))) (some (200 : Int32)) (some (304 : Int32))) = some st := by
        rw [hst]
        by_cases z : came S 10 = d 0 <;> simp [m_c1, z, b2i]
      have hbk' : (cond (m_c1 .eq (b2i (decide (came S 10 = d 0)))) (some (v_blocks (d 1) (came S 6) (came S 7))) (some (0 : Int32))) = some bk := by
        rw [hbk]
        by_cases z : came S 10 = d 0 <;> simp [m_c1, z, b2i]
      have sp : ∀ X : mS, D_m_span F (Int32.ofNat fi) (Int32.ofNat la) (d 1) X = some (v_blocks (d 1) (came S 6) (came S 7)) := fun X => by
        rw [hdi 1, d1, fi2, la2]
        exact m_span (by omega) (by omega) la1 zl1
      have wc : ∀ X : mS, D_m_whichOf F (d 8) (came S 21) X = some (v_which (d 8) (Int32.ofNat l) (Int32.ofNat fo)) := fun X => by
        rw [hdi 8, d8, l5]
        exact m_which vy1 l1 l2
      have R589 : ∀ (X : mS) (k : Nat) (x : Int32), (∀ j, rd X 589 j = rd S 589 j) → ∀ j, rd (up2 X 625 k x) 589 j = rd S 589 j := fun X k x hX j => by rw [rd_up2, if_neg (by omega)]; exact hX j
      have R628 : ∀ (X : mS) (k : Nat) (x : Int32), (∀ j, rd X 628 j = rd S 628 j) → ∀ j, rd (up2 X 625 k x) 628 j = rd S 628 j := fun X k x hX j => by rw [rd_up2, if_neg (by omega)]; exact hX j
      have u7 : ∀ (X : mS) (x : Int32), aput 22 X 625 (7 : Int32) x = some (up2 X 625 7 x) := fun X x => h625 (k := 7) (by decide)
      have u8 : ∀ (X : mS) (x : Int32), aput 22 X 625 (8 : Int32) x = some (up2 X 625 8 x) := fun X x => h625 (k := 8) (by decide)
      have u10 : ∀ (X : mS) (x : Int32), aput 22 X 625 (10 : Int32) x = some (up2 X 625 10 x) := fun X x => h625 (k := 10) (by decide)
      have u11 : ∀ (X : mS) (x : Int32), aput 22 X 625 (11 : Int32) x = some (up2 X 625 11 x) := fun X x => h625 (k := 11) (by decide)
      have u21 : ∀ (X : mS) (x : Int32), aput 22 X 625 (21 : Int32) x = some (up2 X 625 21 x) := fun X x => h625 (k := 21) (by decide)
      have v1 := R589 S1 6 st r589
      have v2 := R589 _ 7 (d 0) v1
      have v3 := R589 _ 8 (S.1 37) v2
      have v4 := R589 _ 10 (-(S.1 36)) v3
      have v5 := R589 _ 11 bk v4
      have y5 := R628 _ 11 bk (R628 _ 10 (-(S.1 36)) (R628 _ 8 (S.1 37) (R628 _ 7 (d 0) (R628 S1 6 st r628))))
      have c10 : aget 0 22 S1 628 (10 : Int32) = some (came S 10) := a628 S1 10 (by decide) r628
      have c21 : aget 0 22 _ 628 (21 : Int32) = some (came S 21) := a628 _ 21 (by decide) y5
      have j1 : aget 0 288 _ 589 (Int32.ofNat (9 * p + 1)) = some (d 1) := g0 _ 1 (by decide) v4
      have j8 : aget 0 288 _ 589 (Int32.ofNat (9 * p + 8)) = some (d 8) := g0 _ 8 (by decide) v5
      unfold D_m_bringFetch
      simp only [x4, x5, x6, x7, x1, x3, Option.bind_some, show m_c1 .le (0 : Int32) = true from rfl, cond_true, key, b1, k9p, g00 S1 r589, nle, nne, cond_false, c10, hhad, hst', u6, g00 _ v1, u7, u8, u10, up2_1, b2, p1, p8, j1, sp, hbk', u11, j8, c21, wc, u21]
      rw [← hS2, show (0 : Int32) = Int32.ofNat 0 from rfl, o1, s2]
      rfl
    · unfold orAns
      rw [n48, if_neg (by rw [d0]; exact fun w => verN (by
        have := congrArg Int32.toNatClampNeg w
        rw [m_n_cl (by omega)] at this
        exact this))]
      have e0' : ((0 + S.1 36) - S.1 36) - S.1 36 = 0 - vS S 7 0 := by
        show ((0 + S.1 36) - S.1 36) - S.1 36 = 0 - S.1 36
        simp
      rw [e0', hd]
      rfl
end
