/-! ask(): a good text. -/
section
variable {I I' : Iv} {T T' T2 : tT} {S S' S1 : mS} {X Y : Nat → List (Nat × Nat)} {Z : Nat → List Fz} {Q cz Pd : List Rq} {c F n j0 k1 k2 r : Nat} {rs : List Nat}
theorem ask_good {A pa va la fo : Nat} {T1 T2 : tT} {S2 S3 : mS} (hF : 5000 ≤ F) (hl : rs.length < 300) (hc : c + 10 < 2147483648) (hI : Clo I') (cA : ClAsk I I') (cL : ClLook I I') (h : RA I T S X Y Z Q [] [] 0 rs c k1 k2) (hA0 : A = T.2.1) (y1 : D_c_Reader_readRequest F 513 T = some (some A, T1)) (z1 : D_c_Reader_empty F 513 T1 = some T2) (h12 : ∀ b, ¬ b = 513 → T2.1 b = T1.1 b) (cl : tcl T 513 1 = some ()) (cl1 : tcl T1 513 1 = some ()) (y2 : D_m_readText F 1 (up2 (up1 (up1 S 0 0) 70 (Int32.ofNat (rs.length + 1))) 621 rs.length 1) = some (1, S2)) (hA : Asked F T1 S2 A pa va la fo) (hR2 : RB T2 S3 X Y Z Q [] [] 0 rs c) (hRt : ∀ y, lsC y = false → RB (tset T2 A y) S3 X Y Z Q [] [] 0 rs c) (hcs : Cs T T2 3 35) (v1 : vM S3 = vM S) (v2 : vE S3 = vE S) (v3 : vS S3 = vS S) (i3 : ∀ i, S2.1 i = if i = 70 then Int32.ofNat (rs.length + 1) else if i = 0 then 0 else S3.1 i) (r3 : ∀ a k, rd S2 a k = if a = 621 ∧ k = rs.length then 1 else rd S3 a k) : AskR I' F T S c := by
  obtain ⟨hR, hcost, hIv⟩ := id h
  have hH : T.1 512 = some (house S.1) := hR.2.1
  obtain ⟨⟨cR, e1⟩, e2, e3, e4, e5⟩ := id hR.2.2.2.2.2.2.2.2.1
  obtain ⟨⟨cR2, f1⟩, f2, f3, f4, f5⟩ := id hR2.2.2.2.2.2.2.2.2.1
  have hH2 : T2.1 512 = some (house S3.1) := hR2.2.1
  have hH1 : T1.1 512 = some (house S3.1) := (h12 512 (by decide)).symm.trans hH2
  obtain ⟨T47, T58, cap, a1, a2, a3, a4, a5, a6, a7⟩ := rep_new (F := F) hR2.1 f1 hl
  obtain ⟨B, hB⟩ : ∃ B, B = T2.2.1 := ⟨_, rfl⟩
  rw [← hB] at a1 a2 a4 a5 a7
  obtain ⟨p31, va3, la4, fo2, s7, s8, fo', hw, TA, TA1, ⟨nt, ft, nt8, s12, TA2, htg⟩, okq⟩ := hA
  obtain ⟨gq, hgq⟩ : ∃ z, z = qch (fup (fup (fup (qdv S2) 0 (Int32.ofNat pa)) 1 (Int32.ofNat va)) 2 (Int32.ofNat la)) (cdv S2) := ⟨_, rfl⟩
  rw [← hgq] at TA
  have ltA : 524 < A := by rw [hA0]; exact hR.1.1 _ _ e1
  have uA : T2.1 A = some (cReq gq (some (A + 1)) none none) := (h12 A (by omega)).trans TA
  have uA1 : T2.1 (A + 1) = some (cCond (cdv S2) (A + 2)) := (h12 (A + 1) (by omega)).trans TA1
  have uA2 : T2.1 (A + 2) = some (.inr (.inl (0, 8, ft))) := (h12 (A + 2) (by omega)).trans TA2
  have nB : ∀ b x, T2.1 b = some x → ¬ b = B := fun b x hb q => by rw [q, a7] at hb; cases hb
  have bA := nB _ _ uA
  have bA1 := nB _ _ uA1
  have bA2 := nB _ _ uA2
  obtain ⟨nq, hnq⟩ : ∃ z, z = cReq gq (some (A + 1)) (some B) none := ⟨_, rfl⟩
  obtain ⟨T71, hT71⟩ : ∃ z, z = tset T58 A nq := ⟨_, rfl⟩
  have u58 : T58.1 A = some (cReq gq (some (A + 1)) none none) := by rw [a5, if_neg (by omega), if_neg bA]; exact uA
  have t71 : tpr T58 A 6 14 (some B) = some T71 := (Qw14 u58).trans (by rw [hT71, hnq])
  have b71 : ∀ b, T71.1 b = if b = A then some nq else if b = 524 then some (.inr (.inr (cap, rs ++ [B]))) else if b = B then some (cReply (fun _ => 0) 31) else T2.1 b := fun b => by rw [hT71, tset_1, a5]
  have cs71 : Cs T58 T71 0 0 := by rw [hT71, hnq]; exact Cs.cell u58 rfl rfl
  have RU : RB (tset T2 A nq) S3 X Y Z Q [] [] 0 rs c := hRt nq (by rw [hnq]; rfl)
  have bU : ∀ b, (tset T2 A nq).1 b = if b = A then some nq else T2.1 b := fun b => tset_1
  have UB : (tset T2 A nq).1 B = none := by rw [bU, if_neg (fun q => bA q.symm)]; exact a7
  have nl : lsC nq = false := by rw [hnq]; rfl
  -- the reference's row
  obtain ⟨r, hr⟩ : ∃ r, r = rs.length := ⟨_, rfl⟩
  rw [← hr] at hl i3 r3 y2
  obtain ⟨q16, q17, q18, q19, q13, q15, q14, q20, q9, _⟩ := id okq
  obtain ⟨S60, m60, W60⟩ := m_asked (F := F) (r := r) (S := S2) (wv := Int32.ofNat (la + 4 * fo)) hl q16 q17 q18 q19 hw (by omega)
  have i60 : ∀ i, S60.1 i = if i = 70 then Int32.ofNat (r + 1) else if i = 0 then 0 else S3.1 i := fun i => (W60.1 i).trans (i3 i)
  have r60 : ∀ b k, ¬ (b = 621 ∧ k = r) → ¬ (b = 620 ∧ 23 * r ≤ k ∧ k < 23 * r + 23) → rd S60 b k = rd S3 b k := fun b k w1 w2 => by rw [W60.2, if_neg w2, r3, if_neg w1]
  have row60 : ∀ j, j < 23 → rd S60 620 (23 * r + j) = akF S2 (Int32.ofNat (la + 4 * fo)) j := fun j hj => by rw [W60.2, if_pos ⟨rfl, by omega, by omega⟩, show 23 * r + j - 23 * r = j by omega]
  have f12 : few 9 (rd S60 620 (23 * r + 7)) := by rw [row60 7 (by decide)]; exact ⟨nt, by omega, s12⟩
  have h621 : rd S60 621 r = 1 := by rw [W60.2, if_neg (by omega), r3, if_pos ⟨rfl, rfl⟩]
  have stU : ∀ (V : tT) (k : tC), (∀ b, V.1 b = if b = A then some nq else if b = 524 then some (.inr (.inr (cap, rs ++ [B]))) else if b = B then some k else T2.1 b) → ∀ b x, (tset T2 A nq).1 b = some x → ¬ b = 524 → V.1 b = some x := fun V k hV b x hb w => by
    rw [bU] at hb
    rw [hV]
    by_cases w1 : b = A
    · rw [if_pos w1] at hb ⊢; exact hb
    · rw [if_neg w1] at hb ⊢
      rw [if_neg w, if_neg (nB b x hb)]
      exact hb
  have R71 : RB T71 S60 X Y Z Q [] [] 0 (rs ++ [B]) c := by
    refine RB.newrep (S := up1 S3 0 0) (v := 0) (a := B) RU.i0 (by omega) (((hcs.trans a6).trans cs71) hR.1).1 (stU T71 _ b71) ⟨cap, by rw [b71, if_neg (by omega), if_pos rfl]⟩ ?_ UB (fun i hi => ?_) ?_ (fun b k w1 w2 w3 => ?_) ?_ ?_ ?_
    · rw [b71, if_neg (fun q => bA q.symm), if_neg (fun q => nB _ _ f1 q.symm), if_pos rfl]
      congr 2
      funext i
      unfold fup
      split <;> rfl
    · rw [i60, if_neg hi]
      by_cases w : i = 0
      · rw [if_pos w, w]; exact up1_at.symm
      · rw [if_neg w, up1_no w]
    · rw [i60, if_pos rfl, hr]
    · rw [← hr] at w1 w3
      rw [r60 b k w1 w3, rd_up1]
    · rw [← hr]; exact h621
    · rw [← hr, r60 _ _ (by omega) (by omega), hr]; exact f4.2.1 _ (Nat.le_refl _)
    · rw [← hr]; exact f12
  obtain ⟨w1, w2, w3⟩ := newrep_views (S := S3) (S' := S60) (r := r) (fun i n1 n2 => by rw [i60, if_neg n1, if_neg n2]) (by rw [hr]; exact f3) (by rw [i60, if_pos rfl]) (fun b k n1 n2 n3 => by rw [r60 b k (fun q => n1 q.1) (fun q => n3 q.1)])
  -- the edge
  have s607 : S60.1 7 = Int32.ofNat pa := (W60.1 7).trans s7
  have s608 : S60.1 8 = Int32.ofNat va := (W60.1 8).trans s8
  have key : (4 : Int32) * S60.1 7 + S60.1 8 = Int32.ofNat (4 * pa + va) := by rw [s607, s608, k4, m_n_add]
  have g0 : gq 0 = Int32.ofNat pa := by rw [hgq, qch_ne (by decide) (by decide)]; rfl
  have g1 : gq 1 = Int32.ofNat va := by rw [hgq, qch_ne (by decide) (by decide)]; rfl
  have g2 : gq 2 = Int32.ofNat la := by rw [hgq, qch_ne (by decide) (by decide)]; rfl
  have gd : ∀ i, ¬ i = 0 → ¬ i = 1 → ¬ i = 2 → ¬ i = 4 → ¬ i = 5 → gq i = qdv S2 i := fun i n0 n1 n2 n4 n5 => by rw [hgq, qch_ne n4 n5, fup_ne n2, fup_ne n1, fup_ne n0]
  have u71 : T71.1 A = some nq := by rw [b71, if_pos rfl]
  have u71' : T71.1 A = some (cReq gq (some (A + 1)) (some B) none) := by rw [u71, hnq]
  have rc := ring_edge_c (F := F) (T := T71) (S := S60) (p := pa) (v := va) (by omega) R71.2.1 R71.2.2.2.1 R71.2.2.2.2.1
  have rm := ring_edge_m (F := F) (S := S60) (p := pa) (v := va) (by omega) (by omega) (by omega) (fun n n1 n2 => (R71.2.2.2.2.1.2.1 n n1 n2).2)
  have rin : ∀ q, fL Kp (fun _ q => way (pt (64 + pa) va) q + 0) none ((List.range' 3 4).filter (isUp S60)) = some q → 3 ≤ q.1 ∧ q.1 < 3 + 4 ∧ isUp S60 q.1 = true := fun q hq => ring_in hq
  generalize fL Kp (fun _ q => way (pt (64 + pa) va) q + 0) none ((List.range' 3 4).filter (isUp S60)) = o at rc rm rin
  have ls : tls T 524 = some (Int32.ofNat r) := by simp only [tls, tl, e1, Option.map_some, hr]
  have hH71 : T71.1 512 = some (house S60.1) := R71.2.1
  have rc' : D_c_EdgeHouse_ringNode F 512 3 6 (Int32.ofNat pa) (Int32.ofNat va) none T71 = some (cB o) := rc
  have rm' : D_m_ring F 3 6 (Int32.ofNat (4 * pa + va)) 0 S60 = some (cB o) := rm
  have cpre : D_c_EdgeHouse_ask F 512 T = cond (m_c2 .ne (cB o) ((-1) : Int32)) ((tpi T71 B 8 0 (cB o)).bind fun T90 => (tgr T90 512 0 3).bind fun v94 => (v94).bind fun a98 => (tar T90 a98 7 (cB o)).bind fun v101 => (tcl T90 512 0).bind fun _ => (D_c_EdgeHouse_look F 512 v101 (some A) T90).bind fun T108 => some (Int32.ofNat r, T108)) ((D_c_EdgeHouse_close F 512 (some B) (503 : Int32) T71).bind fun T115 => some (Int32.ofNat r, T115)) := by
    unfold D_c_EdgeHouse_ask
    simp only [Hr8 hH, Option.bind_some, ls, show (300 : Int32) = Int32.ofNat 300 from rfl, lt_n (show r < 2147483648 by omega) (show 300 < 2147483648 by decide), decide_eq_true hl, cond_true, Hr0 hH, cl, y1, bd2, Hr0 hH1, cl1, z1, a1, a2, Hr8 (a3 _ _ hH2), a4, nc, t71, Qg0 u71', Qg1 u71', g0, g1, tcl_o hH71, rc']
  have mpre : D_m_ask F S = cond (m_c2 .ne (cB o) ((-1) : Int32)) ((aput 2700 S60 627 (((9 : Int32) * (Int32.ofNat r)) + (6 : Int32)) (cB o)).bind fun S65 => (D_m_spare F S65).bind fun v67 => D_m_ask_378 F F (Int32.ofNat r) (Int32.ofNat (23 * r)) (Int32.ofNat (4 * pa + va)) (cB o) v67 (0 : Int32) S65) ((D_m_close F (Int32.ofNat r) (503 : Int32) (0 : Int32) (0 : Int32) S60).bind fun S69 => some (Int32.ofNat r, S69)) := by
    rw [m_ask0 (by rw [hr]; exact e3) hl, y2, Option.bind_some, show m_c1 .ne (1 : Int32) = true from rfl, cond_true]
    show askB F r S2 = _
    rw [m60]
    unfold askD
    rw [key, rm', Option.bind_some]
  cases o with
  | none =>
    obtain ⟨T', S', b1, b2, b3, b4, b5, b6, b7⟩ := P_close0 (F := F) (r := r) (ra := B) (st := 503) R71 (fun y hy q => by
      rw [List.append_nil] at hy
      obtain ⟨k, hk⟩ := List.mem_iff_getElem?.mp hy
      obtain ⟨k', ca, ra, s, b, n, _, _, _, _, q4, _⟩ := (hR.2.2.2.2.2.2.2.1.2.1 k y hk).client q
      have := (List.getElem?_eq_some_iff.mp q4).1
      omega) hl (by rw [hr, List.getElem?_append_right (Nat.le_refl _), Nat.sub_self]; rfl) h621 (Or.inr (Or.inr (Or.inr (Or.inl rfl))))
    refine ⟨Int32.ofNat r, T', S', X, Y, Z, Q, rs ++ [B], k1 + 4, k2 + 49, ?_, ?_, b3.mono (by omega), ?_, ?_⟩
    · rw [cpre]
      show (D_c_EdgeHouse_close F 512 (some B) 503 T71).bind _ = _
      rw [b1]
      rfl
    · rw [mpre]
      show (D_m_close F (Int32.ofNat r) 503 0 0 S60).bind _ = _
      rw [b2]
      rfl
    · have q := cost_step hcost (((hcs.trans a6).trans cs71).trans b7) hR.1
      exact ⟨by omega, by omega⟩
    · rw [b4, b5, b6, w1, w2, w3, v1, v2, v3]
      exact (cA _ _ _ _ _ _ _ hIv).2
  | some q =>
    obtain ⟨n1, n2, _⟩ := rin q rfl
    obtain ⟨n, hn⟩ : ∃ n, n = q.1 := ⟨_, rfl⟩
    rw [← hn] at n1 n2
    have cBn : cB (some q) = Int32.ofNat n := by rw [hn]; rfl
    rw [cBn] at cpre mpre
    have nn : m_c2 .ne (Int32.ofNat n) ((-1) : Int32) = true := decide_eq_true (fun z => m1_ne (show n < 127 by omega) z.symm)
    rw [nn, cond_true] at cpre mpre
    obtain ⟨T90, hT90⟩ : ∃ z, z = tset T71 B (cReply (fup (fun _ => 0) 0 (Int32.ofNat n)) 31) := ⟨_, rfl⟩
    have u71B : T71.1 B = some (cReply (fun _ => 0) 31) := by rw [b71, if_neg (fun q => bA q.symm), if_neg (fun q => nB _ _ f1 q.symm), if_pos rfl]
    have t90 : tpi T71 B 8 0 (Int32.ofNat n) = some T90 := (Rp0 u71B).trans (by rw [hT90])
    have b90 : ∀ b, T90.1 b = if b = A then some nq else if b = 524 then some (.inr (.inr (cap, rs ++ [B]))) else if b = B then some (cReply (fup (fun _ => 0) 0 (Int32.ofNat n)) 31) else T2.1 b := fun b => by
      rw [hT90, tset_1, b71]
      by_cases x1 : b = B
      · rw [if_pos x1, if_neg (fun q => bA (q.symm.trans x1)), if_neg (fun q => (nB _ _ f1) (q.symm.trans x1)), if_pos x1]
      · simp only [if_neg x1]
    have cs90 : Cs T71 T90 0 0 := by rw [hT90]; exact Cs.cell u71B rfl rfl
    have csA : Cs T T90 4 49 := ((((hcs.trans a6).trans cs71).trans cs90)).mono (by decide) (by decide)
    obtain ⟨S65, hS65⟩ : ∃ z, z = up2 S60 627 (9 * r + 6) (Int32.ofNat n) := ⟨_, rfl⟩
    have ap65 : aput 2700 S60 627 (((9 : Int32) * (Int32.ofNat r)) + (6 : Int32)) (Int32.ofNat n) = some S65 := by
      rw [k9, p6, aput_n (by omega) (by decide), hS65]
    have i65 : ∀ i, S65.1 i = S60.1 i := fun i => by rw [hS65, up2_1]
    have r65 : ∀ b k, rd S65 b k = if b = 627 ∧ k = 9 * r + 6 then Int32.ofNat n else rd S60 b k := fun b k => by rw [hS65, rd_up2]
    have R90 : RB T90 S65 X Y Z Q [] [] 0 (rs ++ [B]) c := by
      refine RB.newrep (S := up1 S3 0 0) (v := Int32.ofNat n) (a := B) RU.i0 (by omega) (csA hR.1).1 (stU T90 _ b90) ⟨cap, by rw [b90, if_neg (by omega), if_pos rfl]⟩ ?_ UB (fun i hi => ?_) ?_ (fun b k w1 w2 w3 => ?_) ?_ ?_ ?_
      · rw [b90, if_neg (fun q => bA q.symm), if_neg (fun q => nB _ _ f1 q.symm), if_pos rfl]
      · rw [i65, i60, if_neg hi]
        by_cases w : i = 0
        · rw [if_pos w, w]; exact up1_at.symm
        · rw [if_neg w, up1_no w]
      · rw [i65, i60, if_pos rfl, hr]
      · rw [← hr] at w1 w2 w3
        rw [r65, if_neg w2, r60 b k w1 w3, rd_up1]
      · rw [← hr, r65, if_neg (by omega)]; exact h621
      · rw [← hr, r65, if_pos ⟨rfl, rfl⟩]
      · rw [← hr, r65, if_neg (by omega)]; exact f12
    obtain ⟨ql, qrule⟩ := cL _ _ _ _ _ _ _ hIv r hl (by rw [hr]; exact e3)
    have hw9 : wOf Q < 47000 := by unfold wOf; omega
    have sp : D_m_spare F S65 = some (Int32.ofNat (wOf Q)) := by
      unfold D_m_spare
      rw [R90.2.2.2.2.2.2.2.1.1.1, p1, k12]
      rfl
    obtain ⟨S1, ms1, is1, rs1, row1⟩ := m_askrow (F := F) (S := S65) (w := wOf Q) (r := r) (key := 4 * pa + va) (n := n) (by omega) hl (by omega)
    obtain ⟨z, hz⟩ : ∃ z : Rq, z = (A, 128 * n + (4 * pa + va), some r, gq, some (cdv S2)) := ⟨_, rfl⟩
    have row620 : ∀ j, j < 23 → rd S1 620 (23 * r + j) = akF S2 (Int32.ofNat (la + 4 * fo)) j := fun j hj => by rw [rs1 _ _ (by omega), r65, if_neg (by omega)]; exact row60 j hj
    have row0 : rd S1 620 (23 * r) = akF S2 (Int32.ofNat (la + 4 * fo)) 0 := row620 0 (by decide)
    have ak : isAk S2 S1 r := ⟨row620 2 (by decide), row620 3 (by decide), row620 4 (by decide), row620 5 (by decide), row620 6 (by decide), row620 7 (by decide), row620 21 (by decide)⟩
    obtain ⟨bl, b4', b5'⟩ := ak.bl (g := fup (fup (fup (qdv S2) 0 (Int32.ofNat pa)) 1 (Int32.ofNat va)) 2 (Int32.ofNat la)) okq rfl rfl
    rw [← hgq] at bl b4' b5'
    have g3 : gq 3 = Int32.ofNat fo := by
      rw [gd 3 (by decide) (by decide) (by decide) (by decide) (by decide), fo']
      show (if 0 < rd S2 585 4 then (1 : Int32) else 0) = _
      split <;> rfl
    have g6 : gq 6 = S2.1 18 := gd 6 (by decide) (by decide) (by decide) (by decide) (by decide)
    have g7 : gq 7 = S2.1 19 := gd 7 (by decide) (by decide) (by decide) (by decide) (by decide)
    have g8 : gq 8 = S2.1 13 := gd 8 (by decide) (by decide) (by decide) (by decide) (by decide)
    have g9 : gq 9 = S2.1 15 := gd 9 (by decide) (by decide) (by decide) (by decide) (by decide)
    have g10 : gq 10 = if S2.1 14 = 1000000000 then 1000000 else S2.1 14 := gd 10 (by decide) (by decide) (by decide) (by decide) (by decide)
    have g11 : gq 11 = 0 := gd 11 (by decide) (by decide) (by decide) (by decide) (by decide)
    have g12 : gq 12 = 0 := gd 12 (by decide) (by decide) (by decide) (by decide) (by decide)
    have u90 : T90.1 A = some (cReq gq (some (A + 1)) (some B) none) := by rw [b90, if_pos rfl, hnq]
    have h11 : rd S1 622 (wOf Q + 11) = Int32.ofNat (la + 4 * fo) := by
      refine (row1 11 (by decide)).trans ?_
      show rd S65 620 (23 * r + 22) = _
      rw [r65, if_neg (by omega), row60 22 (by decide)]
      rfl
    have h10 : rd S1 622 (wOf Q + 10) = gq 12 := (row1 10 (by decide)).trans g12.symm
    have fl12 : flag (gq 12) := by rw [g12]; exact Or.inl rfl
    have fl6 : flag (gq 6) := by rw [g6]; exact q18
    have fl7 : flag (gq 7) := by rw [g7]; exact q19
    have m8 : may (gq 8) := by rw [g8]; exact q13
    have m9 : may (gq 9) := by rw [g9]; exact q15
    have c16 : gq 6 = rd S1 620 (23 * r + 16) := by rw [row620 16 (by decide), g6]; rfl
    have c17 : gq 7 = rd S1 620 (23 * r + 17) := by rw [row620 17 (by decide), g7]; rfl
    have c18 : gq 8 = rd S1 620 (23 * r + 18) := by rw [row620 18 (by decide), g8]; rfl
    have c20 : gq 9 = rd S1 620 (23 * r + 20) := by rw [row620 20 (by decide), g9]; rfl
    have c19 : (gq 10 = rd S1 620 (23 * r + 19) ∧ may (gq 10)) ∨ (gq 10 = 1000000 ∧ rd S1 620 (23 * r + 19) = 1000000000) := by
      rw [row620 19 (by decide), g10]
      show ((if S2.1 14 = 1000000000 then (1000000 : Int32) else S2.1 14) = S2.1 14 ∧ may (if S2.1 14 = 1000000000 then (1000000 : Int32) else S2.1 14)) ∨ ((if S2.1 14 = 1000000000 then (1000000 : Int32) else S2.1 14) = 1000000 ∧ S2.1 14 = 1000000000)
      by_cases w : S2.1 14 = 1000000000
      · rw [if_pos w]; exact Or.inr ⟨rfl, w⟩
      · rw [if_neg w]
        rcases q14 with q | q
        · exact Or.inl ⟨rfl, q⟩
        · exact absurd q w
    have c0 : rd S1 620 (23 * r) = gq 0 := by rw [row0, g0]; exact s7
    have c1 : rd S1 620 (23 * r + 1) = gq 1 := by rw [row620 1 (by decide), g1]; exact s8
    have tg : isTags T90 S1 r (A + 2) (cdv S2) := by
      refine ⟨q17, ft, nt, nt8, s12, ?_, fun i hi => ?_⟩
      · rw [b90, if_neg (by omega), if_neg (by omega), if_neg bA2]; exact uA2
      · rw [Nat.add_assoc, row620 (8 + i) (by omega), htg i hi]
        unfold akF
        rw [if_neg (by omega), if_neg (by omega), if_neg (by omega), if_neg (by omega), if_neg (by omega), if_neg (by omega), if_neg (by omega), if_neg (by omega), if_pos (by omega), show 8 + i - 8 = i by omega]
    have u91 : T90.1 (A + 1) = some (cCond (cdv S2) (A + 2)) := by rw [b90, if_neg (by omega), if_neg (by omega), if_neg bA1]; exact uA1
    have rsB : (rs ++ [B])[r]? = some B := by rw [hr, List.getElem?_append_right (Nat.le_refl _), Nat.sub_self]; rfl
    have s621 : rd S1 621 r = 1 := by rw [rs1 _ _ (by omega), r65, if_neg (by omega)]; exact h621
    have iq : isQr T90 S1 (rs ++ [B]) z (fun i => rd S1 622 (wOf Q + i)) := by
      rw [hz]
      exact ⟨⟨⟨A + 1, B, A + 2, none, u90, u91, tg, rsB⟩, s621⟩, n, ⟨⟨by omega, by omega⟩, ⟨pa, va, by omega, by omega, rfl, g0, g1, row1 0 (by decide), row1 1 (by decide)⟩, ⟨la, fo, la4, fo2, g2, g3, h11⟩, fl12, h10, fl6, b4', b5'⟩, n1, ak.cl okq hl, q16, row1 2 (by decide), row1 7 (by decide), g11, row1 8 (by decide), c16, c17, fl7, c18, m8, c20, m9, c19, bl, c0, c1⟩
    have hnew : ∀ x ∈ Q, ¬ x.1 = z.1 := fun x hx e => by
      obtain ⟨k, hk⟩ := List.mem_iff_getElem?.mp hx
      obtain ⟨cc, rr, bb, hq⟩ := (hR.2.2.2.2.2.2.2.1.2.1 k x hk).1.cell
      have := hR.1.1 _ _ hq
      rw [e, hz, hA0] at this
      exact absurd this (Nat.lt_irrefl _)
    have hcl : ∀ r', z.2.2.1 = some r' → ∀ x ∈ Q, ¬ x.2.2.1 = some r' := fun r' hr' x hx q => by
      obtain ⟨k, hk⟩ := List.mem_iff_getElem?.mp hx
      obtain ⟨k', ca, ra, s, b, n, _, _, _, _, q4, _⟩ := (hR.2.2.2.2.2.2.2.1.2.1 k x hk).client q
      have := (List.getElem?_eq_some_iff.mp q4).1
      rw [hz] at hr'
      cases hr'
      omega
    have RE : RB T90 S1 X Y Z Q [z] [] 0 (rs ++ [B]) c := R90.enter (csA hR.1).1 (fun b x hb => hb) is1 rs1 iq ql hnew hcl
    have RAE : RA I' T90 S1 X Y Z Q [z] [] 0 (rs ++ [B]) c (k1 + 4) (k2 + 49) := by
      refine ⟨RE, cost_step hcost csA hR.1, ?_⟩
      obtain ⟨x1, x2, x3⟩ := row_views (S := S65) (S2 := S1) is1 (fun a k ha => rs1 a k (fun w => ha w.1))
      obtain ⟨x4, x5, x6⟩ := newrep_views (S := S3) (S' := S65) (r := r) (fun i n1 n2 => by rw [i65, i60, if_neg n1, if_neg n2]) (by rw [hr]; exact f3) (by rw [i65, i60, if_pos rfl]) (fun b k n1 n2 n3 => by rw [r65, if_neg (fun q => n2 q.1), r60 b k (fun q => n1 q.1) (fun q => n3 q.1)])
      rw [x1, x2, x3, x4, x5, x6, v1, v2, v3, hz]
      exact qrule A n pa va gq (cdv S2) n1 (by omega) (by omega) (by omega) ⟨g0, g1, g11, g12, by rw [g6]; exact q18, b4', b5', la, fo, la4, fo2, g2, g3⟩ (isGk.of (ak.cl okq hl) bl)
    obtain ⟨T', S', X2, Y2, Z2, Q2, m1', m2'', u1, u2, u3⟩ := look_both (F := F) (by omega) hI RAE hc (n := n) (by rw [hz]; show (128 * n + (4 * pa + va)) / 128 = n; omega) ⟨some (A + 1), some B, by rw [hz]; exact u90⟩
    refine ⟨Int32.ofNat r, T', S', X2, Y2, Z2, Q2, rs ++ [B], m1', m2'', ?_, ?_, u3⟩
    · have hH90 : T90.1 512 = some (house S65.1) := R90.2.1
      obtain ⟨⟨fN, nd1, nd2⟩, _⟩ := id R90.2.2.2.2.1
      have tn : tar T90 519 7 (Int32.ofNat n) = some (some (527 + 8 * n)) := by
        unfold tar
        rw [ta_o nd1 (by omega) (by decide), Option.bind_some, nd2 n (by omega)]
        rfl
      have zA : z.1 = A := by rw [hz]
      rw [zA] at u1
      rw [cpre, t90]
      simp only [Option.bind_some, Hr3 hH90, tn, tcl_o hH90, u1]
    · rw [mpre, ap65]
      simp only [Option.bind_some, sp]
      rw [ms1, u2]
      rfl
end
