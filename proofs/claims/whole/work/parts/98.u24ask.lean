/-! ask(), both. -/
section
variable {I I' : Iv} {T T' T2 : tT} {S S' S1 : mS} {X Y : Nat → List (Nat × Nat)} {Z : Nat → List Fz} {Q cz Pd : List Rq} {c F n j0 k1 k2 r : Nat} {rs : List Nat}
/-- what an ask leaves: both answer alike -/
def AskR (I' : Iv) (F : Nat) (T : tT) (S : mS) (c : Nat) : Prop := ∃ v T' S' X' Y' Z' Q' rs' k1' k2', D_c_EdgeHouse_ask F 512 T = some (v, T') ∧ D_m_ask F S = some (v, S') ∧ RA I' T' S' X' Y' Z' Q' [] [] 0 rs' (c + 2) k1' k2'
/-- the reference up to the text -/
theorem m_ask0 (h70 : S.1 70 = Int32.ofNat r) (hr : r < 300) : D_m_ask F S = (D_m_readText F 1 (up2 (up1 (up1 S 0 0) 70 (Int32.ofNat (r + 1))) 621 r 1)).bind fun q8 => cond (m_c1 .ne q8.1) (askB F r q8.2) ((D_m_close F (Int32.ofNat r) (400 : Int32) (0 : Int32) (0 : Int32) q8.2).bind fun S35 => some (Int32.ofNat r, S35)) := by
  have e70 : (up1 S 0 0).1 70 = Int32.ofNat r := (up1_no (by decide)).trans h70
  have i1 : Int32.ofNat r + 1 = Int32.ofNat (r + 1) := m_n_add r 1
  have b1 : bput 300 (up1 (up1 S 0 0) 70 (Int32.ofNat (r + 1))) 621 (Int32.ofNat r) (1 : Int32) = some (up2 (up1 (up1 S 0 0) 70 (Int32.ofNat (r + 1))) 621 r 1) := bput_n hr (by decide) (Or.inr rfl)
  unfold D_m_ask
  simp only [fput, Option.bind_some, e70, show (300 : Int32) = Int32.ofNat 300 from rfl, ne_n (show r < 2147483648 by omega) (show 300 < 2147483648 by decide), decide_eq_true (show ¬ r = 300 by omega), cond_true, i1, b1, k23]
  rfl
theorem ask_full (hl : rs.length = 300) (cA : ClAsk I I') (h : RA I T S X Y Z Q [] [] 0 rs c k1 k2) : AskR I' F T S c := by
  obtain ⟨hR, hcost, hIv⟩ := id h
  obtain ⟨⟨cR, e1⟩, e2, e3, e4, e5⟩ := id hR.2.2.2.2.2.2.2.2.1
  have hH : T.1 512 = some (house S.1) := hR.2.1
  have ls : tls T 524 = some (Int32.ofNat 300) := by simp only [tls, tl, e1, Option.map_some, hl]
  refine ⟨-1, T, up1 S 0 0, X, Y, Z, Q, rs, k1, k2, ?_, ?_, hR.i0.mono (by omega), hcost, ?_⟩
  · unfold D_c_EdgeHouse_ask
    simp only [Hr8 hH, Option.bind_some, ls]
    rfl
  · unfold D_m_ask
    simp only [fput, Option.bind_some, show (up1 S 0 0).1 70 = Int32.ofNat 300 from (up1_no (by decide)).trans (by rw [e3, hl])]
    rfl
  · obtain ⟨x1, x2, x3⟩ := i0_views (S := S) (x := 0)
    rw [x1, x2, x3]
    exact (cA _ _ _ _ _ _ _ hIv).1
/-- the text is bad -/
theorem ask_bad {T1 T2 : tT} {S2 S3 : mS} (hF : 400 < F) (hl : rs.length < 300) (cA : ClAsk I I') (h : RA I T S X Y Z Q [] [] 0 rs c k1 k2) (y1 : D_c_Reader_readRequest F 513 T = some (none, T1)) (z1 : D_c_Reader_empty F 513 T1 = some T2) (h12 : ∀ b, ¬ b = 513 → T2.1 b = T1.1 b) (cl : tcl T 513 1 = some ()) (cl1 : tcl T1 513 1 = some ()) (y2 : D_m_readText F 1 (up2 (up1 (up1 S 0 0) 70 (Int32.ofNat (rs.length + 1))) 621 rs.length 1) = some (0, S2)) (hR2 : RB T2 S3 X Y Z Q [] [] 0 rs c) (hcs : Cs T T2 3 35) (v1 : vM S3 = vM S) (v2 : vE S3 = vE S) (v3 : vS S3 = vS S) (i3 : ∀ i, S2.1 i = if i = 70 then Int32.ofNat (rs.length + 1) else if i = 0 then 0 else S3.1 i) (r3 : ∀ a k, rd S2 a k = if a = 621 ∧ k = rs.length then 1 else rd S3 a k) : AskR I' F T S c := by
  obtain ⟨hR, hcost, hIv⟩ := id h
  have hH : T.1 512 = some (house S.1) := hR.2.1
  obtain ⟨⟨cR, e1⟩, e2, e3, e4, e5⟩ := id hR.2.2.2.2.2.2.2.2.1
  obtain ⟨⟨cR2, f1⟩, f2, f3, f4, f5⟩ := id hR2.2.2.2.2.2.2.2.2.1
  have hH2 : T2.1 512 = some (house S3.1) := hR2.2.1
  have hH1 : T1.1 512 = some (house S3.1) := (h12 512 (by decide)).symm.trans hH2
  obtain ⟨T47, T58, cap, a1, a2, a3, a4, a5, a6, a7⟩ := rep_new (F := F) hR2.1 f1 hl
  obtain ⟨B, hB⟩ : ∃ B, B = T2.2.1 := ⟨_, rfl⟩
  rw [← hB] at a1 a2 a4 a5 a7
  have nB : ∀ b x, T2.1 b = some x → ¬ b = B := fun b x hb q => by rw [q, a7] at hb; cases hb
  have R58 : RB T58 S2 X Y Z Q [] [] 0 (rs ++ [B]) c := by
    refine RB.newrep (S := up1 S3 0 0) (v := 0) (a := B) hR2.i0 hl (a6 hR2.1).1 (fun b x hb w => ?_) ⟨cap, by rw [a5, if_pos rfl]⟩ ?_ a7 (fun i hi => ?_) ?_ (fun b k w1 w2 w3 => ?_) ?_ ?_ ?_
    · rw [a5, if_neg w, if_neg (nB b x hb)]; exact hb
    · rw [a5, if_neg (fun q => nB _ _ f1 q.symm), if_pos rfl]
      congr 2
      funext i
      unfold fup
      split <;> rfl
    · rw [i3, if_neg hi]
      by_cases w : i = 0
      · rw [if_pos w, w]; exact up1_at.symm
      · rw [if_neg w, up1_no w]
    · rw [i3, if_pos rfl]
    · rw [r3, if_neg w1, rd_up1]
    · rw [r3, if_pos ⟨rfl, rfl⟩]
    · rw [r3, if_neg (by omega)]; exact f4.2.1 _ (Nat.le_refl _)
    · rw [r3, if_neg (by omega)]; exact f4.2.2 _ hl
  obtain ⟨T', S', b1, b2, b3, b4, b5, b6, b7⟩ := P_close0 (F := F) (r := rs.length) (ra := B) (st := 400) R58 (fun y hy q => by
    rw [List.append_nil] at hy
    obtain ⟨k, hk⟩ := List.mem_iff_getElem?.mp hy
    obtain ⟨k', ca, ra, s, b, n, _, _, _, _, q4, _⟩ := (hR.2.2.2.2.2.2.2.1.2.1 k y hk).client q
    exact absurd (List.getElem?_eq_some_iff.mp q4).1 (Nat.lt_irrefl _)) hl (by rw [List.getElem?_append_right (Nat.le_refl _), Nat.sub_self]; rfl) (by rw [r3, if_pos ⟨rfl, rfl⟩]) (Or.inl rfl)
  refine ⟨Int32.ofNat rs.length, T', S', X, Y, Z, Q, rs ++ [B], k1 + 4, k2 + 49, ?_, ?_, b3.mono (by omega), ?_, ?_⟩
  · have ls : tls T 524 = some (Int32.ofNat rs.length) := by simp only [tls, tl, e1, Option.map_some]
    have hH58 : T58.1 512 = some (house S2.1) := R58.2.1
    unfold D_c_EdgeHouse_ask
    simp only [Hr8 hH, Option.bind_some, ls, show (300 : Int32) = Int32.ofNat 300 from rfl, lt_n (show rs.length < 2147483648 by omega) (show 300 < 2147483648 by decide), decide_eq_true hl, cond_true, Hr0 hH, cl, y1, bd2, Hr0 hH1, cl1, z1, a1, a2, Hr8 (a3 _ _ hH2), a4, nc, tcl_o hH58, b1]
  · rw [m_ask0 e3 hl, y2, Option.bind_some, show m_c1 .ne (0 : Int32) = false from rfl, cond_false, b2]
    rfl
  · have q := cost_step hcost ((hcs.trans a6).trans b7) hR.1
    exact ⟨by omega, by omega⟩
  · obtain ⟨w1, w2, w3⟩ := newrep_views (S := S3) (S' := S2) (r := rs.length) (fun i n1 n2 => by rw [i3, if_neg n1, if_neg n2]) f3 (by rw [i3, if_pos rfl]) (fun b k n1 _ _ => by rw [r3, if_neg (fun q => n1 q.1)])
    rw [b4, b5, b6, w1, w2, w3, v1, v2, v3]
    exact (cA _ _ _ _ _ _ _ hIv).2
end
