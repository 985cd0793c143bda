/-! ask(), whole. -/
section
variable {I I' : Iv} {T T' T2 : tT} {S S' S1 : mS} {X Y : Nat → List (Nat × Nat)} {Z : Nat → List Fz} {Q cz Pd : List Rq} {c F n j0 k1 k2 r : Nat} {rs : List Nat}
theorem tcl_empty (h : D_c_Reader_empty F 513 T = some T') : tcl T 513 1 = some () := by
  unfold D_c_Reader_empty at h
  cases e : tpi T 513 1 1 (0 : Int32) with
  | none => rw [e] at h; cases h
  | some U =>
    obtain ⟨fs, q1', _⟩ := tp_ok e
    exact tcl_o q1'
theorem op_ask (hF : 5000 ≤ F) (hc : c + 10 < 2147483648) (hI : Clo I') (cA : ClAsk I I') (cL : S.1 2 = 0 ∨ ClLook I I') (h : RA I T S X Y Z Q [] [] 0 rs c k1 k2) : AskR I' F T S c := by
  obtain ⟨hR, hcost, hIv⟩ := id h
  obtain ⟨⟨cR, e1⟩, e2, e3, e4, e5⟩ := id hR.2.2.2.2.2.2.2.2.1
  by_cases full : rs.length = 300
  · exact ask_full full cA h
  have hl : rs.length < 300 := by omega
  obtain ⟨t, L, g, a, b, d, f2, f3, q1', q2', q3', q4', q5'⟩ := RRd.tape hR.2.2.2.2.2.2.2.2.2.2.2.2.1
  obtain ⟨S6, hS6⟩ : ∃ z, z = up2 (up1 (up1 S 0 0) 70 (Int32.ofNat (rs.length + 1))) 621 rs.length 1 := ⟨_, rfl⟩
  have i6 : ∀ i, S6.1 i = if i = 70 then Int32.ofNat (rs.length + 1) else if i = 0 then 0 else S.1 i := fun i => by
    rw [hS6, up2_1]
    by_cases w : i = 70
    · rw [if_pos w, w]; exact up1_at
    · rw [if_neg w, up1_no w]
      by_cases w0 : i = 0
      · rw [if_pos w0, w0]; exact up1_at
      · rw [if_neg w0, up1_no w0]
  have r6 : ∀ a k, rd S6 a k = if a = 621 ∧ k = rs.length then 1 else rd S a k := fun a k => by rw [hS6, rd_up2, rd_up1, rd_up1]
  have hP6 : Tp t L S6 := ⟨q5'.1, by rw [i6, if_neg (by decide), if_neg (by decide)]; exact q5'.2.1, fun i hi => by rw [r6, if_neg (by omega)]; exact q5'.2.2 i hi⟩
  have cl : tcl T 513 1 = some () := tcl_o q1'
  -- the state as it would be had nothing been asked
  have back : ∀ {T1 : tT} {S2 : mS} {A' k : Nat} {a' b' d' : Option Nat}, Rest T T1 S6 S2 L A' k a' b' d' → ∃ S3, Rest T T1 S S3 L A' k a' b' d' ∧ (∀ i, S2.1 i = if i = 70 then Int32.ofNat (rs.length + 1) else if i = 0 then 0 else S3.1 i) ∧ ∀ a k, rd S2 a k = if a = 621 ∧ k = rs.length then 1 else rd S3 a k := by
    intro T1 S2 A' k a' b' d' hRs
    obtain ⟨g', f2', f3', x1, x2, x3, x4, x5, x6, x7⟩ := hRs
    obtain ⟨S3, hS3⟩ : ∃ z : mS, z = (fun i => if i = 70 then S.1 70 else if i = 0 then S.1 0 else S2.1 i, fun a => if a = 621 then S.2 621 else S2.2 a) := ⟨_, rfl⟩
    have i3 : ∀ i, S3.1 i = if i = 70 then S.1 70 else if i = 0 then S.1 0 else S2.1 i := fun i => by rw [hS3]
    have r3 : ∀ a k, rd S3 a k = if a = 621 then rd S 621 k else rd S2 a k := fun a k => by
      rw [hS3]
      unfold rd
      by_cases w : a = 621
      · simp only [if_pos w]
      · simp only [if_neg w]
    refine ⟨S3, ⟨g', f2', f3', x1, ?_, ?_, x4, x5, x6, ⟨fun i hi => ?_, fun a k ha => ?_⟩⟩, fun i => ?_, fun a k => ?_⟩
    · rw [x2, i3, if_neg (by decide), if_neg (by decide)]
    · rw [i3, if_neg (by decide), if_neg (by decide)]; exact x3
    · rw [i3]
      by_cases w : i = 70
      · rw [if_pos w, w]
      · rw [if_neg w]
        by_cases w0 : i = 0
        · rw [if_pos w0, w0]
        · rw [if_neg w0, x7.1 i hi, i6, if_neg w, if_neg w0]
    · rw [r3]
      by_cases w : a = 621
      · rw [if_pos w, w]
      · rw [if_neg w, x7.2 a k ha, r6, if_neg (fun q => w q.1)]
    · by_cases w : i = 70
      · rw [if_pos w, w, x7.1 70 (by decide), i6, if_pos rfl]
      · rw [if_neg w]
        by_cases w0 : i = 0
        · rw [if_pos w0, w0, x7.1 0 (by decide), i6, if_neg (by decide), if_pos rfl]
        · rw [if_neg w0, i3, if_neg w, if_neg w0]
    · by_cases w : a = 621
      · subst w
        rw [x7.2 621 k (by decide), r6]
        by_cases w2 : k = rs.length
        · rw [if_pos ⟨rfl, w2⟩, if_pos ⟨rfl, w2⟩]
        · rw [if_neg (fun q => w2 q.2), if_neg (fun q => w2 q.2), r3, if_pos rfl]
      · rw [if_neg (fun q => w q.1), r3, if_neg w]
  rcases P_request (F := F) (S := S6) q1' q2' q3' q4' hP6 hR.1.1 (by omega) with ⟨T1, S2, pa, va, la, fo, y0, y1, y2, y3, y4, y5⟩ | ⟨T1, S2, y1, y2, y3, y4⟩
  · obtain ⟨S3, rs3, i3, r3⟩ := back y4
    obtain ⟨T2, z1, z2, z3, z4, z5, z6, z7, z8, z9⟩ := hR.rest (F := F) rfl rs3 y5
    have cL' : ClLook I I' := by
      rcases cL with q | q
      · exfalso
        rw [q5'.2.1] at q
        have := congrArg Int32.toNatClampNeg q
        rw [m_n_cl (by have := q5'.1; omega)] at this
        have e0 : Int32.toNatClampNeg 0 = 0 := rfl
        omega
      · exact q
    rw [hS6] at y2
    exact ask_good hF hl hc hI cA cL' h rfl y1 z1 z4 cl (tcl_empty z1) y2 y3 z2 (fun y ly => z9 y _ y3.2.2.2.2.2.2.2.2.1 rfl ly) z3 z6 z7 z8 i3 r3
  · obtain ⟨S3, rs3, i3, r3⟩ := back y3
    obtain ⟨T2, z1, z2, z3, z4, z5, z6, z7, z8, _⟩ := hR.rest (F := F) rfl rs3 y4
    rw [hS6] at y2
    exact ask_bad (by omega) hl cA h y1 z1 z4 cl (tcl_empty z1) y2 z2 z3 z6 z7 z8 i3 r3
end
