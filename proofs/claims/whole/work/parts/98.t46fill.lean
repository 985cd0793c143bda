/-! A FILL that is refused: the fetch goes out anew. -/
def ClRef (I : Iv) : Prop := ∀ M1 m M2 Q Z E N k1 k2 n i y to0 la fo had, I (M1 ++ m :: M2) Q [] Z E N k1 k2 → 1 ≤ n → n < 7 → m 0 = 1 → m 2 = Int32.ofNat n → (Z n)[i]? = some y → y.2.2 7 = m 3 → (m 6 = 200 ∨ m 6 = 304) → refR E N y m → la < 4 → fo < 2 → y.2.2 2 = Int32.ofNat la → y.2.2 3 = Int32.ofNat fo → toOK n to0 → hadOK E (N 0 n) y.2.2 y.2.1 (y.2.2 2) (y.2.2 3) had → I (psh (M1 ++ M2) (mkM N n to0 y.2.2 (Int32.ofNat (la + 4 * fo)) had)) Q [] (zAdd (zDel Z n i) n (mkY N y.1 y.2.1 n to0 y.2.2)) E (mkN N n) (k1 + 1) (k2 + 19)
section
variable {I : Iv} {T : tT} {S : mS} {X Y : Nat → List (Nat × Nat)} {Z : Nat → List Fz} {Q : List Rq} {j0 c F n k1 k2 : Nat} {rs : List Nat} {y : Fz} {M1 M2 : List (Nat → Int32)}
theorem RQx.toQ {f : Nat} (h : RQx T S rs Q f) (h0 : rd S 609 f = 1) : RQ T S rs Q [] [] 0 := by
  obtain ⟨⟨a1, a2⟩, b1, c1, c2, d1, d2⟩ := h
  refine ⟨⟨a1, by simpa using a2, Nat.zero_le _, by simp⟩, b1, fun z hz => (by cases hz), fun k z hk => (by simp at hk), by simpa using c1, by simpa using c2, d1, trivial, fun z hz => ?_⟩
  by_cases w : z.2.1 = f
  · rw [w]; exact h0
  · exact d2 z hz w
theorem zDel_sub {i m : Nat} {x : Fz} (h : x ∈ zDel Z n i m) : x ∈ Z m := by
  unfold zDel at h
  by_cases e : m = n
  · rw [if_pos e] at h
    rw [e]
    exact List.mem_of_mem_eraseIdx h
  · rw [if_neg e] at h
    exact h
theorem cAdd_same {C : Nat → List Nat} {f : Nat} : cAdd C f (C f) = C := by
  funext k
  unfold cAdd
  by_cases e : k = f
  · rw [if_pos e, e]
  · rw [if_neg e]
theorem P_276 (hF : 4001 ≤ F) (hI : Clo I) (cL : ClLet I) (cM : ClRem I) (cR : ClRef I) {pp v i : Nat} (hp : pp < 32) (hv : v < 4) (h1 : 1 ≤ n) (h2 : n < 7) (hy : (Z n)[i]? = some y) (hf : y.2.1 = 128 * n + (4 * pp + v)) (h : RBx T S X Y (zDel Z n i) Q rs c y.2.1) (hfe : isFe T S n y (ch Q y.2.1)) (hno : ∀ m, 1 ≤ m → m < 7 → ∀ x ∈ zDel Z n i m, ¬ x.2.1 = y.2.1) (hnew : ∀ m x, 1 ≤ m → m < 7 → x ∈ zDel Z n i m → ¬ x.1 = y.1) (hcost : T.2.1 ≤ k1 + capS T ∧ T.2.2 ≤ k2 + 4 * capS T) (hM : vM S = M1 ++ M2) (hIv : I (M1 ++ cut (came S) :: M2) Q [] Z (vE S) (vS S) k1 k2) (m0 : came S 0 = 1) (m2 : came S 2 = Int32.ofNat n) (m3 : y.2.2 7 = came S 3) (m6 : came S 6 = 200 ∨ came S 6 = 304) (hR : refR (vE S) (vS S) y (came S)) : ∃ T' S' Z' Q' k1' k2', (bd2 (D_c_EdgeHouse_sendFetch F 512 (some (527 + 8 * n)) (some y.1) T) fun v96 T97 => cond (m_c1 .ne v96) (D_c_EdgeHouse_takeFill_118 F 512 T97) ((tgr T97 y.1 10 12).bind fun v107 => (tcl T97 512 0).bind fun _ => (D_c_EdgeHouse_failAll F 512 (some (527 + 8 * n)) v107 T97).bind fun T114 => D_c_EdgeHouse_takeFill_118 F 512 T114)) = some (none, T') ∧ D_m_bringFill_276 F (Int32.ofNat n) (Int32.ofNat (4 * pp + v)) (Int32.ofNat y.2.1) S = some S' ∧ RA I T' S' X Y Z' Q' [] [] 0 rs c k1' k2' := by
  obtain ⟨fa, f, g⟩ := y
  dsimp only at h hno hfe hnew hf m3 hR ⊢
  obtain ⟨f1, ⟨pp', v', p1', p2', p3', p4', p5'⟩, ⟨la, fo, l1, l2, l3, l4, l5⟩, f4, f5, f6, f7, f8, f9, f10, f11, f12, f13, f14, f15, f16⟩ := id hfe
  dsimp only at f1 p3' p4' p5' l3 l4 l5 f4 f5 f6 f7 f8 f9 f10 f11 f12 f13 f14 f15 f16
  have eqs : pp' = pp ∧ v' = v := by omega
  obtain ⟨rfl, rfl⟩ := eqs
  obtain ⟨⟨r1, r2, r3, r4, r5, r6, r9, r10⟩, r7, rq⟩ := id h
  have rQ := rq.toQ f16
  have cFaJ := hI.2.2.2.2.2.1
  have vS1 : ∀ k, vS S 1 k = rd S 596 k := fun k => rfl
  have vS0 : ∀ k, vS S 0 k = rd S 593 k := fun k => rfl
  obtain ⟨J, j1, j2, j3⟩ := cFaJ _ _ _ _ _ _ _ _ hIv n h1 h2
  have rq1 : RQ T (up2 S 609 f 1) rs Q [] [] 0 := by
    obtain ⟨a, b1, b2, b3, c1, c2, dd, dP, d2'⟩ := id rQ
    have hrw : ∀ b k, rd (up2 S 609 f 1) b k = rd S b k := fun b k => by
      rw [rd_up2]
      by_cases w : b = 609 ∧ k = f
      · rw [if_pos w, w.1, w.2, f16]
      · rw [if_neg w]
    exact rQ.fr Kq.refl ⟨fun a _ k => hrw a k, fun i _ => by rw [up2_1]⟩ (fun z _ r _ => hrw _ _) (fun k _ => hrw _ _)
  rcases sent_all (F := F) (C := ch Q) (L := ch Q f) (g := g) (by omega) r1 r2 r3 r4 r5 r6 r7 rQ r9 r10 h1 h2 hf f1 hnew (fun x hx => hno n h1 h2 x hx) hp hv l1 l2 p4' p5' l3 l4 f4 f6 f8 f5 f7 f9 l5 j1 j2 (fun x hx => j3 x (zDel_sub hx)) rq1 with ⟨_, w1, w2⟩ | ⟨o, to0, T', S', s1, s2, s3, s4, s5, ⟨q1', q2', q3', q4', q5', q6', q7', q8', q9', q10'⟩, s6, s7, s8, s9, s10, s11, s12, s13⟩
  · obtain ⟨o1, o2, o3, o4, o5, o6⟩ := h.off (by omega) hno
    have hIv' : I (vM (up2 S 609 f 0)) Q [] Z (vE (up2 S 609 f 0)) (vS (up2 S 609 f 0)) k1 k2 := by
      rw [o4, o5, o6, hM]
      exact cM _ _ _ _ _ _ _ _ _ hIv
    obtain ⟨T', S', k1', k2', u1, u2, u3⟩ := P_failAll (F := F) (y := (fa, f, g)) hF hI cL hp hv h1 h2 hy hf o2 hno hcost hIv'
    refine ⟨T', S', _, _, k1', k2', ?_, ?_, u3⟩
    · rw [w1]
      simp only [bd2, Option.bind_some, show m_c1 .ne (0 : Int32) = false from rfl, cond_false, Fr12 f1, tcl_o (show T.1 512 = some (house S.1) from r2)]
      rw [u1]
      rfl
    · unfold D_m_bringFill_276
      rw [w2, Option.bind_some]
      simp only [show m_c1 .ne (0 : Int32) = false from rfl, cond_false]
      rw [u2]
      rfl
  · refine ⟨T', S', zAdd (zDel Z n i) n (mkY (vS S) fa f n to0 g), Q, k1 + 1, k2 + 19, ?_, ?_, ⟨⟨q1', q2', q3', q4', q5', q6', ?_, q8', q9', q10'⟩, ?_, ?_⟩⟩
    · rw [s4]
      rfl
    · unfold D_m_bringFill_276
      rw [s5, Option.bind_some]
      rfl
    · rw [cAdd_same] at q7'
      exact q7'
    · have := cost_step hcost s13 r1
      exact ⟨by omega, by omega⟩
    · have := cR M1 (cut (came S)) M2 Q Z (vE S) (vS S) k1 k2 n i (fa, f, g) to0 la fo (v_hadG S n g o) hIv h1 h2 m0 m2 hy m3 m6 hR l1 l2 l3 l4 s3 (by rw [vS0]; exact hadOK_of l3 l4 (show f < 896 by omega) s1 s2)
      rw [s6, s7, s8, hM]
      exact this
end
