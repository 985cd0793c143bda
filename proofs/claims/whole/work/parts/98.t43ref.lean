/-! Whether a FILL is refused: both go the same way. -/
/-- the message in hand -/
def came (S : mS) : Nat → Int32 := fun i => rd S 628 i
/-- why a FILL is refused -/
def refR (E : Nat → Option (Nat → Int32)) (N : Nat → Nat → Int32) (y : Fz) (m : Nat → Int32) : Prop := m 8 < y.2.2 9 ∨ m 8 < N 0 (y.2.1 / 128) ∨ (m 6 = 304 ∧ ∀ wh, Int32.ofNat wh = v_which (m 20) (y.2.2 2) (y.2.2 3) → wh < 8 → ∀ h, E (8 * y.2.1 + wh) = some h → ¬ h 0 = m 12)
def okR (E : Nat → Option (Nat → Int32)) (y : Fz) (m : Nat → Int32) (wh : Nat) : Prop := ¬ m 8 < y.2.2 9 ∧ Int32.ofNat wh = v_which (m 20) (y.2.2 2) (y.2.2 3) ∧ wh < 8 ∧ (m 6 = 304 → ∃ h, E (8 * y.2.1 + wh) = some h ∧ h 0 = m 12)
theorem which_lt {k la fo : Nat} (hk : k < 4) (hl : la < 4) (hf : fo < 2) : ∃ w, w < 8 ∧ v_which (Int32.ofNat k) (Int32.ofNat la) (Int32.ofNat fo) = Int32.ofNat w := by
  have h : (List.range 4).all (fun k => (List.range 4).all fun l => (List.range 2).all fun f => decide ((v_which (Int32.ofNat k) (Int32.ofNat l) (Int32.ofNat f)).toNatClampNeg < 8) && decide (v_which (Int32.ofNat k) (Int32.ofNat l) (Int32.ofNat f) = Int32.ofNat (v_which (Int32.ofNat k) (Int32.ofNat l) (Int32.ofNat f)).toNatClampNeg)) = true := by decide +kernel
  have := List.all_eq_true.mp (List.all_eq_true.mp (List.all_eq_true.mp h k (List.mem_range.mpr hk)) la (List.mem_range.mpr hl)) fo (List.mem_range.mpr hf)
  have := Bool.and_eq_true_iff.mp this
  exact ⟨_, of_decide_eq_true this.1, of_decide_eq_true this.2⟩
section
variable {T : tT} {S : mS} {X Y : Nat → List (Nat × Nat)} {Z : Nat → List Fz} {Q : List Rq} {c F n : Nat} {rs : List Nat} {y : Fz}
theorem refused_both (hF : 4001 ≤ F) {pp v la fo : Nat} (hp : pp < 32) (hv : v < 4) (hla : la < 4) (hfo : fo < 2) (h1 : 1 ≤ n) (h2 : n < 7) (hf : y.2.1 = 128 * n + (4 * pp + v)) (h : RBx T S X Y Z Q rs c y.2.1) (g0 : y.2.2 0 = Int32.ofNat pp) (g1 : y.2.2 1 = Int32.ofNat v) (g2 : y.2.2 2 = Int32.ofNat la) (g3 : y.2.2 3 = Int32.ofNat fo) (s15 : rd S 615 y.2.1 = y.2.2 9) (s16 : rd S 616 y.2.1 = Int32.ofNat (la + 4 * fo)) {w9 : Int32} {hd9 tl9 : Option Nat} (hcell : T.1 y.1 = some (cFetch (fup y.2.2 11 w9) hd9 tl9)) {am t mk : Nat} {gm : Nat → Int32} (hm : T.1 am = some (cMsg gm (some t))) (ht : T.1 t = some (cTold (came S 4) (fun i => came S (12 + i)))) (hk : okT (fun i => came S (12 + i))) (m12 : gm 12 = came S 6) (m13 : gm 13 = came S 8) (m6 : came S 6 = 200 ∨ came S 6 = 304) (hmk : came S 8 = Int32.ofNat mk) (hm6 : mk ≤ 60) (hl9 : few 61 (y.2.2 9)) (hmo : ¬ S.1 37 < came S 8) : ∃ (rf : Bool) (wh : Nat), D_c_EdgeHouse_isRefused F 512 (some (527 + 8 * n)) (some y.1) (some am) T = some (b2i rf) ∧ wh < 8 ∧ Int32.ofNat wh = v_which (came S 20) (y.2.2 2) (y.2.2 3) ∧ D_m_bringFill_78 F (Int32.ofNat n) (Int32.ofNat (4 * pp + v)) (Int32.ofNat y.2.1) S = (if rf then D_m_bringFill_276 F (Int32.ofNat n) (Int32.ofNat (4 * pp + v)) (Int32.ofNat y.2.1) S else D_m_bringFill_293 F (Int32.ofNat n) (Int32.ofNat y.2.1) (Int32.ofNat (8 * y.2.1 + wh)) S) ∧ (rf = true → refR (vE S) (vS S) y (came S)) ∧ (rf = false → okR (vE S) y (came S) wh) := by
  obtain ⟨l9, l91, l92⟩ := hl9
  obtain ⟨o, fb, fw, u1, u2, u3, u4, u5, u6, u7⟩ := h.1.2.2.2.2.2.2.2.2.1
  have rpk := u6 n h1 h2
  obtain ⟨fk, K, k1, k2, k3, k4, k5⟩ := id rpk
  have hH : T.1 512 = some (house S.1) := h.1.2.1
  have hnode := (h.1.2.2.2.2.1.2.1 n h1 h2).1
  obtain ⟨hR, hl, _⟩ := h.1.2.2.2.2.2.1.1 n h1 h2
  obtain ⟨v8, v81, v82⟩ := hk.2.2.2.2.2.2.2.2.2
  have v82' : came S 20 = Int32.ofNat v8 := v82
  obtain ⟨wh, wh1, wh2⟩ := which_lt v81 hla hfo
  have whE : Int32.ofNat wh = v_which (came S 20) (y.2.2 2) (y.2.2 3) := by rw [v82', g2, g3]; exact wh2.symm
  have few19 : few 256 (rd S 628 19) := hk.2.2.2.2.2.2.2.2.1
  obtain ⟨K', kk1, kk2, loopM⟩ := m_purged_loop (F := F) h2 rpk u2 u5 few19 hmk hm6
  have eK : K' = K := by
    rw [k2] at kk1
    have := congrArg Int32.toNatClampNeg kk1
    rw [m_n_cl (by omega), m_n_cl (by omega)] at this
    exact this.symm
  subst eK
  have loopM0 := loopM K' 0 (by omega) (fun j hj => absurd hj (Nat.not_lt_zero _)) F (by omega)
  have iff := hit_iff (S := S) (n := n) (fb := fb) (fw := fw) (fk := fk) (o := o) (mk := mk) (K := K') hm6 u2 (fun i hi => by obtain ⟨j, a1, a2, a3, a4, a5, a6, _⟩ := k4 i hi; exact ⟨j, a1, a2, a3, a4, a5, a6⟩) k5
  -- the class
  have cG : tgi T am 9 13 = some (Int32.ofNat mk) := (Mg13 hm).trans (by rw [m13, hmk])
  have cL : tgi T y.1 10 9 = some (Int32.ofNat l9) := (Fg9 hcell).trans (by show some (y.2.2 9) = _; rw [l92])
  have ge9 : m_c2 .ge (Int32.ofNat mk) (Int32.ofNat l9) = decide (l9 ≤ mk) := ge_n (by omega) (by omega)
  -- the reference up to its cases
  have c20 : aget 0 22 S 628 (20 : Int32) = some (came S 20) := aget_n (k := 20) (Or.inl rfl) (by decide) (by decide)
  have c6 : aget 0 22 S 628 (6 : Int32) = some (came S 6) := aget_n (k := 6) (Or.inl rfl) (by decide) (by decide)
  have c8 : aget 0 22 S 628 (8 : Int32) = some (Int32.ofNat mk) := by rw [← hmk]; exact aget_n (k := 8) (Or.inl rfl) (by decide) (by decide)
  have c12 : aget 0 22 S 628 (12 : Int32) = some (came S 12) := aget_n (k := 12) (Or.inl rfl) (by decide) (by decide)
  have a16 : aget 0 896 S 616 (Int32.ofNat y.2.1) = some (Int32.ofNat (la + 4 * fo)) := by rw [← s16]; exact aget_n (Or.inl rfl) (by omega) (by decide)
  have a15 : aget 0 896 S 615 (Int32.ofNat y.2.1) = some (Int32.ofNat l9) := by rw [← l92, ← s15]; exact aget_n (Or.inl rfl) (by omega) (by decide)
  have wh3 := m_which (F := F) (S := S) v81 hla hfo
  rw [wh2] at wh3
  have ix : (8 : Int32) * Int32.ofNat y.2.1 + Int32.ofNat wh = Int32.ofNat (8 * y.2.1 + wh) := by rw [k8, i_add]
  have a601 : aget 4 7168 S 601 (Int32.ofNat (8 * y.2.1 + wh)) = some (rd S 601 (8 * y.2.1 + wh)) := aget_n (Or.inr rfl) (by omega) (by decide)
  have t0 : D_m_told F (Int32.ofNat (8 * y.2.1 + wh)) 0 S = some (eT S (8 * y.2.1 + wh) 0) := told0 (by omega)
  have n404 : m_c2 .ne (came S 6) (404 : Int32) = true := by rcases m6 with w | w <;> rw [w] <;> rfl
  have n504 : m_c2 .ne (came S 6) (504 : Int32) = true := by rcases m6 with w | w <;> rw [w] <;> rfl
  have mst : D_m_bringFill_78 F (Int32.ofNat n) (Int32.ofNat (4 * pp + v)) (Int32.ofNat y.2.1) S = cond (decide (mk < l9)) (D_m_bringFill_276 F (Int32.ofNat n) (Int32.ofNat (4 * pp + v)) (Int32.ofNat y.2.1) S) ((D_m_isPurged F (Int32.ofNat n) S).bind fun v61 => cond (m_c1 .ne v61) (D_m_bringFill_276 F (Int32.ofNat n) (Int32.ofNat (4 * pp + v)) (Int32.ofNat y.2.1) S) (cond (m_c2 .ne (came S 6) (304 : Int32)) (D_m_bringFill_293 F (Int32.ofNat n) (Int32.ofNat y.2.1) (Int32.ofNat (8 * y.2.1 + wh)) S) (cond (m_c1 .eq (rd S 601 (8 * y.2.1 + wh))) (D_m_bringFill_276 F (Int32.ofNat n) (Int32.ofNat (4 * pp + v)) (Int32.ofNat y.2.1) S) (cond (m_c2 .eq (eT S (8 * y.2.1 + wh) 0) (came S 12)) (D_m_bringFill_293 F (Int32.ofNat n) (Int32.ofNat y.2.1) (Int32.ofNat (8 * y.2.1 + wh)) S) (D_m_bringFill_276 F (Int32.ofNat n) (Int32.ofNat (4 * pp + v)) (Int32.ofNat y.2.1) S))))) := by
    unfold D_m_bringFill_78
    rw [c20, Option.bind_some, a16, Option.bind_some, v82', wh3, Option.bind_some, c6, Option.bind_some, n404, cond_true, Option.bind_some, n504, cond_true, c8, Option.bind_some, a15, Option.bind_some, show m_c2 .lt (Int32.ofNat mk) (Int32.ofNat l9) = decide (mk < l9) from lt_n (by omega) (by omega), ix]
    simp only [Option.bind_some, a601, t0, c12]
  have cst : D_c_EdgeHouse_isRefused F 512 (some (527 + 8 * n)) (some y.1) (some am) T = cond (decide (l9 ≤ mk)) (D_c_EdgeHouse_isRefused_21 F F 512 (some (527 + 8 * n)) (some y.1) (some am) (Int32.ofNat (mk + 1)) T) (some 1) := by
    unfold D_c_EdgeHouse_isRefused
    simp only [Option.bind_some, cG, cL, ge9, p1]
  have mpos : ∀ m8 : Nat, m8 < 2147483648 → (came S 8 < Int32.ofNat m8 ↔ mk < m8) := fun m8 h8 => by rw [hmk]; exact i_lt (by show mk < 2147483648; omega) h8
  by_cases e1 : l9 ≤ mk
  · rw [decide_eq_true e1, cond_true] at cst
    rw [decide_eq_false (show ¬ mk < l9 by omega), cond_false] at mst
    have nlt : ¬ came S 8 < y.2.2 9 := by rw [l92, mpos l9 (by omega)]; omega
    -- what is left if no purge hits
    have find := c_findE (F := F) (by omega) hR (by omega) (p := pp) (v := v) (w := wh) hp hv wh1
    have fin : ∀ g, 0 < g → ∃ rf : Bool, D_c_EdgeHouse_isRefused_21 F g 512 (some (527 + 8 * n)) (some y.1) (some am) (Int32.ofNat (o + 1)) T = some (b2i rf) ∧ cond (m_c2 .ne (came S 6) (304 : Int32)) (D_m_bringFill_293 F (Int32.ofNat n) (Int32.ofNat y.2.1) (Int32.ofNat (8 * y.2.1 + wh)) S) (cond (m_c1 .eq (rd S 601 (8 * y.2.1 + wh))) (D_m_bringFill_276 F (Int32.ofNat n) (Int32.ofNat (4 * pp + v)) (Int32.ofNat y.2.1) S) (cond (m_c2 .eq (eT S (8 * y.2.1 + wh) 0) (came S 12)) (D_m_bringFill_293 F (Int32.ofNat n) (Int32.ofNat y.2.1) (Int32.ofNat (8 * y.2.1 + wh)) S) (D_m_bringFill_276 F (Int32.ofNat n) (Int32.ofNat (4 * pp + v)) (Int32.ofNat y.2.1) S))) = (if rf then D_m_bringFill_276 F (Int32.ofNat n) (Int32.ofNat (4 * pp + v)) (Int32.ofNat y.2.1) S else D_m_bringFill_293 F (Int32.ofNat n) (Int32.ofNat y.2.1) (Int32.ofNat (8 * y.2.1 + wh)) S) ∧ (rf = true → refR (vE S) (vS S) y (came S)) ∧ (rf = false → okR (vE S) y (came S) wh) := by
      intro g hg
      obtain ⟨g, rfl⟩ : ∃ x, g = x + 1 := ⟨g - 1, by omega⟩
      have e13 : tgi T 512 0 13 = some (Int32.ofNat o) := by rw [← u1]; exact Hg13 hH
      have e41 : tgr T (527 + 8 * n) 4 1 = some (some (528 + 8 * n)) := tgr_o (x := some (528 + 8 * n)) hnode rfl
      have cw := c_which (F := F) (la := Int32.ofNat la) (fo := Int32.ofNat fo) ht
      have cw' : D_c_Told_whichFor F t (Int32.ofNat la) (Int32.ofNat fo) T = some (Int32.ofNat wh) := by
        rw [cw]
        show some (v_which (came S 20) _ _) = _
        rw [v82', wh2]
      have f0 : tgi T y.1 10 0 = some (Int32.ofNat pp) := (Fg0 hcell).trans (by show some (y.2.2 0) = _; rw [g0])
      have f1 : tgi T y.1 10 1 = some (Int32.ofNat v) := (Fg1 hcell).trans (by show some (y.2.2 1) = _; rw [g1])
      have f2 : tgi T y.1 10 2 = some (Int32.ofNat la) := (Fg2 hcell).trans (by show some (y.2.2 2) = _; rw [g2])
      have f3 : tgi T y.1 10 3 = some (Int32.ofNat fo) := (Fg3 hcell).trans (by show some (y.2.2 3) = _; rw [g3])
      have gm12 : tgi T am 9 12 = some (came S 6) := (Mg12 hm).trans (by rw [m12])
      have un : D_c_EdgeHouse_isRefused_21 F (g + 1) 512 (some (527 + 8 * n)) (some y.1) (some am) (Int32.ofNat (o + 1)) T = cond (m_c2 .eq (came S 6) (304 : Int32)) ((D_c_Store_find F (528 + 8 * n) (Int32.ofNat pp) (Int32.ofNat v) (Int32.ofNat wh) T).bind fun v73 => nc v73 (D_c_EdgeHouse_isRefused_131 F 512 T) fun a77 => ((tgr T a77 11 2).bind fun v79 => (v79).bind fun a83 => (tgi T a83 13 1).bind fun v86 => (some (some t)).bind fun v89 => (v89).bind fun a93 => (tgi T a93 13 1).bind fun v96 => (cond (m_c2 .eq v86 v96) (some (0 : Int32)) (some (1 : Int32))).bind fun v103 => (bret v103).bind fun v106 => some v106)) (some (0 : Int32)) := by
        conv => lhs; unfold D_c_EdgeHouse_isRefused_21
        simp only [e13, Option.bind_some, gt_n (show o + 1 < 2147483648 by omega) (show o < 2147483648 by omega), decide_eq_true (show o < o + 1 by omega), cond_true, gm12, Mr15 hm, f2, f3, tcl_o ht, cw', e41, f0, f1, hR.stC.1]
      rcases m6 with w | w
      · refine ⟨false, by rw [un, w]; rfl, by rw [w]; rfl, fun q => (by cases q), fun _ => ⟨nlt, whE, wh1, fun q => by rw [w] at q; exact absurd q (by decide)⟩⟩
      · have e304 : m_c2 .eq (came S 6) (304 : Int32) = true := by rw [w]; rfl
        have n304 : m_c2 .ne (came S 6) (304 : Int32) = false := by rw [w]; rfl
        rw [e304, cond_true] at un
        rw [n304, cond_false]
        rw [← hf] at find
        rcases find with ⟨z1, z2⟩ | ⟨q, z1, z2, z3⟩
        · refine ⟨true, by rw [un, z2]; rfl, by rw [z1]; rfl, fun _ => Or.inr (Or.inr ⟨w, fun wh' a1 a2 hh a3 => ?_⟩), fun q => (by cases q)⟩
          have : wh' = wh := by
            have a1' := a1.trans whE.symm
            have := congrArg Int32.toNatClampNeg a1'
            rw [m_n_cl (by omega), m_n_cl (by omega)] at this
            exact this
          subst this
          unfold vE at a3
          rw [if_neg (fun q => q.2 z1)] at a3
          cases a3
        · obtain ⟨k, hk9⟩ := hR.ent z1
          obtain ⟨t9, t1, t2, t3⟩ := hk9.full
          have thr : ¬ rd S 601 (8 * y.2.1 + wh) = 0 := by rw [← z2]; exact hk9.there.1
          have th1 : m_c1 .eq (rd S 601 (8 * y.2.1 + wh)) = false := by simp [m_c1, thr]
          rw [z2] at t1 t2
          have tt : tgi T t 13 1 = some (came S 12) := Tg1 ht
          have un2 : D_c_EdgeHouse_isRefused_21 F (g + 1) 512 (some (527 + 8 * n)) (some y.1) (some am) (Int32.ofNat (o + 1)) T = some (b2i (!decide (eT S (8 * y.2.1 + wh) 0 = came S 12))) := by
            rw [un, z3]
            simp only [Option.bind_some, nc, Er2 t1, Tg1 t2, tt]
            by_cases q : eT S (8 * y.2.1 + wh) 0 = came S 12
            · simp [m_c2, q, b2i, bret]
            · simp [m_c2, q, b2i, bret]
          refine ⟨!decide (eT S (8 * y.2.1 + wh) 0 = came S 12), un2, ?_, fun q => ?_, fun q => ?_⟩
          · rw [th1, cond_false]
            by_cases q : eT S (8 * y.2.1 + wh) 0 = came S 12
            · simp [m_c2, q]
            · simp [m_c2, q]
          · refine Or.inr (Or.inr ⟨w, fun wh' a1 a2 hh a3 => ?_⟩)
            have : wh' = wh := by
              have a1' := a1.trans whE.symm
              have := congrArg Int32.toNatClampNeg a1'
              rw [m_n_cl (by omega), m_n_cl (by omega)] at this
              exact this
            subst this
            rw [vE_some (by omega) thr] at a3
            cases a3
            intro e
            simp [show eT S (8 * y.2.1 + wh') 0 = came S 12 from e] at q
          · refine ⟨nlt, whE, wh1, fun _ => ⟨_, vE_some (by omega) thr, ?_⟩⟩
            have : eT S (8 * y.2.1 + wh) 0 = came S 12 := by simpa using q
            exact this
    have cls := c_purged_loop (F := F) (am := am) (fa := y.1) (t := t) (gm := gm) (fetc := some y.1) h.1.2.1 hnode u1 u2 u3 u4 k1 (fun j j1 j2 => (k5 j j1 j2).imp id (fun q => q.1)) hm ht rfl
    by_cases mo : mk + 1 ≤ o + 1
    · rcases cls (o - mk) (mk + 1) (by omega) (by omega) F (by omega) with ⟨g', b1, b2, b3⟩ | ⟨b1, k, b2, b3, b4⟩
      · obtain ⟨rf, d1, d2, d3, d4⟩ := fin g' (by omega)
        refine ⟨rf, wh, by rw [cst, b2]; exact d1, wh1, whE, ?_, d3, d4⟩
        have np : D_m_isPurged F (Int32.ofNat n) S = some 0 := by
          rcases loopM0 with ⟨_, q⟩ | ⟨q, _⟩
          · obtain ⟨j, j1, j2, j3⟩ := iff.mp q
            exact absurd j3 (b3 j j1 j2)
          · exact q
        rw [mst, np]
        exact d2
      · refine ⟨true, wh, by rw [cst, b1]; rfl, wh1, whE, ?_, fun _ => ?_, fun q => (by cases q)⟩
        · have yp : D_m_isPurged F (Int32.ofNat n) S = some 1 := by
            rcases loopM0 with ⟨q, _⟩ | ⟨_, q⟩
            · exact q
            · obtain ⟨i, i1, i2⟩ := iff.mpr ⟨k, b2, b3, b4⟩
              exact absurd i2 (q i i1)
          rw [mst, yp]
          rfl
        · right; left
          obtain ⟨i, i1, i2⟩ := iff.mpr ⟨k, b2, b3, b4⟩
          obtain ⟨j, j1, j2, j3, j4, j5, j6, j7⟩ := k4 i i1
          have i3 := i2.2
          rw [j3] at i3
          show came S 8 < rd S 593 (y.2.1 / 128)
          rw [hmk, show y.2.1 / 128 = n by omega]
          exact Int32.lt_of_lt_of_le i3 j7
    · exfalso
      rw [u1, hmk, i_lt (by show o < 2147483648; omega) (by show mk < 2147483648; omega)] at hmo
      omega
  · rw [decide_eq_false e1, cond_false] at cst
    rw [decide_eq_true (show mk < l9 by omega), cond_true] at mst
    exact ⟨true, wh, cst, wh1, whE, mst, fun _ => Or.inl (by rw [l92, mpos l9 (by omega)]; omega), fun q => (by cases q)⟩
end
