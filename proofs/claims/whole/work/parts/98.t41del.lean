/-! Entries go. -/
section
variable {I : Iv} {T T' : tT} {S S1 S2 : mS} {X Y : Nat → List (Nat × Nat)} {Z : Nat → List Fz} {Q cz Pd : List Rq} {j0 c F n f k1 k2 : Nat} {rs : List Nat} {A B : List (Nat × Nat)} {p : Nat → Bool} {P : Nat → Prop} {y : Fz}
/-- the class's removal beside the reference's -/
theorem Del.state {A0 B0 : List (Nat × Nat)} (hR : RS T S n A0 B0) (hd : Del T S n A0 B0 p T' S1 A B) (hi : ∀ i, S2.1 i = S.1 i) (hr : ∀ a k, (a = 601 ∧ P k → rd S2 a k = 0) ∧ (¬ (a = 601 ∧ P k) → rd S2 a k = rd S a k)) (hP1 : ∀ r ∈ A0 ++ B0, p r.2 = true → P r.2) (hP2 : ∀ k, P k → (1024 * n ≤ k ∧ k < 1024 * n + 1024) ∧ ∀ r ∈ A0 ++ B0, r.2 = k → p k = true) : RS T' S2 n A B ∧ (∀ U, RTn S U → RTn S2 U) ∧ (∀ a k, ¬ a = 601 → rd S2 a k = rd S a k) ∧ (∀ a k, ¬ (1024 * n ≤ k ∧ k < 1024 * n + 1024) → rd S2 a k = rd S a k) := by
  obtain ⟨d1, d2, d3, d4, d5, d6, d7, d8⟩ := hd
  have same : ∀ a k, rd S2 a k = rd S1 a k := by
    intro a k
    rw [d8]
    by_cases w : a = 601 ∧ P k
    · rw [(hr a k).1 w]
      by_cases e : ∃ r ∈ A0 ++ B0, r.2 = k
      · obtain ⟨r, r1, r2⟩ := e
        rw [if_pos ⟨w.1, (hP2 k w.2).2 r r1 r2, r, r1, r2⟩]
      · rw [if_neg (fun q => e q.2.2), w.1]
        by_cases z : rd S 601 k = 0
        · exact z.symm
        · obtain ⟨r, r1, r2⟩ := hR.2.2.2.2.2.2.2.2.1 k (hP2 k w.2).1.1 (hP2 k w.2).1.2 z
          exact absurd ⟨r, List.mem_append.mpr r1, r2⟩ e
    · rw [(hr a k).2 w]
      by_cases e : a = 601 ∧ p k = true ∧ ∃ r ∈ A0 ++ B0, r.2 = k
      · obtain ⟨e1, e2, r, r1, r2⟩ := e
        subst r2
        exact absurd ⟨e1, hP1 r r1 e2⟩ w
      · rw [if_neg e]
  have i1 : ∀ i, S2.1 i = S1.1 i := fun i => (hi i).trans (d7 i).symm
  have ag : ∀ as is, Ag as is S1 S2 := fun as is => ⟨fun a _ k => same a k, fun i _ => i1 i⟩
  refine ⟨d1.fr Kq.refl (ag _ _), fun U hU => (d5 U hU).fr (ag _ _), fun a k ha => (hr a k).2 (fun w => ha w.1), fun a k hk => (hr a k).2 (fun w => hk (hP2 k w.2).1)⟩
theorem RBx.del (h : RBx T S X Y Z Q rs c f) (h1 : 1 ≤ n) (h2 : n < 7) (hd : Del T S n (X n) (Y n) p T' S1 A B) (cs : Cs T T' 0 0) (hi : ∀ i, S2.1 i = S.1 i) (hr : ∀ a k, (a = 601 ∧ P k → rd S2 a k = 0) ∧ (¬ (a = 601 ∧ P k) → rd S2 a k = rd S a k)) (hP1 : ∀ r ∈ X n ++ Y n, p r.2 = true → P r.2) (hP2 : ∀ k, P k → (1024 * n ≤ k ∧ k < 1024 * n + 1024) ∧ ∀ r ∈ X n ++ Y n, r.2 = k → p k = true) : RBx T' S2 (upL X n A) (upL Y n B) Z Q rs c f ∧ vM S2 = vM S ∧ vS S2 = vS S ∧ vShr (vE S) (vE S2) ∧ Kq [539, 547, 555, 563, 571, 579] [0, 1, 4, 6, 7, 8, 9, 10, 13, 20] T T' := by
  obtain ⟨hR, hl, _⟩ := h.1.2.2.2.2.2.1.1 n h1 h2
  obtain ⟨e1, e2, e3, e4⟩ := Del.state hR hd hi hr hP1 hP2
  obtain ⟨d1, d2, d3, d4, d5, d6, d7, d8⟩ := id hd
  have l1 := d2.length_le
  have l2 := d3.length_le
  have := h.store (A := A) (B := B) (Zs := []) (d := 0) h1 h2 (cs h.1.1).1 e1 (by omega) (fun U hU _ => ⟨U, e2 U hU, by omega⟩) d6 (fun i _ => hi i) (fun a k ha => e3 a k (fun w => ha (Or.inl w))) e4 (fun q hq => hq.imp (fun w => d2.subset w) (fun w => d3.subset w)) (fun a ha => by cases ha)
  exact this
theorem RB.del (h : RB T S X Y Z Q cz Pd j0 rs c) (h1 : 1 ≤ n) (h2 : n < 7) (hd : Del T S n (X n) (Y n) p T' S1 A B) (cs : Cs T T' 0 0) (hi : ∀ i, S2.1 i = S.1 i) (hr : ∀ a k, (a = 601 ∧ P k → rd S2 a k = 0) ∧ (¬ (a = 601 ∧ P k) → rd S2 a k = rd S a k)) (hP1 : ∀ r ∈ X n ++ Y n, p r.2 = true → P r.2) (hP2 : ∀ k, P k → (1024 * n ≤ k ∧ k < 1024 * n + 1024) ∧ ∀ r ∈ X n ++ Y n, r.2 = k → p k = true) : RB T' S2 (upL X n A) (upL Y n B) Z Q cz Pd j0 rs c ∧ vM S2 = vM S ∧ vS S2 = vS S ∧ vShr (vE S) (vE S2) := by
  obtain ⟨hR, hl, _⟩ := h.2.2.2.2.2.1.1 n h1 h2
  obtain ⟨e1, e2, e3, e4⟩ := Del.state hR hd hi hr hP1 hP2
  obtain ⟨d1, d2, d3, d4, d5, d6, d7, d8⟩ := id hd
  have l1 := d2.length_le
  have l2 := d3.length_le
  have := h.store (A := A) (B := B) (Zs := []) (d := 0) h1 h2 (cs h.1).1 e1 (by omega) (fun U hU _ => ⟨U, e2 U hU, by omega⟩) d6 (fun i _ => hi i) (fun a k ha => e3 a k (fun w => ha (Or.inl w))) e4 (fun q hq => hq.imp (fun w => d2.subset w) (fun w => d3.subset w)) (fun a ha => by cases ha)
  exact this
/-- the reference lets all entries of a key go -/
theorem m_124 {x1 x2 : Int32} (hf : f < 896) : ∀ (m w : Nat) (S : mS), w + m = 8 → ∀ g, m < g → ∃ S2, D_m_bringFill_124 F g x1 x2 (Int32.ofNat f) (Int32.ofNat w) S = ((D_m_take F x1 x2 S2).bind fun q102 => D_m_bringFill_161 F F q102.1 (0 : Int32) q102.2) ∧ (∀ i, S2.1 i = S.1 i) ∧ ∀ a k, rd S2 a k = if a = 601 ∧ 8 * f + w ≤ k ∧ k < 8 * f + 8 then 0 else rd S a k := by
  intro m
  induction m with
  | zero =>
    intro w S hw g hg
    obtain ⟨g, rfl⟩ : ∃ x, g = x + 1 := ⟨g - 1, by omega⟩
    refine ⟨S, ?_, fun _ => rfl, fun a k => by rw [if_neg (by omega)]⟩
    unfold D_m_bringFill_124
    rw [show m_c2 .ge (Int32.ofNat w) (8 : Int32) = decide (8 ≤ w) from ge_n (by omega) (by decide), decide_eq_true (by omega)]
    rfl
  | succ m ih =>
    intro w S hw g hg
    obtain ⟨g, rfl⟩ : ∃ x, g = x + 1 := ⟨g - 1, by omega⟩
    obtain ⟨S2, e1, e2, e3⟩ := ih (w + 1) (up2 S 601 (8 * f + w) 0) (by omega) g (by omega)
    refine ⟨S2, ?_, fun i => (e2 i).trans (by rw [up2_1]), fun a k => ?_⟩
    · have b : bput 7168 S 601 (Int32.ofNat (8 * f + w)) 0 = some (up2 S 601 (8 * f + w) 0) := bput_n (by omega) (by decide) (Or.inl rfl)
      conv => lhs; unfold D_m_bringFill_124
      rw [show m_c2 .ge (Int32.ofNat w) (8 : Int32) = decide (8 ≤ w) from ge_n (by omega) (by decide), decide_eq_false (by omega), cond_false, k8, i_add, b, Option.bind_some, q1]
      exact e1
    · rw [e3, rd_up2]
      by_cases w1 : a = 601 ∧ 8 * f + w ≤ k ∧ k < 8 * f + 8
      · rw [if_pos w1]
        by_cases w2 : a = 601 ∧ 8 * f + (w + 1) ≤ k ∧ k < 8 * f + 8
        · rw [if_pos w2]
        · rw [if_neg w2, if_pos (by omega)]
      · rw [if_neg w1, if_neg (by omega), if_neg (by omega)]
/-- a FILL 404 is taken in -/
theorem P_404 (hF : 4001 ≤ F) (hI : Clo I) (cL : ClLet I) (cS : ClShr I) {pp v i : Nat} (hp : pp < 32) (hv : v < 4) (h1 : 1 ≤ n) (h2 : n < 7) (hy : (Z n)[i]? = some y) (hf : y.2.1 = 128 * n + (4 * pp + v)) (g0 : y.2.2 0 = Int32.ofNat pp) (g1 : y.2.2 1 = Int32.ofNat v) (h : RBx T S X Y (zDel Z n i) Q rs c y.2.1) (hcell : ∃ w9, T.1 y.1 = some (cFetch (fup y.2.2 11 w9) (ch Q y.2.1).head? (ch Q y.2.1).getLast?)) (hno : ∀ m, 1 ≤ m → m < 7 → ∀ x ∈ zDel Z n i m, ¬ x.2.1 = y.2.1) (hcost : T.2.1 ≤ k1 + capS T ∧ T.2.2 ≤ k2 + 4 * capS T) (hIv : I (vM S) Q [] Z (vE S) (vS S) k1 k2) : ∃ T' S' S0 X' Y' k1' k2', D_c_EdgeHouse_takeFill_61 F 512 (some (527 + 8 * n)) (some y.1) T = some (none, T') ∧ bput 896 S 609 (Int32.ofNat y.2.1) 0 = some S0 ∧ D_m_bringFill_124 F F (Int32.ofNat n) (Int32.ofNat (4 * pp + v)) (Int32.ofNat y.2.1) (0 : Int32) S0 = some S' ∧ RA I T' S' X' Y' (zDel Z n i) (qOut Q y.2.1) [] [] 0 rs c k1' k2' := by
  obtain ⟨fa, f, g⟩ := y
  have hf' : f = 128 * n + (4 * pp + v) := hf
  subst hf'
  dsimp only at h hno hcell g0 g1 ⊢
  obtain ⟨w9, hcell⟩ := hcell
  obtain ⟨o1, o2, o3, o4, o5, o6⟩ := h.off (by omega) hno
  obtain ⟨hR, hl, _⟩ := o2.1.2.2.2.2.2.1.1 n h1 h2
  have hnode := (o2.1.2.2.2.2.1.2.1 n h1 h2).1
  have hH : T.1 512 = some (house S.1) := h.1.2.1
  -- the class
  obtain ⟨T1, S1, A, B, c1, c2⟩ := removeKey_loop (F := F) (n := n) (p0 := pp) (v0 := v) hp hv ((X n).length + (Y n).length) (X n) (Y n) T (up2 S 609 (128 * n + (4 * pp + v)) 0) (by omega) (Nat.le_refl _) hR (fun j r hj hr => by
    have := (List.getElem?_eq_some_iff.mp hr).1
    rw [List.length_append] at this
    omega) F (by omega)
  have rk : D_c_Store_removeKey F (528 + 8 * n) (Int32.ofNat pp) (Int32.ofNat v) T = some T1 := by
    unfold D_c_Store_removeKey
    rw [hR.stC.1, Option.bind_some, hR.count, Option.bind_some]
    exact c1
  have cs1 : Cs T T1 0 0 := K_c_Store_removeKey (F := F) _ rk
  -- the reference
  obtain ⟨S2, m1, m2, m3⟩ := m_124 (F := F) (f := 128 * n + (4 * pp + v)) (x1 := Int32.ofNat n) (x2 := Int32.ofNat (4 * pp + v)) (by omega) 8 0 (up2 S 609 (128 * n + (4 * pp + v)) 0) rfl F (by omega)
  obtain ⟨d1, d2, d3, d4, d5⟩ := o2.del (P := fun k => k / 8 = 128 * n + (4 * pp + v)) (S2 := S2) h1 h2 c2 cs1 m2 (fun a k => ⟨fun w => by rw [m3, if_pos ⟨w.1, by omega, by omega⟩], fun w => by rw [m3, if_neg (fun q => w ⟨q.1, by omega⟩)]⟩) (fun r hr hp9 => by
      obtain ⟨k, hk⟩ := hR.ent hr
      have rg := hk.rng h2
      have := of_decide_eq_true hp9
      unfold eP eV at this
      show r.2 / 8 = 128 * n + (4 * pp + v)
      omega) (fun k hk => ⟨by omega, fun r _ _ => decide_eq_true (by unfold eP eV; omega)⟩)
  have o3' : rd S2 609 (128 * n + (4 * pp + v)) = 0 := by rw [m3, if_neg (by omega)]; exact o3
  obtain ⟨S3, t1, t2, t3, t4, t5, t6, t7⟩ := d1.take (F := F) hF hp hv h1 h2 o3' hno
  have ql : Q.length ≤ 700 := h.2.2.1.2
  have pl := qIn_len (Q := Q) (f := 128 * n + (4 * pp + v))
  have cell1 := d5.k hcell (show (10 : Nat) ∈ [0, 1, 4, 6, 7, 8, 9, 10, 13, 20] by decide)
  have hH1 := d5.k hH (show (0 : Nat) ∈ [0, 1, 4, 6, 7, 8, 9, 10, 13, 20] by decide)
  have hRA : RA (Gup I) T1 S3 (upL X n A) (upL Y n B) (zDel Z n i) (qOut Q (128 * n + (4 * pp + v))) [] (qIn Q (128 * n + (4 * pp + v))) 0 rs c k1 k2 := by
    refine ⟨t2, (by have := cost_step hcost cs1 h.1.1; exact ⟨by omega, by omega⟩), ?_⟩
    rw [t3, t4, t5, d2, d3, o4, o6]
    refine Gup.shr cS _ _ _ _ _ _ _ _ _ (cL _ _ _ _ _ _ _ _ _ _ hIv h1 h2 hy) ?_
    rw [o5] at d4
    exact d4
  obtain ⟨T', S', k1', k2', u1, u2, u3⟩ := end_loop (F := F) (n := n) (by omega) Gup.clF Gup.faE (qIn Q (128 * n + (4 * pp + v))) T1 S3 0 k1 k2 hRA (fun z hz => by rw [qIn_nd hz]; omega) F F (by omega) (by omega)
  refine ⟨T', S', _, _, _, k1', k2', ?_, o1, ?_, u3.fl.j00⟩
  · have e41 : tgr T (527 + 8 * n) 4 1 = some (some (528 + 8 * n)) := tgr_o (x := some (528 + 8 * n)) hnode rfl
    have f0 : tgi T fa 10 0 = some (Int32.ofNat pp) := (Fg0 hcell).trans (by show some (g 0) = _; rw [g0])
    have f1 : tgi T fa 10 1 = some (Int32.ofNat v) := (Fg1 hcell).trans (by show some (g 1) = _; rw [g1])
    unfold D_c_EdgeHouse_takeFill_61
    simp only [Option.bind_some, e41, f0, f1, hR.stC.1, rk, Fr12 cell1, tcl_o hH1, D_c_EdgeHouse_endAll]
    rw [show (ch Q (128 * n + (4 * pp + v))).head? = ((qIn Q (128 * n + (4 * pp + v))).map Prod.fst).head? from rfl, u1]
    rfl
  · refine m1.trans ?_
    rw [t1, Option.bind_some]
    rw [Nat.zero_add] at u2
    exact u2
end
