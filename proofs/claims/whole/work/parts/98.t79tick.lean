/-! tick(n). -/
def ClTick (I I' : Iv) : Prop := ∀ M Q Z E N k1 k2, I M Q [] Z E N k1 k2 → I' M Q [] Z E (fun j k => if 7 ≤ j then N 7 0 + 1 else N j k) k1 k2
section
variable {I : Iv} {J : Nat → Iv} {T T' : tT} {S S' : mS} {X Y : Nat → List (Nat × Nat)} {Z : Nat → List Fz} {Q : List Rq} {c F n j0 k1 k2 p : Nat} {rs : List Nat}
theorem node_loop (hF : 4001 ≤ F) (hI : Clo I) (cL : ClLet I) (cO : FaOv I) {rec : Nat → Int32 → Int32 → tT → Option (Int32 × tT)} {rec' : Int32 → Int32 → mS → Option (Int32 × mS)} {x1 x2 : Int32} : ∀ (m x : Nat) (T : tT) (S : mS) (Z : Nat → List Fz) (Q : List Rq) (k1 k2 : Nat), x + m = 7 → 1 ≤ x → RA I T S X Y Z Q [] [] 0 rs c k1 k2 → ∀ f g, m < f → m < g → ∃ T' S' Z' Q' k1' k2', D_c_EdgeHouse_tick_40 F rec f 512 x1 x2 (Int32.ofNat x) T = rec 512 x1 (x2 + Int32.ofInt 1) T' ∧ D_m_tick_48 F rec' g x1 x2 (Int32.ofNat x) S = rec' x1 (x2 + Int32.ofInt 1) S' ∧ RA I T' S' X Y Z' Q' [] [] 0 rs c k1' k2' := by
  intro m
  induction m with
  | zero =>
    intro x T S Z Q k1 k2 hx hx1 h f g hf hg
    obtain ⟨f, rfl⟩ : ∃ y, f = y + 1 := ⟨f - 1, by omega⟩
    obtain ⟨g, rfl⟩ : ∃ y, g = y + 1 := ⟨g - 1, by omega⟩
    refine ⟨T, S, Z, Q, k1, k2, ?_, ?_, h⟩
    · unfold D_c_EdgeHouse_tick_40
      rw [show m_c2 .gt (Int32.ofNat x) (6 : Int32) = decide (6 < x) from gt_n (by omega) (by decide), decide_eq_true (by omega), cond_true]
    · unfold D_m_tick_48
      rw [show m_c2 .ge (Int32.ofNat x) (7 : Int32) = decide (7 ≤ x) from ge_n (by omega) (by decide), decide_eq_true (by omega), cond_true]
  | succ m ih =>
    intro x T S Z Q k1 k2 hx hx1 h f g hf hg
    obtain ⟨f, rfl⟩ : ∃ y, f = y + 1 := ⟨f - 1, by omega⟩
    obtain ⟨g, rfl⟩ : ∃ y, g = y + 1 := ⟨g - 1, by omega⟩
    have hH : T.1 512 = some (house S.1) := h.1.2.1
    have g5 := h.1.2.2.2.2.1.get (show x < 7 by omega)
    have len := h.1.2.2.2.2.2.2.1.len hx1 (show x < 7 by omega)
    obtain ⟨T1, S1, Z1, Q1, l1, l2, t1, t2, t3⟩ := lapse_loop (F := F) (n := x) hF hI cL cO hx1 (by omega) 128 T S Z Q k1 k2 0 len h (by decide) F F (by omega) (by omega)
    obtain ⟨T', S', Z', Q', m1, m2, y1, y2, y3⟩ := ih (x + 1) T1 S1 Z1 Q1 l1 l2 (by omega) (by omega) t3 f g (by omega) (by omega)
    refine ⟨T', S', Z', Q', m1, m2, ?_, ?_, y3⟩
    · rw [← y1]
      conv => lhs; unfold D_c_EdgeHouse_tick_40
      rw [show m_c2 .gt (Int32.ofNat x) (6 : Int32) = decide (6 < x) from gt_n (by omega) (by decide), decide_eq_false (by omega), cond_false]
      simp only [Hr3 hH, Option.bind_some, g5, tcl_o hH, D_c_EdgeHouse_endOverdue, t1, q1]
    · rw [← y2]
      conv => lhs; unfold D_m_tick_48
      rw [show m_c2 .ge (Int32.ofNat x) (7 : Int32) = decide (7 ≤ x) from ge_n (by omega) (by decide), decide_eq_false (by omega), cond_false]
      simp only [D_m_lapse, t2, Option.bind_some, q1]
theorem tick_loop {B : Nat} (hF : 4001 ≤ F) (hI : ∀ i, i ≤ B → Clo (J i)) (cL : ∀ i, i ≤ B → ClLet (J i)) (cO : ∀ i, i ≤ B → FaOv (J i)) (cT : ∀ i, i < B → ClTick (J i) (J (i + 1))) (hp : p ≤ 100) : ∀ (m i b : Nat) (T : tT) (S : mS) (Z : Nat → List Fz) (Q : List Rq) (k1 k2 : Nat), i + m = p → b + m ≤ B → RA (J b) T S X Y Z Q [] [] 0 rs c k1 k2 → ∀ f g, m < f → m < g → ∃ v T' S' Z' Q' k1' k2', D_c_EdgeHouse_tick_23 F f 512 (Int32.ofNat p) (Int32.ofNat i) T = some (v, T') ∧ D_m_tick_31 F g (Int32.ofNat p) (Int32.ofNat i) S = some (v, S') ∧ RA (J (b + m)) T' S' X Y Z' Q' [] [] 0 rs c k1' k2' := by
  intro m
  induction m with
  | zero =>
    intro i b T S Z Q k1 k2 hi hB h f g hf hg
    obtain ⟨f, rfl⟩ : ∃ y, f = y + 1 := ⟨f - 1, by omega⟩
    obtain ⟨g, rfl⟩ : ∃ y, g = y + 1 := ⟨g - 1, by omega⟩
    have hH : T.1 512 = some (house S.1) := h.1.2.1
    refine ⟨S.1 36, T, S, Z, Q, k1, k2, ?_, ?_, h⟩
    · unfold D_c_EdgeHouse_tick_23
      rw [ge_n (by omega) (by omega), decide_eq_true (by omega), cond_true, Hg14 hH]
      rfl
    · unfold D_m_tick_31
      rw [ge_n (by omega) (by omega), decide_eq_true (by omega), cond_true]
  | succ m ih =>
    intro i b T S Z Q k1 k2 hi hB h f g hf hg
    obtain ⟨f, rfl⟩ : ∃ y, f = y + 1 := ⟨f - 1, by omega⟩
    obtain ⟨g, rfl⟩ : ∃ y, g = y + 1 := ⟨g - 1, by omega⟩
    obtain ⟨hR, hcost, hIv⟩ := id h
    have hH : T.1 512 = some (house S.1) := hR.2.1
    obtain ⟨S1, hS1⟩ : ∃ x, x = up1 S 36 (S.1 36 + 1) := ⟨_, rfl⟩
    have i1 : ∀ i, ¬ i = 36 → S1.1 i = S.1 i := fun i w => by rw [hS1, up1_1, if_neg w]
    have i36 : S1.1 36 = S.1 36 + 1 := by rw [hS1, up1_1, if_pos rfl]
    have r1 : ∀ a k, rd S1 a k = rd S a k := fun a k => by rw [hS1, rd_up1]
    have hS1f : S1.1 = fup S.1 36 (S.1 36 + 1) := by
      funext i
      rw [hS1, up1_1]
      rfl
    have p14 : tpi T 512 0 14 (S.1 36 + 1) = some (tset T 512 (house S1.1)) := (Hp14 hH).trans (by rw [hS1f])
    have R1 := hR.hs (S' := S1) (fun i hi => i1 i (by omega)) r1
    have cs1 : Cs T (tset T 512 (house S1.1)) 0 0 := cs_house hH
    have h1 : RA (J (b + 1)) (tset T 512 (house S1.1)) S1 X Y Z Q [] [] 0 rs c k1 k2 := by
      refine ⟨R1, (by have := cost_step hcost cs1 hR.1; exact ⟨by omega, by omega⟩), ?_⟩
      have vM1 : vM S1 = vM S := vM_ag ⟨fun a _ k => r1 a k, fun i hi => i1 i (by revert i; decide)⟩
      have vE1 : vE S1 = vE S := vE_ag ⟨fun a _ k => r1 a k, fun i hi => by cases hi⟩
      have vS1 : vS S1 = fun j k => if 7 ≤ j then vS S 7 0 + 1 else vS S j k := by
        funext j k
        unfold vS
        simp only [r1, i1 37 (by decide), i1 70 (by decide), i36]
        by_cases w : 7 ≤ j
        · rw [if_pos w, if_neg (by omega), if_neg (by omega), if_neg (by omega), if_neg (by omega), if_neg (by omega), if_neg (by omega), if_neg (by omega)]
          rfl
        · rw [if_neg w]
          by_cases j0 : j = 0
          · rw [if_pos j0, if_pos j0]
          · rw [if_neg j0, if_neg j0]
            by_cases j1 : j = 1
            · rw [if_pos j1, if_pos j1]
            · rw [if_neg j1, if_neg j1]
              by_cases j2 : j = 2
              · rw [if_pos j2, if_pos j2]
              · rw [if_neg j2, if_neg j2]
                by_cases j3 : j = 3
                · rw [if_pos j3, if_pos j3]
                · rw [if_neg j3, if_neg j3]
                  by_cases j4 : j = 4
                  · rw [if_pos j4, if_pos j4]
                  · rw [if_neg j4, if_neg j4]
                    by_cases j5 : j = 5
                    · rw [if_pos j5, if_pos j5]
                    · rw [if_neg j5, if_neg j5, if_pos (by omega), if_pos (by omega)]
      rw [vM1, vE1, vS1]
      exact cT b (by omega) _ _ _ _ _ _ _ hIv
    obtain ⟨T2, S2, Z2, Q2, l1, l2, t1, t2, t3⟩ := node_loop (F := F) hF (hI (b + 1) (by omega)) (cL (b + 1) (by omega)) (cO (b + 1) (by omega)) (rec := D_c_EdgeHouse_tick_23 F f) (rec' := D_m_tick_31 F g) (x1 := Int32.ofNat p) (x2 := Int32.ofNat i) 6 1 (tset T 512 (house S1.1)) S1 Z Q k1 k2 rfl (Nat.le_refl _) h1 F F (by omega) (by omega)
    obtain ⟨v, T', S', Z', Q', m1, m2, y1, y2, y3⟩ := ih (i + 1) (b + 1) T2 S2 Z2 Q2 l1 l2 (by omega) (by omega) t3 f g (by omega) (by omega)
    refine ⟨v, T', S', Z', Q', m1, m2, ?_, ?_, by rw [show b + (m + 1) = b + 1 + m by omega]; exact y3⟩
    · conv => lhs; unfold D_c_EdgeHouse_tick_23
      rw [ge_n (by omega) (by omega), decide_eq_false (by omega), cond_false, Hg14 hH, Option.bind_some, p14, Option.bind_some]
      rw [q1] at t1
      exact t1.trans y1
    · conv => lhs; unfold D_m_tick_31
      rw [ge_n (by omega) (by omega), decide_eq_false (by omega), cond_false]
      simp only [fput, Option.bind_some]
      rw [← hS1]
      rw [q1] at t2
      exact t2.trans y2
theorem op_tick {b : Nat} (hF : 4001 ≤ F) (hI : ∀ i, i ≤ b + 100 → Clo (J i)) (cL : ∀ i, i ≤ b + 100 → ClLet (J i)) (cO : ∀ i, i ≤ b + 100 → FaOv (J i)) (cT : ∀ i, i < b + 100 → ClTick (J i) (J (i + 1))) (hLe : ∀ i j, i ≤ j → j ≤ b + 100 → Le (J i) (J j)) {x : Int32} (h : RA (J b) T S X Y Z Q [] [] 0 rs c k1 k2) : (∃ p, 1 ≤ p ∧ p ≤ 100 ∧ x = Int32.ofNat p ∧ ∃ v T' S' Z' Q' k1' k2', D_c_EdgeHouse_tick F 512 x T = some (v, T') ∧ D_m_tick F x S = some (v, S') ∧ S'.1 0 = 0 ∧ RA (J (b + 100)) T' S' X Y Z' Q' [] [] 0 rs c k1' k2') ∨ ((∀ p, 1 ≤ p → p ≤ 100 → ¬ x = Int32.ofNat p) ∧ D_m_tick F x S = some (0, up1 S 0 1) ∧ RA (J (b + 100)) T (up1 S 0 1) X Y Z Q [] [] 0 rs c k1 k2) := by
  have hz : ∀ v : Int32, RA (J b) T (up1 S 0 v) X Y Z Q [] [] 0 rs c k1 k2 := fun v => by
    obtain ⟨hR, hcost, hIv⟩ := id h
    have hi : ∀ i, ¬ (84 ≤ i ∧ i ≤ 87) → ¬ i = 0 → (up1 S 0 v).1 i = S.1 i := fun i _ w => by rw [up1_1, if_neg w]
    have hr : ∀ b k, ¬ b = 625 → ¬ b = 626 → ¬ b = 628 → rd (up1 S 0 v) b k = rd S b k := fun b k _ _ _ => rd_up1
    obtain ⟨v1, v2, v3⟩ := now_views hi hr
    exact ⟨hR.now hi hr (by rw [rd_up1]; exact hR.2.2.2.2.2.2.2.2.2.2.2.2.2), hcost, by rw [v1, v2, v3]; exact hIv⟩
  have bad : (m_c2 .lt x (1 : Int32) = true ∨ (m_c2 .lt x (1 : Int32) = false ∧ m_c2 .le x (100 : Int32) = false)) → D_m_tick F x S = some (0, up1 S 0 1) := fun w => by
    have : (cond (m_c2 .lt x (1 : Int32)) (some (1 : Int32)) (cond (m_c2 .le x (100 : Int32)) (some (0 : Int32)) (some (1 : Int32)))) = some 1 := by
      rcases w with w | w
      · rw [w]; rfl
      · rw [w.1, w.2]; rfl
    unfold D_m_tick
    simp only [this, Option.bind_some, fput]
    rfl
  have hRA1 : RA (J (b + 100)) T (up1 S 0 1) X Y Z Q [] [] 0 rs c k1 k2 := ⟨(hz 1).1, (hz 1).2.1, hLe b (b + 100) (by omega) (Nat.le_refl _) _ _ _ _ _ _ _ _ (hz 1).2.2⟩
  rcases i_cases x with hx | ⟨p, hk, rfl⟩
  · right
    have w1 : m_c2 .lt x (1 : Int32) = true := by
      have : x < 1 := Int32.lt_trans hx (by decide)
      simp [m_c2, this]
    exact ⟨fun p p1' p2' e => by rw [e] at hx; exact m_n_neg (by omega) hx, bad (Or.inl w1), hRA1⟩
  · have l1 : m_c2 .lt (Int32.ofNat p) (1 : Int32) = decide (p < 1) := lt_n hk (by decide)
    have l2 : m_c2 .le (Int32.ofNat p) (100 : Int32) = decide (p ≤ 100) := le_n hk (by decide)
    have inj : ∀ q, q ≤ 100 → Int32.ofNat p = Int32.ofNat q → p = q := fun q hq e => by
      have := congrArg Int32.toNatClampNeg e
      rw [m_n_cl hk, m_n_cl (by omega)] at this
      exact this
    by_cases w : 1 ≤ p ∧ p ≤ 100
    · left
      refine ⟨p, w.1, w.2, rfl, ?_⟩
      obtain ⟨v, T', S', Z', Q', m1, m2, y1, y2, y3⟩ := tick_loop (F := F) (J := J) (p := p) (B := b + 100) hF hI cL cO cT w.2 p 0 b T (up1 S 0 0) Z Q k1 k2 (by omega) (by omega) (hz 0) F F (by omega) (by omega)
      refine ⟨v, T', S', Z', Q', m1, m2, ?_, ?_, ?_, y3.1, y3.2.1, hLe (b + p) (b + 100) (by omega) (Nat.le_refl _) _ _ _ _ _ _ _ _ y3.2.2⟩
      · unfold D_c_EdgeHouse_tick
        rw [l1, decide_eq_false (by omega), cond_false, l2, decide_eq_true w.2, cond_true]
        exact y1
      · unfold D_m_tick
        rw [l1, decide_eq_false (by omega), cond_false, l2, decide_eq_true w.2, cond_true, Option.bind_some]
        simp only [fput, Option.bind_some]
        show D_m_tick_31 F F (Int32.ofNat p) 0 (up1 S 0 0) = some (v, S')
        exact y2
      · have := Z_m_tick_31 (F := F) F (Int32.ofNat p) (Int32.ofNat 0) (up1 S 0 0) _ y2
        exact this
    · right
      refine ⟨fun q q1' q2' e => w (by have := inj q q2' e; omega), bad ?_, hRA1⟩
      by_cases w2 : p < 1
      · left; rw [l1, decide_eq_true w2]
      · right; exact ⟨by rw [l1, decide_eq_false w2], by rw [l2, decide_eq_false (by omega)]⟩
end
