/-! carry beside bring. -/
def ClMsg (I : Iv) : Prop := Clo I ∧ ClG I ∧ ClLet I ∧ ClRem I ∧ ClRef I ∧ ClShr I ∧ FaFill I ∧ FaFill2 I ∧ ClOk1 I ∧ ClOk2 I ∧ ClOr I ∧ FaRows I ∧ ClFet I ∧ FaPur I ∧ ClPur I
section
variable {I : Iv} {T T' : tT} {S S' : mS} {X Y : Nat → List (Nat × Nat)} {Z : Nat → List Fz} {Q cz Pd : List Rq} {j0 c F n k k1 k2 : Nat} {rs : List Nat} {M1 M2 : List (Nat → Int32)}
/-- where a message goes, and its kind -/
theorem isMsg.to {b : Nat} {m : Nat → Int32} (h : isMsg T b m) : ∃ gm tm to, T.1 b = some (cMsg gm tm) ∧ gm 0 = m 0 ∧ gm 2 = m 2 ∧ gm 3 = m 3 ∧ m 2 = Int32.ofNat to ∧ to < 7 ∧ (m 0 = 0 ∨ m 0 = 1 ∨ m 0 = 2 ∨ m 0 = 3) ∧ (to = 0 → m 0 = 0 ∨ m 0 = 3) ∧ (¬ to = 0 → m 0 = 0 ∨ m 0 = 1 ∨ m 0 = 2) := by
  obtain ⟨gm, tm, c1, c2, c3, c4, c5⟩ := h
  rcases c5 with w | w | w
  · obtain ⟨w0, _, _, _, _, _, _, _, _, _, _, a, bb, w1, w2, w3⟩ := w
    exact ⟨gm, tm, bb, c1, c2 0 (by decide), c2 2 (by decide), c2 3 (by decide), w2, by omega, Or.inl w0, fun _ => Or.inl w0, fun _ => Or.inl w0⟩
  · obtain ⟨w0, _, _, _, _, _, _, ⟨a, bb, w1, w2, w3⟩, _⟩ := w
    exact ⟨gm, tm, bb, c1, c2 0 (by decide), c2 2 (by decide), c2 3 (by decide), w2, by omega, Or.inr (Or.inl w0), fun z => by omega, fun _ => Or.inr (Or.inl w0)⟩
  · rcases w.2.2.2.2.2.2.2.2.2.2.2 with ⟨w0, _, ⟨n, n1, n2, n3⟩, _⟩ | ⟨w0, w2, _⟩
    · exact ⟨gm, tm, n, c1, c2 0 (by decide), c2 2 (by decide), c2 3 (by decide), n3, by omega, Or.inr (Or.inr (Or.inl w0)), fun z => by omega, fun _ => Or.inr (Or.inr w0)⟩
    · exact ⟨gm, tm, 0, c1, c2 0 (by decide), c2 2 (by decide), c2 3 (by decide), w2, by omega, Or.inr (Or.inr (Or.inr w0)), fun _ => Or.inr w0, fun z => absurd rfl z⟩
theorem carry_both (hF : 4001 ≤ F) (hI : ClMsg I) (h : RB T S X Y Z Q [] [] 0 rs c) (hc : c + 3000 < 2147483648) (hcost : T.2.1 ≤ k1 + capS T ∧ T.2.2 ≤ k2 + 4 * capS T) (hM : vM S = M1 ++ M2) (hIv : I (M1 ++ cut (came S) :: M2) Q [] Z (vE S) (vS S) k1 k2) {am : Nat} (hm : isMsg T am (came S)) (hpm : came S 0 = 2 → isPuM T S (came S)) :
    ∃ T' S' X' Y' Z' Q' k1' k2', D_c_EdgeHouse_carry F 512 (some am) T = some T' ∧ brEnd F S = some S' ∧ RA I T' S' X' Y' Z' Q' [] [] 0 rs (c + 2000) k1' k2' := by
  obtain ⟨hClo, hG, hLet, hRem, hRef, hShr, hFF, hFF2, hO1, hO2, hOr, hRows, hFet, hPur, hPu⟩ := hI
  obtain ⟨gm, tm, to, c1, e0, e2, e3, m2, to7, kinds, kz, kn⟩ := hm.to
  obtain ⟨r1, r2, r3, r4, r5, r6, r7, r8, r9, r10⟩ := id h
  have hH : T.1 512 = some (house S.1) := r2
  have a2 : aget 0 22 S 628 (2 : Int32) = some (Int32.ofNat to) := (aget_n (k := 2) (Or.inl rfl) (by decide) (by decide)).trans (by rw [show rd S 628 2 = came S 2 from rfl, m2])
  have a0 : aget 0 22 S 628 (0 : Int32) = some (came S 0) := aget_n (k := 0) (Or.inl rfl) (by decide) (by decide)
  have a3 : aget 0 22 S 628 (3 : Int32) = some (came S 3) := aget_n (k := 3) (Or.inl rfl) (by decide) (by decide)
  have t2 : tgi T am 9 2 = some (Int32.ofNat to) := (Mg2 c1).trans (by rw [e2, m2])
  have t0 : tgi T am 9 0 = some (came S 0) := (Mg0 c1).trans (by rw [e0])
  have t3 : tgi T am 9 3 = some (came S 3) := (Mg3 c1).trans (by rw [e3])
  by_cases z : to = 0
  · -- to the origin
    subst z
    have cst : D_c_EdgeHouse_carry F 512 (some am) T = (D_c_EdgeHouse_takeAtOrigin F 512 (some am) T).bind fun T111 => some T111 := by
      unfold D_c_EdgeHouse_carry
      simp only [Option.bind_some, t2, show m_c1 .ne (Int32.ofNat 0) = false from rfl, cond_false, tcl_o hH]
    have mst : brEnd F S = D_m_bring_57 F 0 S := by
      unfold brEnd
      rw [a2, Option.bind_some, show m_c1 .le (Int32.ofNat 0) = true from rfl, cond_true]
      rfl
    rcases kz rfl with k0 | k3
    · obtain ⟨T', S', q1', q2', p1', p2', p3'⟩ := P_origin (F := F) (by omega) hOr h hcost hM hIv hm k0 m2
      refine ⟨T', S', X, Y, Z, Q, q1', q2', ?_, ?_, p3'.1.mono (by omega), p3'.2⟩
      · rw [cst, p1']; rfl
      · rw [mst]
        unfold D_m_bring_57
        rw [a0, Option.bind_some, k0, show decide ((0 : Int32) = 0) = true from rfl, cond_true, p2']
        rfl
    · have hIv0 : I (vM S) Q [] Z (vE S) (vS S) k1 k2 := by rw [hM]; exact hRem _ _ _ _ _ _ _ _ _ hIv
      obtain ⟨v, hv⟩ : ∃ v : Int32, v = if came S 3 = S.1 37 then 1 else 0 := ⟨_, rfl⟩
      obtain ⟨S', hS'⟩ : ∃ x, x = up1 S 38 (S.1 38 + v) := ⟨_, rfl⟩
      obtain ⟨b1, b2, b3, b4, b5⟩ := h.ack (S' := S') (fun i hi => by rw [hS', up1_1, if_neg hi]) (fun a k => by rw [hS', rd_up1])
      refine ⟨_, S', X, Y, Z, Q, k1, k2, ?_, ?_, b1.mono (by omega), (by have := cost_step hcost b2 r1; exact ⟨by omega, by omega⟩), by rw [b3, b4, b5]; exact hIv0⟩
      · rw [cst]
        unfold D_c_EdgeHouse_takeAtOrigin
        simp only [Option.bind_some, t0, k3, show m_c2 .ne (3 : Int32) (3 : Int32) = false from rfl, cond_false, t3, Hg13 hH, Hg12 hH]
        have hS1 : S'.1 = fup S.1 38 (S.1 38 + v) := by
          funext i
          rw [hS', up1_1]
          rfl
        by_cases w : came S 3 = S.1 37
        · rw [show m_c2 .ne (came S 3) (S.1 37) = false by simp [m_c2, w], cond_false, Hp12 hH, hS1, hv, if_pos w]
          rfl
        · rw [show m_c2 .ne (came S 3) (S.1 37) = true by simp [m_c2, w], cond_true, hS1, hv, if_neg w]
          have : fup S.1 38 (S.1 38 + 0) = S.1 := by
            funext i
            unfold fup
            by_cases wi : i = 38
            · rw [if_pos wi, wi]; simp
            · rw [if_neg wi]
          rw [this, tset_own hH]
          rfl
      · rw [mst]
        unfold D_m_bring_57
        rw [a0, Option.bind_some, k3, show decide ((3 : Int32) = 0) = false from rfl, cond_false, show decide ((3 : Int32) = 1) = false from rfl, cond_false, show decide ((3 : Int32) = 2) = false from rfl, cond_false, a3, Option.bind_some]
        have : (cond (m_c2 .ne (came S 3) (S.1 37)) (some (0 : Int32)) (some (1 : Int32))) = some v := by
          rw [hv]
          by_cases w : came S 3 = S.1 37 <;> simp [m_c2, w]
        rw [this, Option.bind_some, hS']
        rfl
  · -- to a node
    have h1 : 1 ≤ to := by omega
    have isN : D_c_EdgeHouse_isNode F (Int32.ofNat to) T = some 1 := by
      unfold D_c_EdgeHouse_isNode
      rw [show m_c2 .lt (Int32.ofNat to) (1 : Int32) = decide (to < 1) from lt_n (by omega) (by decide), decide_eq_false (by omega), cond_false, show m_c2 .gt (Int32.ofNat to) (6 : Int32) = decide (6 < to) from gt_n (by omega) (by decide), decide_eq_false (by omega)]
      rfl
    have ne0 : m_c1 .ne (Int32.ofNat to) = true := (ne_n (a := to) (b := 0) (by omega) (by decide)).trans (decide_eq_true (by omega))
    have le0 : m_c1 .le (Int32.ofNat to) = false := by
      have : ¬ Int32.ofNat to ≤ 0 := by
        rw [Int32.not_le]
        exact (i_lt (a := 0) (by decide) (by show to < 2147483648; omega)).mpr (by omega)
      simp [m_c1, this]
    obtain ⟨u1, u2⟩ := r5.up h1 to7
    have g5 := r5.get to7
    have a591 : aget 4 7 S 591 (Int32.ofNat to) = some (rd S 591 to) := aget_n (Or.inr rfl) to7 (by decide)
    have cst : D_c_EdgeHouse_carry F 512 (some am) T = cond (m_c1 .ne (rd S 591 to)) (cond (m_c2 .ne (came S 0) (2 : Int32)) ((cond (m_c2 .ne (came S 0) (1 : Int32)) (some (0 : Int32)) (some (1 : Int32))).bind fun v66 => cond (m_c1 .eq v66) (bd2 (tnw T 6) fun a84 T85 => (D_c_Request_init129 F a84 (some am) T85).bind fun T89 => D_c_EdgeHouse_carry_99 F 512 (some (527 + 8 * to)) v66 (some a84) T89) (bd2 (D_c_EdgeHouse_takeFill F 512 (some (527 + 8 * to)) (some am) T) fun v96 T97 => D_c_EdgeHouse_carry_99 F 512 (some (527 + 8 * to)) v66 v96 T97)) ((D_c_EdgeHouse_takePurge F 512 (some (527 + 8 * to)) (some am) T).bind fun T104 => some T104)) (some T) := by
      unfold D_c_EdgeHouse_carry
      simp only [Option.bind_some, t2, ne0, cond_true, isN, show m_c1 .eq (1 : Int32) = false from rfl, cond_false, Hr3 hH, g5, u1, t0, tcl_o hH]
    have mst : brEnd F S = cond (m_c1 .ne (rd S 591 to)) (D_m_bring_57 F (Int32.ofNat to) S) (some S) := by
      unfold brEnd
      rw [a2, Option.bind_some, le0, cond_false, a591, Option.bind_some]
    cases up : m_c1 .ne (rd S 591 to) with
    | false =>
      rw [up, cond_false] at cst mst
      exact ⟨T, S, X, Y, Z, Q, k1, k2, cst, mst, h.mono (by omega), hcost, by rw [hM]; exact hRem _ _ _ _ _ _ _ _ _ hIv⟩
    | true =>
      rw [up, cond_true] at cst mst
      rcases kn z with k0 | k1' | k2'
      · obtain ⟨T', S', X', Y', Z', Q', q1', q2', p1', p2', p3'⟩ := P_fetch (F := F) (n := to) (by omega) hClo hRows hFet h (by omega) hcost hM hIv hm k0 m2 h1 to7
        refine ⟨T', S', X', Y', Z', Q', q1', q2', ?_, ?_, p3'.1.mono (by omega), p3'.2⟩
        · rw [cst, k0, show m_c2 .ne (0 : Int32) (2 : Int32) = true from rfl, cond_true, show m_c2 .ne (0 : Int32) (1 : Int32) = true from rfl, cond_true, Option.bind_some, show m_c1 .eq (0 : Int32) = true from rfl, cond_true]
          exact p1'
        · rw [mst]
          unfold D_m_bring_57
          rw [a0, Option.bind_some, k0, show decide ((0 : Int32) = 0) = true from rfl, cond_true, p2']
          rfl
      · obtain ⟨p, T0, T', S', X', Y', Z', Q', q1', q2', p1', p2', p3', p4'⟩ := fill_all (F := F) (n := to) hF hClo hG hLet hRem hRef hShr hFF hFF2 hO1 hO2 h1 to7 h hc hcost hM hIv hm k1' m2
        refine ⟨T', S', X', Y', Z', Q', q1', q2', ?_, ?_, p4'⟩
        · rw [cst, k1', show m_c2 .ne (1 : Int32) (2 : Int32) = true from rfl, cond_true, show m_c2 .ne (1 : Int32) (1 : Int32) = false from rfl, cond_false, Option.bind_some, show m_c1 .eq (1 : Int32) = false from rfl, cond_false, p1']
          exact p2'
        · rw [mst]
          unfold D_m_bring_57
          rw [a0, Option.bind_some, k1', show decide ((1 : Int32) = 0) = false from rfl, cond_false, show decide ((1 : Int32) = 1) = true from rfl, cond_true, p3']
          rfl
      · obtain ⟨T', S', X', Y', q1', q2', p1', p2', p3'⟩ := P_purge (F := F) (n := to) hF hPur hPu h1 to7 h hcost hM hIv hm k2' m2 (hpm k2')
        refine ⟨T', S', X', Y', Z, Q, q1', q2', ?_, ?_, p3'.1.mono (by omega), p3'.2⟩
        · rw [cst, k2', show m_c2 .ne (2 : Int32) (2 : Int32) = false from rfl, cond_false, p1']
          rfl
        · rw [mst]
          unfold D_m_bring_57
          rw [a0, Option.bind_some, k2', show decide ((2 : Int32) = 0) = false from rfl, cond_false, show decide ((2 : Int32) = 1) = false from rfl, cond_false, show decide ((2 : Int32) = 2) = true from rfl, cond_true, p2']
          rfl
/-- a message is taken out and carried -/
theorem bring_both (hF : 4001 ≤ F) (hI : ClMsg I) (h : RA I T S X Y Z Q [] [] 0 rs c k1 k2) (hc : c + 3000 < 2147483648) (hn : S.1 77 = Int32.ofNat n) (hn1 : n ≤ 100) (hk : k < n) :
    ∃ b T1 T' S' X' Y' Z' Q' k1' k2', tlr T 523 (Int32.ofNat k) = some (b, T1) ∧ tcc T1 (some b) 9 = some () ∧ tcl T1 512 0 = some () ∧ D_c_EdgeHouse_carry F 512 (some b) T1 = some T' ∧ D_m_bring F (Int32.ofNat k) S = some S' ∧ RA I T' S' X' Y' Z' Q' [] [] 0 rs (c + 2000) k1' k2' := by
  obtain ⟨hR, hcost, hIv⟩ := h
  obtain ⟨b, T1, S1, M1, M2, a1, a2, a3, a4, a5, a6, a7, a8, a9, a10⟩ := hR.msg (F := F) (k := k) (by omega) hn hn1 hk
  obtain ⟨T', S', X', Y', Z', Q', q1', q2', p1', p2', p3'⟩ := carry_both (F := F) (k1 := k1) (k2 := k2) hF hI a3 hc (by have := cost_step hcost a5 hR.1; exact ⟨by omega, by omega⟩) a7 (by rw [a8, a9, ← a6]; exact hIv) a4 a10
  obtain ⟨gm, tm, _, c1, _⟩ := a4.to
  exact ⟨b, T1, T', S', X', Y', Z', Q', q1', q2', a1, tcl_o c1, tcl_o a3.2.1, p1', a2.trans p2', p3'⟩
/-- deliver(k) -/
theorem op_deliver (hF : 4001 ≤ F) (hI : ClMsg I) {x : Int32} (h : RA I T S X Y Z Q [] [] 0 rs c k1 k2) (hc : c + 3000 < 2147483648) : ∃ v T' S' X' Y' Z' Q' k1' k2', D_c_EdgeHouse_deliver F 512 x T = some (v, T') ∧ D_m_deliver F x S = some (v, S') ∧ RA I T' S' X' Y' Z' Q' [] [] 0 rs (c + 2000) k1' k2' := by
  obtain ⟨hR, hcost, hIv⟩ := id h
  obtain ⟨n, cap, ms, h1, h2, h3, h4, h5⟩ := id hR.2.2.1
  have hH : T.1 512 = some (house S.1) := hR.2.1
  have hi : ∀ i, ¬ (84 ≤ i ∧ i ≤ 87) → ¬ i = 0 → (up1 S 0 0).1 i = S.1 i := fun i _ w => by rw [up1_1, if_neg w]
  have hr : ∀ b k, ¬ b = 625 → ¬ b = 626 → ¬ b = 628 → rd (up1 S 0 0) b k = rd S b k := fun b k _ _ _ => rd_up1
  have hR0 : RB T (up1 S 0 0) X Y Z Q [] [] 0 rs c := hR.now hi hr (by rw [rd_up1]; exact hR.2.2.2.2.2.2.2.2.2.2.2.2.2)
  obtain ⟨v1, v2, v3⟩ := now_views hi hr
  have h0 : RA I T (up1 S 0 0) X Y Z Q [] [] 0 rs c k1 k2 := ⟨hR0, hcost, by rw [v1, v2, v3]; exact hIv⟩
  have h0' : RA I T (up1 S 0 0) X Y Z Q [] [] 0 rs (c + 2000) k1 k2 := ⟨hR0.mono (by omega), h0.2⟩
  unfold D_c_EdgeHouse_deliver D_m_deliver
  simp only [fput, Option.bind_some]
  rcases i_cases x with hx | ⟨k, hk, rfl⟩
  · rw [c1_neg hx, cond_true, cond_true]
    exact ⟨0, T, up1 S 0 0, X, Y, Z, Q, k1, k2, rfl, rfl, h0'⟩
  · have ek : m_c1 .lt (Int32.ofNat k) = false := m_c1_ltf hk
    have e77 : (up1 S 0 0).1 77 = Int32.ofNat n := h1
    have ls : tls T 523 = some (Int32.ofNat n) := by simp only [tls, tl, h3, Option.map_some, h4]
    rw [ek, cond_false, cond_false, e77]
    simp only [Hr7 hH, Option.bind_some, ls]
    rw [lt_n hk (by omega)]
    by_cases hkn : k < n
    · rw [decide_eq_true hkn, cond_true, cond_true]
      obtain ⟨b, T1, T', S', X', Y', Z', Q', q1', q2', p1', p2', p3', p4', p5', p6'⟩ := bring_both (F := F) hF hI h0 hc e77 h2 hkn
      refine ⟨1, T', S', X', Y', Z', Q', q1', q2', ?_, ?_, p6'⟩
      · simp only [bd2, p1', Option.bind_some, p2', p3', p4']
      · rw [p5', Option.bind_some]
    · rw [decide_eq_false hkn, cond_false, cond_false]
      exact ⟨0, T, up1 S 0 0, X, Y, Z, Q, k1, k2, rfl, rfl, h0'⟩
theorem settle_loop (hF : 4001 ≤ F) (hI : ClMsg I) : ∀ (m x : Nat) (T : tT) (S : mS) (X Y : Nat → List (Nat × Nat)) (Z : Nat → List Fz) (Q : List Rq) (c k1 k2 : Nat), x + m = 500 → RA I T S X Y Z Q [] [] 0 rs c k1 k2 → c + 2000 * m + 3000 < 2147483648 → ∀ f g, m < f → m < g → ∃ v T' S' X' Y' Z' Q' k1' k2', D_c_EdgeHouse_settle_2 F f 512 (Int32.ofNat x) T = some (v, T') ∧ D_m_settle_7 F g (Int32.ofNat x) S = some (v, S') ∧ RA I T' S' X' Y' Z' Q' [] [] 0 rs (c + 2000 * m) k1' k2' := by
  intro m
  induction m with
  | zero =>
    intro x T S X Y Z Q c k1 k2 hx h hc f g hf hg
    obtain ⟨f, rfl⟩ : ∃ y, f = y + 1 := ⟨f - 1, by omega⟩
    obtain ⟨g, rfl⟩ : ∃ y, g = y + 1 := ⟨g - 1, by omega⟩
    have : m_c2 .ge (Int32.ofNat x) (500 : Int32) = true := (ge_n (b := 500) (by omega) (by decide)).trans (decide_eq_true (by omega))
    refine ⟨Int32.ofNat x, T, S, X, Y, Z, Q, k1, k2, ?_, ?_, h⟩
    · unfold D_c_EdgeHouse_settle_2
      rw [this]; rfl
    · unfold D_m_settle_7
      rw [this]
      cases m_c1 .le (S.1 77) <;> rfl
  | succ m ih =>
    intro x T S X Y Z Q c k1 k2 hx h hc f g hf hg
    obtain ⟨f, rfl⟩ : ∃ y, f = y + 1 := ⟨f - 1, by omega⟩
    obtain ⟨g, rfl⟩ : ∃ y, g = y + 1 := ⟨g - 1, by omega⟩
    have lt5 : m_c2 .ge (Int32.ofNat x) (500 : Int32) = false := (ge_n (b := 500) (by omega) (by decide)).trans (decide_eq_false (by omega))
    obtain ⟨hR, hcost, hIv⟩ := id h
    obtain ⟨n, cap, ms, h1, h2, h3, h4, h5⟩ := id hR.2.2.1
    have hH : T.1 512 = some (house S.1) := hR.2.1
    by_cases hn : n = 0
    · subst hn
      have m0 : ms = [] := List.length_eq_zero_iff.mp h4
      refine ⟨Int32.ofNat x, T, S, X, Y, Z, Q, k1, k2, ?_, ?_, hR.mono (by omega), h.2⟩
      · unfold D_c_EdgeHouse_settle_2
        rw [lt5, cond_false]
        have le : tle T 523 = some 1 := by simp only [tle, tl, h3, m0]; rfl
        simp only [Hr7 hH, Option.bind_some, le]
        rfl
      · unfold D_m_settle_7
        rw [h1]
        rfl
    · obtain ⟨b, T1, T', S', X', Y', Z', Q', q1', q2', p1', p2', p3', p4', p5', p6'⟩ := bring_both (F := F) (k := 0) hF hI h (by omega) h1 h2 (by omega)
      obtain ⟨v, T'', S'', X'', Y'', Z'', Q'', l1, l2, y1, y2, y3⟩ := ih (x + 1) T' S' X' Y' Z' Q' (c + 2000) q1' q2' (by omega) p6' (by omega) f g (by omega) (by omega)
      refine ⟨v, T'', S'', X'', Y'', Z'', Q'', l1, l2, ?_, ?_, by rw [show c + 2000 * (m + 1) = c + 2000 + 2000 * m by omega]; exact y3⟩
      · conv => lhs; unfold D_c_EdgeHouse_settle_2
        rw [lt5, cond_false]
        have le : tle T 523 = some 0 := by
          have : ¬ ms = [] := fun w => by rw [w] at h4; exact hn h4.symm
          simp only [tle, tl, h3, Option.map_some, if_neg this]
        have p1'' : tlr T 523 (0 : Int32) = some (b, T1) := p1'
        simp only [Hr7 hH, Option.bind_some, le, show m_c1 .ne (0 : Int32) = false from rfl, cond_false, bd2, p1'', p2', p3', p4', q1]
        exact y1
      · conv => lhs; unfold D_m_settle_7
        have nle : m_c1 .le (S.1 77) = false := by
          rw [h1]
          have : ¬ Int32.ofNat n ≤ 0 := by
            rw [Int32.not_le]
            exact (i_lt (a := 0) (by decide) (by show n < 2147483648; omega)).mpr (by omega)
          simp [m_c1, this]
        have p5'' : D_m_bring F (0 : Int32) S = some S' := p5'
        rw [nle, cond_false, lt5, cond_false, p5'', Option.bind_some, q1]
        exact y2
/-- settle() -/
theorem op_settle (hF : 4001 ≤ F) (hI : ClMsg I) (h : RA I T S X Y Z Q [] [] 0 rs c k1 k2) (hc : c + 1100000 < 2147483648) : ∃ v T' S' X' Y' Z' Q' k1' k2', D_c_EdgeHouse_settle F 512 T = some (v, T') ∧ D_m_settle F S = some (v, S') ∧ RA I T' S' X' Y' Z' Q' [] [] 0 rs (c + 1000000) k1' k2' := by
  obtain ⟨hR, hcost, hIv⟩ := id h
  have hi : ∀ i, ¬ (84 ≤ i ∧ i ≤ 87) → ¬ i = 0 → (up1 S 0 0).1 i = S.1 i := fun i _ w => by rw [up1_1, if_neg w]
  have hr : ∀ b k, ¬ b = 625 → ¬ b = 626 → ¬ b = 628 → rd (up1 S 0 0) b k = rd S b k := fun b k _ _ _ => rd_up1
  have hR0 : RB T (up1 S 0 0) X Y Z Q [] [] 0 rs c := hR.now hi hr (by rw [rd_up1]; exact hR.2.2.2.2.2.2.2.2.2.2.2.2.2)
  obtain ⟨v1, v2, v3⟩ := now_views hi hr
  have h0 : RA I T (up1 S 0 0) X Y Z Q [] [] 0 rs c k1 k2 := ⟨hR0, hcost, by rw [v1, v2, v3]; exact hIv⟩
  obtain ⟨v, T', S', X', Y', Z', Q', q1', q2', y1, y2, y3⟩ := settle_loop (F := F) hF hI 500 0 T (up1 S 0 0) X Y Z Q c k1 k2 rfl h0 (by omega) F F (by omega) (by omega)
  refine ⟨v, T', S', X', Y', Z', Q', q1', q2', y1, ?_, y3⟩
  unfold D_m_settle
  simp only [fput, Option.bind_some]
  exact y2
end
