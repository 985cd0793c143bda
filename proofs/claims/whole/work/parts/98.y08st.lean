/-! The calls, one after the other: what holds between them. -/
def LInv (j o : Nat) (T : tT) (S : mS) : Prop := ∃ (X Y : Nat → List (Nat × Nat)) (Z : Nat → List Fz) (Q : List Rq) (rs : List Nat) (c k1 k2 m τ ν lam β1 β2 tp : Nat) (f : Nat → Value), RA (Led3 τ ν lam o β1 β2) T S X Y Z Q [] [] 0 rs c k1 k2 ∧ PI T m ∧ T.1 630 = some (.inr (.inl (1, 1, f))) ∧ (tp = 0 → S.1 2 = 0) ∧ tp ≤ 1 ∧ 2 * lam + tp + o ≤ j ∧ τ ≤ 100 * j ∧ ν ≤ j ∧ c ≤ 1000000 * j ∧ β1 ≤ 700 + 1480 * lam + 520 * o + m ∧ β2 ≤ 10 + 23583 * lam + 8500 * o + 2 * m
def St2 (j o : Nat) (T : tT) (oc : Option (Int32 × tT)) (om : Option (Int32 × mS)) : Prop := ∃ v T' S' o', oc = some (v, T') ∧ om = some (v, S') ∧ o ≤ o' ∧ LInv (j + 1) o' T' S'
def St1 (j o : Nat) (T : tT) (oc : Option Int32) (om : Option (Int32 × mS)) : Prop := ∃ v S' o', oc = some v ∧ om = some (v, S') ∧ o ≤ o' ∧ LInv (j + 1) o' T S'
section
variable {T T' : tT} {S S' : mS} {j o m : Nat} {x y z u v : Int32} {f : Nat → Value}
theorem keep630 (hK : Ktx T T') (hN : okN T) (h : T.1 630 = some (.inr (.inl (1, 1, f)))) : T'.1 630 = some (.inr (.inl (1, 1, f))) := ((hK hN).2.2 630 _ rfl).mpr h
theorem PI.m14 (h : PI T m) : m ≤ 1400 := by
  obtain ⟨b, f', ml, n, _, h1, h2, h3⟩ := h
  exact h2
/-- what was spent so far is within the room -/
theorem LInv.room (h : LInv j o T S) (hj : j ≤ 512) : T.2.1 + o ≤ 600600 ∧ T.2.2 + 6 * o ≤ 7057000 := by
  obtain ⟨X, Y, Z, Q, rs, c, k1, k2, m, τ, ν, lam, β1, β2, tp, f, hR, hP, h630, h2, n1, n2, n3, n4, n5, n6, n7⟩ := h
  obtain ⟨hR1, ⟨hc1, hc2⟩, hI⟩ := hR
  have hm := hP.m14
  have hcap : capS T ≤ 23 * 549 := by
    have hl := hR1.1.2
    have h1 : ∀ b, capC (T.1 b) ≤ 549 := fun b => by
      unfold capC
      split
      · rename_i q e
        exact (hl b q.1 q.2 e).2.2
      · exact Nat.zero_le _
    have h2 : ∀ L : List Nat, (L.map (fun b => capC (T.1 b))).sum ≤ L.length * 549 := fun L => by
      induction L with
      | nil => exact Nat.le_refl _
      | cons a L ih =>
        have := h1 a
        rw [List.map_cons, List.sum_cons, List.length_cons, Nat.succ_mul]
        omega
    exact h2 Ls
  obtain ⟨q, q1, q2, q3, q4⟩ := Led3.fin hI
  omega
theorem s_type (hj : j < 512) {x : Int64} (h : LInv j o T S) : St2 j o T (D_c_EdgeHouse_type 5000 512 x y T) (D_m_type 5000 x y S) := by
  obtain ⟨X, Y, Z, Q, rs, c, k1, k2, m, τ, ν, lam, β1, β2, tp, f, hR, hP, h630, h2, n1, n2, n3, n4, n5, n6, n7⟩ := h
  have hN := hR.1.1.1
  obtain ⟨v, T', S', e1, e2, e3⟩ := op_type (F := 5000) (x := x) (y := y) (by decide) hR
  have hK := L_c_EdgeHouse_type _ e1
  exact ⟨v, T', S', o, e1, e2, Nat.le_refl _, X, Y, Z, Q, rs, c, k1, k2, m, τ, ν, lam, β1, β2, 1, f, e3, hP.kt hK hN, keep630 hK hN h630, fun q => absurd q (by decide), Nat.le_refl _, by omega, by omega, by omega, by omega, n6, n7⟩
theorem s_drop (hj : j < 512) (h : LInv j o T S) : St2 j o T (D_c_EdgeHouse_drop 5000 512 x T) (D_m_drop 5000 x S) := by
  obtain ⟨X, Y, Z, Q, rs, c, k1, k2, m, τ, ν, lam, β1, β2, tp, f, hR, hP, h630, h2, n1, n2, n3, n4, n5, n6, n7⟩ := h
  have hN := hR.1.1.1
  obtain ⟨v, T', S', e1, e2, e3⟩ := op_drop (F := 5000) (x := x) Led3.clDrop hR
  have hK := L_c_EdgeHouse_drop _ e1
  exact ⟨v, T', S', o, e1, e2, Nat.le_refl _, X, Y, Z, Q, rs, c, k1, k2, m, τ, ν, lam, β1, β2, tp, f, e3, hP.kt hK hN, keep630 hK hN h630, fun q => (Z2_m_drop _ e2).trans (h2 q), n1, by omega, by omega, by omega, by omega, n6, n7⟩
theorem s_deliver (hj : j < 512) (h : LInv j o T S) : St2 j o T (D_c_EdgeHouse_deliver 5000 512 x T) (D_m_deliver 5000 x S) := by
  obtain ⟨X, Y, Z, Q, rs, c, k1, k2, m, τ, ν, lam, β1, β2, tp, f, hR, hP, h630, h2, n1, n2, n3, n4, n5, n6, n7⟩ := h
  have hN := hR.1.1.1
  obtain ⟨v, T', S', X', Y', Z', Q', k1', k2', e1, e2, e3⟩ := op_deliver (F := 5000) (x := x) (by decide) Led3.msg hR (by omega)
  have hK := L_c_EdgeHouse_deliver _ e1
  exact ⟨v, T', S', o, e1, e2, Nat.le_refl _, X', Y', Z', Q', rs, c + 2000, k1', k2', m, τ, ν, lam, β1, β2, tp, f, e3, hP.kt hK hN, keep630 hK hN h630, fun q => (Z2_m_deliver _ e2).trans (h2 q), n1, by omega, by omega, by omega, by omega, n6, n7⟩
theorem s_lose (hj : j < 512) (h : LInv j o T S) : St2 j o T (D_c_EdgeHouse_lose 5000 512 x T) (D_m_lose 5000 x S) := by
  obtain ⟨X, Y, Z, Q, rs, c, k1, k2, m, τ, ν, lam, β1, β2, tp, f, hR, hP, h630, h2, n1, n2, n3, n4, n5, n6, n7⟩ := h
  have hN := hR.1.1.1
  obtain ⟨v, T', S', e1, e2, e3⟩ := op_lose2 (F := 5000) (x := x) (by decide) Led3.clRem hR
  have hK := L_c_EdgeHouse_lose _ e1
  exact ⟨v, T', S', o, e1, e2, Nat.le_refl _, X, Y, Z, Q, rs, c, k1, k2, m, τ, ν, lam, β1, β2, tp, f, e3, hP.kt hK hN, keep630 hK hN h630, fun q => (Z2_m_lose _ e2).trans (h2 q), n1, by omega, by omega, by omega, by omega, n6, n7⟩
theorem s_settle (hj : j < 512) (h : LInv j o T S) : St2 j o T (D_c_EdgeHouse_settle 5000 512 T) (D_m_settle 5000 S) := by
  obtain ⟨X, Y, Z, Q, rs, c, k1, k2, m, τ, ν, lam, β1, β2, tp, f, hR, hP, h630, h2, n1, n2, n3, n4, n5, n6, n7⟩ := h
  have hN := hR.1.1.1
  obtain ⟨v, T', S', X', Y', Z', Q', k1', k2', e1, e2, e3⟩ := op_settle (F := 5000) (by decide) Led3.msg hR (by omega)
  have hK := L_c_EdgeHouse_settle _ e1
  exact ⟨v, T', S', o, e1, e2, Nat.le_refl _, X', Y', Z', Q', rs, c + 1000000, k1', k2', m, τ, ν, lam, β1, β2, tp, f, e3, hP.kt hK hN, keep630 hK hN h630, fun q => (Z2_m_settle _ e2).trans (h2 q), n1, by omega, by omega, by omega, by omega, n6, n7⟩
theorem s_purge (hj : j < 512) (h : LInv j o T S) : St2 j o T (D_c_EdgeHouse_purge 5000 512 x y T) (D_m_purge 5000 x y S) := by
  obtain ⟨X, Y, Z, Q, rs, c, k1, k2, m, τ, ν, lam, β1, β2, tp, f, hR, hP, h630, h2, n1, n2, n3, n4, n5, n6, n7⟩ := h
  have hN := hR.1.1.1
  have hm := hP.m14
  obtain ⟨v, T', S', k1', k2', e1, e2, e3⟩ := op_purge (F := 5000) (x := x) (y := y) (by decide) (Led3.mono (τ := τ) (τ' := τ) (ν := ν) (ν' := ν) (lam := lam) (lam' := lam) (d := o) (d' := o + 1) (β1 := β1) (β1' := β1) (β2 := β2) (β2' := β2) (by omega) (by omega) (by omega) (by omega) (by omega) (by omega) ⟨by omega, by omega, by omega, by omega⟩) (Led3.clPg (by omega)) hR
  have hK := L_c_EdgeHouse_purge _ e1
  exact ⟨v, T', S', o + 1, e1, e2, Nat.le_succ _, X, Y, Z, Q, rs, c, k1', k2', m, τ, ν, lam, β1, β2, tp, f, e3, hP.kt hK hN, keep630 hK hN h630, fun q => (Z2_m_purge _ e2).trans (h2 q), n1, by omega, by omega, by omega, by omega, by omega, by omega⟩
theorem s_fail (hj : j < 512) (h : LInv j o T S) : St2 j o T (D_c_EdgeHouse_fail 5000 512 x T) (D_m_fail 5000 x S) := by
  obtain ⟨X, Y, Z, Q, rs, c, k1, k2, m, τ, ν, lam, β1, β2, tp, f, hR, hP, h630, h2, n1, n2, n3, n4, n5, n6, n7⟩ := h
  have hN := hR.1.1.1
  obtain ⟨v, T', S', X', Y', Z', Q', e1, e2, e3⟩ := op_fail (F := 5000) (x := x) (by decide) Led3.clFail hR
  have hK := L_c_EdgeHouse_fail _ e1
  exact ⟨v, T', S', o, e1, e2, Nat.le_refl _, X', Y', Z', Q', rs, c, k1, k2, m, τ, ν, lam, β1, β2, tp, f, e3, hP.kt hK hN, keep630 hK hN h630, fun q => (Z2_m_fail _ e2).trans (h2 q), n1, by omega, by omega, by omega, by omega, n6, n7⟩
theorem s_back (hj : j < 512) (h : LInv j o T S) : St2 j o T (D_c_EdgeHouse_back 5000 512 x T) (D_m_back 5000 x S) := by
  obtain ⟨X, Y, Z, Q, rs, c, k1, k2, m, τ, ν, lam, β1, β2, tp, f, hR, hP, h630, h2, n1, n2, n3, n4, n5, n6, n7⟩ := h
  have hN := hR.1.1.1
  have hm := hP.m14
  have le := Led3.mono (τ := τ) (τ' := τ) (ν := ν) (ν' := ν) (lam := lam) (lam' := lam) (d := o) (d' := o + 1) (β1 := β1 + 512) (β1' := β1 + 512) (β2 := β2 + 8448) (β2' := β2 + 8448) (by omega) (by omega) (by omega) (by omega) (by omega) (by omega) ⟨by omega, by omega, by omega, by omega⟩
  have le0 := Led3.mono (τ := τ) (τ' := τ) (ν := ν) (ν' := ν) (lam := lam) (lam' := lam) (d := o) (d' := o) (β1 := β1) (β1' := β1 + 512) (β2 := β2) (β2' := β2 + 8448) (by omega) (by omega) (by omega) (by omega) (by omega) (by omega) ⟨by omega, by omega, by omega, by omega⟩
  obtain ⟨v, T', S', e1, e2, e3⟩ := op_back (F := 5000) (x := x) (by decide) le0 (Led3.clBk (by omega)) hR
  have hK := L_c_EdgeHouse_back _ e1
  exact ⟨v, T', S', o + 1, e1, e2, Nat.le_succ _, X, Y, Z, Q, rs, c, k1, k2, m, τ, ν, lam, β1 + 512, β2 + 8448, tp, f, ⟨e3.1, e3.2.1, le _ _ _ _ _ _ _ _ e3.2.2⟩, hP.kt hK hN, keep630 hK hN h630, fun q => (Z2_m_back _ e2).trans (h2 q), n1, by omega, by omega, by omega, by omega, by omega, by omega⟩
theorem s_budget (hj : j < 512) (h : LInv j o T S) : St2 j o T (D_c_EdgeHouse_budget 5000 512 x y T) (D_m_budget 5000 x y S) := by
  obtain ⟨X, Y, Z, Q, rs, c, k1, k2, m, τ, ν, lam, β1, β2, tp, f, hR, hP, h630, h2, n1, n2, n3, n4, n5, n6, n7⟩ := h
  have hN := hR.1.1.1
  obtain ⟨v, T', S', X', Y', e1, e2, e3⟩ := op_budget (F := 5000) (x := x) (y := y) (by decide) Led3.clShr hR (by omega)
  have hK := L_c_EdgeHouse_budget _ e1
  exact ⟨v, T', S', o, e1, e2, Nat.le_refl _, X', Y', Z, Q, rs, c, k1, k2, m, τ, ν, lam, β1, β2, tp, f, e3, hP.kt hK hN, keep630 hK hN h630, fun q => (Z2_m_budget _ e2).trans (h2 q), n1, by omega, by omega, by omega, by omega, n6, n7⟩
theorem s_letter (hj : j < 512) (h : LInv j o T S) : St2 j o T (D_c_EdgeHouse_letter 5000 512 x y T) (D_m_letter 5000 x y S) := by
  obtain ⟨X, Y, Z, Q, rs, c, k1, k2, m, τ, ν, lam, β1, β2, tp, f, hR, hP, h630, h2, n1, n2, n3, n4, n5, n6, n7⟩ := h
  have hm := hP.m14
  obtain ⟨v, T', S', m', k1', k2', e1, e2, _, e0, e3, hP', hmm, e4⟩ := op_letter (F := 5000) (x := x) (y := y) (by decide) (Led3.clTx (m := m) (by omega)) hP hR
  have hm' := hP'.m14
  have le := Led3.mono (τ := τ) (τ' := τ) (ν := ν) (ν' := ν) (lam := lam) (lam' := lam) (d := o) (d' := o + 1) (β1 := β1 + ((m' - m) + 2)) (β1' := β1 + ((m' - m) + 2)) (β2 := β2 + (2 * (m' - m) + 500)) (β2' := β2 + (2 * (m' - m) + 500)) (by omega) (by omega) (by omega) (by omega) (by omega) (by omega) ⟨by omega, by omega, by omega, by omega⟩
  exact ⟨v, T', S', o + 1, e1, e2, Nat.le_succ _, X, Y, Z, Q, rs, c, k1', k2', m', τ, ν, lam, β1 + ((m' - m) + 2), β2 + (2 * (m' - m) + 500), tp, f, ⟨e3.1, e3.2.1, le _ _ _ _ _ _ _ _ e3.2.2⟩, hP', e4 _ _ _ h630, fun q => e0.trans (h2 q), n1, by omega, by omega, by omega, by omega, by omega, by omega⟩
theorem s_fault (hj : j < 512) (h : LInv j o T S) : St1 j o T (D_c_EdgeHouse_fault 5000 512 T) (D_m_fault 5000 S) := by
  obtain ⟨X, Y, Z, Q, rs, c, k1, k2, m, τ, ν, lam, β1, β2, tp, f, hR, hP, h630, h2, n1, n2, n3, n4, n5, n6, n7⟩ := h
  obtain ⟨v, e1, e2, e3⟩ := op_fault2 (F := 5000) hR
  exact ⟨v, _, o, e1, e2, Nat.le_refl _, X, Y, Z, Q, rs, c, k1, k2, m, τ, ν, lam, β1, β2, tp, f, e3, hP, h630, fun q => (Z2_m_fault _ e2).trans (h2 q), n1, by omega, by omega, by omega, by omega, n6, n7⟩
theorem s_total (hj : j < 512) (h : LInv j o T S) : St1 j o T (D_c_EdgeHouse_total 5000 512 x T) (D_m_total 5000 x S) := by
  obtain ⟨X, Y, Z, Q, rs, c, k1, k2, m, τ, ν, lam, β1, β2, tp, f, hR, hP, h630, h2, n1, n2, n3, n4, n5, n6, n7⟩ := h
  obtain ⟨v, e1, e2, e3⟩ := op_total2 (F := 5000) (x := x) hR
  exact ⟨v, _, o, e1, e2, Nat.le_refl _, X, Y, Z, Q, rs, c, k1, k2, m, τ, ν, lam, β1, β2, tp, f, e3, hP, h630, fun q => (Z2_m_total _ e2).trans (h2 q), n1, by omega, by omega, by omega, by omega, n6, n7⟩
theorem s_message (hj : j < 512) (h : LInv j o T S) : St1 j o T (D_c_EdgeHouse_message 5000 512 x y T) (D_m_message 5000 x y S) := by
  obtain ⟨X, Y, Z, Q, rs, c, k1, k2, m, τ, ν, lam, β1, β2, tp, f, hR, hP, h630, h2, n1, n2, n3, n4, n5, n6, n7⟩ := h
  obtain ⟨v, e1, e2, e3⟩ := op_message2 (F := 5000) (x := x) (y := y) hR
  exact ⟨v, _, o, e1, e2, Nat.le_refl _, X, Y, Z, Q, rs, c, k1, k2, m, τ, ν, lam, β1, β2, tp, f, e3, hP, h630, fun q => (Z2_m_message _ e2).trans (h2 q), n1, by omega, by omega, by omega, by omega, n6, n7⟩
theorem s_node (hj : j < 512) (h : LInv j o T S) : St1 j o T (D_c_EdgeHouse_node 5000 512 x y T) (D_m_node 5000 x y S) := by
  obtain ⟨X, Y, Z, Q, rs, c, k1, k2, m, τ, ν, lam, β1, β2, tp, f, hR, hP, h630, h2, n1, n2, n3, n4, n5, n6, n7⟩ := h
  obtain ⟨v, e1, e2, e3⟩ := op_node (F := 5000) (x := x) (y := y) (by decide) hR
  exact ⟨v, _, o, e1, e2, Nat.le_refl _, X, Y, Z, Q, rs, c, k1, k2, m, τ, ν, lam, β1, β2, tp, f, e3, hP, h630, fun q => (Z2_m_node _ e2).trans (h2 q), n1, by omega, by omega, by omega, by omega, n6, n7⟩
theorem s_entry {p v w : Int32} (hj : j < 512) (h : LInv j o T S) : St1 j o T (D_c_EdgeHouse_entry 5000 512 x p v w y T) (D_m_entry 5000 x p v w y S) := by
  obtain ⟨X, Y, Z, Q, rs, c, k1, k2, m, τ, ν, lam, β1, β2, tp, f, hR, hP, h630, h2, n1, n2, n3, n4, n5, n6, n7⟩ := h
  obtain ⟨v, e1, e2, e3⟩ := op_entry (F := 5000) (x := x) (p := p) (v := v) (w := w) (y := y) (by decide) hR (by omega)
  exact ⟨v, _, o, e1, e2, Nat.le_refl _, X, Y, Z, Q, rs, c, k1, k2, m, τ, ν, lam, β1, β2, tp, f, e3, hP, h630, fun q => (Z2_m_entry _ e2).trans (h2 q), n1, by omega, by omega, by omega, by omega, n6, n7⟩
/-- ask: full, without a text, or looked at -/
theorem askf_2 {F : Nat} {r : Int32 × mS} (h70 : S.1 70 = 300) (e : D_m_ask F S = some r) : r.2.1 2 = S.1 2 := by
  unfold D_m_ask at e
  obtain ⟨S1, e1, e⟩ := bS e
  cases e1
  have e70 : (up1 S 0 0).1 70 = 300 := (up1_no (by decide)).trans h70
  rw [show m_c2 .ne ((up1 S 0 0).1 70) (300 : Int32) = false from decide_eq_false (fun q => q e70), cond_false] at e
  cases e
  exact up1_no (by decide)
theorem s_ask (hj : j < 512) (h : LInv j o T S) : St2 j o T (D_c_EdgeHouse_ask 5000 512 T) (D_m_ask 5000 S) := by
  obtain ⟨X, Y, Z, Q, rs, c, k1, k2, m, τ, ν, lam, β1, β2, tp, f, hR, hP, h630, h2, n1, n2, n3, n4, n5, n6, n7⟩ := h
  have hN := hR.1.1.1
  have hm := hP.m14
  have e3 := hR.1.2.2.2.2.2.2.2.2.1.2.2.1
  have e2 := hR.1.2.2.2.2.2.2.2.2.1.2.1
  have le := Led3.mono (τ := τ) (τ' := τ) (ν := ν) (ν' := ν) (lam := lam) (lam' := lam) (d := o) (d' := o + 1) (β1 := β1 + 4) (β1' := β1 + 4) (β2 := β2 + 49) (β2' := β2 + 49) (by omega) (by omega) (by omega) (by omega) (by omega) (by omega) ⟨by omega, by omega, by omega, by omega⟩
  by_cases hl : rs.length = 300
  · obtain ⟨v, T', S', X', Y', Z', Q', rs', k1', k2', a1, a2, a3⟩ := ask_full (F := 5000) hl (Led3.clAsk (β1 := β1) (β2 := β2) (τ := τ) (ν := ν) (lam := lam) (d := o) (by omega)) hR
    have hK := L_c_EdgeHouse_ask _ a1
    have z2 := askf_2 (by rw [e3, hl]; rfl) a2
    exact ⟨v, T', S', o + 1, a1, a2, Nat.le_succ _, X', Y', Z', Q', rs', c + 2, k1', k2', m, τ, ν, lam, β1 + 4, β2 + 49, tp, f, ⟨a3.1, a3.2.1, le _ _ _ _ _ _ _ _ a3.2.2⟩, hP.kt hK hN, keep630 hK hN h630, fun q => z2.trans (h2 q), n1, by omega, by omega, by omega, by omega, by omega, by omega⟩
  · by_cases h0 : S.1 2 = 0
    · obtain ⟨v, T', S', X', Y', Z', Q', rs', k1', k2', a1, a2, a3⟩ := op_ask (F := 5000) (by decide) (by omega) Led3.clo (Led3.clAsk (β1 := β1) (β2 := β2) (τ := τ) (ν := ν) (lam := lam) (d := o) (by omega)) (Or.inl h0) hR
      have hK := L_c_EdgeHouse_ask _ a1
      have z2 := E_ask e3 (by omega) _ a2
      exact ⟨v, T', S', o + 1, a1, a2, Nat.le_succ _, X', Y', Z', Q', rs', c + 2, k1', k2', m, τ, ν, lam, β1 + 4, β2 + 49, tp, f, ⟨a3.1, a3.2.1, le _ _ _ _ _ _ _ _ a3.2.2⟩, hP.kt hK hN, keep630 hK hN h630, fun q => z2, n1, by omega, by omega, by omega, by omega, by omega, by omega⟩
    · have t1 : ¬ tp = 0 := fun q => h0 (h2 q)
      obtain ⟨v, T', S', X', Y', Z', Q', rs', k1', k2', a1, a2, a3⟩ := op_ask (F := 5000) (by decide) (by omega) Led3.clo (Led3.clAskL (β1 := β1) (β2 := β2) (τ := τ) (ν := ν) (lam := lam) (d := o) (by omega) ⟨by omega, by omega⟩ (by omega)) (Or.inr (Led3.clLook (by omega) (by omega))) hR
      have hK := L_c_EdgeHouse_ask _ a1
      have z2 := E_ask e3 (by omega) _ a2
      exact ⟨v, T', S', o, a1, a2, Nat.le_refl _, X', Y', Z', Q', rs', c + 2, k1', k2', m, τ, ν, lam + 1, β1 + 1480, β2 + 23583, 0, f, a3, hP.kt hK hN, keep630 hK hN h630, fun q => z2, Nat.zero_le _, by omega, by omega, by omega, by omega, by omega, by omega⟩
/-- update: an answer, or a throw -/
theorem s_update (hj : j < 512) (h : LInv j o T S) : (∃ v T' S' f, D_c_EdgeHouse_update 5000 512 T = some (v, T') ∧ D_m_update 5000 S = some (v, S') ∧ S'.1 0 = 0 ∧ T'.1 630 = some (.inr (.inl (1, 1, f))) ∧ LInv (j + 1) (o + 1) (lgT T' f v.toInt64) S') ∨ (∃ T1 T2 S', D_c_Reader_readThing 5000 513 T = some (none, T1) ∧ D_c_Reader_empty 5000 513 T1 = some T2 ∧ D_m_update 5000 S = some (0, S') ∧ S'.1 0 = 1 ∧ LInv (j + 1) (o + 1) T2 S') := by
  obtain ⟨X, Y, Z, Q, rs, c, k1, k2, m, τ, ν, lam, β1, β2, tp, f, hR, hP, h630, h2, n1, n2, n3, n4, n5, n6, n7⟩ := h
  have hN := hR.1.1.1
  have hm := hP.m14
  have le := Led3.mono (τ := τ) (τ' := τ) (ν := ν + 1) (ν' := ν + 1) (lam := lam) (lam' := lam) (d := o) (d' := o + 1) (β1 := β1 + 1) (β1' := β1 + 1) (β2 := β2 + 10) (β2' := β2 + 10) (by omega) (by omega) (by omega) (by omega) (by omega) (by omega) ⟨by omega, by omega, by omega, by omega⟩
  rcases op_update (F := 5000) (by decide) (Led3.faVer (by omega)) (Led3.clUp (β1 := β1) (β2 := β2) (τ := τ) (ν := ν) (lam := lam) (d := o) (by omega) (by omega)) hR with ⟨v, T', S', a1, a2, a0, a3⟩ | ⟨T1, T2, S', b1, b2, a2, a0, a3⟩
  · left
    have hK := L_c_EdgeHouse_update _ a1
    have k630 := keep630 hK hN h630
    have z2 := E_update _ a2
    refine ⟨v, T', S', f, a1, a2, a0, k630, X, Y, Z, Q, rs, c, k1 + 1, k2 + 10, m, τ, ν + 1, lam, β1 + 1, β2 + 10, tp, _, RA.lg ⟨a3.1, a3.2.1, le _ _ _ _ _ _ _ _ a3.2.2⟩ k630, (hP.kt hK hN).lg k630, tset_eq, fun q => z2, n1, by omega, by omega, by omega, by omega, by omega, by omega⟩
  · right
    have hK1 := L_c_Reader_readThing _ b1
    have hK2 := L_c_Reader_empty _ b2
    have hK := hK1.trans hK2
    have z2 := E_update _ a2
    exact ⟨T1, T2, S', b1, b2, a2, a0, X, Y, Z, Q, rs, c, k1 + 1, k2 + 10, m, τ, ν + 1, lam, β1 + 1, β2 + 10, tp, f, ⟨a3.1, a3.2.1, le _ _ _ _ _ _ _ _ a3.2.2⟩, hP.kt hK hN, keep630 hK hN h630, fun q => z2, n1, by omega, by omega, by omega, by omega, by omega, by omega⟩
theorem tick_bad (h : ∀ p, 1 ≤ p → p ≤ 100 → ¬ x = Int32.ofNat p) : m_c2 .lt x 1 = true ∨ (m_c2 .lt x 1 = false ∧ m_c2 .le x 100 = false) := by
  rcases i_cases x with hx | ⟨p, hk, rfl⟩
  · left
    have : x < 1 := Int32.lt_trans hx (by decide)
    simp [m_c2, this]
  · have l1 : m_c2 .lt (Int32.ofNat p) (1 : Int32) = decide (p < 1) := lt_n hk (by decide)
    have l2 : m_c2 .le (Int32.ofNat p) (100 : Int32) = decide (p ≤ 100) := le_n hk (by decide)
    by_cases w : p < 1
    · left; rw [l1, decide_eq_true w]
    · right
      refine ⟨by rw [l1, decide_eq_false w], ?_⟩
      rw [l2, decide_eq_false (fun q => h p (by omega) q rfl)]
theorem s_tick (hj : j < 512) (h : LInv j o T S) : (∃ v T' S' f, D_c_EdgeHouse_tick 5000 512 x T = some (v, T') ∧ D_m_tick 5000 x S = some (v, S') ∧ S'.1 0 = 0 ∧ T'.1 630 = some (.inr (.inl (1, 1, f))) ∧ LInv (j + 1) (o + 1) (lgT T' f v.toInt64) S') ∨ (∃ S', (m_c2 .lt x 1 = true ∨ (m_c2 .lt x 1 = false ∧ m_c2 .le x 100 = false)) ∧ D_m_tick 5000 x S = some (0, S') ∧ S'.1 0 = 1 ∧ LInv (j + 1) (o + 1) T S') := by
  obtain ⟨X, Y, Z, Q, rs, c, k1, k2, m, τ, ν, lam, β1, β2, tp, f, hR, hP, h630, h2, n1, n2, n3, n4, n5, n6, n7⟩ := h
  have hN := hR.1.1.1
  have hm := hP.m14
  have le := Led3.mono (τ := τ + (0 + 100)) (τ' := τ + 100) (ν := ν) (ν' := ν) (lam := lam) (lam' := lam) (d := o) (d' := o + 1) (β1 := β1) (β1' := β1) (β2 := β2) (β2' := β2) (by omega) (by omega) (by omega) (by omega) (by omega) (by omega) ⟨by omega, by omega, by omega, by omega⟩
  have leJ : ∀ i j', i ≤ j' → j' ≤ 0 + 100 → Le (Led3 (τ + i) ν lam o β1 β2) (Led3 (τ + j') ν lam o β1 β2) := fun i j' h1 h2 => Led3.mono (by omega) (by omega) (by omega) (by omega) (by omega) (by omega) ⟨by omega, by omega, by omega, by omega⟩
  rcases op_tick (F := 5000) (J := fun i => Led3 (τ + i) ν lam o β1 β2) (b := 0) (x := x) (by decide) (fun i _ => Led3.clo) (fun i _ => Led3.clLet) (fun i _ => Led3.faOv) (fun i hi => Led3.clTick (by omega)) leJ hR with ⟨p, p1', p2', rfl, v, T', S', Z', Q', k1', k2', a1, a2, a0, a3⟩ | ⟨hp, a2, a3⟩
  · left
    have hK := L_c_EdgeHouse_tick _ a1
    have k630 := keep630 hK hN h630
    exact ⟨v, T', S', f, a1, a2, a0, k630, X, Y, Z', Q', rs, c, k1', k2', m, τ + 100, ν, lam, β1, β2, tp, _, RA.lg ⟨a3.1, a3.2.1, le _ _ _ _ _ _ _ _ a3.2.2⟩ k630, (hP.kt hK hN).lg k630, tset_eq, fun q => (Z2_m_tick _ a2).trans (h2 q), n1, by omega, by omega, by omega, by omega, by omega, by omega⟩
  · right
    exact ⟨_, tick_bad hp, a2, by rw [up1_1, if_pos rfl], X, Y, Z, Q, rs, c, k1, k2, m, τ + 100, ν, lam, β1, β2, tp, f, ⟨a3.1, a3.2.1, le _ _ _ _ _ _ _ _ a3.2.2⟩, hP, h630, fun q => (Z2_m_tick _ a2).trans (h2 q), n1, by omega, by omega, by omega, by omega, by omega, by omega⟩
theorem s_answer (hj : j < 512) (h : LInv j o T S) : (∃ v T' S' f, D_c_EdgeHouse_answer 5000 512 x y T = some (v, T') ∧ D_m_answer 5000 x y S = some (v, S') ∧ S'.1 0 = 0 ∧ T'.1 630 = some (.inr (.inl (1, 1, f))) ∧ LInv (j + 1) (o + 1) (lgT T' f v.toInt64) S') ∨ (∃ k e S', tls T 524 = some (Int32.ofNat k) ∧ AnsT k x y e ∧ D_m_answer 5000 x y S = some (0, S') ∧ S'.1 0 = e ∧ LInv (j + 1) (o + 1) T S') := by
  obtain ⟨X, Y, Z, Q, rs, c, k1, k2, m, τ, ν, lam, β1, β2, tp, f, hR, hP, h630, h2, n1, n2, n3, n4, n5, n6, n7⟩ := h
  have hN := hR.1.1.1
  have hm := hP.m14
  rcases op_answer (F := 5000) (x := x) (y := y) (by decide) (Led3.clTx (m := m) (τ := τ) (ν := ν) (lam := lam) (d := o) (β1 := β1) (β2 := β2) (by omega)) hP hR with ⟨v, T', S', m', k1', k2', a1, a2, a0, z2, a3, hP', hmm, a4⟩ | ⟨e, ea, a2, a3⟩
  · left
    have hm' := hP'.m14
    have le := Led3.mono (τ := τ) (τ' := τ) (ν := ν) (ν' := ν) (lam := lam) (lam' := lam) (d := o) (d' := o + 1) (β1 := β1 + ((m' - m) + 2)) (β1' := β1 + ((m' - m) + 2)) (β2 := β2 + (2 * (m' - m) + 500)) (β2' := β2 + (2 * (m' - m) + 500)) (by omega) (by omega) (by omega) (by omega) (by omega) (by omega) ⟨by omega, by omega, by omega, by omega⟩
    have k630 := a4 _ _ _ h630
    exact ⟨v, T', S', f, a1, a2, a0, k630, X, Y, Z, Q, rs, c, k1', k2', m', τ, ν, lam, β1 + ((m' - m) + 2), β2 + (2 * (m' - m) + 500), tp, _, RA.lg ⟨a3.1, a3.2.1, le _ _ _ _ _ _ _ _ a3.2.2⟩ k630, hP'.lg k630, tset_eq, fun q => z2.trans (h2 q), n1, by omega, by omega, by omega, by omega, by omega, by omega⟩
  · right
    have le := Led3.mono (τ := τ) (τ' := τ) (ν := ν) (ν' := ν) (lam := lam) (lam' := lam) (d := o) (d' := o + 1) (β1 := β1 + ((m - m) + 2)) (β1' := β1 + ((m - m) + 2)) (β2 := β2 + (2 * (m - m) + 500)) (β2' := β2 + (2 * (m - m) + 500)) (by omega) (by omega) (by omega) (by omega) (by omega) (by omega) ⟨by omega, by omega, by omega, by omega⟩
    obtain ⟨cR, e1⟩ := hR.1.2.2.2.2.2.2.2.2.1.1
    have ls : tls T 524 = some (Int32.ofNat rs.length) := by simp only [tls, tl, e1, Option.map_some]
    exact ⟨rs.length, e, _, ls, ea, a2, by rw [up1_1, if_pos rfl], X, Y, Z, Q, rs, c, _, _, m, τ, ν, lam, β1 + ((m - m) + 2), β2 + (2 * (m - m) + 500), tp, f, ⟨a3.1, a3.2.1, le _ _ _ _ _ _ _ _ a3.2.2⟩, hP, h630, fun q => (up1_no (by decide)).trans (h2 q), n1, by omega, by omega, by omega, by omega, by omega, by omega⟩
end
