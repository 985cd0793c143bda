/-! Numbers on the page. -/
section
variable {T T1 T2 T' : tT} {b m n p k q d F : Nat} {f g : Nat → Value} {ml x y : Int32} {cs : List Int32}
theorem dgF_2 {f : Nat} (h : k < 100) : dgF (f + 2) k = if k < 10 then [Int32.ofNat (48 + k)] else [Int32.ofNat (48 + k / 10), Int32.ofNat (48 + k % 10)] := by
  unfold dgF
  by_cases w : k < 10
  · rw [if_pos w, if_pos w]
  · rw [if_neg w, if_neg w]
    unfold dgF
    rw [if_pos (by omega)]
    rfl
theorem dgF_S {f : Nat} (h : 100 ≤ k) : dgF (f + 2) k = dgF f (k / 100) ++ [Int32.ofNat (48 + k % 100 / 10), Int32.ofNat (48 + k % 100 % 10)] := by
  conv => lhs; unfold dgF
  rw [if_neg (by omega)]
  conv => lhs; unfold dgF
  rw [if_neg (by omega), show k / 10 / 10 = k / 100 by omega, show k / 10 % 10 = k % 100 / 10 by omega, show k % 100 % 10 = k % 10 by omega, List.append_assoc]
  rfl
theorem dgF_len : ∀ (f i k : Nat), i ≤ f → 1 ≤ i → k < 10 ^ i → (i = 1 ∨ 10 ^ (i - 1) ≤ k) → (dgF f k).length = i := by
  intro f
  induction f with
  | zero => intro i k h1 h2; omega
  | succ f ih =>
    intro i k h1 h2 h3 h4
    unfold dgF
    by_cases w : k < 10
    · rw [if_pos w]
      rcases h4 with h4 | h4
      · rw [h4]; rfl
      · by_cases w1 : i = 1
        · rw [w1]; rfl
        · exfalso
          have : 10 ^ 1 ≤ 10 ^ (i - 1) := Nat.pow_le_pow_right (by decide) (by omega)
          omega
    · rw [if_neg w, List.length_append]
      have i2 : 2 ≤ i := by
        by_cases w1 : i = 1
        · rw [w1] at h3; omega
        · omega
      have e1 : 10 ^ i = 10 * 10 ^ (i - 1) := by rw [← Nat.pow_succ']; congr 1; omega
      have := ih (i - 1) (k / 10) (by omega) (by omega) (by omega) (by
        by_cases w1 : i - 1 = 1
        · exact Or.inl w1
        · right
          have e2 : 10 ^ (i - 1) = 10 * 10 ^ (i - 1 - 1) := by rw [← Nat.pow_succ']; congr 1; omega
          rcases h4 with h4 | h4
          · omega
          · omega)
      rw [this]
      show i - 1 + 1 = i
      omega
theorem neg_i (hk : k < 2147483648) : (-(Int32.ofNat k)).toInt = -(k : Int) := by
  rw [Int32.toInt_neg, Int32.toInt_ofNat_of_lt hk]
  exact Int.bmod_eq_of_le (by omega) (by omega)
theorem neg_gt {c : Nat} {z : Int32} (hk : k < 2147483648) (hz : z.toInt = -(c : Int)) : m_c2 .gt (-(Int32.ofNat k)) z = decide (k < c) := by
  show decide (z < -(Int32.ofNat k)) = _
  refine decide_eq_decide.mpr ?_
  rw [Int32.lt_iff_toInt_lt, neg_i hk, hz]
  omega
theorem neg_ge {c : Nat} {z : Int32} (hk : k < 2147483648) (hz : z.toInt = -(c : Int)) : m_c2 .ge (-(Int32.ofNat k)) z = decide (k ≤ c) := by
  show decide (z ≤ -(Int32.ofNat k)) = _
  refine decide_eq_decide.mpr ?_
  rw [Int32.le_iff_toInt_le, neg_i hk, hz]
  omega
theorem neg_le {c : Nat} {z : Int32} (hk : k < 2147483648) (hz : z.toInt = -(c : Int)) : m_c2 .le (-(Int32.ofNat k)) z = decide (c ≤ k) := by
  show decide (-(Int32.ofNat k) ≤ z) = _
  refine decide_eq_decide.mpr ?_
  rw [Int32.le_iff_toInt_le, neg_i hk, hz]
  omega
theorem neg_div (hk : k < 2147483648) : (-(Int32.ofNat k)) / 100 = -(Int32.ofNat (k / 100)) := by
  apply Int32.toInt_inj.mp
  rw [neg_i (by omega), Int32.toInt_div, neg_i hk, show (100 : Int32).toInt = 100 from rfl, Int.neg_tdiv, show ((k : Int).tdiv 100) = ((k / 100 : Nat) : Int) from rfl]
  exact Int.bmod_eq_of_le (by omega) (by omega)
theorem neg_mod (hk : k < 2147483648) : (-(Int32.ofNat (k / 100))) * 100 - -(Int32.ofNat k) = Int32.ofNat (k % 100) := by
  have e1 : Int32.ofNat k = Int32.ofNat (k / 100) * 100 + Int32.ofNat (k % 100) := by
    rw [show (100 : Int32) = Int32.ofNat 100 from rfl, ← Int32.ofNat_mul, ← Int32.ofNat_add]
    congr 1
    omega
  conv => lhs; rw [e1]
  rw [Int32.neg_mul, Int32.sub_neg, ← Int32.add_assoc, Int32.add_left_neg, Int32.zero_add]
theorem pred_n (h : 0 < q) : Int32.ofNat q + Int32.ofInt (-1) = Int32.ofNat (q - 1) := by
  have : Int32.ofNat q = Int32.ofNat (q - 1) + 1 := by rw [show (1 : Int32) = Int32.ofNat 1 from rfl, ← Int32.ofNat_add, show q - 1 + 1 = q by omega]
  rw [this, show Int32.ofInt (-1) = -1 from rfl, Int32.add_assoc, show (1 : Int32) + -1 = 0 from rfl, Int32.add_zero]
theorem dig_ok : ∀ d, d < 10 → m_toI (.int (vp_nar .byte (Int32.ofNat (48 + d)))) &&& 255 = Int32.ofNat (48 + d) ∧ fits .byte (.int (m_toI (.int (vp_nar .byte (Int32.ofNat (48 + d)))))) = true := by decide +kernel
theorem dgo_n (h : k < 100) : dgo (Int32.ofNat k) = some (Int32.ofNat (48 + k % 10)) := by
  unfold dgo
  rw [m_n_cl (by omega), if_pos ⟨m_n_neg (by omega), h⟩]
theorem dgt_n (h : k < 100) : dgt (Int32.ofNat k) = some (Int32.ofNat (48 + k / 10)) := by
  unfold dgt
  rw [m_n_cl (by omega), if_pos ⟨m_n_neg (by omega), h⟩]
/-- bytes that were written from place q on -/
def Bw (T : tT) (b m : Nat) (g : Nat → Value) (q : Nat) (ds : List Int32) (T' : tT) : Prop := ∃ g', T' = tset T b (.inr (.inl (3, m, g'))) ∧ (∀ i, ¬ (q ≤ i ∧ i < q + ds.length) → g' i = g i) ∧ (∀ i x, ds[i]? = some x → m_toI (g' (q + i)) &&& 255 = x ∧ fits .byte (.int (m_toI (g' (q + i)))) = true)
theorem Bw.one {d : Nat} (h : T.1 b = some (.inr (.inl (3, m, g)))) (hd : d < 10) (hq : q < m) (hm : m < 2147483648) : ∃ T', tasb T b (Int32.ofNat q) (Int32.ofNat (48 + d)) = some T' ∧ T'.1 b = some (.inr (.inl (3, m, fun j => if j = q then .int (vp_nar .byte (Int32.ofNat (48 + d))) else g j))) ∧ Bw T b m g q [Int32.ofNat (48 + d)] T' := by
  obtain ⟨d1, d2⟩ := dig_ok d hd
  generalize Int32.ofNat (48 + d) = w at d1 d2 ⊢
  generalize hv : vp_nar .byte w = v at d1 d2 ⊢
  refine ⟨tset T b (.inr (.inl (3, m, fun j => if j = q then .int v else g j))), ?_, tset_at, fun j => if j = q then .int v else g j, rfl, fun i hi => ?_, fun i x hx => ?_⟩
  · unfold tasb
    rw [tas_n h hq hm, hv]
  · show (if i = q then Value.int v else g i) = g i
    have : ¬ i = q := fun z => hi ⟨by omega, by rw [z]; exact Nat.lt_succ_self _⟩
    rw [if_neg this]
  · cases i with
    | zero =>
      have ex : w = x := Option.some.inj hx
      subst ex
      have e0 : (fun j => if j = q then Value.int v else g j) (q + 0) = .int v := if_pos rfl
      rw [e0]
      exact ⟨d1, d2⟩
    | succ i =>
      rw [List.getElem?_cons_succ, List.getElem?_nil] at hx
      cases hx
/-- first what stands behind, then what stands before -/
theorem Bw.pre {ds es : List Int32} {g1 : Nat → Value} (h1 : Bw T b m g q es T1) (h : T1.1 b = some (.inr (.inl (3, m, g1)))) (h2 : Bw T1 b m g1 p ds T2) (e : p + ds.length = q) : Bw T b m g p (ds ++ es) T2 := by
  obtain ⟨g', a1, a2, a3⟩ := h1
  obtain ⟨g2, c1, c2, c3⟩ := h2
  have eg : g1 = g' := by
    rw [a1, tset_at] at h
    cases h
    rfl
  subst eg
  refine ⟨g2, by rw [c1, a1, tset_tset], fun i hi => ?_, fun i x hx => ?_⟩
  · rw [List.length_append] at hi
    rw [c2 i (by omega), a2 i (by omega)]
  · by_cases w : i < ds.length
    · rw [List.getElem?_append_left w] at hx
      exact c3 i x hx
    · rw [List.getElem?_append_right (by omega)] at hx
      have := a3 (i - ds.length) x hx
      rw [show q + (i - ds.length) = p + i by omega] at this
      rw [c2 (p + i) (by omega)]
      exact this
theorem getCh : ∀ (f k q : Nat) (T : tT) (g : Nat → Value), k < 10 ^ (2 * (f + 1)) → k < 2147483648 → T.1 b = some (.inr (.inl (3, m, g))) → (dgF (2 * (f + 1)) k).length ≤ q → q ≤ m → m < 2147483648 → ∀ fu, f < fu → ∃ T', D_c_Integer_getChars_22 F fu (-(Int32.ofNat k)) (some b) (Int32.ofNat q) 0 T = some (Int32.ofNat (q - (dgF (2 * (f + 1)) k).length), T') ∧ Bw T b m g (q - (dgF (2 * (f + 1)) k).length) (dgF (2 * (f + 1)) k) T' := by
  intro f
  induction f with
  | zero =>
    intro k q T g h1 h1' h2 h3 h4 hm fu hfu
    obtain ⟨fu, rfl⟩ : ∃ y, fu = y + 1 := ⟨fu - 1, by omega⟩
    have hk : k < 100 := h1
    have e0 : dgF (2 * (0 + 1)) k = dgF (0 + 2) k := rfl
    rw [e0, dgF_2 hk] at h3 ⊢
    unfold D_c_Integer_getChars_22
    rw [neg_gt (c := 100) h1' rfl, decide_eq_true hk, cond_true, Int32.neg_neg, dgo_n hk, Option.bind_some, Option.bind_some]
    have q0 : 0 < q := by
      by_cases w : k < 10
      · rw [if_pos w] at h3; exact h3
      · rw [if_neg w] at h3; exact Nat.lt_of_lt_of_le (show 0 < 2 by decide) h3
    rw [pred_n q0]
    obtain ⟨T1, x1, x2, x3⟩ := Bw.one (d := k % 10) (q := q - 1) h2 (by omega) (by omega) hm
    rw [x1, Option.bind_some, neg_ge (c := 9) h1' rfl]
    by_cases w : k < 10
    · rw [decide_eq_true (by omega), cond_true, if_pos w]
      refine ⟨T1, rfl, ?_⟩
      rw [show k % 10 = k by omega] at x3
      exact x3
    · rw [decide_eq_false (by omega), cond_false, if_neg w, dgt_n hk, Option.bind_some]
      rw [if_neg w] at h3
      have q2 : 2 ≤ q := h3
      rw [pred_n (by omega)]
      obtain ⟨T2, y1, y2, y3⟩ := Bw.one (d := k / 10) (q := q - 1 - 1) x2 (by omega) (by omega) hm
      rw [y1, Option.bind_some]
      refine ⟨T2, rfl, ?_⟩
      exact x3.pre x2 y3 (by show q - 1 - 1 + 1 = q - 1; omega)
  | succ f ih =>
    intro k q T g h1 h1' h2 h3 h4 hm fu hfu
    obtain ⟨fu, rfl⟩ : ∃ y, fu = y + 1 := ⟨fu - 1, by omega⟩
    have e0 : dgF (2 * (f + 1 + 1)) k = dgF (2 * (f + 1) + 2) k := rfl
    by_cases hk : k < 100
    · -- as above
      rw [e0, dgF_2 hk] at h3 ⊢
      unfold D_c_Integer_getChars_22
      rw [neg_gt (c := 100) h1' rfl, decide_eq_true hk, cond_true, Int32.neg_neg, dgo_n hk, Option.bind_some, Option.bind_some]
      have q0 : 0 < q := by
        by_cases w : k < 10
        · rw [if_pos w] at h3; exact h3
        · rw [if_neg w] at h3; exact Nat.lt_of_lt_of_le (show 0 < 2 by decide) h3
      rw [pred_n q0]
      obtain ⟨T1, x1, x2, x3⟩ := Bw.one (d := k % 10) (q := q - 1) h2 (by omega) (by omega) hm
      rw [x1, Option.bind_some, neg_ge (c := 9) h1' rfl]
      by_cases w : k < 10
      · rw [decide_eq_true (by omega), cond_true, if_pos w]
        refine ⟨T1, rfl, ?_⟩
        rw [show k % 10 = k by omega] at x3
        exact x3
      · rw [decide_eq_false (by omega), cond_false, if_neg w, dgt_n hk, Option.bind_some]
        rw [if_neg w] at h3
        have q2 : 2 ≤ q := h3
        rw [pred_n (by omega)]
        obtain ⟨T2, y1, y2, y3⟩ := Bw.one (d := k / 10) (q := q - 1 - 1) x2 (by omega) (by omega) hm
        rw [y1, Option.bind_some]
        refine ⟨T2, rfl, ?_⟩
        exact x3.pre x2 y3 (by show q - 1 - 1 + 1 = q - 1; omega)
    · rw [e0, dgF_S (by omega)] at h3 ⊢
      rw [List.length_append] at h3 ⊢
      obtain ⟨ln, hln⟩ : ∃ z, z = (dgF (2 * (f + 1)) (k / 100)).length := ⟨_, rfl⟩
      rw [← hln] at h3 ⊢
      have l2 : ([Int32.ofNat (48 + k % 100 / 10), Int32.ofNat (48 + k % 100 % 10)] : List Int32).length = 2 := rfl
      rw [l2] at h3 ⊢
      unfold D_c_Integer_getChars_22
      rw [neg_gt (c := 100) h1' rfl, decide_eq_false hk, cond_false, neg_div h1', neg_mod h1', dgo_n (by omega), Option.bind_some, Option.bind_some, pred_n (by omega)]
      obtain ⟨T1, x1, x2, x3⟩ := Bw.one (d := k % 100 % 10) (q := q - 1) h2 (by omega) (by omega) hm
      rw [x1, Option.bind_some, dgt_n (by omega), Option.bind_some, pred_n (by omega)]
      obtain ⟨T2, y1, y2, y3⟩ := Bw.one (d := k % 100 / 10) (q := q - 1 - 1) x2 (by omega) (by omega) hm
      rw [y1, Option.bind_some]
      have z3 := x3.pre x2 y3 (by show q - 1 - 1 + 1 = q - 1; omega)
      have p1' : k / 100 < 10 ^ (2 * (f + 1)) := by
        have : 10 ^ (2 * (f + 1 + 1)) = 100 * 10 ^ (2 * (f + 1)) := by
          rw [show 2 * (f + 1 + 1) = 2 * (f + 1) + 2 by omega, Nat.pow_add, Nat.mul_comm]
        omega
      obtain ⟨T3, w1, w2⟩ := ih (k / 100) (q - 1 - 1) T2 _ p1' (by omega) y2 (by omega) (by omega) hm fu (by omega)
      rw [← hln] at w1 w2
      rw [w1, show q - 1 - 1 - ln = q - (ln + 2) by omega]
      rw [show q - 1 - 1 - ln = q - (ln + 2) by omega] at w2
      exact ⟨T3, rfl, z3.pre y2 w2 (by rw [← hln]; omega)⟩
theorem size_n {k : Nat} (hk : k < 1000000) (hF : 20 < F) : D_c_Integer_stringSize F (Int32.ofNat k) T = some (Int32.ofNat (dgF 10 k).length) := by
  have l0 : m_c1 .lt (Int32.ofNat k) = false := m_c1_ltf (by omega)
  unfold D_c_Integer_stringSize D_c_Integer_stringSize_11
  rw [l0, cond_false]
  have key : ∀ (j i : Nat) (z : Int32), i + j = 7 → 1 ≤ i → z.toInt = -((10 ^ i : Nat) : Int) → (i = 1 ∨ 10 ^ (i - 1) ≤ k) → k < 10 ^ 6 → (j = 0 → False) → ∀ fu, j < fu → D_c_Integer_stringSize_16 F fu (-(Int32.ofNat k)) 0 z (Int32.ofNat i) T = some (Int32.ofNat (dgF 10 k).length) := by
    intro j
    induction j with
    | zero => intro i z _ _ _ _ _ h; exact (h rfl).elim
    | succ j ih =>
      intro i z hi h1 hz h2 h3 _ fu hfu
      obtain ⟨fu, rfl⟩ : ∃ y, fu = y + 1 := ⟨fu - 1, by omega⟩
      unfold D_c_Integer_stringSize_16
      rw [show (10 : Int32) = Int32.ofNat 10 from rfl, ge_n (by omega) (by decide), decide_eq_false (by omega), cond_false, neg_le (by omega) hz]
      by_cases w : 10 ^ i ≤ k
      · have i6 : i < 6 := by
          by_cases w6 : i < 6
          · exact w6
          · exfalso
            have : 10 ^ 6 ≤ 10 ^ i := Nat.pow_le_pow_right (by decide) (by omega)
            omega
        rw [decide_eq_true w, cond_true]
        have i1 : Int32.ofNat i + Int32.ofInt 1 = Int32.ofNat (i + 1) := m_n_add i 1
        rw [i1]
        refine ih (i + 1) _ (by omega) (by omega) ?_ (Or.inr (by rw [Nat.add_sub_cancel]; exact w)) h3 (by omega) fu (by omega)
        have b6 : 10 ^ i ≤ 10 ^ 5 := Nat.pow_le_pow_right (by decide) (by omega)
        obtain ⟨c, hc⟩ : ∃ c, c = 10 ^ i := ⟨_, rfl⟩
        have hz2 : z.toInt = -(c : Int) := by rw [hc]; exact hz
        have e2 : 10 ^ (i + 1) = c * 10 := by rw [Nat.pow_succ, hc]
        rw [← hc] at b6
        rw [e2, show Int32.ofNat 10 = (10 : Int32) from rfl, Int32.toInt_mul, hz2, show (10 : Int32).toInt = 10 from rfl, Int.bmod_eq_of_le (by omega) (by omega)]
        omega
      · rw [decide_eq_false w, cond_false, dgF_len 10 i k (by omega) h1 (by omega) h2, Int32.add_zero]
  exact key 6 1 (-10) (by decide) (by decide) (by decide) (Or.inl rfl) hk (by decide) F (by omega)
theorem app_n (h : Pt T b m ml cs) (hN : okN T) (hk : k < 1000000) (hl : cs.length ≤ 2000) (hm : m ≤ 20000) (hF : 20 < F) : Wr T b m ml (cs ++ dg (Int32.ofNat k)) (D_c_StringBuilder_append184 F 525 (Int32.ofNat k) T) := by
  obtain ⟨f, hg, hlm, hc⟩ := h
  have dk : dg (Int32.ofNat k) = dgF 10 k := by unfold dg; rw [m_n_cl (by omega)]
  rw [dk]
  obtain ⟨L, hL⟩ : ∃ z, z = (dgF 10 k).length := ⟨_, rfl⟩
  have L6 : L ≤ 6 ∧ 1 ≤ L := by
    have q : ∀ i, 1 ≤ i → i ≤ 6 → k < 10 ^ i → (i = 1 ∨ 10 ^ (i - 1) ≤ k) → L ≤ 6 ∧ 1 ≤ L := fun i i1 i2 i3 i4 => by
      have := dgF_len 10 i k (by omega) i1 i3 i4
      omega
    by_cases w1 : k < 10
    · exact q 1 (by decide) (by decide) w1 (Or.inl rfl)
    · by_cases w2 : k < 100
      · exact q 2 (by decide) (by decide) w2 (Or.inr (by show 10 ≤ k; omega))
      · by_cases w3 : k < 1000
        · exact q 3 (by decide) (by decide) w3 (Or.inr (by show 100 ≤ k; omega))
        · by_cases w4 : k < 10000
          · exact q 4 (by decide) (by decide) w4 (Or.inr (by show 1000 ≤ k; omega))
          · by_cases w5 : k < 100000
            · exact q 5 (by decide) (by decide) w5 (Or.inr (by show 10000 ≤ k; omega))
            · exact q 6 (by decide) (by decide) hk (Or.inr (by show 100000 ≤ k; omega))
  obtain ⟨T7, b7, m7, f7, e1, e2, e3, e4, e5, e6, e7⟩ := ens_c (F := F) (p := cs.length + L) hg hN (by omega) hm
  obtain ⟨p1', p2', p3'⟩ := id e2
  have nb : ¬ b7 = 525 := fun q => by rw [q, p1'] at p2'; cases p2'
  have i1 : Int32.ofNat cs.length + Int32.ofNat L = Int32.ofNat (cs.length + L) := m_n_add _ _
  have sz : D_c_Integer_stringSize F (Int32.ofNat k) T = some (Int32.ofNat L) := by rw [size_n hk hF, hL]
  have m7b : m7 < 2147483648 := by omega
  obtain ⟨T29, w1, w2⟩ := getCh (F := F) (b := b7) (m := m7) 4 k (cs.length + L) T7 f7 (by show k < 10 ^ 10; omega) (by omega) p2' (by show (dgF 10 k).length ≤ _; omega) e4 m7b F (by omega)
  have w1' : D_c_Integer_getChars F (Int32.ofNat k) (Int32.ofNat (cs.length + L)) (some b7) T7 = some (Int32.ofNat cs.length, T29) := by
    unfold D_c_Integer_getChars
    rw [show m_c1 .ge (Int32.ofNat k) = true from decide_eq_true (Int32.not_lt.mp (m_n_neg (by omega))), cond_true, Option.bind_some, show m_c1 .ne (0 : Int32) = false from rfl, cond_false, w1]
    congr 2
    show Int32.ofNat (cs.length + L - (dgF 10 k).length) = _
    rw [← hL, Nat.add_sub_cancel]
  have w2' : Bw T7 b7 m7 f7 cs.length (dgF 10 k) T29 := by
    have : cs.length + L - (dgF (2 * (4 + 1)) k).length = cs.length := by show cs.length + L - (dgF 10 k).length = _; omega
    rw [this] at w2
    exact w2
  obtain ⟨g', u1, u2, u3⟩ := w2'
  rw [← hL] at u2
  have x29 : T29.1 525 = some (SB b7 ml (Int32.ofNat cs.length)) := by rw [u1]; exact tset_o p1' (fun q => nb q.symm)
  obtain ⟨T33, h33⟩ : ∃ z, z = tset T29 525 (SB b7 ml (Int32.ofNat (cs.length + L))) := ⟨_, rfl⟩
  have ll : (cs ++ dgF 10 k).length = cs.length + L := by rw [List.length_append, hL]
  refine ⟨T33, b7, m7, ?_, ⟨g', ⟨?_, ?_, fun i hi => ?_⟩, ?_, fun i x hx => ?_⟩, e5, ?_, ?_⟩
  · unfold D_c_StringBuilder_append184 D_c_AbstractStringBuilder_append185
    simp only [tcl_o hg.1, Option.bind_some, Sg3 hg.1, sz, i1, e1, tcl_o p1', isl p1', show m_c1 .eq (1 : Int32) = false from rfl, cond_false, Sg0 p1', w1', bd2, Sp3 x29, ← h33]
  · rw [h33, tset_at, ll]
  · rw [h33, tset_1, if_neg nb, u1]; exact tset_at
  · by_cases w : cs.length ≤ i ∧ i < cs.length + L
    · have lt : i - cs.length < (dgF 10 k).length := by omega
      have := (u3 (i - cs.length) _ (List.getElem?_eq_getElem lt)).2
      rw [show cs.length + (i - cs.length) = i by omega] at this
      exact this
    · rw [u2 i w]; exact p3' i hi
  · rw [ll]; exact e4
  · by_cases w : i < cs.length
    · rw [u2 i (by omega), e3 i (by omega)]
      rw [List.getElem?_append_left w] at hx
      exact hc i x hx
    · rw [List.getElem?_append_right (by omega)] at hx
      have := (u3 (i - cs.length) x hx).1
      rw [show cs.length + (i - cs.length) = i by omega] at this
      exact this
  · rw [ll]; exact e6
  · have q1' : Gw T7 b7 T33 b7 0 := by
      refine ⟨fun c x hc n1 n2 => ?_, Or.inl rfl, ⟨by rw [h33, u1]; exact Nat.le_refl _, fun c x hc n3 n1 => ?_⟩, ?_⟩
      · rw [h33, tset_1, if_neg n1, u1, tset_1, if_neg n2]; exact hc
      · rw [h33, tset_1, if_neg n1, u1, tset_1] at hc
        by_cases z : c = b7
        · rw [if_pos z] at hc
          cases hc
          exact Bool.noConfusion (show true = false from n3)
        · rw [if_neg z] at hc
          exact hc
      · rw [h33]
        exact ((show Cs T7 T29 0 0 by rw [u1]; exact Cs.cell p2' rfl rfl).trans (Cs.cell x29 rfl rfl)).mono (by decide) (by decide)
    have q2' := Gw.trans e7 q1' hN
    rw [Nat.add_zero] at q2'
    exact q2'
end
