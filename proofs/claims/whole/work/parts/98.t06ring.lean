/-! ringNode beside ring. -/
/-- the point of a node, as a number -/
def ptI (a b : Int32) : Int32 := ((((((((a * ((-1640531535) : Int32)) + (b * ((-2048144789) : Int32))) ^^^ ((((a * ((-1640531535) : Int32)) + (b * ((-2048144789) : Int32))) : Int32).toUInt32 >>> (((15 : Int32) : Int32).toUInt32 &&& Int32.toUInt32 31)).toInt32) * (739982445 : Int32)) ^^^ ((((((a * ((-1640531535) : Int32)) + (b * ((-2048144789) : Int32))) ^^^ ((((a * ((-1640531535) : Int32)) + (b * ((-2048144789) : Int32))) : Int32).toUInt32 >>> (((15 : Int32) : Int32).toUInt32 &&& Int32.toUInt32 31)).toInt32) * (739982445 : Int32)) : Int32).toUInt32 >>> (((12 : Int32) : Int32).toUInt32 &&& Int32.toUInt32 31)).toInt32) : Int32).toUInt32 >>> (((16 : Int32) : Int32).toUInt32 &&& Int32.toUInt32 31)).toInt32)
theorem c_hash {F : Nat} {T : tT} {a b : Int32} : D_c_EdgeHouse_hash F a b T = some (ptI a b) := rfl
theorem m_point {F : Nat} {S : mS} {a b : Int32} : D_m_point F a b S = some (ptI a b) := rfl
theorem shr16 (x : UInt32) : ∃ k, k < 65536 ∧ (x >>> (((16 : Int32) : Int32).toUInt32 &&& Int32.toUInt32 31)).toInt32 = Int32.ofNat k := by
  refine ⟨x.toNat / 65536, by have := x.toNat_lt; omega, ?_⟩
  apply Int32.toBitVec_inj.mp
  have e : (((16 : Int32) : Int32).toUInt32 &&& Int32.toUInt32 31) = 16 := by decide
  rw [e]
  apply BitVec.eq_of_toNat_eq
  rw [Int32.toBitVec_ofNat', BitVec.toNat_ofNat]
  have h1 : ((x >>> 16 : UInt32).toInt32.toBitVec).toNat = (x >>> 16 : UInt32).toNat := rfl
  rw [h1, UInt32.toNat_shiftRight]
  have h2 : (16 : UInt32).toNat % 32 = 16 := by decide
  rw [h2, Nat.shiftRight_eq_div_pow, Nat.mod_eq_of_lt (by have := x.toNat_lt; omega)]
theorem pt_lt (a b : Int32) : ∃ k, k < 65536 ∧ ptI a b = Int32.ofNat k := shr16 _
def pt (n j : Nat) : Nat := (ptI (Int32.ofNat n) (Int32.ofNat j)).toNatClampNeg
theorem pt_eq (n j : Nat) : ptI (Int32.ofNat n) (Int32.ofNat j) = Int32.ofNat (pt n j) ∧ pt n j < 65536 := by
  obtain ⟨k, h1, h2⟩ := pt_lt (Int32.ofNat n) (Int32.ofNat j)
  unfold pt
  rw [h2, m_n_cl (by omega)]
  exact ⟨rfl, h1⟩
/-- the way round from the spot s -/
def way (s p : Nat) : Nat := if s ≤ p then p - s else p + 65536 - s
theorem way_c {s p : Nat} (hs : s < 65536) (hp : p < 65536) : (Int32.ofNat p - Int32.ofNat s) &&& (65535 : Int32) = Int32.ofNat (way s p) ∧ way s p < 65536 := by
  have h0 : way s p < 65536 := by unfold way; split <;> omega
  refine ⟨?_, h0⟩
  apply Int32.toBitVec_inj.mp
  apply BitVec.eq_of_toNat_eq
  rw [Int32.toBitVec_and, Int32.toBitVec_sub, Int32.toBitVec_ofNat', Int32.toBitVec_ofNat', Int32.toBitVec_ofNat', BitVec.toNat_and, BitVec.toNat_sub, BitVec.toNat_ofNat, BitVec.toNat_ofNat, BitVec.toNat_ofNat]
  have e : (65535 : Int32).toBitVec.toNat = 2 ^ 16 - 1 := by decide
  rw [e, Nat.and_two_pow_sub_one_eq_mod]
  unfold way
  split <;> omega
def Kp (n : Nat) : List Nat := [pt n 0, pt n 1, pt n 2, pt n 3]
/-- the class's points -/
def RPts (T : tT) : Prop := ∃ f, T.1 520 = some (.inr (.inl (0, 28, f))) ∧ ∀ n j, n < 7 → j < 4 → m_toI (f (4 * n + j)) = Int32.ofNat (pt n j)
def cB (o : Option (Nat × Nat)) : Int32 := oI (o.map Prod.fst)
def cW (o : Option (Nat × Nat)) : Int32 := match o with
  | none => 0
  | some q => Int32.ofNat q.2
theorem cB_none {o : Option (Nat × Nat)} (h : ∀ q, o = some q → q.1 < 7) : m_c2 .eq (cB o) ((-1) : Int32) = decide (o = none) := by
  cases o with
  | none => rfl
  | some q =>
    have := oI_ne (e := q.1) (by have := h q rfl; omega)
    show decide (Int32.ofNat q.1 = (-1 : Int32)) = decide (some q = none)
    rw [decide_eq_false this, decide_eq_false (by simp)]
section
variable {T : tT} {F : Nat}
theorem c_ring_in {x2 : Int32} {x5 : Option Nat} {s n det : Nat} {x9 : Nat → Int32} (rec20 : Nat → Int32 → Option Nat → Int32 → Int32 → Int32 → Int32 → tT → Option Int32) (hH : T.1 512 = some (house x9)) (hp : RPts T) (hs : s < 65536) (hn : n < 7) (hdet : det ≤ 65536) : ∀ (m j : Nat) (o : Option (Nat × Nat)), j + m = 4 → (∀ q, o = some q → q.1 < 7 ∧ q.2 < 131072) → ∀ f, m < f → D_c_EdgeHouse_ringNode_73 F rec20 f 512 x2 x5 (Int32.ofNat s) (cB o) (cW o) (Int32.ofNat n) (Int32.ofNat det) (Int32.ofNat j) T = rec20 512 x2 x5 (Int32.ofNat s) (cB (((Kp n).drop j).foldl (fun o p => updN o n (way s p + det)) o)) (cW (((Kp n).drop j).foldl (fun o p => updN o n (way s p + det)) o)) (Int32.ofNat (n + 1)) T ∧ ∀ q, ((Kp n).drop j).foldl (fun o p => updN o n (way s p + det)) o = some q → q.1 < 7 ∧ q.2 < 131072 := by
  obtain ⟨f0, p1', p2'⟩ := hp
  intro m
  induction m with
  | zero =>
    intro j o hj ho f hf
    obtain ⟨f, rfl⟩ : ∃ f9, f = f9 + 1 := ⟨f - 1, by omega⟩
    have : j = 4 := by omega
    subst this
    rw [D_c_EdgeHouse_ringNode_73, show m_c2 .ge (Int32.ofNat 4) (4 : Int32) = true from by decide, cond_true]
    unfold D_c_EdgeHouse_ringNode_130
    rw [q1]
    exact ⟨rfl, ho⟩
  | succ m ih =>
    intro j o hj ho f hf
    obtain ⟨f, rfl⟩ : ∃ f9, f = f9 + 1 := ⟨f - 1, by omega⟩
    have hd : (Kp n).drop j = pt n j :: (Kp n).drop (j + 1) := by
      have hj4 : j < 4 := by omega
      match j, hj4 with
      | 0, _ => rfl
      | 1, _ => rfl
      | 2, _ => rfl
      | 3, _ => rfl
    have ea : tai T 520 0 (Int32.ofNat (4 * n + j)) = some (Int32.ofNat (pt n j)) := by
      unfold tai
      rw [ta_o p1' (by omega) (by decide), Option.map_some, p2' n j hn (by omega)]
    have hw := way_c hs (pt_eq n j).2
    rw [hd, List.foldl_cons, D_c_EdgeHouse_ringNode_73, show (4 : Int32) = Int32.ofNat 4 from rfl, ge_n (by omega) (by omega), decide_eq_false (by omega), cond_false, Hr4 hH, Option.bind_some, Option.bind_some, m_n_mul, m_n_add, Nat.mul_comm n 4, ea, Option.bind_some, hw.1, m_n_add, cB_none (fun q hq => (ho q hq).1)]
    have hu : ∀ q, updN o n (way s (pt n j) + det) = some q → q.1 < 7 ∧ q.2 < 131072 := by
      intro q hq
      cases o with
      | none =>
        cases hq
        exact ⟨hn, by omega⟩
      | some r =>
        have hq' : (if way s (pt n j) + det < r.2 then some (n, way s (pt n j) + det) else some (r.1, r.2)) = some q := hq
        split at hq'
        · cases hq'
          exact ⟨hn, by omega⟩
        · cases hq'
          exact ho r rfl
    have nxt := ih (j + 1) (updN o n (way s (pt n j) + det)) (by omega) hu f (by omega)
    refine ⟨?_, nxt.2⟩
    rw [← nxt.1]
    cases o with
    | none =>
      rw [decide_eq_true rfl, cond_true]
      unfold D_c_EdgeHouse_ringNode_116 D_c_EdgeHouse_ringNode_124
      rw [q1]
      rfl
    | some r =>
      have hr := ho r rfl
      rw [decide_eq_false (by simp), cond_false, show cW (some r) = Int32.ofNat r.2 from rfl, ge_n (by omega) (by omega)]
      unfold D_c_EdgeHouse_ringNode_116 D_c_EdgeHouse_ringNode_124
      rw [q1]
      by_cases hlt : way s (pt n j) + det < r.2
      · have e9 : updN (some r) n (way s (pt n j) + det) = some (n, way s (pt n j) + det) := if_pos hlt
        rw [decide_eq_false (by omega), cond_false, e9]
        rfl
      · have e9 : updN (some r) n (way s (pt n j) + det) = some (r.1, r.2) := if_neg hlt
        rw [decide_eq_true (by omega), cond_true, e9]
        rfl
end
/-- a node's cell -/
def nodeC (S : mS) (n : Nat) : tC := .inl (4, [.int (Int32.ofNat n), .ref (528 + 8 * n), .ref (531 + 8 * n), .ref (532 + 8 * n), .ref (533 + 8 * n), .ref (534 + 8 * n), .int (rd S 591 n), .int (rd S 593 n), .int (rd S 594 n), .int (rd S 595 n), .int (rd S 596 n)])
/-- the nodes' cells, and who is shunned -/
def RNodes (T : tT) (S : mS) : Prop := (∃ f, T.1 519 = some (.inr (.inl (7, 7, f))) ∧ ∀ n, n < 7 → f n = .ref (527 + 8 * n)) ∧ (∀ n, 1 ≤ n → n < 7 → T.1 (527 + 8 * n) = some (nodeC S n) ∧ flag (rd S 591 n)) ∧ ∀ n, 3 ≤ n → n < 7 → ∃ f, T.1 (534 + 8 * n) = some (.inr (.inl (0, 3, f))) ∧ m_toI (f 1) = rd S 619 (2 * n) ∧ m_toI (f 2) = rd S 619 (2 * n + 1)
def isUp (S : mS) (n : Nat) : Bool := decide (rd S 591 n = 1)
def isSh (S : mS) (m n : Nat) : Bool := decide (S.1 36 < rd S 619 (2 * m + n - 1))
theorem RNodes.get {T : tT} {S : mS} (h : RNodes T S) {n : Nat} (hn : n < 7) : tar T 519 7 (Int32.ofNat n) = some (some (527 + 8 * n)) := by
  obtain ⟨⟨f, h1, h2⟩, -⟩ := h
  unfold tar
  rw [ta_o h1 hn (by decide), Option.bind_some, h2 n hn]
  rfl
theorem RNodes.up {T : tT} {S : mS} (h : RNodes T S) {n : Nat} (h1 : 1 ≤ n) (hn : n < 7) : tgi T (527 + 8 * n) 4 6 = some (rd S 591 n) ∧ m_c1 .ne (rd S 591 n) = isUp S n := by
  obtain ⟨-, h2, -⟩ := h
  obtain ⟨z1, z2⟩ := h2 n h1 hn
  refine ⟨tgi_o z1 rfl, ?_⟩
  rcases z2 with z | z <;> simp [m_c1, isUp, z]
theorem c_shuns {T : tT} {S : mS} {F m n : Nat} (h : RNodes T S) (hm : 3 ≤ m ∧ m < 7) (hn : 1 ≤ n ∧ n ≤ 2) : D_c_Node_shuns F (527 + 8 * m) (Int32.ofNat n) (S.1 36) T = some (b2i (isSh S m n)) := by
  obtain ⟨-, h2, h3⟩ := h
  obtain ⟨z1, -⟩ := h2 m (by omega) hm.2
  obtain ⟨f, f1, f2, f3⟩ := h3 m hm.1 hm.2
  have r5 : tgr T (527 + 8 * m) 4 5 = some (some (534 + 8 * m)) := tgr_o (x := some (534 + 8 * m)) z1 rfl
  have ea : tai T (534 + 8 * m) 0 (Int32.ofNat n) = some (rd S 619 (2 * m + n - 1)) := by
    unfold tai
    rw [ta_o f1 (by omega) (by decide), Option.map_some]
    have : n = 1 ∨ n = 2 := by omega
    rcases this with rfl | rfl
    · rw [f2, show 2 * m + 1 - 1 = 2 * m by omega]
    · rw [f3, show 2 * m + 2 - 1 = 2 * m + 1 by omega]
  unfold D_c_Node_shuns
  rw [show m_c2 .lt (Int32.ofNat n) (1 : Int32) = false from (lt_n (b := 1) (by omega) (by omega)).trans (decide_eq_false (by omega)), cond_false, show m_c2 .gt (Int32.ofNat n) (2 : Int32) = false from (gt_n (b := 2) (by omega) (by omega)).trans (decide_eq_false (by omega)), cond_false, r5, Option.bind_some, Option.bind_some, ea, Option.bind_some]
  by_cases hz : S.1 36 < rd S 619 (2 * m + n - 1)
  · simp [m_c2, isSh, hz, Int32.not_le.mpr hz, b2i, bret]
  · simp [m_c2, isSh, hz, Int32.not_lt.mp hz, b2i, bret]
section
variable {T : tT} {S : mS} {F : Nat}
/-- over the nodes; sh9: who makes a detour -/
theorem c_ring_out (hF : 5 ≤ F) {x5 : Option Nat} {s la : Nat} (hH : RHouse T S) (hp : RPts T) (hN : RNodes T S) (hs : s < 65536) (hla : la < 7) {sh9 : Nat → Bool} (h5 : (x5 = none ∧ ∀ n, sh9 n = false) ∨ ∃ m, x5 = some (527 + 8 * m) ∧ (3 ≤ m ∧ m < 7) ∧ la ≤ 2 ∧ ∀ n, sh9 n = isSh S m n) : ∀ (m n : Nat) (o : Option (Nat × Nat)), n + m = la + 1 → 1 ≤ n → (∀ q, o = some q → q.1 < 7 ∧ q.2 < 131072) → ∀ f, m < f → D_c_EdgeHouse_ringNode_20 F f 512 (Int32.ofNat la) x5 (Int32.ofNat s) (cB o) (cW o) (Int32.ofNat n) T = some (cB (fL Kp (fun n p => way s p + (if sh9 n then 65536 else 0)) o ((List.range' n m).filter (isUp S)))) := by
  have hH' : T.1 512 = some (house S.1) := hH
  intro m
  induction m with
  | zero =>
    intro n o hn h1 ho f hf
    obtain ⟨f, rfl⟩ : ∃ f9, f = f9 + 1 := ⟨f - 1, by omega⟩
    rw [D_c_EdgeHouse_ringNode_20, gt_n (by omega) (by omega), decide_eq_true (by omega), cond_true]
    rfl
  | succ m ih =>
    intro n o hn h1 ho f hf
    obtain ⟨f, rfl⟩ : ∃ f9, f = f9 + 1 := ⟨f - 1, by omega⟩
    obtain ⟨u1, u2⟩ := hN.up h1 (show n < 7 by omega)
    rw [D_c_EdgeHouse_ringNode_20, gt_n (by omega) (by omega), decide_eq_false (by omega), cond_false, Hr3 hH', Option.bind_some, Option.bind_some, hN.get (show n < 7 by omega), Option.bind_some, Option.bind_some, u1, Option.bind_some, u2, List.range'_succ]
    cases hu : isUp S n with
    | false =>
      rw [cond_false, List.filter_cons_of_neg (by simp [hu])]
      unfold D_c_EdgeHouse_ringNode_130
      rw [q1]
      exact ih (n + 1) o (by omega) (by omega) ho f (by omega)
    | true =>
      rw [cond_true, List.filter_cons_of_pos (by simp [hu])]
      have inn := c_ring_in (F := F) (T := T) (x2 := Int32.ofNat la) (x5 := x5) (s := s) (n := n) (det := if sh9 n then 65536 else 0) (D_c_EdgeHouse_ringNode_20 F f) hH' hp hs (by omega) (by split <;> omega) 4 0 o rfl ho F (by omega)
      rw [List.drop_zero] at inn
      have step : fL Kp (fun n p => way s p + (if sh9 n then 65536 else 0)) o (n :: (List.range' (n + 1) m).filter (isUp S)) = fL Kp (fun n p => way s p + (if sh9 n then 65536 else 0)) ((Kp n).foldl (fun o p => updN o n (way s p + (if sh9 n then 65536 else 0))) o) ((List.range' (n + 1) m).filter (isUp S)) := rfl
      rw [step]
      have nxt := ih (n + 1) _ (by omega) (by omega) inn.2 f (by omega)
      rw [← nxt, ← inn.1]
      rcases h5 with ⟨rfl, hz⟩ | ⟨mm, rfl, hm, hl2, hz⟩
      · show D_c_EdgeHouse_ringNode_67 F _ 512 _ none _ _ _ _ T = _
        unfold D_c_EdgeHouse_ringNode_67 D_c_EdgeHouse_ringNode_68
        rw [hz n]
        rfl
      · show ((tgi T 512 0 14).bind fun v28 => (tcl T (527 + 8 * mm) 4).bind fun _ => (D_c_Node_shuns F (527 + 8 * mm) (Int32.ofNat n) v28 T).bind fun v34 => (cond (m_c1 .eq v34) (some (0 : Int32)) (some (65536 : Int32))).bind fun v42 => D_c_EdgeHouse_ringNode_73 F (D_c_EdgeHouse_ringNode_20 F f) F 512 (Int32.ofNat la) (some (527 + 8 * mm)) (Int32.ofNat s) (cB o) (cW o) (Int32.ofNat n) v42 (0 : Int32) T) = _
        rw [Hg14 hH', Option.bind_some, tcl_o (hN.2.1 mm (by omega) hm.2).1, Option.bind_some, c_shuns hN hm (by omega), Option.bind_some, hz n]
        cases isSh S mm n <;> rfl
end
