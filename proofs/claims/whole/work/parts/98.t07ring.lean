/-! The reference's ring, and both beside each other. -/
theorem toI64 {k : Nat} (h : k < 2147483648) : (Int32.ofNat k).toInt64 = Int64.ofNat k := by
  apply Int64.toInt_inj.mp
  rw [Int32.toInt_toInt64, Int32.toInt_ofNat_of_lt h, Int64.toInt_ofNat_of_lt (by omega)]
theorem i64_lt {a b : Nat} (ha : a < 2147483648) (hb : b < 2147483648) : (Int64.ofNat a > Int64.ofNat b ↔ b < a) ∧ (Int64.ofNat a = Int64.ofNat b ↔ a = b) := by
  constructor
  · show Int64.ofNat b < Int64.ofNat a ↔ _
    rw [Int64.lt_iff_toInt_lt, Int64.toInt_ofNat_of_lt (by omega), Int64.toInt_ofNat_of_lt (by omega)]
    omega
  · rw [← Int64.toInt_inj, Int64.toInt_ofNat_of_lt (by omega), Int64.toInt_ofNat_of_lt (by omega)]
    omega
def mL (o : Option (Nat × Nat)) : Int64 := match o with
  | none => 9223372036854775807
  | some q => Int64.ofNat q.2
theorem cmp_some {a b : Nat} (ha : a < 2147483648) (hb : b < 2147483648) : m_c1 .ge (lg_cmp (Int64.ofNat a) (Int64.ofNat b)) = decide (b ≤ a) := by
  obtain ⟨h1, h2⟩ := i64_lt ha hb
  unfold lg_cmp
  by_cases z1 : b < a
  · rw [if_pos (h1.mpr z1), decide_eq_true (by omega)]
    rfl
  · rw [if_neg (fun w => z1 (h1.mp w))]
    by_cases z2 : a = b
    · rw [if_pos (h2.mpr z2), decide_eq_true (by omega)]
      rfl
    · rw [if_neg (fun w => z2 (h2.mp w)), decide_eq_false (by omega)]
      rfl
theorem cmp_none {a : Nat} (ha : a < 2147483648) : m_c1 .ge (lg_cmp (Int64.ofNat a) 9223372036854775807) = false := by
  have e : (9223372036854775807 : Int64).toInt = 9223372036854775807 := by decide
  have h1 : ¬ Int64.ofNat a > 9223372036854775807 := by
    show ¬ (9223372036854775807 : Int64) < Int64.ofNat a
    rw [Int64.lt_iff_toInt_lt, Int64.toInt_ofNat_of_lt (by omega), e]
    omega
  have h2 : ¬ Int64.ofNat a = 9223372036854775807 := by
    intro w
    have := congrArg Int64.toInt w
    rw [Int64.toInt_ofNat_of_lt (by omega), e] at this
    omega
  unfold lg_cmp
  rw [if_neg h1, if_neg h2]
  rfl
section
variable {S : mS} {F : Nat}
theorem m_ring_in {x2 x4 : Int32} {s n : Nat} (rec25 : Int32 → Int32 → Int32 → Int32 → Int64 → Int32 → mS → Option Int32) (hs : s < 65536) : ∀ (m j : Nat) (o : Option (Nat × Nat)), j + m = 4 → (∀ q, o = some q → q.2 < 131072) → ∀ f, m < f → D_m_ring_63 F rec25 f x2 x4 (Int32.ofNat s) (cB o) (mL o) (Int32.ofNat n) (Int32.ofNat j) S = rec25 x2 x4 (Int32.ofNat s) (cB (((Kp n).drop j).foldl (fun o p => updN o n (way s p + s)) o)) (mL (((Kp n).drop j).foldl (fun o p => updN o n (way s p + s)) o)) (Int32.ofNat (n + 1)) S ∧ ∀ q, ((Kp n).drop j).foldl (fun o p => updN o n (way s p + s)) o = some q → q.2 < 131072 := by
  intro m
  induction m with
  | zero =>
    intro j o hj ho f hf
    obtain ⟨f, rfl⟩ : ∃ f9, f = f9 + 1 := ⟨f - 1, by omega⟩
    have : j = 4 := by omega
    subst this
    rw [D_m_ring_63, show m_c2 .ge (Int32.ofNat 4) (4 : Int32) = true from by decide, cond_true]
    unfold D_m_ring_122
    rw [q1]
    exact ⟨rfl, ho⟩
  | succ m ih =>
    intro j o hj ho f hf
    obtain ⟨f, rfl⟩ : ∃ f9, f = f9 + 1 := ⟨f - 1, by omega⟩
    have hd : (Kp n).drop j = pt n j :: (Kp n).drop (j + 1) := by
      have hj4 : j < 4 := by omega
      match j, hj4 with
      | 0, _ => rfl
      | 1, _ => rfl
      | 2, _ => rfl
      | 3, _ => rfl
    have hp := pt_eq n j
    have hway := (way_c hs hp.2).2
    have hfar : (cond (m_c2 .lt (Int32.ofNat (pt n j)) (Int32.ofNat s)) (some ((Int32.ofNat (pt n j)).toInt64 + ((65536) : Int64))) (some (Int32.ofNat (pt n j)).toInt64)) = some (Int64.ofNat (way s (pt n j) + s)) := by
      rw [lt_n (by omega) (by omega), toI64 (by omega)]
      unfold way
      by_cases z : s ≤ pt n j
      · rw [decide_eq_false (by omega), cond_false, if_pos z, show pt n j - s + s = pt n j by omega]
      · rw [decide_eq_true (by omega), cond_true, if_neg z, show pt n j + 65536 - s + s = pt n j + 65536 by omega]
        rw [Int64.ofNat_add]
        have h65 : (65536 : Int64) = Int64.ofNat 65536 := by decide
        rw [← h65]
    rw [hd, List.foldl_cons, D_m_ring_63, show (4 : Int32) = Int32.ofNat 4 from rfl, ge_n (by omega) (by omega), decide_eq_false (by omega), cond_false, m_point, Option.bind_some, hp.1, hfar, Option.bind_some]
    have hu : ∀ q, updN o n (way s (pt n j) + s) = some q → q.2 < 131072 := by
      intro q hq
      cases o with
      | none =>
        cases hq
        show way s (pt n j) + s < 131072
        omega
      | some r =>
        have hq' : (if way s (pt n j) + s < r.2 then some (n, way s (pt n j) + s) else some (r.1, r.2)) = some q := hq
        split at hq'
        · cases hq'
          show way s (pt n j) + s < 131072
          omega
        · cases hq'
          exact ho r rfl
    have nxt := ih (j + 1) (updN o n (way s (pt n j) + s)) (by omega) hu f (by omega)
    refine ⟨?_, nxt.2⟩
    rw [← nxt.1]
    cases o with
    | none =>
      rw [show mL none = 9223372036854775807 from rfl, cmp_none (by omega), cond_false]
      unfold D_m_ring_116
      rw [q1]
      rfl
    | some r =>
      have hr := ho r rfl
      rw [show mL (some r) = Int64.ofNat r.2 from rfl, cmp_some (by omega) (by omega)]
      unfold D_m_ring_116
      rw [q1]
      by_cases hlt : way s (pt n j) + s < r.2
      · have e9 : updN (some r) n (way s (pt n j) + s) = some (n, way s (pt n j) + s) := if_pos hlt
        rw [decide_eq_false (by omega), cond_false, e9]
        rfl
      · have e9 : updN (some r) n (way s (pt n j) + s) = some (r.1, r.2) := if_neg hlt
        rw [decide_eq_true (by omega), cond_true, e9]
        rfl
theorem m_isSh {m n : Nat} (hm : m < 7) (hn : 1 ≤ n ∧ n ≤ 2) : D_m_isShunned F (Int32.ofNat m) (Int32.ofNat n) S = some (b2i (isSh S m n)) := by
  unfold D_m_isShunned
  rw [k2, m_n_add, show Int32.ofNat (2 * m + n) - (1 : Int32) = Int32.ofNat (2 * m + n - 1) from m_n_sub (b := 1) (by omega), aget_n (Or.inl rfl) (by omega) (by decide), Option.bind_some]
  by_cases hz : S.1 36 < rd S 619 (2 * m + n - 1)
  · simp [m_c2, isSh, hz, Int32.not_le.mpr hz, b2i, bret]
  · simp [m_c2, isSh, hz, Int32.not_lt.mp hz, b2i, bret]
/-- who counts: those that are up and (by > 0) not shunned by it -/
def isIn (S : mS) (b n : Nat) : Bool := isUp S n && (decide (b = 0) || !isSh S b n)
theorem m_ring_out (hF : 5 ≤ F) {s la b : Nat} (hN : ∀ n, 1 ≤ n → n < 7 → flag (rd S 591 n)) (hs : s < 65536) (hla : la < 7) (hb : b < 7) (hb2 : b = 0 ∨ la ≤ 2) : ∀ (m n : Nat) (o : Option (Nat × Nat)), n + m = la + 1 → 1 ≤ n → (∀ q, o = some q → q.2 < 131072) → ∀ f, m < f → D_m_ring_25 F f (Int32.ofNat la) (Int32.ofNat b) (Int32.ofNat s) (cB o) (mL o) (Int32.ofNat n) S = some (cB (fL Kp (fun n p => way s p + s) o ((List.range' n m).filter (isIn S b)))) := by
  intro m
  induction m with
  | zero =>
    intro n o hn h1 ho f hf
    obtain ⟨f, rfl⟩ : ∃ f9, f = f9 + 1 := ⟨f - 1, by omega⟩
    rw [D_m_ring_25, gt_n (by omega) (by omega), decide_eq_true (by omega), cond_true]
    rfl
  | succ m ih =>
    intro n o hn h1 ho f hf
    obtain ⟨f, rfl⟩ : ∃ f9, f = f9 + 1 := ⟨f - 1, by omega⟩
    have hu : m_c1 .eq (rd S 591 n) = !isUp S n := by
      rcases hN n h1 (by omega) with z | z <;> simp [m_c1, isUp, z]
    have hb0 : m_c1 .le (Int32.ofNat b) = decide (b = 0) := by
      rw [m_c1n (r := decide (b ≤ 0)) (by omega) rfl]
      congr 1
      simp
    rw [D_m_ring_25, gt_n (by omega) (by omega), decide_eq_false (by omega), cond_false, aget_n (Or.inr rfl) (by omega) (by decide), Option.bind_some, hu, hb0, List.range'_succ]
    have inn := m_ring_in (F := F) (S := S) (x2 := Int32.ofNat la) (x4 := Int32.ofNat b) (s := s) (n := n) (D_m_ring_25 F f) hs 4 0 o rfl ho F (by omega)
    rw [List.drop_zero] at inn
    have take : D_m_ring_60 F (D_m_ring_25 F f) (Int32.ofNat la) (Int32.ofNat b) (Int32.ofNat s) (cB o) (mL o) (Int32.ofNat n) S = some (cB (fL Kp (fun n p => way s p + s) o (n :: (List.range' (n + 1) m).filter (isIn S b)))) := by
      unfold D_m_ring_60
      rw [show (0 : Int32) = Int32.ofNat 0 from rfl, inn.1]
      exact ih (n + 1) _ (by omega) (by omega) inn.2 f (by omega)
    have skip : D_m_ring_122 F (D_m_ring_25 F f) (Int32.ofNat la) (Int32.ofNat b) (Int32.ofNat s) (cB o) (mL o) (Int32.ofNat n) S = some (cB (fL Kp (fun n p => way s p + s) o ((List.range' (n + 1) m).filter (isIn S b)))) := by
      unfold D_m_ring_122
      rw [q1]
      exact ih (n + 1) o (by omega) (by omega) ho f (by omega)
    cases hup : isUp S n with
    | false =>
      rw [List.filter_cons_of_neg (by simp [isIn, hup])]
      exact skip
    | true =>
      show cond (decide (b = 0)) _ _ = _
      by_cases z : b = 0
      · rw [decide_eq_true z, cond_true, List.filter_cons_of_pos (by simp [isIn, hup, z])]
        exact take
      · have hl2 : la ≤ 2 := hb2.resolve_left z
        rw [decide_eq_false z, cond_false, m_isSh hb (by omega), Option.bind_some]
        cases hsh : isSh S b n with
        | true =>
          rw [List.filter_cons_of_neg (by simp [isIn, hup, z, hsh])]
          exact skip
        | false =>
          rw [List.filter_cons_of_pos (by simp [isIn, hup, z, hsh])]
          exact take
end
section
variable {T : tT} {S : mS} {F : Nat}
theorem Kp_ne (n : Nat) : Kp n ≠ [] := by
  intro h
  cases h
theorem way_lt {s n : Nat} (hs : s < 65536) : ∀ p ∈ Kp n, way s p < 65536 := by
  intro p hp
  have : p < 65536 := by
    simp only [Kp, List.mem_cons, List.mem_nil_iff, or_false] at hp
    rcases hp with rfl | rfl | rfl | rfl <;> exact (pt_eq _ _).2
  exact (way_c hs this).2
theorem fN_mem {K : Nat → List Nat} {key : Nat → Nat → Nat} {n : Nat} : ∀ {o : Option (Nat × Nat)} {q : Nat × Nat}, fN K key o n = some q → o = some q ∨ q.1 = n := by
  unfold fN
  generalize K n = l
  induction l with
  | nil => intro o q h; exact Or.inl h
  | cons p l ih =>
    intro o q h
    rcases ih (o := updN o n (key n p)) h with h1 | h1
    · cases o with
      | none =>
        cases h1
        exact Or.inr rfl
      | some r =>
        have h1' : (if key n p < r.2 then some (n, key n p) else some (r.1, r.2)) = some q := h1
        split at h1'
        · cases h1'
          exact Or.inr rfl
        · cases h1'
          exact Or.inl rfl
    · exact Or.inr h1
theorem fL_mem {K : Nat → List Nat} {key : Nat → Nat → Nat} : ∀ {L : List Nat} {o : Option (Nat × Nat)} {q : Nat × Nat}, fL K key o L = some q → o = some q ∨ q.1 ∈ L := by
  intro L
  induction L with
  | nil => intro o q h; exact Or.inl h
  | cons n L ih =>
    intro o q h
    rcases ih (o := fN K key o n) h with h1 | h1
    · rcases fN_mem h1 with h2 | h2
      · exact Or.inl h2
      · exact Or.inr (by rw [h2]; exact List.mem_cons_self)
    · exact Or.inr (List.mem_cons_of_mem _ h1)
theorem sh_fst {c : Nat} {o : Option (Nat × Nat)} : (sh c o).map Prod.fst = o.map Prod.fst := by
  cases o <;> rfl
theorem spot_c {p v : Nat} : ptI ((64 : Int32) + Int32.ofNat p) (Int32.ofNat v) = Int32.ofNat (pt (64 + p) v) := by
  rw [show (64 : Int32) + Int32.ofNat p = Int32.ofNat (64 + p) from m_n_add 64 p]
  exact (pt_eq _ _).1
/-- the edge of a request -/
theorem ring_edge_c (hF : 10 ≤ F) (hH : RHouse T S) (hp : RPts T) (hN : RNodes T S) {p v : Nat} : D_c_EdgeHouse_ringNode F 512 (Int32.ofNat 3) (Int32.ofNat 6) (Int32.ofNat p) (Int32.ofNat v) none T = some (cB (fL Kp (fun _ q => way (pt (64 + p) v) q + 0) none ((List.range' 3 4).filter (isUp S)))) := by
  have hs := (pt_eq (64 + p) v).2
  generalize hsp : pt (64 + p) v = s at hs
  have c := c_ring_out (F := F) (T := T) (S := S) (x5 := none) (s := s) (la := 6) (by omega) hH hp hN hs (by omega) (sh9 := fun _ => false) (Or.inl ⟨rfl, fun _ => rfl⟩) 4 3 none rfl (by omega) (fun q hq => by cases hq) F (by omega)
  unfold D_c_EdgeHouse_ringNode
  rw [c_hash, Option.bind_some, spot_c, hsp]
  simp only [Bool.false_eq_true, if_false] at c
  exact c
theorem key_split {p v : Nat} (hp2 : p < 32) (hv : v < 4) : Int32.ofNat (4 * p + v) / (4 : Int32) = Int32.ofNat p ∧ Int32.ofNat (4 * p + v) - Int32.ofNat p * (4 : Int32) = Int32.ofNat v := by
  constructor
  · rw [show Int32.ofNat (4 * p + v) / (4 : Int32) = Int32.ofNat ((4 * p + v) / 4) from m_n_div (b := 4) (by unfold sm; omega) (by unfold sm; omega), show (4 * p + v) / 4 = p by omega]
  · rw [show Int32.ofNat p * (4 : Int32) = Int32.ofNat (p * 4) from m_n_mul p 4, m_n_sub (by omega), show 4 * p + v - p * 4 = v by omega]
theorem m_ringS (hF : 10 ≤ F) {p v fi la m b : Nat} (hp2 : p < 32) (hv : v < 4) (hN : ∀ n, 1 ≤ n → n < 7 → flag (rd S 591 n)) (hfi : 1 ≤ fi) (hm : fi + m = la + 1) (hla : la < 7) (hb : b < 7) (hb2 : b = 0 ∨ la ≤ 2) : D_m_ring F (Int32.ofNat fi) (Int32.ofNat la) (Int32.ofNat (4 * p + v)) (Int32.ofNat b) S = some (cB (fL Kp (fun _ q => way (pt (64 + p) v) q + pt (64 + p) v) none ((List.range' fi m).filter (isIn S b)))) := by
  have hs := (pt_eq (64 + p) v).2
  generalize hsp : pt (64 + p) v = s at hs
  have c := m_ring_out (F := F) (S := S) (s := s) (la := la) (b := b) (by omega) hN hs hla hb hb2 m fi none hm hfi (fun q hq => by cases hq) F (by omega)
  obtain ⟨e4, e5⟩ := key_split hp2 hv
  unfold D_m_ring
  rw [e4, e5, m_point, Option.bind_some, spot_c, hsp]
  exact c
theorem c_ringS (hF : 10 ≤ F) (hH : RHouse T S) (hp : RPts T) (hN : RNodes T S) {p v m : Nat} (hm : 3 ≤ m ∧ m < 7) : D_c_EdgeHouse_ringNode F 512 (Int32.ofNat 1) (Int32.ofNat 2) (Int32.ofNat p) (Int32.ofNat v) (some (527 + 8 * m)) T = some (cB (fL Kp (fun n q => way (pt (64 + p) v) q + (if isSh S m n then 65536 else 0)) none ((List.range' 1 2).filter (isUp S)))) := by
  have hs := (pt_eq (64 + p) v).2
  generalize hsp : pt (64 + p) v = s at hs
  have c := c_ring_out (F := F) (T := T) (S := S) (x5 := some (527 + 8 * m)) (s := s) (la := 2) (by omega) hH hp hN hs (by omega) (sh9 := isSh S m) (Or.inr ⟨m, rfl, hm, by omega, fun _ => rfl⟩) 2 1 none rfl (by omega) (fun q hq => by cases hq) F (by omega)
  unfold D_c_EdgeHouse_ringNode
  rw [c_hash, Option.bind_some, spot_c, hsp]
  exact c
theorem fil0 {fi m : Nat} : (List.range' fi m).filter (isIn S 0) = (List.range' fi m).filter (isUp S) := by
  congr 1
  funext n
  simp [isIn]
theorem cB_sh {c : Nat} {o : Option (Nat × Nat)} : cB (sh c o) = cB o := by cases o <;> rfl
theorem shift_edge {s : Nat} {L : List Nat} : cB (fL Kp (fun _ q => way s q + s) none L) = cB (fL Kp (fun _ q => way s q + 0) none L) := by
  have e1 := fL_sh (K := Kp) (key := fun _ q => way s q + 0) (key' := fun _ q => way s q + s) (c := s) (L := L) (fun n _ q => rfl) none
  have e2 : sh s none = none := rfl
  rw [e2] at e1
  rw [e1, cB_sh]
/-- the edge of a request: the reference finds the same -/
theorem ring_edge_m (hF : 10 ≤ F) {p v : Nat} (hp2 : p < 32) (hv : v < 4) (hN : ∀ n, 1 ≤ n → n < 7 → flag (rd S 591 n)) : D_m_ring F (Int32.ofNat 3) (Int32.ofNat 6) (Int32.ofNat (4 * p + v)) (Int32.ofNat 0) S = some (cB (fL Kp (fun _ q => way (pt (64 + p) v) q + 0) none ((List.range' 3 4).filter (isUp S)))) := by
  rw [m_ringS (F := F) (S := S) (fi := 3) (la := 6) (m := 4) (b := 0) hF hp2 hv hN (by omega) rfl (by omega) (by omega) (Or.inl rfl), fil0, shift_edge]
theorem ring_in {K : Nat → List Nat} {key : Nat → Nat → Nat} {fi m : Nat} {q : Nat × Nat} (h : fL K key none ((List.range' fi m).filter (isUp S)) = some q) : fi ≤ q.1 ∧ q.1 < fi + m ∧ isUp S q.1 = true := by
  rcases fL_mem h with h1 | h1
  · cases h1
  · obtain ⟨h2, h3⟩ := List.mem_filter.mp h1
    rw [List.mem_range'_1] at h2
    exact ⟨h2.1, h2.2, h3⟩
theorem parent_eq {s : Nat} (hs : s < 65536) {L : List Nat} {far : Nat → Bool} : cB (fL Kp (fun n q => way s q + (if far n then 65536 else 0)) none L) = (if fL Kp (fun _ q => way s q + s) none (L.filter (fun n => !far n)) = none then cB (fL Kp (fun _ q => way s q + s) none L) else cB (fL Kp (fun _ q => way s q + s) none (L.filter (fun n => !far n)))) := by
  have e := ring_eq (K := Kp) (d := fun _ q => way s q) (B := 65536) (s := s) (far := far) (L := L) Kp_ne (fun n _ q hq => way_lt hs q hq)
  unfold cB
  rw [e]
  split <;> rfl
theorem goal_fin {M1 M0 : Option (Nat × Nat)} (h : ∀ q, M1 = some q → q.1 < 7) : ((some (cB M1)).bind fun v2 => (cond (m_c2 .ne v2 ((-1) : Int32)) (some v2) ((some (cB M0)).bind fun v7 => some v7)).bind fun v9 => some v9) = some (if M1 = none then cB M0 else cB M1) := by
  cases M1 with
  | none => rw [if_pos rfl]; rfl
  | some q =>
    rw [if_neg (by simp), Option.bind_some, show cB (some q) = Int32.ofNat q.1 from rfl, ne_m1 (by have := h q rfl; omega), cond_true]
    rfl
/-- the parent that an edge asks: the reference finds the same -/
theorem ring_parent_m (hF : 10 ≤ F) {p v m : Nat} (hp2 : p < 32) (hv : v < 4) (hm : 3 ≤ m ∧ m < 7) (hN : ∀ n, 1 ≤ n → n < 7 → flag (rd S 591 n)) : D_m_goal F (Int32.ofNat m) (Int32.ofNat (4 * p + v)) S = some (cB (fL Kp (fun n q => way (pt (64 + p) v) q + (if isSh S m n then 65536 else 0)) none ((List.range' 1 2).filter (isUp S)))) := by
  have m1 := m_ringS (F := F) (S := S) (fi := 1) (la := 2) (m := 2) (b := m) hF hp2 hv hN (by omega) rfl (by omega) hm.2 (Or.inr (by omega))
  have m0 := m_ringS (F := F) (S := S) (fi := 1) (la := 2) (m := 2) (b := 0) hF hp2 hv hN (by omega) rfl (by omega) (by omega) (Or.inl rfl)
  have f1 : (List.range' 1 2).filter (isIn S m) = ((List.range' 1 2).filter (isUp S)).filter (fun n => !isSh S m n) := by
    rw [List.filter_filter]
    congr 1
    funext n
    have : ¬ m = 0 := by omega
    simp [isIn, this, Bool.and_comm]
  rw [fil0] at m0
  rw [f1] at m1
  rw [parent_eq (pt_eq (64 + p) v).2]
  generalize pt (64 + p) v = s at m1 m0
  have hmem : ∀ q, fL Kp (fun _ q => way s q + s) none (((List.range' 1 2).filter (isUp S)).filter (fun n => !isSh S m n)) = some q → q.1 < 7 := by
    intro q hq
    rcases fL_mem hq with h1 | h1
    · cases h1
    · have h2 := (List.mem_filter.mp (List.mem_filter.mp h1).1).1
      rw [List.mem_range'_1] at h2
      omega
  have fin := goal_fin (M0 := fL Kp (fun _ q => way s q + s) none ((List.range' 1 2).filter (isUp S))) hmem
  have hg : m_c2 .ge (Int32.ofNat m) (Int32.ofNat 3) = true := (ge_n (b := 3) (by omega) (by omega)).trans (decide_eq_true (by omega))
  have e : D_m_goal F (Int32.ofNat m) (Int32.ofNat (4 * p + v)) S = cond (m_c2 .ge (Int32.ofNat m) (Int32.ofNat 3)) ((D_m_ring F (Int32.ofNat 1) (Int32.ofNat 2) (Int32.ofNat (4 * p + v)) (Int32.ofNat m) S).bind fun v2 => (cond (m_c2 .ne v2 ((-1) : Int32)) (some v2) ((D_m_ring F (Int32.ofNat 1) (Int32.ofNat 2) (Int32.ofNat (4 * p + v)) (Int32.ofNat 0) S).bind fun v7 => some v7)).bind fun v9 => some v9) (some (0 : Int32)) := rfl
  rw [e, hg, cond_true, m1, m0]
  exact fin
theorem ring_origin {n : Nat} (hn : n < 3) {x : Int32} : D_m_goal F (Int32.ofNat n) x S = some 0 := by
  have hg : m_c2 .ge (Int32.ofNat n) (Int32.ofNat 3) = false := (ge_n (b := 3) (by omega) (by omega)).trans (decide_eq_false (by omega))
  show cond (m_c2 .ge (Int32.ofNat n) (Int32.ofNat 3)) _ _ = _
  rw [hg, cond_false]
end
