/-! node(node, what). -/
theorem sum_ones {f : Nat → Nat} : ∀ (L : List Nat), (∀ e ∈ L, f e = 1) → (L.map f).sum = L.length
  | [], _ => rfl
  | a :: L, h => by
    rw [List.map_cons, List.sum_cons, h a List.mem_cons_self, sum_ones L (fun e he => h e (List.mem_cons_of_mem _ he)), List.length_cons]
    omega
def c601 (S : mS) (e : Nat) : Nat := if rd S 601 e = 0 then 0 else 1
def c602 (S : mS) (e : Nat) : Nat := if rd S 601 e = 0 then 0 else if rd S 602 e = 0 then 0 else 1
def c609 (S : mS) (e : Nat) : Nat := if rd S 609 e = 0 then 0 else 1
def c622 (S : mS) (n k : Nat) : Nat := if rd S 622 (12 * k) = Int32.ofNat n then 1 else 0
theorem rng_succ {f : Nat → Nat} {lo m : Nat} : ((List.range' lo (m + 1)).map f).sum = f lo + ((List.range' (lo + 1) m).map f).sum := by
  rw [List.range'_succ, List.map_cons, List.sum_cons]
theorem sum_le_one {f : Nat → Nat} (hf : ∀ e, f e ≤ 1) : ∀ (m lo : Nat), ((List.range' lo m).map f).sum ≤ m
  | 0, lo => Nat.le_refl _
  | m + 1, lo => by
    rw [rng_succ]
    have := sum_le_one hf m (lo + 1)
    have := hf lo
    omega
section
variable {I : Iv} {T : tT} {S : mS} {X Y : Nat → List (Nat × Nat)} {Z : Nat → List Fz} {Q : List Rq} {c F n j0 k1 k2 : Nat} {rs : List Nat}
theorem m_node29 (h2 : n < 7) {x2 : Int32} : ∀ (m x s t : Nat), x + m = 1024 * n + 1024 → 1024 * n ≤ x → ∀ g, m < g → D_m_node_29 F g (Int32.ofNat n) x2 (Int32.ofNat s) (Int32.ofNat t) 0 (Int32.ofNat x) S = D_m_node_104 F F (Int32.ofNat n) x2 (Int32.ofNat (s + ((List.range' x m).map (c601 S)).sum)) (Int32.ofNat (t + ((List.range' x m).map (c602 S)).sum)) 0 (Int32.ofNat (128 * n)) S := by
  have e : (1024 : Int32) * Int32.ofNat n + (1024 : Int32) = Int32.ofNat (1024 * n + 1024) := by rw [k1024]; exact i_add (b := 1024)
  intro m
  induction m with
  | zero =>
    intro x s t hx hx2 g hg
    obtain ⟨g, rfl⟩ : ∃ y, g = y + 1 := ⟨g - 1, by omega⟩
    unfold D_m_node_29
    rw [e, ge_n (by omega) (by omega), decide_eq_true (by omega), cond_true, k128]
    rfl
  | succ m ih =>
    intro x s t hx hx2 g hg
    obtain ⟨g, rfl⟩ : ∃ y, g = y + 1 := ⟨g - 1, by omega⟩
    have a1 : aget 4 7168 S 601 (Int32.ofNat x) = some (rd S 601 x) := aget_n (Or.inr rfl) (by omega) (by decide)
    have a2 : aget 4 7168 S 602 (Int32.ofNat x) = some (rd S 602 x) := aget_n (Or.inr rfl) (by omega) (by decide)
    have v12 : (cond (m_c1 .eq (rd S 601 x)) (some (0 : Int32)) (some (1 : Int32))) = some (Int32.ofNat (c601 S x)) := by
      unfold c601
      by_cases w : rd S 601 x = 0
      · rw [w, if_pos rfl]; rfl
      · rw [show m_c1 .eq (rd S 601 x) = false by simp [m_c1, w], if_neg w]; rfl
    have v21 : (cond (m_c1 .eq (rd S 601 x)) (some (0 : Int32)) (cond (m_c1 .eq (rd S 602 x)) (some (0 : Int32)) (some (1 : Int32)))) = some (Int32.ofNat (c602 S x)) := by
      unfold c602
      by_cases w : rd S 601 x = 0
      · rw [w, if_pos rfl]; rfl
      · rw [show m_c1 .eq (rd S 601 x) = false by simp [m_c1, w], if_neg w]
        by_cases w2 : rd S 602 x = 0
        · rw [w2, if_pos rfl]; rfl
        · rw [show m_c1 .eq (rd S 602 x) = false by simp [m_c1, w2], if_neg w2]; rfl
    conv => lhs; unfold D_m_node_29
    rw [e, ge_n (by omega) (by omega), decide_eq_false (by omega), cond_false]
    simp only [a1, a2, Option.bind_some, v12, v21, i_add, q1]
    rw [rng_succ, rng_succ, ih (x + 1) (s + c601 S x) (t + c602 S x) (by omega) (by omega) g (by omega), Nat.add_assoc, Nat.add_assoc]
theorem m_node104 (h2 : n < 7) {x2 x3 x4 : Int32} : ∀ (m x s : Nat), x + m = 128 * n + 128 → 128 * n ≤ x → ∀ g, m < g → D_m_node_104 F g (Int32.ofNat n) x2 x3 x4 (Int32.ofNat s) (Int32.ofNat x) S = D_m_node_150 F F (Int32.ofNat n) x2 x3 x4 (Int32.ofNat (s + ((List.range' x m).map (c609 S)).sum)) 0 0 S := by
  have e : (128 : Int32) * Int32.ofNat n + (128 : Int32) = Int32.ofNat (128 * n + 128) := by rw [k128]; exact i_add (b := 128)
  intro m
  induction m with
  | zero =>
    intro x s hx hx2 g hg
    obtain ⟨g, rfl⟩ : ∃ y, g = y + 1 := ⟨g - 1, by omega⟩
    unfold D_m_node_104
    rw [e, ge_n (by omega) (by omega), decide_eq_true (by omega), cond_true]
    rfl
  | succ m ih =>
    intro x s hx hx2 g hg
    obtain ⟨g, rfl⟩ : ∃ y, g = y + 1 := ⟨g - 1, by omega⟩
    have a1 : aget 4 896 S 609 (Int32.ofNat x) = some (rd S 609 x) := aget_n (Or.inr rfl) (by omega) (by decide)
    have v12 : (cond (m_c1 .eq (rd S 609 x)) (some (0 : Int32)) (some (1 : Int32))) = some (Int32.ofNat (c609 S x)) := by
      unfold c609
      by_cases w : rd S 609 x = 0
      · rw [w, if_pos rfl]; rfl
      · rw [show m_c1 .eq (rd S 609 x) = false by simp [m_c1, w], if_neg w]; rfl
    conv => lhs; unfold D_m_node_104
    rw [e, ge_n (by omega) (by omega), decide_eq_false (by omega), cond_false]
    simp only [a1, Option.bind_some, v12, i_add, q1]
    rw [rng_succ, ih (x + 1) (s + c609 S x) (by omega) (by omega) g (by omega), Nat.add_assoc]
/-- what the reference tells of a node -/
def nodeSw (F : Nat) (x1 x2 x3 x4 x5 x6 : Int32) (S : mS) : Option (Int32 × mS) := cond (decide (x2 = (0 : Int32))) ((aget 4 7 S 591 x1).bind fun v31 => (cond (m_c1 .eq v31) (some (0 : Int32)) (some (1 : Int32))).bind fun v36 => some (v36, S)) (cond (decide (x2 = (1 : Int32))) (some (x3, S)) (cond (decide (x2 = (2 : Int32))) ((D_m_sizes F x1 (0 : Int32) S).bind fun v39 => some (v39, S)) (cond (decide (x2 = (3 : Int32))) (some (x4, S)) (cond (decide (x2 = (4 : Int32))) ((aget 0 7 S 594 x1).bind fun v43 => some (v43, S)) (cond (decide (x2 = (5 : Int32))) ((aget 0 7 S 595 x1).bind fun v46 => some (v46, S)) (cond (decide (x2 = (6 : Int32))) (some (x5, S)) (cond (decide (x2 = (7 : Int32))) (some (x6, S)) (cond (decide (x2 = (8 : Int32))) ((aget 0 7 S 593 x1).bind fun v51 => some (v51, S)) (cond (decide (x2 = (9 : Int32))) ((aget 0 14 S 618 ((((2 : Int32) * x1) + x2) - (9 : Int32))).bind fun v54 => some (v54, S)) (cond (decide (x2 = (10 : Int32))) ((aget 0 14 S 618 ((((2 : Int32) * x1) + x2) - (9 : Int32))).bind fun v57 => some (v57, S)) (cond (decide (x2 = (11 : Int32))) ((D_m_isShunned F x1 (x2 - (10 : Int32)) S).bind fun v60 => (cond (m_c1 .eq v60) (some (0 : Int32)) ((aget 0 14 S 619 ((((2 : Int32) * x1) + x2) - (11 : Int32))).bind fun v65 => some v65)).bind fun v67 => some (v67, S)) (cond (decide (x2 = (12 : Int32))) ((D_m_isShunned F x1 (x2 - (10 : Int32)) S).bind fun v69 => (cond (m_c1 .eq v69) (some (0 : Int32)) ((aget 0 14 S 619 ((((2 : Int32) * x1) + x2) - (11 : Int32))).bind fun v74 => some v74)).bind fun v76 => some (v76, S)) (some (((-1) : Int32), S))))))))))))))
theorem m_node150 {x2 x3 x4 x5 : Int32} {N : Nat} (hN : S.1 74 = Int32.ofNat N) (hN2 : N ≤ 3999) : ∀ (m x s : Nat), x + m = N → ∀ g, m < g → D_m_node_150 F g (Int32.ofNat n) x2 x3 x4 x5 (Int32.ofNat s) (Int32.ofNat x) S = nodeSw F (Int32.ofNat n) x2 x3 x4 x5 (Int32.ofNat (s + ((List.range' x m).map (c622 S n)).sum)) S := by
  intro m
  induction m with
  | zero =>
    intro x s hx g hg
    obtain ⟨g, rfl⟩ : ∃ y, g = y + 1 := ⟨g - 1, by omega⟩
    conv => lhs; unfold D_m_node_150
    rw [hN, ge_n (by omega) (by omega), decide_eq_true (by omega), cond_true]
    rfl
  | succ m ih =>
    intro x s hx g hg
    obtain ⟨g, rfl⟩ : ∃ y, g = y + 1 := ⟨g - 1, by omega⟩
    have a1 : aget 0 48000 S 622 ((12 : Int32) * Int32.ofNat x) = some (rd S 622 (12 * x)) := by rw [k12]; exact aget_n (Or.inl rfl) (by omega) (by decide)
    have v12 : (cond (m_c2 .ne (rd S 622 (12 * x)) (Int32.ofNat n)) (some (0 : Int32)) (some (1 : Int32))) = some (Int32.ofNat (c622 S n x)) := by
      unfold c622
      by_cases w : rd S 622 (12 * x) = Int32.ofNat n
      · rw [w, if_pos rfl, show m_c2 .ne (Int32.ofNat n) (Int32.ofNat n) = false by simp [m_c2]]; rfl
      · rw [show m_c2 .ne (rd S 622 (12 * x)) (Int32.ofNat n) = true by simp [m_c2, w], if_neg w]; rfl
    conv => lhs; unfold D_m_node_150
    rw [hN, ge_n (by omega) (by omega), decide_eq_false (by omega), cond_false]
    simp only [a1, Option.bind_some, v12, i_add, q1]
    rw [rng_succ, ih (x + 1) (s + c622 S n x) (by omega) g (by omega), Nat.add_assoc]
/-- the counts beside the lists -/
theorem RS.cnt6 {A B : List (Nat × Nat)} (h : RS T S n A B) : ((List.range' (1024 * n) 1024).map (c601 S)).sum = A.length + B.length ∧ ((List.range' (1024 * n) 1024).map (c602 S)).sum = B.length := by
  obtain ⟨n1, n2, n3⟩ := h.nodup
  have h2 := h.1.2
  obtain ⟨_, _, _, _, a5, a6, _, _, a9, _⟩ := id h
  have nd : ((A ++ B).map Prod.snd).Nodup := by
    rw [List.map_append, List.nodup_append]
    refine ⟨n1, n2, fun a ha b hb e => ?_⟩
    obtain ⟨q, q1', q2'⟩ := List.mem_map.mp ha
    obtain ⟨r, r1, r2⟩ := List.mem_map.mp hb
    exact n3 q q1' r r1 (q2'.trans (e.trans r2.symm))
  constructor
  · rw [sum_rng nd (fun e he => ?_) (fun e e1 e2 e3 => ?_), sum_ones, List.length_map, List.length_append]
    · intro e he
      obtain ⟨q, q1', q2'⟩ := List.mem_map.mp he
      unfold c601
      rw [if_neg]
      rw [← q2']
      rcases List.mem_append.mp q1' with w | w
      · exact (a5 q w).there.1
      · exact (a6 q w).there.1
    · obtain ⟨q, q1', q2'⟩ := List.mem_map.mp he
      rw [← q2']
      rcases List.mem_append.mp q1' with w | w
      · have := (a5 q w).rng h2
        exact ⟨this.1, this.2.1⟩
      · have := (a6 q w).rng h2
        exact ⟨this.1, this.2.1⟩
    · unfold c601
      by_cases w : rd S 601 e = 0
      · rw [if_pos w]
      · obtain ⟨q, q1', q2'⟩ := a9 e e1 e2 w
        exact absurd (List.mem_map.mpr ⟨q, List.mem_append.mpr q1', q2'⟩) e3
  · rw [sum_rng n2 (fun e he => ?_) (fun e e1 e2 e3 => ?_), sum_ones, List.length_map]
    · intro e he
      obtain ⟨q, q1', q2'⟩ := List.mem_map.mp he
      unfold c602
      rw [← q2', if_neg (a6 q q1').there.1, (a6 q q1').there.2]
      rfl
    · obtain ⟨q, q1', q2'⟩ := List.mem_map.mp he
      rw [← q2']
      have := (a6 q q1').rng h2
      exact ⟨this.1, this.2.1⟩
    · unfold c602
      by_cases w : rd S 601 e = 0
      · rw [if_pos w]
      · rw [if_neg w]
        obtain ⟨q, q1', q2'⟩ := a9 e e1 e2 w
        rcases q1' with q1' | q1'
        · rw [← q2', (a5 q q1').there.2]; rfl
        · exact absurd (List.mem_map.mpr ⟨q, q1', q2'⟩) e3
theorem RF.plc {C : Nat → List Nat} (h : RF T S Z C) (h1 : 1 ≤ n) (h2 : n < 7) : ((Z n).map (fun z => z.2.1)).Nodup := by
  obtain ⟨_, z2, z3, z4⟩ := h.1 n h1 h2
  have go : ∀ L : List Fz, (∀ z ∈ L, z ∈ Z n) → L.Pairwise (fun a b => nmb a < nmb b) → (L.map (fun z => z.2.1)).Nodup := by
    intro L
    induction L with
    | nil => intro _ _; exact List.nodup_nil
    | cons z L ih =>
      intro hs hp
      obtain ⟨p1', p2'⟩ := List.pairwise_cons.mp hp
      rw [List.map_cons, List.nodup_cons]
      refine ⟨fun w => ?_, ih (fun x hx => hs x (List.mem_cons_of_mem _ hx)) p2'⟩
      obtain ⟨z', v1, v2⟩ := List.mem_map.mp w
      have fe := z2 z (hs z List.mem_cons_self)
      have fe' := z2 z' (hs z' (List.mem_cons_of_mem _ v1))
      have n1 : z'.2.2 7 = z.2.2 7 := by rw [← fe'.2.2.2.2.2.2.2.2.2.1, ← fe.2.2.2.2.2.2.2.2.2.1, v2]
      have n2 : nmb z' = nmb z := by unfold nmb; rw [n1]
      have := p1' z' v1
      omega
  exact go (Z n) (fun _ hz => hz) z3
theorem RF.cnt9 {C : Nat → List Nat} (h : RF T S Z C) (h1 : 1 ≤ n) (h2 : n < 7) : ((List.range' (128 * n) 128).map (c609 S)).sum = (Z n).length := by
  obtain ⟨_, z2, z3, z4⟩ := h.1 n h1 h2
  rw [sum_rng (h.plc h1 h2) (fun e he => ?_) (fun e e1 e2 e3 => ?_), sum_ones, List.length_map]
  · intro e he
    obtain ⟨z, q1', q2'⟩ := List.mem_map.mp he
    unfold c609
    rw [← q2', (z2 z q1').2.2.2.2.2.2.2.2.2.2.2.2.2.2.2]
    rfl
  · obtain ⟨z, q1', q2'⟩ := List.mem_map.mp he
    obtain ⟨_, ⟨p, v, hp, hv, e', _⟩, _⟩ := z2 z q1'
    rw [← q2', e']
    omega
  · unfold c609
    by_cases w : rd S 609 e = 0
    · rw [if_pos w]
    · obtain ⟨z, q1', q2'⟩ := z4 e e1 e2 w
      exact absurd (List.mem_map.mpr ⟨z, q1', q2'⟩) e3
theorem flt_split {α : Type} {p q : α → Bool} (hpq : ∀ x, p x = true → q x = true → False) : ∀ (L : List α), (L.filter (fun x => p x || q x)).length = (L.filter p).length + (L.filter q).length
  | [] => rfl
  | a :: L => by
    have ih := flt_split hpq L
    cases hp : p a <;> cases hq : q a
    · rw [List.filter_cons_of_neg (by simp [hp, hq]), List.filter_cons_of_neg (by simp [hp]), List.filter_cons_of_neg (by simp [hq])]; exact ih
    · rw [List.filter_cons_of_pos (by simp [hp, hq]), List.filter_cons_of_neg (by simp [hp]), List.filter_cons_of_pos hq, List.length_cons, List.length_cons]; omega
    · rw [List.filter_cons_of_pos (by simp [hp, hq]), List.filter_cons_of_pos hp, List.filter_cons_of_neg (by simp [hq]), List.length_cons, List.length_cons]; omega
    · exact absurd (hpq a hp hq) (fun w => w)
/-- those that wait at a node, fetch by fetch -/
def wSum (Q : List Rq) (L : List Fz) : Nat := (L.map (fun z => (ch Q z.2.1).length)).sum
theorem wSum_eq : ∀ (L : List Fz), (L.map (fun z => z.2.1)).Nodup → wSum Q L = (Q.filter (fun q => decide (q.2.1 ∈ L.map (fun z => z.2.1)))).length
  | [], _ => by
    unfold wSum
    rw [List.filter_eq_nil_iff.mpr (fun x _ => by simp)]
    rfl
  | z :: L, h => by
    obtain ⟨h1, h2⟩ := List.nodup_cons.mp (show (z.2.1 :: L.map (fun z => z.2.1)).Nodup from h)
    have ih := wSum_eq L h2
    have e : (Q.filter (fun q => decide (q.2.1 ∈ (z :: L).map (fun z => z.2.1)))) = Q.filter (fun q => decide (q.2.1 = z.2.1) || decide (q.2.1 ∈ L.map (fun z => z.2.1))) := by
      refine List.filter_congr (fun q _ => ?_)
      simp only [List.map_cons, List.mem_cons]
      by_cases w : q.2.1 = z.2.1 <;> by_cases w2 : q.2.1 ∈ L.map (fun z => z.2.1) <;> simp [w, w2]
    rw [e, flt_split (fun q w1 w2 => h1 (by rw [← of_decide_eq_true w1]; exact of_decide_eq_true w2)), ← ih]
    show (List.map _ (z :: L)).sum = _
    rw [List.map_cons, List.sum_cons]
    unfold ch
    rw [List.length_map]
    rfl
theorem RB.waits (h : RB T S X Y Z Q [] [] j0 rs c) (h1 : 1 ≤ n) (h2 : n < 7) : wSum Q (Z n) = (qNi Q n).length := by
  obtain ⟨_, b1, _, _, c1, c2, d1, _, d2⟩ := id h.2.2.2.2.2.2.2.1
  obtain ⟨_, z2, z3, z4⟩ := h.2.2.2.2.2.2.1.1 n h1 h2
  rw [wSum_eq (Z n) (h.2.2.2.2.2.2.1.plc h1 h2)]
  unfold qNi
  congr 1
  refine List.filter_congr (fun q hq => ?_)
  by_cases w : q.2.1 / 128 = n
  · obtain ⟨z, v1, v2⟩ := z4 q.2.1 (by omega) (by omega) (by rw [d2 q hq]; decide)
    rw [decide_eq_true w, decide_eq_true (List.mem_map.mpr ⟨z, v1, v2⟩)]
  · rw [decide_eq_false w, decide_eq_false]
    intro q'
    obtain ⟨z, v1, v2⟩ := List.mem_map.mp q'
    obtain ⟨_, ⟨p, v, hp, hv, e, _⟩, _⟩ := z2 z v1
    exact w (by rw [← v2, e]; omega)
theorem rows_cnt (hQ : ∀ k z, Q[k]? = some z → rd S 622 (12 * k) = Int32.ofNat (z.2.1 / 128) ∧ z.2.1 / 128 < 7) (h2 : n < 7) : ∀ (L : List Rq) (s : Nat), (∀ k z, L[k]? = some z → Q[s + k]? = some z) → ((List.range' s L.length).map (c622 S n)).sum = (L.filter (fun z => decide (z.2.1 / 128 = n))).length
  | [], s, _ => rfl
  | z :: L, s, h => by
    have ih := rows_cnt hQ h2 L (s + 1) (fun k y hk => by
      have := h (k + 1) y (by rw [List.getElem?_cons_succ]; exact hk)
      rw [show s + 1 + k = s + (k + 1) by omega]
      exact this)
    obtain ⟨h0, h7⟩ := hQ s z (by have := h 0 z rfl; exact this)
    rw [List.length_cons, rng_succ, ih]
    unfold c622
    rw [h0]
    by_cases w : z.2.1 / 128 = n
    · rw [List.filter_cons_of_pos (by simp [w]), List.length_cons, w, if_pos rfl]; omega
    · rw [List.filter_cons_of_neg (by simp [w]), if_neg (fun e => w (by
        have := congrArg Int32.toNatClampNeg e
        rw [m_n_cl (by omega), m_n_cl (by omega)] at this
        exact this))]
      omega
theorem c_waiting (h : RB T S X Y Z Q [] [] j0 rs c) (h1 : 1 ≤ n) (h2 : n < 7) : ∀ (m i s : Nat), i + m = (Z n).length → ∀ g, m < g → D_c_Node_waiting_4 F g (527 + 8 * n) (Int32.ofNat s) (Int32.ofNat i) T = some (Int32.ofNat (s + wSum Q ((Z n).drop i))) := by
  obtain ⟨⟨cp, hl⟩, z2, z3, z4⟩ := h.2.2.2.2.2.2.1.1 n h1 h2
  have hnode := (h.2.2.2.2.1.2.1 n h1 h2).1
  have e42 : tgr T (527 + 8 * n) 4 2 = some (some (531 + 8 * n)) := tgr_o (x := some (531 + 8 * n)) hnode rfl
  have ls : tls T (531 + 8 * n) = some (Int32.ofNat (Z n).length) := by simp only [tls, tl, hl, Option.map_some, List.length_map]
  have zlen := h.2.2.2.2.2.2.1.len h1 h2
  intro m
  induction m with
  | zero =>
    intro i s hi g hg
    obtain ⟨g, rfl⟩ : ∃ y, g = y + 1 := ⟨g - 1, by omega⟩
    unfold D_c_Node_waiting_4
    simp only [e42, Option.bind_some, ls]
    rw [ge_n (by omega) (by omega), decide_eq_true (by omega), cond_true, List.drop_eq_nil_of_le (by omega)]
    rfl
  | succ m ih =>
    intro i s hi g hg
    obtain ⟨g, rfl⟩ : ∃ y, g = y + 1 := ⟨g - 1, by omega⟩
    obtain ⟨z, hz⟩ : ∃ z, (Z n)[i]? = some z := ⟨_, List.getElem?_eq_getElem (by omega)⟩
    have fe := z2 z (List.mem_of_getElem? hz)
    have lg : tlg T (531 + 8 * n) (Int32.ofNat i) = some z.1 := by
      simp only [tlg, tl, hl, Option.bind_some]
      rw [if_neg (m_n_neg (by omega)), m_n_cl (by omega), List.getElem?_map, hz]
      rfl
    have g11 : tgi T z.1 10 11 = some (Int32.ofNat (ch Q z.2.1).length) := tgi_o fe.1 rfl
    conv => lhs; unfold D_c_Node_waiting_4
    simp only [e42, Option.bind_some, ls]
    rw [ge_n (by omega) (by omega), decide_eq_false (by omega), cond_false, lg, Option.bind_some]
    simp only [tcc, tcl_o fe.1, g11, Option.bind_some, i_add, q1]
    rw [ih (i + 1) (s + (ch Q z.2.1).length) (by omega) g (by omega)]
    have : (Z n).drop i = z :: (Z n).drop (i + 1) := by
      obtain ⟨q1', q2'⟩ := List.getElem?_eq_some_iff.mp hz
      rw [List.drop_eq_getElem_cons q1', q2']
    rw [this]
    show some (Int32.ofNat (s + _ + wSum Q _)) = some (Int32.ofNat (s + (List.map _ (z :: _)).sum))
    rw [List.map_cons, List.sum_cons, ← Nat.add_assoc]
    rfl
theorem op_node (hF : 5000 ≤ F) {x y : Int32} (h : RA I T S X Y Z Q [] [] 0 rs c k1 k2) : ∃ v, D_c_EdgeHouse_node F 512 x y T = some v ∧ D_m_node F x y S = some (v, up1 S 0 0) ∧ RA I T (up1 S 0 0) X Y Z Q [] [] 0 rs c k1 k2 := by
  have h0 := h.zero
  obtain ⟨S0, hS0⟩ : ∃ x, x = up1 S 0 0 := ⟨_, rfl⟩
  rw [← hS0] at h0 ⊢
  obtain ⟨hR, hcost, hIv⟩ := id h0
  have hH : T.1 512 = some (house S0.1) := hR.2.1
  unfold D_c_EdgeHouse_node D_m_node
  simp only [fput, Option.bind_some]
  rw [← hS0]
  rcases c_isNode (F := F) (T := T) (S := S0) (x := x) with ⟨n, h1, h2, rfl, i1, i2⟩ | ⟨_, i1, i2⟩
  · rw [i1, i2, Option.bind_some, Option.bind_some, show m_c1 .eq (1 : Int32) = false from rfl, cond_false, show m_c1 .ne (1 : Int32) = true from rfl, cond_true]
    obtain ⟨r1, r2, r3, r4, r5, r6, r7, r8, r9, r10⟩ := id hR
    have hRS := (r6.1 n h1 h2).1
    have hlen := (r6.1 n h1 h2).2.1
    obtain ⟨ct1, ct2⟩ := hRS.cnt6
    have ct9 := r7.cnt9 h1 h2
    have ct4 : ((List.range' 0 Q.length).map (c622 S0 n)).sum = (qNi Q n).length := rows_cnt (n := n) (fun k z hk => by
      obtain ⟨_, m, ⟨m1, ⟨p', v', x1, x2, x3, x4, x5, x6, x7⟩, _⟩, _⟩ := r8.2.1 k z hk
      have y0 : rd S0 622 (12 * k) = Int32.ofNat m := x6
      have : z.2.1 / 128 = m := by omega
      rw [this]
      exact ⟨y0, m1.2⟩) h2 Q 0 (fun k z hk => by rw [Nat.zero_add]; exact hk)
    have q7 : Q.length ≤ 700 := by have := r8.1.2.1; simpa using this
    have mm : D_m_node_29 F F (Int32.ofNat n) y 0 0 0 ((1024 : Int32) * Int32.ofNat n) S0 = nodeSw F (Int32.ofNat n) y (Int32.ofNat ((X n).length + (Y n).length)) (Int32.ofNat (Y n).length) (Int32.ofNat (Z n).length) (Int32.ofNat (qNi Q n).length) S0 := by
      have e1 := m_node29 (F := F) (S := S0) (x2 := y) h2 1024 (1024 * n) 0 0 rfl (Nat.le_refl _) F (by omega)
      rw [ct1, ct2, Nat.zero_add, Nat.zero_add] at e1
      have e2 := m_node104 (F := F) (S := S0) (x2 := y) (x3 := Int32.ofNat ((X n).length + (Y n).length)) (x4 := Int32.ofNat (Y n).length) h2 128 (128 * n) 0 rfl (Nat.le_refl _) F (by omega)
      rw [ct9, Nat.zero_add] at e2
      have e3 := m_node150 (F := F) (S := S0) (n := n) (x2 := y) (x3 := Int32.ofNat ((X n).length + (Y n).length)) (x4 := Int32.ofNat (Y n).length) (x5 := Int32.ofNat (Z n).length) r8.1.1 (by omega) Q.length 0 0 (by omega) F (by omega)
      rw [ct4, Nat.zero_add] at e3
      rw [k1024]
      exact e1.trans (e2.trans e3)
    rw [mm]
    have hnode := (r5.2.1 n h1 h2).1
    have g5 := r5.get h2
    obtain ⟨fg, fh, sk1, sk2, sk3, sk4, sk5, sk6, sk7, sk8, _⟩ := r10.2.2.1 n h1 h2
    have e41 : tgr T (527 + 8 * n) 4 1 = some (some (528 + 8 * n)) := tgr_o (x := some (528 + 8 * n)) hnode rfl
    have e42 : tgr T (527 + 8 * n) 4 2 = some (some (531 + 8 * n)) := tgr_o (x := some (531 + 8 * n)) hnode rfl
    have e44 : tgr T (527 + 8 * n) 4 4 = some (some (533 + 8 * n)) := tgr_o (x := some (533 + 8 * n)) hnode rfl
    have e45 : tgr T (527 + 8 * n) 4 5 = some (some (534 + 8 * n)) := tgr_o (x := some (534 + 8 * n)) hnode rfl
    obtain ⟨st1, st2, st3, st4, st5, st6, _⟩ := hRS.stC
    obtain ⟨⟨cp, hl⟩, _⟩ := r7.1 n h1 h2
    have ls : tls T (531 + 8 * n) = some (Int32.ofNat (Z n).length) := by simp only [tls, tl, hl, Option.map_some, List.length_map]
    have tell : ∀ k, k ≤ 12 → ∃ v, D_c_Node_tell F (527 + 8 * n) (Int32.ofNat k) (S0.1 36) T = some v ∧ nodeSw F (Int32.ofNat n) (Int32.ofNat k) (Int32.ofNat ((X n).length + (Y n).length)) (Int32.ofNat (Y n).length) (Int32.ofNat (Z n).length) (Int32.ofNat (qNi Q n).length) S0 = some (v, S0) := by
      intro k hk
      have ix : ∀ a b : Nat, b ≤ 2 * n + a → (2 : Int32) * Int32.ofNat n + Int32.ofNat a - Int32.ofNat b = Int32.ofNat (2 * n + a - b) := fun a b hab => by rw [show (2 : Int32) * Int32.ofNat n = Int32.ofNat (2 * n) from m_n_mul 2 n, i_add, m_n_sub hab]
      have ag14 : ∀ (a i : Nat), i < 14 → aget 0 14 S0 a (Int32.ofNat i) = some (rd S0 a i) := fun a i hi => aget_n (Or.inl rfl) hi (by decide)
      have ag7 : ∀ a : Nat, aget 0 7 S0 a (Int32.ofNat n) = some (rd S0 a n) := fun a => aget_n (Or.inl rfl) h2 (by decide)
      have ta3 : ∀ i : Nat, i < 3 → tai T (533 + 8 * n) 0 (Int32.ofNat i) = some (m_toI (fg i)) := fun i hi => by unfold tai; rw [ta_o sk1 hi (by decide), Option.map_some]
      have ta4 : ∀ i : Nat, i < 3 → tai T (534 + 8 * n) 0 (Int32.ofNat i) = some (m_toI (fh i)) := fun i hi => by unfold tai; rw [ta_o sk2 hi (by decide), Option.map_some]
      have sh : ∀ p : Nat, p = 1 ∨ p = 2 → m_toI (fh p) = rd S0 619 (2 * n + p - 1) → D_c_Node_shuns F (527 + 8 * n) (Int32.ofNat p) (S0.1 36) T = D_m_isShunned F (Int32.ofNat n) (Int32.ofNat p) S0 := fun p hp e => by
        have c1 : m_c2 .lt (Int32.ofNat p) (1 : Int32) = false := by rcases hp with rfl | rfl <;> rfl
        have c2 : m_c2 .gt (Int32.ofNat p) (2 : Int32) = false := by rcases hp with rfl | rfl <;> rfl
        have i9 := ix p 1 (by omega)
        have i9' : (2 : Int32) * Int32.ofNat n + Int32.ofNat p - (1 : Int32) = Int32.ofNat (2 * n + p - 1) := i9
        unfold D_c_Node_shuns D_m_isShunned
        simp only [c1, c2, cond_false, e45, Option.bind_some, ta4 p (by omega), e, i9', ag14 619 (2 * n + p - 1) (by omega)]
      have shv : ∀ p : Nat, p = 1 ∨ p = 2 → ∃ v, D_m_isShunned F (Int32.ofNat n) (Int32.ofNat p) S0 = some v := fun p hp => by
        have i9' : (2 : Int32) * Int32.ofNat n + Int32.ofNat p - (1 : Int32) = Int32.ofNat (2 * n + p - 1) := ix p 1 (by omega)
        unfold D_m_isShunned
        simp only [i9', ag14 619 (2 * n + p - 1) (by omega), Option.bind_some]
        cases m_c2 .ge (S0.1 36) (rd S0 619 (2 * n + p - 1)) <;> exact ⟨_, rfl⟩
      have cs : k = 0 ∨ k = 1 ∨ k = 2 ∨ k = 3 ∨ k = 4 ∨ k = 5 ∨ k = 6 ∨ k = 7 ∨ k = 8 ∨ k = 9 ∨ k = 10 ∨ k = 11 ∨ k = 12 := by omega
      unfold D_c_Node_tell nodeSw
      rcases cs with z | z | z | z | z | z | z | z | z | z | z | z | z
      · subst z
        have g6 : tgi T (527 + 8 * n) 4 6 = some (rd S0 591 n) := tgi_o hnode rfl
        have a591 : aget 4 7 S0 591 (Int32.ofNat n) = some (rd S0 591 n) := aget_n (Or.inr rfl) h2 (by decide)
        rw [show decide (Int32.ofNat 0 = (0 : Int32)) = true from rfl, cond_true, cond_true, g6, a591]
        simp only [Option.bind_some]
        cases m_c1 .eq (rd S0 591 n) <;> exact ⟨_, rfl, rfl⟩
      · subst z
        rw [show decide (Int32.ofNat 1 = (0 : Int32)) = false from rfl, show decide (Int32.ofNat 1 = (1 : Int32)) = true from rfl, cond_false, cond_true, cond_false, cond_true]
        simp only [e41, Option.bind_some, st1, hRS.count]
        exact ⟨_, rfl, rfl⟩
      · subst z
        obtain ⟨_, _, ⟨cX, x1⟩, ⟨cY, x2⟩, x5, x6, _⟩ := id hRS
        have s1 := c_sizeOf0 (F := F) (a := 528 + 8 * n) (by omega) x1 x5 (by omega)
        have s2 := c_sizeOf0 (F := F) (a := 528 + 8 * n) (by omega) x2 x6 (by omega)
        have ms := m_sizes (F := F) (S := S0) (n := n) (by omega) h2 false
        rw [hRS.sizes.2] at ms
        have ms' : D_m_sizes F (Int32.ofNat n) 0 S0 = some (Int32.ofNat (sumz S0 (X n) + sumz S0 (Y n))) := ms
        rw [show decide (Int32.ofNat 2 = (0 : Int32)) = false from rfl, show decide (Int32.ofNat 2 = (1 : Int32)) = false from rfl, show decide (Int32.ofNat 2 = (2 : Int32)) = true from rfl, cond_false, cond_false, cond_true, cond_false, cond_false, cond_true, ms']
        simp only [e41, Option.bind_some, st1, st2, st3, s1, s2, i_add]
        exact ⟨_, rfl, rfl⟩
      · subst z
        rw [show decide (Int32.ofNat 3 = (0 : Int32)) = false from rfl, show decide (Int32.ofNat 3 = (1 : Int32)) = false from rfl, show decide (Int32.ofNat 3 = (2 : Int32)) = false from rfl, show decide (Int32.ofNat 3 = (3 : Int32)) = true from rfl]
        simp only [cond_false, cond_true, e41, Option.bind_some, st3, st6]
        exact ⟨_, rfl, rfl⟩
      · subst z
        have g8 : tgi T (527 + 8 * n) 4 8 = some (rd S0 594 n) := tgi_o hnode rfl
        rw [show decide (Int32.ofNat 4 = (0 : Int32)) = false from rfl, show decide (Int32.ofNat 4 = (1 : Int32)) = false from rfl, show decide (Int32.ofNat 4 = (2 : Int32)) = false from rfl, show decide (Int32.ofNat 4 = (3 : Int32)) = false from rfl, show decide (Int32.ofNat 4 = (4 : Int32)) = true from rfl]
        simp only [cond_false, cond_true, g8, ag7, Option.bind_some]
        exact ⟨_, rfl, rfl⟩
      · subst z
        have g8 : tgi T (527 + 8 * n) 4 9 = some (rd S0 595 n) := tgi_o hnode rfl
        rw [show decide (Int32.ofNat 5 = (0 : Int32)) = false from rfl, show decide (Int32.ofNat 5 = (1 : Int32)) = false from rfl, show decide (Int32.ofNat 5 = (2 : Int32)) = false from rfl, show decide (Int32.ofNat 5 = (3 : Int32)) = false from rfl, show decide (Int32.ofNat 5 = (4 : Int32)) = false from rfl, show decide (Int32.ofNat 5 = (5 : Int32)) = true from rfl]
        simp only [cond_false, cond_true, g8, ag7, Option.bind_some]
        exact ⟨_, rfl, rfl⟩
      · subst z
        rw [show decide (Int32.ofNat 6 = (0 : Int32)) = false from rfl, show decide (Int32.ofNat 6 = (1 : Int32)) = false from rfl, show decide (Int32.ofNat 6 = (2 : Int32)) = false from rfl, show decide (Int32.ofNat 6 = (3 : Int32)) = false from rfl, show decide (Int32.ofNat 6 = (4 : Int32)) = false from rfl, show decide (Int32.ofNat 6 = (5 : Int32)) = false from rfl, show decide (Int32.ofNat 6 = (6 : Int32)) = true from rfl]
        simp only [cond_false, cond_true, e42, ls, Option.bind_some]
        exact ⟨_, rfl, rfl⟩
      · subst z
        have wt := c_waiting (F := F) hR h1 h2 (Z n).length 0 0 (by omega) F (by have := r7.len h1 h2; omega)
        rw [List.drop_zero, Nat.zero_add, hR.waits h1 h2] at wt
        have wt' : D_c_Node_waiting F (527 + 8 * n) T = some (Int32.ofNat (qNi Q n).length) := wt
        rw [show decide (Int32.ofNat 7 = (0 : Int32)) = false from rfl, show decide (Int32.ofNat 7 = (1 : Int32)) = false from rfl, show decide (Int32.ofNat 7 = (2 : Int32)) = false from rfl, show decide (Int32.ofNat 7 = (3 : Int32)) = false from rfl, show decide (Int32.ofNat 7 = (4 : Int32)) = false from rfl, show decide (Int32.ofNat 7 = (5 : Int32)) = false from rfl, show decide (Int32.ofNat 7 = (6 : Int32)) = false from rfl, show decide (Int32.ofNat 7 = (7 : Int32)) = true from rfl]
        simp only [cond_false, cond_true, tcl_o hnode, wt', Option.bind_some]
        exact ⟨_, rfl, rfl⟩
      · subst z
        have g8 : tgi T (527 + 8 * n) 4 7 = some (rd S0 593 n) := tgi_o hnode rfl
        rw [show decide (Int32.ofNat 8 = (0 : Int32)) = false from rfl, show decide (Int32.ofNat 8 = (1 : Int32)) = false from rfl, show decide (Int32.ofNat 8 = (2 : Int32)) = false from rfl, show decide (Int32.ofNat 8 = (3 : Int32)) = false from rfl, show decide (Int32.ofNat 8 = (4 : Int32)) = false from rfl, show decide (Int32.ofNat 8 = (5 : Int32)) = false from rfl, show decide (Int32.ofNat 8 = (6 : Int32)) = false from rfl, show decide (Int32.ofNat 8 = (7 : Int32)) = false from rfl, show decide (Int32.ofNat 8 = (8 : Int32)) = true from rfl]
        simp only [cond_false, cond_true, g8, ag7, Option.bind_some]
        exact ⟨_, rfl, rfl⟩
      · subst z
        rw [show decide (Int32.ofNat 9 = (0 : Int32)) = false from rfl, show decide (Int32.ofNat 9 = (1 : Int32)) = false from rfl, show decide (Int32.ofNat 9 = (2 : Int32)) = false from rfl, show decide (Int32.ofNat 9 = (3 : Int32)) = false from rfl, show decide (Int32.ofNat 9 = (4 : Int32)) = false from rfl, show decide (Int32.ofNat 9 = (5 : Int32)) = false from rfl, show decide (Int32.ofNat 9 = (6 : Int32)) = false from rfl, show decide (Int32.ofNat 9 = (7 : Int32)) = false from rfl, show decide (Int32.ofNat 9 = (8 : Int32)) = false from rfl, show decide (Int32.ofNat 9 = (9 : Int32)) = true from rfl, show Int32.ofNat 9 - (8 : Int32) = Int32.ofNat 1 from rfl, show (2 : Int32) * Int32.ofNat n + Int32.ofNat 9 - (9 : Int32) = Int32.ofNat (2 * n + 9 - 9) from ix 9 9 (by omega)]
        simp only [cond_false, cond_true, e44, ta3 1 (by decide), sk5, ag14 618 (2 * n + 9 - 9) (by omega), Option.bind_some]
        exact ⟨_, rfl, rfl⟩
      · subst z
        rw [show decide (Int32.ofNat 10 = (0 : Int32)) = false from rfl, show decide (Int32.ofNat 10 = (1 : Int32)) = false from rfl, show decide (Int32.ofNat 10 = (2 : Int32)) = false from rfl, show decide (Int32.ofNat 10 = (3 : Int32)) = false from rfl, show decide (Int32.ofNat 10 = (4 : Int32)) = false from rfl, show decide (Int32.ofNat 10 = (5 : Int32)) = false from rfl, show decide (Int32.ofNat 10 = (6 : Int32)) = false from rfl, show decide (Int32.ofNat 10 = (7 : Int32)) = false from rfl, show decide (Int32.ofNat 10 = (8 : Int32)) = false from rfl, show decide (Int32.ofNat 10 = (9 : Int32)) = false from rfl, show decide (Int32.ofNat 10 = (10 : Int32)) = true from rfl, show Int32.ofNat 10 - (8 : Int32) = Int32.ofNat 2 from rfl, show (2 : Int32) * Int32.ofNat n + Int32.ofNat 10 - (9 : Int32) = Int32.ofNat (2 * n + 10 - 9) from ix 10 9 (by omega)]
        simp only [cond_false, cond_true, e44, ta3 2 (by decide), sk6, ag14 618 (2 * n + 10 - 9) (by omega), Option.bind_some]
        exact ⟨_, rfl, rfl⟩
      · subst z
        obtain ⟨v, hv⟩ := shv 1 (Or.inl rfl)
        have hs := (sh 1 (Or.inl rfl) sk7).trans hv
        rw [show decide (Int32.ofNat 11 = (0 : Int32)) = false from rfl, show decide (Int32.ofNat 11 = (1 : Int32)) = false from rfl, show decide (Int32.ofNat 11 = (2 : Int32)) = false from rfl, show decide (Int32.ofNat 11 = (3 : Int32)) = false from rfl, show decide (Int32.ofNat 11 = (4 : Int32)) = false from rfl, show decide (Int32.ofNat 11 = (5 : Int32)) = false from rfl, show decide (Int32.ofNat 11 = (6 : Int32)) = false from rfl, show decide (Int32.ofNat 11 = (7 : Int32)) = false from rfl, show decide (Int32.ofNat 11 = (8 : Int32)) = false from rfl, show decide (Int32.ofNat 11 = (9 : Int32)) = false from rfl, show decide (Int32.ofNat 11 = (10 : Int32)) = false from rfl, show decide (Int32.ofNat 11 = (11 : Int32)) = true from rfl, show Int32.ofNat 11 - (10 : Int32) = Int32.ofNat 1 from rfl, show (2 : Int32) * Int32.ofNat n + Int32.ofNat 11 - (11 : Int32) = Int32.ofNat (2 * n + 11 - 11) from ix 11 11 (by omega)]
        simp only [cond_false, cond_true, tcl_o hnode, hs, hv, e45, ta4 1 (by decide), sk7, ag14 619 (2 * n + 11 - 11) (by omega), Option.bind_some]
        cases m_c1 .eq v <;> exact ⟨_, rfl, rfl⟩
      · subst z
        obtain ⟨v, hv⟩ := shv 2 (Or.inr rfl)
        have hs := (sh 2 (Or.inr rfl) sk8).trans hv
        rw [show decide (Int32.ofNat 12 = (0 : Int32)) = false from rfl, show decide (Int32.ofNat 12 = (1 : Int32)) = false from rfl, show decide (Int32.ofNat 12 = (2 : Int32)) = false from rfl, show decide (Int32.ofNat 12 = (3 : Int32)) = false from rfl, show decide (Int32.ofNat 12 = (4 : Int32)) = false from rfl, show decide (Int32.ofNat 12 = (5 : Int32)) = false from rfl, show decide (Int32.ofNat 12 = (6 : Int32)) = false from rfl, show decide (Int32.ofNat 12 = (7 : Int32)) = false from rfl, show decide (Int32.ofNat 12 = (8 : Int32)) = false from rfl, show decide (Int32.ofNat 12 = (9 : Int32)) = false from rfl, show decide (Int32.ofNat 12 = (10 : Int32)) = false from rfl, show decide (Int32.ofNat 12 = (11 : Int32)) = false from rfl, show decide (Int32.ofNat 12 = (12 : Int32)) = true from rfl, show Int32.ofNat 12 - (10 : Int32) = Int32.ofNat 2 from rfl, show (2 : Int32) * Int32.ofNat n + Int32.ofNat 12 - (11 : Int32) = Int32.ofNat (2 * n + 12 - 11) from ix 12 11 (by omega)]
        simp only [cond_false, cond_true, tcl_o hnode, hs, hv, e45, ta4 2 (by decide), sk8, ag14 619 (2 * n + 12 - 11) (by omega), Option.bind_some]
        cases m_c1 .eq v <;> exact ⟨_, rfl, rfl⟩
    have dflt : (∀ k, k ≤ 12 → ¬ y = Int32.ofNat k) → nodeSw F (Int32.ofNat n) y (Int32.ofNat ((X n).length + (Y n).length)) (Int32.ofNat (Y n).length) (Int32.ofNat (Z n).length) (Int32.ofNat (qNi Q n).length) S0 = some (-1, S0) := fun w => by
      have d : ∀ k : Nat, k ≤ 12 → decide (y = Int32.ofNat k) = false := fun k hk => decide_eq_false (w k hk)
      unfold nodeSw
      rw [show decide (y = (0 : Int32)) = false from d 0 (by decide), show decide (y = (1 : Int32)) = false from d 1 (by decide), show decide (y = (2 : Int32)) = false from d 2 (by decide), show decide (y = (3 : Int32)) = false from d 3 (by decide), show decide (y = (4 : Int32)) = false from d 4 (by decide), show decide (y = (5 : Int32)) = false from d 5 (by decide), show decide (y = (6 : Int32)) = false from d 6 (by decide), show decide (y = (7 : Int32)) = false from d 7 (by decide), show decide (y = (8 : Int32)) = false from d 8 (by decide), show decide (y = (9 : Int32)) = false from d 9 (by decide), show decide (y = (10 : Int32)) = false from d 10 (by decide), show decide (y = (11 : Int32)) = false from d 11 (by decide), show decide (y = (12 : Int32)) = false from d 12 (by decide)]
      rfl
    simp only [Hr3 hH, Option.bind_some, g5, Hg14 hH, tcl_o hnode]
    rcases i_cases y with hy | ⟨k, hk, rfl⟩
    · rw [c1_neg hy, cond_true]
      exact ⟨-1, rfl, dflt (fun k hk e => by rw [e] at hy; exact m_n_neg (by omega) hy), h0⟩
    · rw [show m_c1 .lt (Int32.ofNat k) = false from m_c1_ltf hk, cond_false, show m_c2 .le (Int32.ofNat k) (12 : Int32) = decide (k ≤ 12) from le_n hk (by decide)]
      by_cases w : k ≤ 12
      · obtain ⟨v, v1, v2⟩ := tell k w
        rw [decide_eq_true w, cond_true, v1]
        exact ⟨v, rfl, v2, h0⟩
      · rw [decide_eq_false w, cond_false]
        exact ⟨-1, rfl, dflt (fun q hq e => w (by
          have := congrArg Int32.toNatClampNeg e
          rw [m_n_cl hk, m_n_cl (by omega)] at this
          omega)), h0⟩
  · rw [i1, i2]
    exact ⟨-1, rfl, rfl, h0⟩
end
