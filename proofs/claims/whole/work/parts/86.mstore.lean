/-! The reference's stores: sizes, the oldest. -/
theorem bc_few (b : Int32) : ∃ k, k < 64 ∧ F_bc b = Int32.ofNat k := by
  have h : ∀ x : Int32, ∃ k, k < 64 ∧ x &&& (63 : Int32) = Int32.ofNat k := by
    intro x
    refine ⟨(x.toBitVec &&& 63#32).toNat, ?_, ?_⟩
    · have : (x.toBitVec &&& 63#32).toNat ≤ 63 := by
        rw [BitVec.toNat_and]
        exact Nat.and_le_right
      omega
    · apply Int32.toBitVec_inj.mp
      rw [Int32.toBitVec_and, Int32.toBitVec_ofNat']
      apply BitVec.eq_of_toNat_eq
      rw [BitVec.toNat_ofNat, Nat.mod_eq_of_lt (BitVec.isLt _)]
      rfl
  exact h _
def sz (b : Int32) : Nat := 16 + 16 * (F_bc b).toNatClampNeg
theorem sz_eq (b : Int32) : (16 : Int32) + (16 : Int32) * F_bc b = Int32.ofNat (sz b) ∧ 16 ≤ sz b ∧ sz b ≤ 1024 := by
  obtain ⟨k, h1, h2⟩ := bc_few b
  unfold sz
  rw [h2, m_n_cl (by omega), k16]
  exact ⟨m_n_add 16 _, by omega, by omega⟩
theorem sum_filter {f : Nat → Nat} {p : Nat → Bool} : ∀ (l : List Nat), (∀ e ∈ l, p e = false → f e = 0) → ((l.filter p).map f).sum = (l.map f).sum := by
  intro l
  induction l with
  | nil => intro _; rfl
  | cons a l ih =>
    intro h
    have h1 := ih (fun e he => h e (List.mem_cons_of_mem _ he))
    cases hp : p a with
    | true => rw [List.filter_cons_of_pos hp, List.map_cons, List.sum_cons, h1, List.map_cons, List.sum_cons]
    | false => rw [List.filter_cons_of_neg (by simp [hp]), List.map_cons, List.sum_cons, h1, h a List.mem_cons_self hp, Nat.zero_add]
theorem sum_rng {f : Nat → Nat} {lo m : Nat} {L : List Nat} (hn : L.Nodup) (hb : ∀ e ∈ L, lo ≤ e ∧ e < lo + m) (h0 : ∀ e, lo ≤ e → e < lo + m → e ∉ L → f e = 0) : ((List.range' lo m).map f).sum = (L.map f).sum := by
  have hp : (List.range' lo m).filter (fun e => decide (e ∈ L)) |>.Perm L := by
    apply (List.perm_ext_iff_of_nodup (List.Pairwise.filter _ List.nodup_range') hn).mpr
    intro e
    rw [List.mem_filter, List.mem_range'_1]
    constructor
    · intro h
      exact of_decide_eq_true h.2
    · intro h
      exact ⟨hb e h, decide_eq_true h⟩
  rw [← List.Perm.sum_nat (hp.map f)]
  refine (sum_filter _ (fun e he hd => ?_)).symm
  rw [List.mem_range'_1] at he
  exact h0 e he.1 he.2 (of_decide_eq_false hd)
/-- what an entry counts for: all of them, or the kept ones alone -/
def cnt (S : mS) (k : Bool) (e : Nat) : Nat := if rd S 601 e = 0 then 0 else if k = true ∧ rd S 602 e = 0 then 0 else sz (rd S 607 e)
theorem cnt_le {S : mS} {k : Bool} {e : Nat} : cnt S k e ≤ 1024 := by
  unfold cnt
  have := (sz_eq (rd S 607 e)).2.2
  split
  · omega
  · split <;> omega
section
variable {S : mS} {F n : Nat}
theorem m_sizes_loop (hn : n < 7) (k : Bool) : ∀ (m j s : Nat), j + m = 1024 → s ≤ 1024 * j → ∀ f, m < f → D_m_sizes_9 F f (Int32.ofNat n) (b2i k) (Int32.ofNat s) (Int32.ofNat (1024 * n + j)) S = some (Int32.ofNat (s + ((List.range' (1024 * n + j) m).map (cnt S k)).sum)) := by
  intro m
  induction m with
  | zero =>
    intro j s h1 h2 f hf
    obtain ⟨f, rfl⟩ : ∃ f9, f = f9 + 1 := ⟨f - 1, by omega⟩
    rw [D_m_sizes_9, k1024, show Int32.ofNat (1024 * n) + (1024 : Int32) = Int32.ofNat (1024 * n + 1024) from m_n_add _ 1024, ge_n (by omega) (by omega), decide_eq_true (by omega), cond_true]
    rfl
  | succ m ih =>
    intro j s h1 h2 f hf
    obtain ⟨f, rfl⟩ : ∃ f9, f = f9 + 1 := ⟨f - 1, by omega⟩
    rw [D_m_sizes_9, k1024, show Int32.ofNat (1024 * n) + (1024 : Int32) = Int32.ofNat (1024 * n + 1024) from m_n_add _ 1024, ge_n (by omega) (by omega), decide_eq_false (by omega), cond_false, aget_n (Or.inr rfl) (by omega) (by decide), Option.bind_some, aget_n (Or.inr rfl) (by omega) (by decide), m_sizeOf (by omega), q1]
    have hc : (cond (m_c1 .eq (rd S 601 (1024 * n + j))) (some (0 : Int32)) (cond (m_c1 .eq (b2i k)) ((some ((16 : Int32) + 16 * F_bc (rd S 607 (1024 * n + j)))).bind fun v8 => some v8) ((some (rd S 602 (1024 * n + j))).bind fun v10 => cond (m_c1 .eq v10) (some (0 : Int32)) ((some ((16 : Int32) + 16 * F_bc (rd S 607 (1024 * n + j)))).bind fun v13 => some v13)))) = some (Int32.ofNat (cnt S k (1024 * n + j))) := by
      simp only [(sz_eq _).1, Option.bind_some, m_c1, cnt]
      by_cases z1 : rd S 601 (1024 * n + j) = 0
      · simp [z1]
      · cases k with
        | false => simp [z1, b2i]
        | true => by_cases z2 : rd S 602 (1024 * n + j) = 0 <;> simp [z1, z2, b2i]
    rw [hc, Option.bind_some, m_n_add, show 1024 * n + j + 1 = 1024 * n + (j + 1) from rfl, ih (j + 1) (s + cnt S k (1024 * n + j)) (by omega) (by have := @cnt_le S k (1024 * n + j); omega) f (by omega)]
    rw [List.range'_succ, List.map_cons, List.sum_cons, Nat.add_assoc]
    rfl
theorem m_sizes (hF : 1025 ≤ F) (hn : n < 7) (k : Bool) : D_m_sizes F (Int32.ofNat n) (b2i k) S = some (Int32.ofNat ((List.range' (1024 * n) 1024).map (cnt S k)).sum) := by
  unfold D_m_sizes
  have := m_sizes_loop (S := S) (F := F) hn k 1024 0 0 rfl (by omega) F (by omega)
  rw [Nat.zero_add] at this
  rw [k1024]
  exact this
/-- an entry that is there, kept or not -/
def cand (S : mS) (k : Int32) (e : Nat) : Prop := ¬ rd S 601 e = 0 ∧ rd S 602 e = k
def tn (S : mS) (e : Nat) : Nat := (rd S 608 e).toNatClampNeg
def oI (o : Option Nat) : Int32 := match o with
  | none => -1
  | some e => Int32.ofNat e
theorem m_oldest_loop (hn : n < 7) (k : Int32) (ht : ∀ e, e < 7168 → cand S k e → ∃ t, t < 2147483648 ∧ rd S 608 e = Int32.ofNat t) : ∀ (m j : Nat) (o : Option Nat), j + m = 1024 → (∀ c, o = some c → 1024 * n ≤ c ∧ c < 1024 * n + j ∧ cand S k c) → (∀ e, 1024 * n ≤ e → e < 1024 * n + j → cand S k e → ∃ c, o = some c ∧ tn S c ≤ tn S e) → ∀ f, m < f → ∃ o', D_m_oldest_9 F f (Int32.ofNat n) k (oI o) (Int32.ofNat (1024 * n + j)) S = some (oI o') ∧ (∀ c, o' = some c → 1024 * n ≤ c ∧ c < 1024 * n + 1024 ∧ cand S k c) ∧ ∀ e, 1024 * n ≤ e → e < 1024 * n + 1024 → cand S k e → ∃ c, o' = some c ∧ tn S c ≤ tn S e := by
  intro m
  induction m with
  | zero =>
    intro j o h1 h2 h3 f hf
    obtain ⟨f, rfl⟩ : ∃ f9, f = f9 + 1 := ⟨f - 1, by omega⟩
    have hj : j = 1024 := by omega
    subst hj
    rw [D_m_oldest_9, k1024, show Int32.ofNat (1024 * n) + (1024 : Int32) = Int32.ofNat (1024 * n + 1024) from m_n_add _ 1024, ge_n (by omega) (by omega), decide_eq_true (by omega), cond_true]
    exact ⟨o, rfl, h2, h3⟩
  | succ m ih =>
    intro j o h1 h2 h3 f hf
    obtain ⟨f, rfl⟩ : ∃ f9, f = f9 + 1 := ⟨f - 1, by omega⟩
    rw [D_m_oldest_9, k1024, show Int32.ofNat (1024 * n) + (1024 : Int32) = Int32.ofNat (1024 * n + 1024) from m_n_add _ 1024, ge_n (by omega) (by omega), decide_eq_false (by omega), cond_false, aget_n (Or.inr rfl) (by omega) (by decide), Option.bind_some, aget_n (Or.inr rfl) (by omega) (by decide), Option.bind_some, aget_n (Or.inl rfl) (by omega) (by decide), Option.bind_some]
    simp only [D_m_oldest_68, D_m_oldest_65, q1]
    have keep : (cand S k (1024 * n + j) → ∃ c, o = some c ∧ tn S c ≤ tn S (1024 * n + j)) → ∃ o', D_m_oldest_9 F f (Int32.ofNat n) k (oI o) (Int32.ofNat (1024 * n + j + 1)) S = some (oI o') ∧ (∀ c, o' = some c → 1024 * n ≤ c ∧ c < 1024 * n + 1024 ∧ cand S k c) ∧ ∀ e, 1024 * n ≤ e → e < 1024 * n + 1024 → cand S k e → ∃ c, o' = some c ∧ tn S c ≤ tn S e := by
      intro hk
      refine ih (j + 1) o (by omega) (fun c hc => by have := h2 c hc; exact ⟨this.1, by omega, this.2.2⟩) (fun e e1 e2 e3 => ?_) f (by omega)
      by_cases he : e = 1024 * n + j
      · subst he; exact hk e3
      · exact h3 e e1 (by omega) e3
    have take : cand S k (1024 * n + j) → (∀ c, o = some c → tn S (1024 * n + j) ≤ tn S c) → ∃ o', D_m_oldest_9 F f (Int32.ofNat n) k (Int32.ofNat (1024 * n + j)) (Int32.ofNat (1024 * n + j + 1)) S = some (oI o') ∧ (∀ c, o' = some c → 1024 * n ≤ c ∧ c < 1024 * n + 1024 ∧ cand S k c) ∧ ∀ e, 1024 * n ≤ e → e < 1024 * n + 1024 → cand S k e → ∃ c, o' = some c ∧ tn S c ≤ tn S e := by
      intro hk hm
      refine ih (j + 1) (some (1024 * n + j)) (by omega) (fun c hc => by cases hc; exact ⟨by omega, by omega, hk⟩) (fun e e1 e2 e3 => ⟨_, rfl, ?_⟩) f (by omega)
      by_cases he : e = 1024 * n + j
      · subst he; exact Nat.le_refl _
      · obtain ⟨c, hc, hc2⟩ := h3 e e1 (by omega) e3
        exact Nat.le_trans (hm c hc) hc2
    by_cases z1 : rd S 601 (1024 * n + j) = 0
    · rw [show m_c1 .eq (rd S 601 (1024 * n + j)) = true from decide_eq_true z1, cond_true]
      exact keep (fun hk => absurd z1 hk.1)
    · rw [show m_c1 .eq (rd S 601 (1024 * n + j)) = false from decide_eq_false z1, cond_false]
      by_cases z2 : rd S 602 (1024 * n + j) = k
      · rw [show m_c2 .ne (rd S 602 (1024 * n + j)) k = false from decide_eq_false (fun e => e z2), cond_false]
        have hk : cand S k (1024 * n + j) := ⟨z1, z2⟩
        cases o with
        | none =>
          rw [show m_c2 .eq (oI none) ((-1) : Int32) = true from rfl, cond_true]
          exact take hk (fun c hc => by cases hc)
        | some c =>
          obtain ⟨c1, c2, c3⟩ := h2 c rfl
          have c9 : ¬ Int32.ofNat c = (-1 : Int32) := by
            intro e
            have := congrArg Int32.toInt e
            rw [Int32.toInt_ofNat_of_lt (by omega)] at this
            have h9 : (-1 : Int32).toInt = -1 := by decide
            omega
          obtain ⟨t1, t2, t3⟩ := ht _ (by omega) hk
          obtain ⟨u1, u2, u3⟩ := ht c (by omega) c3
          have tt : tn S (1024 * n + j) = t1 := by unfold tn; rw [t3]; exact m_n_cl t2
          have tu : tn S c = u1 := by unfold tn; rw [u3]; exact m_n_cl u2
          rw [show m_c2 .eq (oI (some c)) ((-1) : Int32) = false from decide_eq_false c9, cond_false]
          show ∃ o', ((aget 0 7168 S 608 (Int32.ofNat c)).bind fun v20 => cond (m_c2 .ge (rd S 608 (1024 * n + j)) v20) _ _) = _ ∧ _
          rw [aget_n (Or.inl rfl) (by omega) (by decide), Option.bind_some, t3, u3, ge_n t2 u2]
          by_cases z3 : u1 ≤ t1
          · rw [decide_eq_true z3, cond_true]
            exact keep (fun _ => ⟨c, rfl, by omega⟩)
          · rw [decide_eq_false z3, cond_false]
            exact take hk (fun c' hc' => by cases hc'; omega)
      · rw [show m_c2 .ne (rd S 602 (1024 * n + j)) k = true from decide_eq_true z2, cond_true]
        exact keep (fun hk => absurd hk.2 z2)
theorem m_oldest (hF : 1025 ≤ F) (hn : n < 7) (k : Int32) (ht : ∀ e, e < 7168 → cand S k e → ∃ t, t < 2147483648 ∧ rd S 608 e = Int32.ofNat t) : ∃ o', D_m_oldest F (Int32.ofNat n) k S = some (oI o') ∧ (∀ c, o' = some c → 1024 * n ≤ c ∧ c < 1024 * n + 1024 ∧ cand S k c) ∧ ∀ e, 1024 * n ≤ e → e < 1024 * n + 1024 → cand S k e → ∃ c, o' = some c ∧ tn S c ≤ tn S e := by
  unfold D_m_oldest
  rw [k1024]
  exact m_oldest_loop hn k ht 1024 0 none rfl (fun c hc => by cases hc) (fun e e1 e2 => by omega) F (by omega)
end
