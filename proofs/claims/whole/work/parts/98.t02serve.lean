/-! A client is served: the class's reply and the reference's answer. -/
/-- the tags of a client's conditions beside row r -/
def isTags (T : tT) (S : mS) (r s : Nat) (k : Nat → Int32) : Prop := flag (k 4) ∧ ∃ f n, n ≤ 8 ∧ k 6 = Int32.ofNat n ∧ T.1 s = some (.inr (.inl (0, 8, f))) ∧ ∀ i, i < n → m_toI (f i) = rd S 620 (23 * r + 8 + i)
def v_tags (S : mS) (r : Nat) (tag : Int32) (n : Nat) : Bool := (List.range n).any (fun i => decide (rd S 620 (23 * r + 8 + i) = tag))
def v_match (S : mS) (r : Nat) (k : Nat → Int32) (tag : Int32) : Bool := decide (k 4 = 1) || v_tags S r tag (k 6).toNatClampNeg
section
variable {T : tT} {S : mS} {F a s r : Nat} {k : Nat → Int32} {tag : Int32}
theorem v_tags_s {n : Nat} : v_tags S r tag (n + 1) = (v_tags S r tag n || decide (rd S 620 (23 * r + 8 + n) = tag)) := by
  unfold v_tags
  rw [List.range_succ, List.any_append]
  simp
theorem c_match_loop {n : Nat} {f : Nat → Value} (hc : T.1 a = some (cCond k s)) (h4 : flag (k 4)) (hn : n ≤ 8) (h6 : k 6 = Int32.ofNat n) (hs : T.1 s = some (.inr (.inl (0, 8, f)))) (ht : ∀ i, i < n → m_toI (f i) = rd S 620 (23 * r + 8 + i)) : ∀ (m i : Nat), i + m = n → v_tags S r tag i = false → ∀ g, m < g → D_c_Conditions_matches_2 F g a tag (Int32.ofNat i) T = some (b2i (decide (k 4 = 1) || v_tags S r tag n)) := by
  have e4 : bret (k 4) = some (b2i (decide (k 4 = 1))) := by rcases h4 with h | h <;> rw [h] <;> rfl
  have r5 : tgr T a 7 5 = some (some s) := tgr_o (x := some s) hc rfl
  intro m
  induction m with
  | zero =>
    intro i hi hv g hg
    obtain ⟨g, rfl⟩ : ∃ f9, g = f9 + 1 := ⟨g - 1, by omega⟩
    have : i = n := by omega
    subst this
    rw [D_c_Conditions_matches_2, Cg6 hc, Option.bind_some, h6, ge_n (by omega) (by omega), decide_eq_true (by omega), cond_true, Cg4 hc, Option.bind_some, e4, hv, Bool.or_false]
    rfl
  | succ m ih =>
    intro i hi hv g hg
    obtain ⟨g, rfl⟩ : ∃ f9, g = f9 + 1 := ⟨g - 1, by omega⟩
    rw [D_c_Conditions_matches_2, Cg6 hc, Option.bind_some, h6, ge_n (by omega) (by omega), decide_eq_false (by omega), cond_false, r5, Option.bind_some, Option.bind_some]
    have e5 : tai T s 0 (Int32.ofNat i) = some (rd S 620 (23 * r + 8 + i)) := by
      unfold tai
      rw [ta_o hs (by omega) (by decide), Option.map_some, ht i (by omega)]
    rw [e5, Option.bind_some, q1]
    by_cases z : rd S 620 (23 * r + 8 + i) = tag
    · rw [show m_c2 .ne (rd S 620 (23 * r + 8 + i)) tag = false from decide_eq_false (fun w => w z), cond_false]
      have : v_tags S r tag n = true := List.any_eq_true.mpr ⟨i, List.mem_range.mpr (by omega), decide_eq_true z⟩
      rw [this, Bool.or_true]
      rfl
    · rw [show m_c2 .ne (rd S 620 (23 * r + 8 + i)) tag = true from decide_eq_true z, cond_true]
      exact ih (i + 1) (by omega) (by rw [v_tags_s, hv, decide_eq_false z]; rfl) g (by omega)
theorem c_match (hF : 9 ≤ F) (hc : T.1 a = some (cCond k s)) (ht : isTags T S r s k) : D_c_Conditions_matches F a tag T = some (b2i (v_match S r k tag)) := by
  obtain ⟨h4, f, n, hn, h6, hs, ht⟩ := ht
  unfold D_c_Conditions_matches v_match
  rw [show (k 6).toNatClampNeg = n by rw [h6]; exact m_n_cl (by omega)]
  exact c_match_loop (F := F) hc h4 hn h6 hs ht n 0 (by omega) rfl F (by omega)
/-- the status that both find -/
def v_status (S : mS) (r : Nat) (k d : Nat → Int32) (wh : Int32) (z : Nat) : Int32 := if v_match S r k (8 * d 0 + wh) = true then 304 else if v_counts k (8 * d 0 + wh) = false then 200 else if nFrom true k z < nEnd true k z then 206 else 416
theorem m_nowTag {d : Nat → Int32} {wh mk ag bl : Int32} (h : isNow S d wh mk ag bl) : D_m_nowTag F S = some (8 * d 0 + wh) := by
  unfold D_m_nowTag
  rw [show aget 0 9 S 626 (0 : Int32) = some (rd S 626 0) from aget_n (k := 0) (Or.inl rfl) (by decide) (by decide), Option.bind_some, h.1 0 (by decide), h.2.2.2.2]
theorem asks8i (he : r < 300) {i : Nat} (hi : i < 8) : D_m_asks F (Int32.ofNat r) ((8 : Int32) + Int32.ofNat i) S = some (rd S 620 (23 * r + 8 + i)) := by
  unfold D_m_asks
  rw [k23, show (8 : Int32) + Int32.ofNat i = Int32.ofNat (8 + i) from m_n_add 8 i, m_n_add, aget_n (by decide) (by omega) (by decide), ← Nat.add_assoc]
  rfl
theorem m_status_loop {d : Nat → Int32} {wh mk ag bl : Int32} {n z : Nat} (hcl : isCl S r k) (hnow : isNow S d wh mk ag bl) (hz : d 1 = Int32.ofNat z) (hz2 : z < 256) (hn : n ≤ 8) (h6 : k 6 = Int32.ofNat n) : ∀ (m i : Nat) (b : Bool), i + m = n → b = (decide (k 4 = 1) || v_tags S r (8 * d 0 + wh) i) → ∀ f, m < f → D_m_statusOf_19 F f (Int32.ofNat r) (b2i b) (Int32.ofNat i) S = some (v_status S r k d wh z) := by
  have hr := hcl.1
  have h7 : rd S 620 (23 * r + 7) = Int32.ofNat n := by rw [← hcl.2.2.2.1]; exact h6
  have hN := m_nowTag (F := F) hnow
  have hm := m_cnt (tag := 8 * d 0 + wh) hcl
  have hb := m_first (F := F) (tag := 8 * d 0 + wh) hcl hz2
  have he := m_end (F := F) (tag := 8 * d 0 + wh) hcl hz2
  have c1 := c_nFrom (tag := 8 * d 0 + wh) hcl hz2
  have c2 := c_nEnd (tag := 8 * d 0 + wh) hcl hz2
  have h626 : aget 0 9 S 626 (1 : Int32) = some (Int32.ofNat z) := by
    rw [show aget 0 9 S 626 (1 : Int32) = some (rd S 626 1) from aget_n (k := 1) (Or.inl rfl) (by decide) (by decide), hnow.1 1 (by decide), hz]
  intro m
  induction m with
  | zero =>
    intro i b hi hb2 f hf
    obtain ⟨f, rfl⟩ : ∃ f9, f = f9 + 1 := ⟨f - 1, by omega⟩
    have : i = n := by omega
    subst this
    have hv : v_match S r k (8 * d 0 + wh) = b := by
      unfold v_match
      rw [show (k 6).toNatClampNeg = i by rw [h6]; exact m_n_cl (by omega), hb2]
    rw [D_m_statusOf_19, asks7 hr, Option.bind_some, h7, ge_n (by omega) (by omega), decide_eq_true (by omega), cond_true]
    unfold v_status
    rw [hv]
    cases b with
    | true => rfl
    | false =>
      rw [show m_c1 .eq (b2i false) = true from rfl, cond_true, hN, Option.bind_some, m_rangeOf hr, hm, Option.bind_some]
      simp only [Bool.false_eq_true, if_false]
      cases hc : v_counts k (8 * d 0 + wh) with
      | false =>
        simp only [Bool.false_eq_true, if_false, if_true]
        rfl
      | true =>
        have h3 : ¬ rd S 620 (23 * r + 3) = 0 := by
          obtain ⟨-, -, -, -, -, ⟨w1, w2⟩ | ⟨A, -, -, -, ⟨B, -, w, -⟩ | ⟨w, -⟩ | ⟨w, -⟩⟩⟩ := hcl
          · simp [v_counts, w2] at hc
          · rw [w]; decide
          · rw [w]; decide
          · rw [w]; decide
        rw [hc] at hb he c1 c2
        simp only [if_true, Bool.true_eq_false, if_false, show m_c1 .ne (rd S 620 (23 * r + 3)) = true from decide_eq_true h3, cond_true, h626, Option.bind_some, hN, D_m_hasBytes, hb, he]
        rw [ge_n (by have := c1.2; omega) (by have := c2.2; omega)]
        by_cases hlt : nFrom true k z < nEnd true k z
        · rw [decide_eq_false (by omega), if_pos hlt]
          rfl
        · rw [decide_eq_true (by omega), if_neg hlt]
          rfl
  | succ m ih =>
    intro i b hi hb2 f hf
    obtain ⟨f, rfl⟩ : ∃ f9, f = f9 + 1 := ⟨f - 1, by omega⟩
    rw [D_m_statusOf_19, asks7 hr, Option.bind_some, h7, ge_n (by omega) (by omega), decide_eq_false (by omega), cond_false, asks8i hr (by omega), hN, q1]
    have hcond : (cond (m_c1 .ne (b2i b)) (some (1 : Int32)) ((some (rd S 620 (23 * r + 8 + i))).bind fun v29 => (some (8 * d 0 + wh)).bind fun v31 => cond (m_c2 .ne v29 v31) (some (0 : Int32)) (some (1 : Int32)))) = some (b2i (b || decide (rd S 620 (23 * r + 8 + i) = 8 * d 0 + wh))) := by
      simp only [Option.bind_some, m_c1, m_c2]
      cases b <;> by_cases z9 : rd S 620 (23 * r + 8 + i) = 8 * d 0 + wh <;> simp [z9, b2i]
    rw [hcond, Option.bind_some]
    exact ih (i + 1) _ (by omega) (by rw [hb2, v_tags_s, Bool.or_assoc]) f (by omega)
theorem m_statusOf {d : Nat → Int32} {wh mk ag bl : Int32} {z : Nat} (hF : 9 ≤ F) (hcl : isCl S r k) (ht : isTags T S r s k) (hnow : isNow S d wh mk ag bl) (hz : d 1 = Int32.ofNat z) (hz2 : z < 256) : D_m_statusOf F (Int32.ofNat r) S = some (v_status S r k d wh z) := by
  obtain ⟨h4, f, n, hn, h6, -⟩ := ht
  have hr := hcl.1
  unfold D_m_statusOf
  rw [asks6 hr, Option.bind_some, ← hcl.2.2.1]
  have : (cond (m_c2 .ne (k 4) (1 : Int32)) (some (0 : Int32)) (some (1 : Int32))) = some (b2i (decide (k 4 = 1))) := by
    rcases h4 with h | h <;> rw [h] <;> rfl
  rw [this, Option.bind_some]
  exact m_status_loop (F := F) hcl hnow hz hz2 hn h6 n 0 (decide (k 4 = 1)) (by omega) (by simp [v_tags]) F (by omega)
end
