/-! What an answer's row says. -/
def Av (S : mS) (r : Nat) (g : Nat → Int32) : Prop := r < 300 ∧ rd S 621 r = 0 ∧ few 9 (rd S 620 (23 * r + 7)) ∧ isAns S r g
section
variable {S S' : mS} {F r : Nat} {g : Nat → Int32}
theorem Av.sy (h : Av S r g) (hs : Sy S S') : Av S' r g := by
  obtain ⟨h1, h2, h3, h4⟩ := h
  exact ⟨h1, by rw [hs.2 _ _ (by decide)]; exact h2, by rw [hs.2 _ _ (by decide)]; exact h3, h4.row (fun j _ => hs.2 _ _ (by decide)) h3 (fun j _ => hs.2 _ _ (by decide))⟩
theorem row_i {j : Nat} (hr : r < 300) (hj : j < 9) : aget 0 2700 S 627 ((9 : Int32) * Int32.ofNat r + Int32.ofNat j) = some (rd S 627 (9 * r + j)) := by
  have e : (9 : Int32) * Int32.ofNat r + Int32.ofNat j = Int32.ofNat (9 * r + j) := by
    rw [show (9 : Int32) = Int32.ofNat 9 from rfl, ← Int32.ofNat_mul, m_n_add]
  rw [e]
  exact aget_n (Or.inl rfl) (by omega) (by decide)
theorem row_0 (hr : r < 300) : aget 0 2700 S 627 ((9 : Int32) * Int32.ofNat r) = some (rd S 627 (9 * r)) := by
  rw [show (9 : Int32) = Int32.ofNat 9 from rfl, ← Int32.ofNat_mul]
  exact aget_n (Or.inl rfl) (by omega) (by decide)
theorem Av.g1 (h : Av S r g) : aget 0 2700 S 627 ((9 : Int32) * Int32.ofNat r) = some (g 1) := by rw [row_0 h.1, h.2.2.2.1]
theorem Av.g3 (h : Av S r g) : aget 0 2700 S 627 ((9 : Int32) * Int32.ofNat r + (1 : Int32)) = some (g 3) := by rw [h.2.2.2.2.1]; exact row_i (j := 1) h.1 (by decide)
theorem Av.g6 (h : Av S r g) : aget 0 2700 S 627 ((9 : Int32) * Int32.ofNat r + (2 : Int32)) = some (g 6) := by rw [h.2.2.2.2.2.1]; exact row_i (j := 2) h.1 (by decide)
theorem Av.gz (h : Av S r g) : aget 0 2700 S 627 ((9 : Int32) * Int32.ofNat r + (3 : Int32)) = some (rd S 627 (9 * r + 3)) := row_i (j := 3) h.1 (by decide)
theorem Av.g7 (h : Av S r g) : aget 0 2700 S 627 ((9 : Int32) * Int32.ofNat r + (4 : Int32)) = some (g 7) := by rw [h.2.2.2.2.2.2.1]; exact row_i (j := 4) h.1 (by decide)
theorem Av.g12 (h : Av S r g) : aget 0 2700 S 627 ((9 : Int32) * Int32.ofNat r + (5 : Int32)) = some (g 12) := by rw [h.2.2.2.2.2.2.2.1]; exact row_i (j := 5) h.1 (by decide)
theorem Av.g4 (h : Av S r g) : aget 0 2700 S 627 ((9 : Int32) * Int32.ofNat r + (7 : Int32)) = some (g 4) := by rw [h.2.2.2.2.2.2.2.2.1]; exact row_i (j := 7) h.1 (by decide)
theorem Av.g5 (h : Av S r g) : aget 0 2700 S 627 ((9 : Int32) * Int32.ofNat r + (8 : Int32)) = some (g 5) := by rw [h.2.2.2.2.2.2.2.2.2.1]; exact row_i (j := 8) h.1 (by decide)
theorem Av.tag (h : Av S r g) : D_m_tagSaid F (Int32.ofNat r) S = some (8 * g 3 + g 4) := by
  unfold D_m_tagSaid
  rw [h.g3, Option.bind_some, h.g4]
  rfl
/-- both kinds of answers -/
def Ka (S : mS) (r : Nat) (g : Nat → Int32) (F : Nat) : Prop := (g 3 = 0 ∧ (g 1 = 400 ∨ g 1 = 404 ∨ g 1 = 502 ∨ g 1 = 503 ∨ g 1 = 504) ∧ g 10 = 0 ∧ g 9 = 0) ∨
  (¬ g 3 = 0 ∧ (g 1 = 200 ∨ g 1 = 206 ∨ g 1 = 304 ∨ g 1 = 416) ∧ okG g ∧ rd S 627 (9 * r + 3) = g 8 ∧ g 2 = rd S 620 (23 * r + 2) ∧ flag (g 2) ∧ (g 7 = 0 ∨ g 7 = 1 ∨ g 7 = 2) ∧ g 11 = ((31 * rd S 620 (23 * r) + 17 * rd S 620 (23 * r + 1)) + 5 * g 4) + 13 * g 3 ∧
    (g 1 = 200 → g 9 = 0 ∧ g 10 = g 8) ∧ (¬ g 1 = 200 → ¬ g 1 = 206 → g 10 = 0) ∧ (g 1 = 206 → D_m_firstByte F (Int32.ofNat r) (g 8) (8 * g 3 + g 4) S = some (g 9) ∧ D_m_endByte F (Int32.ofNat r) (g 8) (8 * g 3 + g 4) S = some (g 9 + g 10) ∧ (g 9 + g 10) - g 9 = g 10))
theorem Av.ka (h : Av S r g) : Ka S r g F := by
  obtain ⟨hr, h2, h3, a1, a2, a3, a4, a5, a6, a7, w⟩ := h
  rcases w with ⟨b1, b2, b3, b4, b5, b6, b7, b8, b9⟩ | ⟨k, d, wh, z, b1, b2, b3, b4, b5, b6, b7, b8, b9, b10, b11, b12, b13, b14, b15, b16, b17, b18⟩
  · exact Or.inl ⟨b1, b2, b7, b8⟩
  · right
    obtain ⟨⟨v, v1, v2⟩, d0, d1, d2, d3, d4, d5, d6, d7, ⟨p, p1', p2'⟩⟩ := b4
    obtain ⟨w, w1, w2⟩ := b9
    have tg : 8 * g 3 + g 4 = 8 * d 0 + wh := by rw [b7, b8]
    obtain ⟨c, hc⟩ : ∃ c, c = v_counts k (8 * d 0 + wh) := ⟨_, rfl⟩
    have cF := c_nFrom (tag := 8 * d 0 + wh) b1 b5
    have cE := c_nEnd (tag := 8 * d 0 + wh) b1 b5
    have mF := m_first (F := F) (tag := 8 * d 0 + wh) b1 b5
    have mE := m_end (F := F) (tag := 8 * d 0 + wh) b1 b5
    rw [← hc] at cF cE mF mE b16
    have t1 : 8 * d 0 + wh = Int32.ofNat (8 * v + w) := by
      rw [v2, w2, show (8 : Int32) = Int32.ofNat 8 from rfl, ← Int32.ofNat_mul, m_n_add]
    obtain ⟨A, hA⟩ : ∃ A, A = nFrom c k z := ⟨_, rfl⟩
    obtain ⟨E, hE⟩ : ∃ E, E = nEnd c k z := ⟨_, rfl⟩
    rw [← hA] at cF mF b16
    rw [← hE] at cE mE
    have key : (g 1 = 200 ∨ g 1 = 206 ∨ g 1 = 304 ∨ g 1 = 416) ∧ (g 1 = 200 → g 9 = 0 ∧ g 10 = g 8) ∧ (¬ g 1 = 200 → ¬ g 1 = 206 → g 10 = 0) ∧ (g 1 = 206 → A < E ∧ g 10 = Int32.ofNat (E - A)) ∧ ∃ cn, cn ≤ 256 ∧ g 10 = Int32.ofNat cn ∧ (g 1 = 206 → 1 ≤ cn) := by
      unfold v_status at b15
      unfold v_count at b17
      rw [← hc] at b15 b17
      by_cases w1 : v_match S r k (8 * d 0 + wh) = true
      · rw [if_pos w1] at b15 b17
        rw [b15, b17]
        exact ⟨by decide, fun q => absurd q (by decide), fun _ _ => rfl, fun q => absurd q (by decide), 0, by decide, rfl, fun q => absurd q (by decide)⟩
      · rw [if_neg w1] at b15 b17
        by_cases w2 : c = false
        · rw [if_pos w2] at b15 b17
          have A0 : A = 0 := by rw [hA, w2]; rfl
          rw [b15, b17, b16, A0, b11, b6]
          exact ⟨by decide, fun _ => ⟨rfl, rfl⟩, fun q => absurd rfl q, fun q => absurd q (by decide), z, by omega, rfl, fun q => absurd q (by decide)⟩
        · rw [if_neg w2] at b15 b17
          have c1 : c = true := by cases c with | true => rfl | false => exact absurd rfl w2
          rw [c1] at hA hE
          rw [← hA, ← hE] at b15 b17
          by_cases w3 : A < E
          · rw [if_pos w3] at b15 b17
            rw [b15, b17]
            exact ⟨by decide, fun q => absurd q (by decide), fun _ q => absurd rfl q, fun _ => ⟨w3, rfl⟩, E - A, by omega, rfl, fun _ => by omega⟩
          · rw [if_neg w3] at b15 b17
            rw [b15, b17]
            exact ⟨by decide, fun q => absurd q (by decide), fun _ _ => rfl, fun q => absurd q (by decide), 0, by decide, rfl, fun q => absurd q (by decide)⟩
    obtain ⟨k1', k2', k3', k4', cn, k5', k6', k7'⟩ := key
    refine ⟨by rw [b7]; exact d0, k1', ⟨?_, trivial, ⟨8 * v + w, by omega, by rw [tg, t1]⟩, by rw [b10]; exact ⟨p, p1', p2'⟩, b14, ⟨z, b5, by rw [b11, b6]⟩, A, cn, cF.2, k5', b16, k6', k7'⟩, by rw [b12, b11], by rw [← b3]; exact b1.2.1, by rw [← b3]; exact b2, b13, by rw [b18, b8, b7], k2', k3', fun q => ?_⟩
    · rcases k1' with q | q | q | q
      · exact ⟨200, by decide, q⟩
      · exact ⟨206, by decide, q⟩
      · exact ⟨304, by decide, q⟩
      · exact ⟨416, by decide, q⟩
    · obtain ⟨q1', q2'⟩ := k4' q
      have e9 : g 9 + g 10 = Int32.ofNat E := by rw [b16, q2', m_n_add, show A + (E - A) = E by omega]
      rw [tg, b11, b6, mF, mE, e9, b16, q2']
      exact ⟨rfl, rfl, m_n_sub (by omega)⟩
theorem Av.bytes (h : Av S r g) : D_m_bytesOf F (Int32.ofNat r) S = some (g 10) := by
  unfold D_m_bytesOf
  rw [h.g1, Option.bind_some, h.gz, Option.bind_some]
  rcases h.ka (F := F) with ⟨b1, b2, b3, b4⟩ | ⟨b0, b1, b2, b3, b4, b4', b5, b6, b7, b8, b9⟩
  · have n2 : ¬ g 1 = 200 := fun q => by rcases b2 with w | w | w | w | w <;> rw [w] at q <;> exact absurd q (by decide)
    have n6 : ¬ g 1 = 206 := fun q => by rcases b2 with w | w | w | w | w <;> rw [w] at q <;> exact absurd q (by decide)
    rw [show m_c2 .ne (g 1) (200 : Int32) = true from decide_eq_true n2, cond_true, show m_c2 .ne (g 1) (206 : Int32) = true from decide_eq_true n6, cond_true, b3]
    rfl
  · by_cases n2 : g 1 = 200
    · rw [show m_c2 .ne (g 1) (200 : Int32) = false from decide_eq_false (fun q => q n2), cond_false, b3, (b7 n2).2]
      rfl
    · rw [show m_c2 .ne (g 1) (200 : Int32) = true from decide_eq_true n2, cond_true]
      by_cases n6 : g 1 = 206
      · obtain ⟨q1', q2', q3'⟩ := b9 n6
        rw [show m_c2 .ne (g 1) (206 : Int32) = false from decide_eq_false (fun q => q n6), cond_false, h.tag, Option.bind_some, b3, q2', Option.bind_some, Option.bind_some, q1', Option.bind_some, Option.bind_some, q3']
      · rw [show m_c2 .ne (g 1) (206 : Int32) = true from decide_eq_true n6, cond_true, b8 n2 n6]
        rfl
end
