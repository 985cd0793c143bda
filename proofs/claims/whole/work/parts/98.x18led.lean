/-! The ledger: blocks. -/
section
theorem bits_tr {a b c : Int32} (h1 : a &&& (b ^^^ -1) = 0) (h2 : b &&& (c ^^^ -1) = 0) : a &&& (c ^^^ -1) = 0 := by
  have e1 := and_bits.mpr h1
  have e2 := and_bits.mpr h2
  refine and_bits.mp ?_
  rw [← e1, ← Int32.and_assoc, e2]
theorem bits_and {a b a' b' : Int32} (h1 : a' &&& a = a) (h2 : b' &&& b = b) : (a' &&& b') &&& (a &&& b) = a &&& b := by
  rw [Int32.and_assoc, ← Int32.and_assoc b', Int32.and_comm b' a, Int32.and_assoc a, h2, ← Int32.and_assoc, h1]
theorem or_l {a b : Int32} : (a ||| b) &&& a = a := by
  apply Int32.toBitVec_inj.mp
  apply BitVec.eq_of_getElem_eq
  intro i hi
  simp
  intro h
  exact Or.inl h
theorem or_r {a b : Int32} : (a ||| b) &&& b = b := by rw [Int32.or_comm]; exact or_l
def pMask (k : Nat) : Int32 := ((1 : Int32) <<< (Int32.ofNat k &&& 31)) - 1
def lMask (x : Int32) : Int32 := (-1 : Int32) <<< (x &&& 31)
theorem pMask_all : (List.range 17).all (fun a => (List.range 17).all (fun b => decide (b ≤ a → pMask a &&& pMask b = pMask b))) = true := by decide +kernel
theorem pMask_in {a b : Nat} (ha : a ≤ 16) (h : b ≤ a) : pMask a &&& pMask b = pMask b := by
  have h1 := List.all_eq_true.mp pMask_all a (List.mem_range.mpr (by omega))
  have h2 := List.all_eq_true.mp h1 b (List.mem_range.mpr (by omega))
  exact of_decide_eq_true h2 h
theorem shr5_all : (List.range 256).all (fun z => decide ((Int32.ofNat z + 15) >>> ((4 : Int32) &&& 31) = Int32.ofNat ((z + 15) / 16))) = true := by decide +kernel
theorem vb_eq {z b : Nat} {x : Int32} (hz : z < 256) (hb : b < 16) : v_blocks (Int32.ofNat z) x (Int32.ofNat b) = pMask (min ((z + 15) / 16) (b + 1)) &&& lMask x := by
  have e1 : (Int32.ofNat z + 15) >>> ((4 : Int32) &&& 31) = Int32.ofNat ((z + 15) / 16) := of_decide_eq_true (List.all_eq_true.mp shr5_all z (List.mem_range.mpr hz))
  have e2 : Int32.ofNat b + 1 = Int32.ofNat (b + 1) := m_n_add b 1
  unfold v_blocks
  rw [e1, e2]
  have e3 : (if Int32.ofNat ((z + 15) / 16) < Int32.ofNat (b + 1) then Int32.ofNat ((z + 15) / 16) else Int32.ofNat (b + 1)) = Int32.ofNat (min ((z + 15) / 16) (b + 1)) := by
    by_cases w : (z + 15) / 16 < b + 1
    · rw [if_pos ((i_lt (by unfold sm; omega) (by unfold sm; omega)).mpr w), show min ((z + 15) / 16) (b + 1) = (z + 15) / 16 by omega]
    · rw [if_neg (fun q => w ((i_lt (by unfold sm; omega) (by unfold sm; omega)).mp q)), show min ((z + 15) / 16) (b + 1) = b + 1 by omega]
  rw [e3]
  rfl
theorem kin_to {k : Nat → Int32} {z : Nat} {c : Bool} (hk : kin k) (hc : c = true → ¬ k 1 = 0) (hz : z < 256) (h : v_from k c (Int32.ofNat z) ≤ v_to k c (Int32.ofNat z)) : ∃ t, t < 255 ∧ v_to k c (Int32.ofNat z) = Int32.ofNat t ∧ (c = true → k 1 = 1 → ∀ B, B < 100000 → k 3 = Int32.ofNat B → t ≤ B) := by
  have f0 : (0 : Int32) ≤ v_from k c (Int32.ofNat z) := by
    unfold v_from
    cases c with
    | false => rw [if_neg (by decide)]; decide
    | true =>
      rw [if_pos rfl]
      rcases hk with q | ⟨A, a1, a2, q⟩
      · exact absurd q (hc rfl)
      · by_cases w : k 1 = 1
        · rw [if_pos w, a2]
          exact (i_le (a := 0) (by unfold sm; omega) (by unfold sm; omega)).mpr (Nat.zero_le _)
        · rw [if_neg w]
          split
          · rename_i q2
            exact Int32.le_of_lt q2
          · decide
  have t0 : (0 : Int32) ≤ v_to k c (Int32.ofNat z) := Int32.le_trans f0 h
  have z1 : ∀ w : (0 : Int32) ≤ Int32.ofNat z - 1, Int32.ofNat z - 1 = Int32.ofNat (z - 1) := fun w => by
    by_cases q : z = 0
    · subst q
      exact absurd w (by decide)
    · exact m_n_sub (b := 1) (by omega)
  unfold v_to at t0 ⊢
  by_cases w : (c && decide (k 1 = 1)) = true
  · rw [if_pos w] at t0 ⊢
    have w' : c = true ∧ k 1 = 1 := by
      rw [Bool.and_eq_true] at w
      exact ⟨w.1, of_decide_eq_true w.2⟩
    rcases hk with q | ⟨A, a1, a2, ⟨_, B, b1, b2⟩ | q⟩
    · exact absurd q (hc w'.1)
    · by_cases u : Int32.ofNat z - 1 < k 3
      · rw [if_pos u] at t0 ⊢
        rw [z1 t0] at u ⊢
        refine ⟨z - 1, by omega, rfl, fun _ _ B' l' e' => ?_⟩
        rw [e'] at u
        have := (i_lt (by unfold sm; omega) (by unfold sm; omega)).mp u
        omega
      · rw [if_neg u]
        have zz : ¬ z = 0 := fun q => by
          rw [q, b2] at u
          exact u (by
            have : (0 : Int32) ≤ Int32.ofNat B := (i_le (a := 0) (by unfold sm; omega) (by unfold sm; omega)).mpr (Nat.zero_le _)
            exact Int32.lt_of_lt_of_le (by decide) this)
        have e1 : Int32.ofNat z - 1 = Int32.ofNat (z - 1) := m_n_sub (b := 1) (by omega)
        rw [e1, b2] at u
        have : ¬ z - 1 < B := fun q => u ((i_lt (by unfold sm; omega) (by unfold sm; omega)).mpr q)
        refine ⟨B, by omega, b2, fun _ _ B' l' e' => ?_⟩
        have := ofNat_in (by omega) (by omega) (b2.symm.trans e')
        omega
    · rw [w'.2] at q
      exact absurd q (by decide)
  · rw [if_neg w] at t0 ⊢
    refine ⟨z - 1, by omega, z1 t0, fun q1 q2 => ?_⟩
    exact absurd (show (c && decide (k 1 = 1)) = true by rw [q1, decide_eq_true q2]; rfl) w
theorem need_sub {g k : Nat → Int32} {z : Nat} {tag : Int32} (h : isGk g k) (hz : z < 256) : v_need g (some k) (Int32.ofNat z) tag &&& (v_blocks (Int32.ofNat z) (g 4) (g 5) ^^^ -1) = 0 := by
  obtain ⟨hk, h⟩ := h
  show (if v_from k (v_counts k tag) (Int32.ofNat z) ≤ v_to k (v_counts k tag) (Int32.ofNat z) then v_blocks (Int32.ofNat z) (v_from k (v_counts k tag) (Int32.ofNat z) >>> ((4 : Int32) &&& 31)) (v_to k (v_counts k tag) (Int32.ofNat z) >>> ((4 : Int32) &&& 31)) else 0) &&& (v_blocks (Int32.ofNat z) (g 4) (g 5) ^^^ -1) = 0
  by_cases w : v_from k (v_counts k tag) (Int32.ofNat z) ≤ v_to k (v_counts k tag) (Int32.ofNat z)
  · rw [if_pos w]
    obtain ⟨t, t1, t2, t3⟩ := kin_to hk (fun q => by
      intro q2
      unfold v_counts at q
      rw [decide_eq_true q2] at q
      cases q) hz w
    refine and_bits.mp ?_
    rcases h with ⟨k7, k1, A, B, a1, b1, a2, b2, g4, g5⟩ | ⟨g4, g5⟩
    · have cn : v_counts k tag = true := by
        unfold v_counts
        rw [decide_eq_true k7, decide_eq_false (show ¬ k 1 = 0 by rw [k1]; decide)]
        rfl
      rw [cn] at w t2 t3 ⊢
      have fr : v_from k true (Int32.ofNat z) = Int32.ofNat A := by
        unfold v_from
        rw [if_pos rfl, if_pos k1, a2]
      have tB := t3 rfl k1 B b1 b2
      rw [fr, t2] at w
      have at' : A ≤ t := (i_le (by unfold sm; omega) (by unfold sm; omega)).mp w
      rw [fr, t2, shr4 (show A < 256 by omega), shr4 (show t < 256 by omega), g4, g5, vb_eq hz (show t / 16 < 16 by omega), vb_eq hz (show min B 255 / 16 < 16 by omega), show min A 255 = A by omega]
      have : t / 16 ≤ min B 255 / 16 := Nat.div_le_div_right (by omega)
      exact bits_and (pMask_in (by omega) (by omega)) Int32.and_self
    · rw [t2, shr4 (show t < 256 by omega), g4, g5, vb_eq hz (show t / 16 < 16 by omega), show (15 : Int32) = Int32.ofNat 15 from rfl, vb_eq hz (show 15 < 16 by decide)]
      refine bits_and (pMask_in (by omega) (by omega)) ?_
      show lMask 0 &&& _ = _
      rw [show lMask 0 = -1 from rfl, Int32.neg_one_and]
  · rw [if_neg w, Int32.zero_and]
end
