/-! The reference writes a text. -/
/-- what is written so far -/
def Wt (S : mS) (cs : List Int32) : Prop := S.1 91 = Int32.ofNat cs.length ∧ ∀ i x, cs[i]? = some x → rd S 629 i = x
def Sy (S S' : mS) : Prop := (∀ i, ¬ i = 91 → S'.1 i = S.1 i) ∧ ∀ a k, ¬ a = 629 → rd S' a k = rd S a k
section
variable {S S' S1 S2 : mS} {F n k t p : Nat} {cs ds : List Int32} {v x : Int32}
theorem Sy.refl : Sy S S := ⟨fun _ _ => rfl, fun _ _ _ => rfl⟩
theorem Sy.trans (h : Sy S S1) (h2 : Sy S1 S2) : Sy S S2 := ⟨fun i hi => (h2.1 i hi).trans (h.1 i hi), fun a k ha => (h2.2 a k ha).trans (h.2 a k ha)⟩
theorem say_1 (h : Wt S cs) (hl : cs.length < 700) : ∃ S9, (∀ {β : Type} (K : mS → Option β), ((aput 700 S 629 (S.1 91) v).bind fun S7 => (fput S7 91 ((S7.1 91) + (1 : Int32))).bind K) = K S9) ∧ Wt S9 (cs ++ [v]) ∧ Sy S S9 := by
  obtain ⟨h1, h2⟩ := h
  have e1 : aput 700 S 629 (S.1 91) v = some (up2 S 629 cs.length v) := by rw [h1]; exact aput_n hl (by decide)
  have e2 : (up2 S 629 cs.length v).1 91 = Int32.ofNat cs.length := h1
  have i1 : Int32.ofNat cs.length + 1 = Int32.ofNat (cs.length + 1) := m_n_add _ 1
  refine ⟨up1 (up2 S 629 cs.length v) 91 (Int32.ofNat (cs.length + 1)), fun K => ?_, ⟨?_, fun i x hx => ?_⟩, fun i hi => ?_, fun a k ha => ?_⟩
  · rw [e1, Option.bind_some, e2, i1]
    rfl
  · rw [up1_at, List.length_append]
    rfl
  · rw [rd_up1, rd_up2]
    by_cases w : i = cs.length
    · rw [if_pos ⟨rfl, w⟩]
      rw [w, List.getElem?_append_right (Nat.le_refl _), Nat.sub_self] at hx
      exact Option.some.inj hx
    · rw [if_neg (fun q => w q.2)]
      have lt : i < cs.length := by
        have := (List.getElem?_eq_some_iff.mp hx).1
        rw [List.length_append] at this
        have : i < cs.length + 1 := this
        omega
      rw [List.getElem?_append_left lt] at hx
      exact h2 i x hx
  · rw [up1_no hi, up2_1]
  · rw [rd_up1, rd_up2, if_neg (fun q => ha q.1)]
theorem say_t (h : Wt S cs) (ht : 1 ≤ t ∧ t ≤ m_sN) (hl : cs.length + (m_tx t).length ≤ 700) (hF : 1000 ≤ F) : ∃ S', D_m_say F t S = some S' ∧ Wt S' (cs ++ m_tx t) ∧ Sy S S' := by
  have tl := m_tx_len ht
  have xl : xlen t = some (Int32.ofNat (m_tx t).length) := by unfold xlen; rw [if_pos ht]
  have key : ∀ (j i : Nat) (S : mS), i + j = (m_tx t).length → Wt S (cs ++ (m_tx t).take i) → ∀ fu, j < fu → ∃ S', D_m_say_2 F fu t (Int32.ofNat i) S = some S' ∧ Wt S' (cs ++ m_tx t) ∧ Sy S S' := by
    intro j
    induction j with
    | zero =>
      intro i S hi hW fu hfu
      obtain ⟨fu, rfl⟩ : ∃ y, fu = y + 1 := ⟨fu - 1, by omega⟩
      rw [List.take_of_length_le (by omega)] at hW
      refine ⟨S, ?_, hW, Sy.refl⟩
      unfold D_m_say_2
      rw [xl, Option.bind_some, ge_n (by omega) (by omega), decide_eq_true (by omega)]
      rfl
    | succ j ih =>
      intro i S hi hW fu hfu
      obtain ⟨fu, rfl⟩ : ∃ y, fu = y + 1 := ⟨fu - 1, by omega⟩
      have li : i < (m_tx t).length := by omega
      have xc : xchr t (Int32.ofNat i) = some ((m_tx t).getD i 0) := by
        unfold xchr
        rw [m_n_cl (by omega), if_pos ⟨ht, m_n_neg (by omega), li⟩]
      obtain ⟨S9, a1, a2, a3⟩ := say_1 (v := (m_tx t).getD i 0) hW (by rw [List.length_append, List.length_take]; omega)
      have e1 : cs ++ (m_tx t).take i ++ [(m_tx t).getD i 0] = cs ++ (m_tx t).take (i + 1) := by
        rw [List.append_assoc, List.take_add_one, List.getD_eq_getElem?_getD, List.getElem?_eq_getElem li]
        rfl
      rw [e1] at a2
      have i1 : Int32.ofNat i + Int32.ofInt 1 = Int32.ofNat (i + 1) := m_n_add i 1
      obtain ⟨S', b1, b2, b3⟩ := ih (i + 1) S9 (by omega) a2 fu (by omega)
      refine ⟨S', ?_, b2, a3.trans b3⟩
      conv => lhs; unfold D_m_say_2
      rw [xl, Option.bind_some, ge_n (by omega) (by omega), decide_eq_false (by omega), cond_false, xc, Option.bind_some, a1, i1]
      exact b1
  exact key (m_tx t).length 0 S (by omega) (by rw [List.take_zero, List.append_nil]; exact h) F (by omega)
/-- the digits of the places j - 1 to 0 -/
def dgT (k : Nat) : Nat → List Int32
  | 0 => []
  | j + 1 => Int32.ofNat (48 + k / 10 ^ j % 10) :: dgT k j
theorem dgT_snoc : ∀ (j k : Nat), dgT k (j + 1) = dgT (k / 10) j ++ [Int32.ofNat (48 + k % 10)] := by
  intro j
  induction j with
  | zero =>
    intro k
    show [Int32.ofNat (48 + k / 10 ^ 0 % 10)] = [] ++ [_]
    rw [Nat.pow_zero, Nat.div_one]
    rfl
  | succ j ih =>
    intro k
    show Int32.ofNat (48 + k / 10 ^ (j + 1) % 10) :: dgT k (j + 1) = (Int32.ofNat (48 + k / 10 / 10 ^ j % 10) :: dgT (k / 10) j) ++ _
    rw [ih k, Nat.div_div_eq_div_mul, Nat.pow_succ, Nat.mul_comm (10 ^ j) 10]
    rfl
theorem dgF_T : ∀ (f i k : Nat), i ≤ f → 1 ≤ i → k < 10 ^ i → (i = 1 ∨ 10 ^ (i - 1) ≤ k) → dgF f k = dgT k i := by
  intro f
  induction f with
  | zero => intro i k h1 h2; omega
  | succ f ih =>
    intro i k h1 h2 h3 h4
    unfold dgF
    by_cases w : k < 10
    · rw [if_pos w]
      have i1 : i = 1 := by
        rcases h4 with h4 | h4
        · exact h4
        · by_cases w1 : i = 1
          · exact w1
          · exfalso
            have : 10 ^ 1 ≤ 10 ^ (i - 1) := Nat.pow_le_pow_right (by decide) (by omega)
            omega
      subst i1
      show [Int32.ofNat (48 + k)] = [Int32.ofNat (48 + k / 10 ^ 0 % 10)]
      rw [Nat.pow_zero, Nat.div_one, Nat.mod_eq_of_lt w]
    · rw [if_neg w]
      have i2 : 2 ≤ i := by
        by_cases w1 : i = 1
        · rw [w1] at h3; omega
        · omega
      have e1 : 10 ^ i = 10 * 10 ^ (i - 1) := by rw [← Nat.pow_succ']; congr 1; omega
      have := ih (i - 1) (k / 10) (by omega) (by omega) (by omega) (by
        by_cases w1 : i - 1 = 1
        · exact Or.inl w1
        · right
          have e2 : 10 ^ (i - 1) = 10 * 10 ^ (i - 1 - 1) := by rw [← Nat.pow_succ']; congr 1; omega
          rcases h4 with h4 | h4
          · omega
          · omega)
      rw [this, ← dgT_snoc, show i - 1 + 1 = i by omega]
theorem idv_n {a b : Nat} (ha : a < 2147483648) (hb : b < 2147483648) (h0 : 0 < b) : idv (Int32.ofNat a) (Int32.ofNat b) = some (Int32.ofNat (a / b)) := by
  unfold idv
  rw [if_neg (fun q => by
    have := congrArg Int32.toNatClampNeg q
    rw [m_n_cl hb] at this
    have e0 : Int32.toNatClampNeg 0 = 0 := rfl
    omega), m_n_div ha hb]
theorem say_18 (hk : k < 1000000) : ∀ (j : Nat) (S : mS) (cs : List Int32), j ≤ 6 → Wt S cs → cs.length + j ≤ 700 → ∀ fu, j < fu → ∀ x2, x2 = (if j = 0 then 0 else Int32.ofNat (10 ^ (j - 1))) → ∃ S', D_m_sayNumber_18 F fu (Int32.ofNat k) x2 S = some S' ∧ Wt S' (cs ++ dgT k j) ∧ Sy S S' := by
  intro j
  induction j with
  | zero =>
    intro S cs _ hW _ fu hfu x2 hx
    obtain ⟨fu, rfl⟩ : ∃ y, fu = y + 1 := ⟨fu - 1, by omega⟩
    rw [if_pos rfl] at hx
    subst hx
    refine ⟨S, ?_, by show Wt S (cs ++ []); rw [List.append_nil]; exact hW, Sy.refl⟩
    unfold D_m_sayNumber_18
    rfl
  | succ j ih =>
    intro S cs h6 hW hl fu hfu x2 hx
    obtain ⟨fu, rfl⟩ : ∃ y, fu = y + 1 := ⟨fu - 1, by omega⟩
    rw [if_neg (by omega), Nat.add_sub_cancel] at hx
    subst hx
    have p0 : 0 < 10 ^ j := Nat.pow_pos (by decide)
    have p6 : 10 ^ j ≤ 10 ^ 5 := Nat.pow_le_pow_right (by decide) (by omega)
    obtain ⟨c, hc⟩ : ∃ c, c = 10 ^ j := ⟨_, rfl⟩
    have hd : k / c ≤ k := Nat.div_le_self _ _
    obtain ⟨S9, a1, a2, a3⟩ := say_1 (v := Int32.ofNat (48 + k / c % 10)) hW (by omega)
    obtain ⟨S', b1, b2, b3⟩ := ih S9 (cs ++ [Int32.ofNat (48 + k / c % 10)]) (by omega) a2 (by rw [List.length_append]; show cs.length + 1 + j ≤ 700; omega) fu (by omega) (Int32.ofNat (c / 10)) (by
      by_cases w : j = 0
      · rw [if_pos w, hc, w]; rfl
      · rw [if_neg w, hc]
        congr 1
        have : 10 ^ j = 10 * 10 ^ (j - 1) := by rw [← Nat.pow_succ']; congr 1; omega
        omega)
    refine ⟨S', ?_, ?_, a3.trans b3⟩
    · rw [← hc] at p0 p6 ⊢
      conv => lhs; unfold D_m_sayNumber_18
      have le0 : m_c1 .le (Int32.ofNat c) = false := decide_eq_false (fun q => by
        have := (i_le (b := 0) (show c < 2147483648 by omega) (show 0 < 2147483648 by decide)).mp q
        omega)
      have e1 : (48 : Int32) + (Int32.ofNat (k / c) - Int32.ofNat (k / c) / (10 : Int32) * (10 : Int32)) = Int32.ofNat (48 + k / c % 10) := by
        rw [show (10 : Int32) = Int32.ofNat 10 from rfl, m_n_div (show k / c < 2147483648 by omega) (show 10 < 2147483648 by decide), ← Int32.ofNat_mul, m_n_sub (by omega), show k / c - k / c / 10 * 10 = k / c % 10 by omega]
        exact m_n_add 48 _
      have e2 : Int32.ofNat c / (10 : Int32) = Int32.ofNat (c / 10) := m_n_div (show c < 2147483648 by omega) (show 10 < 2147483648 by decide)
      rw [le0, cond_false, idv_n (by omega) (by omega) p0, Option.bind_some, e1, a1, e2]
      exact b1
    · rw [List.append_assoc, hc] at b2
      exact b2
theorem say_n (h : Wt S cs) (hk : k < 1000000) (hl : cs.length + 6 ≤ 700) (hF : 20 < F) : ∃ S', D_m_sayNumber F (Int32.ofNat k) S = some S' ∧ Wt S' (cs ++ dg (Int32.ofNat k)) ∧ Sy S S' := by
  have dk : dg (Int32.ofNat k) = dgF 10 k := by unfold dg; rw [m_n_cl (by omega)]
  rw [dk]
  have key : ∀ (j i : Nat), i + j = 6 → (i = 0 ∨ 10 ^ i ≤ k) → (j = 0 → False) → ∀ fu, j < fu → ∃ S', D_m_sayNumber_2 F fu (Int32.ofNat k) (Int32.ofNat (10 ^ i)) S = some S' ∧ Wt S' (cs ++ dgF 10 k) ∧ Sy S S' := by
    intro j
    induction j with
    | zero => intro i _ _ h; exact (h rfl).elim
    | succ j ih =>
      intro i hi h2 _ fu hfu
      obtain ⟨fu, rfl⟩ : ∃ y, fu = y + 1 := ⟨fu - 1, by omega⟩
      have p0 : 0 < 10 ^ i := Nat.pow_pos (by decide)
      have p6 : 10 ^ i ≤ 10 ^ 5 := Nat.pow_le_pow_right (by decide) (by omega)
      have hd : k / 10 ^ i ≤ k := Nat.div_le_self _ _
      unfold D_m_sayNumber_2
      rw [idv_n (by omega) (by omega) p0, Option.bind_some, show (9 : Int32) = Int32.ofNat 9 from rfl, le_n (by omega) (by decide)]
      have e1 : 10 ^ (i + 1) = 10 ^ i * 10 := Nat.pow_succ ..
      by_cases w : k / 10 ^ i ≤ 9
      · rw [decide_eq_true w, cond_true]
        have kl : k < 10 ^ (i + 1) := by
          have := Nat.div_lt_iff_lt_mul p0 (x := k) (y := 10)
          rw [e1, Nat.mul_comm]
          exact this.mp (by omega)
        rw [dgF_T 10 (i + 1) k (by omega) (by omega) kl (by
          rcases h2 with h2 | h2
          · left; omega
          · right; rw [Nat.add_sub_cancel]; exact h2)]
        exact say_18 (F := F) hk (i + 1) S cs (by omega) h (by omega) F (by omega) _ (by rw [if_neg (by omega), Nat.add_sub_cancel])
      · rw [decide_eq_false w, cond_false]
        have gk : 10 ^ (i + 1) ≤ k := by
          rw [e1]
          have := (Nat.le_div_iff_mul_le p0 (x := 10) (y := k)).mp (by omega)
          rw [Nat.mul_comm]
          exact this
        have j0 : j = 0 → False := fun z => by
          have : i = 5 := by omega
          rw [this] at gk
          have : 10 ^ (5 + 1) = 1000000 := rfl
          omega
        have e2 : Int32.ofNat (10 ^ i) * (10 : Int32) = Int32.ofNat (10 ^ (i + 1)) := by rw [e1, Int32.ofNat_mul]; rfl
        rw [e2]
        exact ih (i + 1) (by omega) (Or.inr gk) j0 fu (by omega)
  exact key 6 0 (by decide) (Or.inl rfl) (by decide) F (by omega)
end
