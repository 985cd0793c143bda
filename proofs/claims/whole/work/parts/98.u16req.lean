/-! A name comes once. -/
section
variable {S S' : mS} {t : Nat → Nat} {L s e j n : Nat} {cs : List Nat}
theorem isW_all (h : isW t s e cs = true) : e - s = cs.length ∧ ∀ k, k < cs.length → t (s + k) = cs.getD k 0 := by
  unfold isW at h
  rw [Bool.and_eq_true, decide_eq_true_eq] at h
  exact ⟨h.1, fun k hk => mt_all _ _ h.2 k (Nat.zero_le _) (by omega)⟩
/-- one of the first n names is this one -/
def Seen (t : Nat → Nat) (L : Nat) (S : mS) (n : Nat) (cs : List Nat) : Prop := ∃ j a b, j < n ∧ a < 400 ∧ b < 400 ∧ rd S 587 j = Int32.ofNat a ∧ rd S 588 j = Int32.ofNat b ∧ isW t a b cs = true
theorem nat_inj {a b : Nat} (ha : a < 400) (hb : b < 400) (h : Int32.ofNat a = Int32.ofNat b) : a = b := by
  have := congrArg Int32.toInt h
  rw [Int32.toInt_ofNat_of_lt (by omega), Int32.toInt_ofNat_of_lt (by omega)] at this
  omega
theorem Seen.no (hL : L ≤ 300) (h : Seen t L S n cs) (ho : ∀ j, j < n → Other t L s e S j) (w : isW t s e cs = true) : False := by
  obtain ⟨j, a, b, h1, h2, h3, h4, h5, h6⟩ := h
  obtain ⟨a', b', ⟨q1', q2', _, _⟩, q3', q4', q5'⟩ := ho j h1
  have ea : a' = a := nat_inj (by omega) h2 (q3'.symm.trans h4)
  have eb : b' = b := nat_inj (by omega) h3 (q4'.symm.trans h5)
  subst ea
  subst eb
  obtain ⟨x1, x2⟩ := isW_all h6
  obtain ⟨y1, y2⟩ := isW_all w
  exact q5' ⟨by omega, fun k hk => (x2 k (by omega)).trans (y2 k (by omega)).symm⟩
end
