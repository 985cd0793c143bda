/-! A range. -/
section
variable {T T' T1 : tT} {S S' S1 : mS} {t : Nat → Nat} {L p s e F k c m n a aq ac at' : Nat} {g g' : Nat → Int32} {r : Option Nat × Option Nat × Option Nat} {x y : Int32} {w : Option Nat}
theorem cdv_same (f : Fs [4, 9, 10, 11] S S') (h9 : S.1 9 = 0) (h9' : S'.1 9 = 0) : cdv S' = cdv S := by
  funext i
  unfold cdv
  rw [h9, h9', f.1 16 (by decide), f.1 17 (by decide), f.1 12 (by decide), f.1 20 (by decide)]
  simp
theorem cdv_span (f : Fs [4, 9, 10, 11] S S') (h9' : S'.1 9 = 1) : cdv S' = fup (fup (fup (cdv S) 1 1) 2 (S'.1 10)) 3 (S'.1 11) := by
  funext i
  unfold fup cdv
  rw [h9', f.1 16 (by decide), f.1 17 (by decide), f.1 12 (by decide), f.1 20 (by decide)]
  by_cases h3 : i = 3
  · subst h3; rfl
  · by_cases h2 : i = 2
    · subst h2; rfl
    · by_cases h1 : i = 1
      · subst h1; rfl
      · simp [h1, h2, h3]
theorem cdv_open (f : Fs [4, 9, 10, 11] S S') (h9' : S'.1 9 = 2) : cdv S' = fup (fup (fup (cdv S) 1 1) 2 (S'.1 10)) 3 99999 := by
  funext i
  unfold fup cdv
  rw [h9', f.1 16 (by decide), f.1 17 (by decide), f.1 12 (by decide), f.1 20 (by decide)]
  by_cases h3 : i = 3
  · subst h3; rfl
  · by_cases h2 : i = 2
    · subst h2; rfl
    · by_cases h1 : i = 1
      · subst h1; rfl
      · simp [h1, h2, h3]
theorem cdv_tail (f : Fs [4, 9, 10, 11] S S') (h9 : S.1 9 = 0) (h9' : S'.1 9 = 3) : cdv S' = fup (fup (cdv S) 1 2) 2 (S'.1 10) := by
  funext i
  unfold fup cdv
  rw [h9, h9', f.1 16 (by decide), f.1 17 (by decide), f.1 12 (by decide), f.1 20 (by decide)]
  by_cases h3 : i = 3
  · subst h3; rfl
  · by_cases h2 : i = 2
    · subst h2; rfl
    · by_cases h1 : i = 1
      · subst h1; rfl
      · simp [h1, h2, h3]
/-- a range is kept, or not -/
theorem rng_114 {u v : Nat} (h2 : T.1 ac = some (cCond g' at')) (nc' : ¬ ac = 513) (hr : r.2.1 = some ac) (hu : u < 2147483648) (hv : v < 2147483648) : D_c_Reader_readRange_114 F 513 (Int32.ofNat u) (Int32.ofNat v) (kR T L r g) = some (1, if v < u then kR T L r g else kR (tset T ac (cCond (fup (fup (fup g' 1 1) 2 (Int32.ofNat u)) 3 (Int32.ofNat v)) at')) L r g) := by
  unfold D_c_Reader_readRange_114
  rw [gt_n hu hv]
  by_cases w : v < u
  · rw [decide_eq_true w, if_pos w]; rfl
  · rw [decide_eq_false w, if_neg w, cond_false]
    have e1 : tpi (kR T L r g) ac 7 1 1 = some (kR (tset T ac (cCond (fup g' 1 1) at')) L r g) := by rw [Cp1 ((kR_ne nc').trans h2), kR_tset nc']
    have e2 : tpi (kR (tset T ac (cCond (fup g' 1 1) at')) L r g) ac 7 2 (Int32.ofNat u) = some (kR (tset T ac (cCond (fup (fup g' 1 1) 2 (Int32.ofNat u)) at')) L r g) := by rw [Cp2 ((kR_ne nc').trans tset_at), kR_tset nc', tset_tset]
    have e3 : tpi (kR (tset T ac (cCond (fup (fup g' 1 1) 2 (Int32.ofNat u)) at')) L r g) ac 7 3 (Int32.ofNat v) = some (kR (tset T ac (cCond (fup (fup (fup g' 1 1) 2 (Int32.ofNat u)) 3 (Int32.ofNat v)) at')) L r g) := by rw [Cp3 ((kR_ne nc').trans tset_at), kR_tset nc', tset_tset]
    simp only [Kr14, hr, Option.bind_some, e1, e2, e3]
theorem okQ.rng (h : okQ S) (f : Fs [4, 9, 10, 11] S S') (hq : S'.1 9 = 0 ∨ (few 100000 (S'.1 10) ∧ ((S'.1 9 = 1 ∧ few 100000 (S'.1 11)) ∨ S'.1 9 = 2 ∨ S'.1 9 = 3))) : okQ S' := by
  obtain ⟨a1, a2, a3, a4, a5, a6, a7, a8, a9, a10⟩ := h
  have rr : ∀ a k, rd S' a k = rd S a k := fun a k => by unfold rd; rw [f.2]
  unfold okQ
  rw [f.1 16 (by decide), f.1 17 (by decide), f.1 18 (by decide), f.1 19 (by decide), f.1 13 (by decide), f.1 15 (by decide), f.1 14 (by decide), f.1 20 (by decide)]
  simp only [rr]
  exact ⟨a1, a2, a3, a4, a5, a6, a7, a8, hq, a10⟩
end
