/-! Tags that the asker has. -/
section
variable {T T' T1 : tT} {S S' S1 : mS} {t : Nat → Nat} {L p s e F k c m n a aq ac at' : Nat} {g g' : Nat → Int32} {r : Option Nat × Option Nat × Option Nat} {x y : Int32} {w : Option Nat}
theorem cdv6 : fup (cdv S) 6 x = cdv (up1 S 12 x) := by
  funext i
  unfold fup cdv
  simp only [up1_1]
  by_cases h : i = 6
  · subst h; rfl
  · simp [h] <;> rfl
theorem cdv4 : fup (cdv S) 4 x = cdv (up1 S 17 x) := by
  funext i
  unfold fup cdv
  simp only [up1_1]
  by_cases h : i = 4
  · subst h; rfl
  · simp [h] <;> rfl
/-- one tag more -/
theorem add_tag {v i : Nat} (hR : Rqs aq ac at' T S) (hA : Ap aq ac at') (hi : i < 8) (h12 : S.1 12 = Int32.ofNat i) (hv : v ≤ 99999) : ∃ T1, D_c_Conditions_addTag F ac (Int32.ofNat v) (kR T L r g) = some (kR T1 L r g) ∧ Rqs aq ac at' T1 (up1 (up2 S 586 i (Int32.ofNat v)) 12 (Int32.ofNat (i + 1))) ∧ Ft [ac, at'] T T1 ∧ Cs (kR T L r g) (kR T1 L r g) 0 0 := by
  obtain ⟨h1, h2, ⟨n, f, h3, h4, h5, h6⟩, ⟨f3, h7, h8⟩, h9⟩ := hR
  obtain ⟨b1, b2, b3, b4, b5, b6⟩ := hA
  have nc' : ¬ ac = 513 := by omega
  have nt' : ¬ at' = 513 := by omega
  have ni : n = i := by
    rw [h12] at h4
    have := congrArg Int32.toInt h4
    rw [Int32.toInt_ofNat_of_lt (by omega), Int32.toInt_ofNat_of_lt (by omega)] at this
    omega
  subst ni
  have h2' : (kR T L r g).1 ac = some (cCond (cdv S) at') := (kR_ne nc').trans h2
  have h5' : (kR T L r g).1 at' = some (.inr (.inl (0, 8, f))) := (kR_ne nt').trans h5
  have al : tal (kR T L r g) at' = some (Int32.ofNat 8) := by simp only [tal, h5']; rfl
  have c6 : cdv S 6 = Int32.ofNat n := h12
  obtain ⟨T2, hT2⟩ : ∃ z, z = tset T at' (.inr (.inl (0, 8, fun j => if j = n then .int (Int32.ofNat v) else f j))) := ⟨_, rfl⟩
  obtain ⟨S1, hS1⟩ : ∃ z, z = up1 (up2 S 586 n (Int32.ofNat v)) 12 (Int32.ofNat (n + 1)) := ⟨_, rfl⟩
  have tw : tasi (kR T L r g) at' (Int32.ofNat n) (Int32.ofNat v) = some (kR T2 L r g) := by
    unfold tasi
    rw [tas_n h5' hi (by decide), kR_tset nt', hT2]
  have T2c : T2.1 ac = some (cCond (cdv S) at') := by rw [hT2]; exact tset_o h2 b6
  have i1 : Int32.ofNat n + 1 = Int32.ofNat (n + 1) := m_n_add n 1
  have ec : fup (cdv S) 6 (Int32.ofNat (n + 1)) = cdv S1 := by
    rw [hS1, cdv6]
    exact (cdv_st (fun _ _ _ => rfl)).symm
  have tp : tpi (kR T2 L r g) ac 7 6 (Int32.ofNat (n + 1)) = some (kR (tset T2 ac (cCond (cdv S1) at')) L r g) := by rw [Cp6 ((kR_ne nc').trans T2c), kR_tset nc', ec]
  refine ⟨tset T2 ac (cCond (cdv S1) at'), ?_, ?_, ?_, ?_⟩
  · have xr : tgr (kR T L r g) ac 7 5 = some (some at') := tgr_o (x := some at') h2' rfl
    unfold D_c_Conditions_addTag
    simp only [Cg6 h2', c6, xr, Option.bind_some, al, ge_n (show n < 2147483648 by omega) (show 8 < 2147483648 by decide), decide_eq_false (show ¬ 8 ≤ n by omega), cond_false, tw, Cg6 ((kR_ne nc').trans T2c), i1, tp]
  · rw [← hS1]
    have rr : ∀ a k, rd S1 a k = if a = 586 ∧ k = n then Int32.ofNat v else rd S a k := fun a k => by rw [hS1, rd_up1, rd_up2]
    have ii : ∀ j, ¬ j = 12 → S1.1 j = S.1 j := fun j hj => by rw [hS1]; exact up1_no hj
    have r5 : ∀ j, rd S1 585 j = rd S 585 j := fun j => by rw [rr, if_neg (fun q => absurd q.1 (by decide))]
    have okq : okQ S1 := by
      unfold okQ
      rw [ii 16 (by decide), ii 17 (by decide), ii 18 (by decide), ii 19 (by decide), ii 13 (by decide), ii 15 (by decide), ii 14 (by decide), ii 20 (by decide), ii 9 (by decide), ii 10 (by decide), ii 11 (by decide)]
      simp only [r5]
      exact h9
    refine ⟨?_, tset_at, ⟨n + 1, fun j => if j = n then .int (Int32.ofNat v) else f j, by omega, by rw [hS1]; exact up1_at, ?_, fun j hj => ?_⟩, ⟨f3, ?_, fun j hj => ?_⟩, okq⟩
    · rw [qdv_st (S := S) (fun j a b => ii j (by omega)) (r5 4)]
      exact tset_o (by rw [hT2]; exact tset_o h1 b5) b4
    · exact tset_o (by rw [hT2]; exact tset_at) (fun q => b6 q.symm)
    · rw [rr]
      by_cases w : j = n
      · rw [if_pos ⟨rfl, w⟩]
        refine ⟨?_, v, by omega, rfl⟩
        show m_toI (if j = n then _ else _) = _
        rw [if_pos w]
        rfl
      · rw [if_neg (fun q => w q.2)]
        show m_toI (if j = n then _ else _) = _ ∧ _
        rw [if_neg w]
        exact h6 j (by omega)
    · exact tset_o (by rw [hT2]; exact tset_o h7 (by omega)) (by omega)
    · rw [r5]; exact h8 j hj
  · exact (by rw [hT2]; exact Ft.set (by simp) : Ft [ac, at'] T T2).trans (Ft.set (by simp))
  · have q1' : Cs (kR T L r g) (kR T2 L r g) 0 0 := by rw [hT2]; exact up_cs (T1 := T) h5 nt' rfl rfl
    exact (q1'.trans (up_cs (T1 := T) T2c nc' rfl rfl)).mono (by decide) (by decide)
end
