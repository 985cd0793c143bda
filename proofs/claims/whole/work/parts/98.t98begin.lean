/-! The beginning of a text. -/
theorem fs_add {K : List Nat} {S X : mS} {k : Nat} {x : Int32} (h : Fs K S X) (hk : k ∈ K) : Fs K S (up1 X k x) := h.trans (Fs.up1 hk)
abbrev Kb : List Nat := [4, 5, 31, 9, 12, 13, 14, 15, 17, 18, 19, 16, 23, 24, 25, 26, 27, 29, 30, 28, 20]
/-- the reference behind the weights -/
def rtT (F : Nat) (x1 : Int32) (S : mS) : Option (Int32 × mS) := cond (m_c1 .eq x1) (D_m_readText_154 F x1 S) ((D_m_see F S).bind fun v54 => cond (m_c2 .ne v54 (72 : Int32)) (D_m_readText_154 F x1 S) ((D_m_expectWord F 71 S).bind fun q66 => (fpub q66.2 16 (1 : Int32)).bind fun S68 => D_m_readText_172 F x1 S68))
/-- what the reference has before it reads -/
def okB (S : mS) : Prop := S.1 4 = 0 ∧ S.1 5 = 0 ∧ S.1 31 = 0 ∧ S.1 9 = 0 ∧ S.1 12 = 0 ∧ S.1 13 = -1 ∧ S.1 14 = -1 ∧ S.1 15 = -1 ∧ S.1 17 = 0 ∧ S.1 18 = 0 ∧ S.1 19 = 0 ∧ S.1 16 = 0 ∧ S.1 23 = 0 ∧ S.1 24 = 0 ∧ S.1 25 = 0 ∧ S.1 26 = 0 ∧ S.1 27 = 0 ∧ S.1 29 = 0 ∧ S.1 30 = 0 ∧ S.1 28 = 0 ∧ S.1 20 = -1 ∧ ∀ j, j < 5 → rd S 585 j = 0
section
variable {T T' : tT} {S S' : mS} {t : Nat → Nat} {L p s e F k c m n a : Nat} {g g' : Nat → Int32} {r : Option Nat × Option Nat × Option Nat} {K A B : List Nat} {x : Int32}
theorem wts_m : ∀ (n i : Nat) (S : mS), i + n = 5 → (∀ j, j < i → rd S 585 j = 0) → ∀ f, n < f → ∃ S', D_m_readText_107 F f x (Int32.ofNat i) S = rtT F x S' ∧ Fr [] [585] S S' ∧ ∀ j, j < 5 → rd S' 585 j = 0 := by
  intro n
  induction n with
  | zero =>
    intro i S hi hz f hf
    obtain ⟨f, rfl⟩ : ∃ y, f = y + 1 := ⟨f - 1, by omega⟩
    refine ⟨S, ?_, Fr.refl, fun j hj => hz j (by omega)⟩
    conv => lhs; unfold D_m_readText_107
    rw [show (5 : Int32) = Int32.ofNat 5 from rfl, ge_n (by omega) (by decide), decide_eq_true (by omega)]
    rfl
  | succ n ih =>
    intro i S hi hz f hf
    obtain ⟨f, rfl⟩ : ∃ y, f = y + 1 := ⟨f - 1, by omega⟩
    have i1 : Int32.ofNat i + Int32.ofInt 1 = Int32.ofNat (i + 1) := m_n_add i 1
    obtain ⟨S1, hS1⟩ : ∃ z, z = up2 S 585 i 0 := ⟨_, rfl⟩
    have F1 : Fr [] [585] S S1 := by rw [hS1]; exact Fr.up2 (by decide)
    have r1 : ∀ j, rd S1 585 j = if j = i then 0 else rd S 585 j := fun j => by
      rw [hS1, rd_up2]
      by_cases w : j = i
      · rw [if_pos ⟨rfl, w⟩, if_pos w]
      · rw [if_neg (fun q => w q.2), if_neg w]
    obtain ⟨S2, y1, y2, y3⟩ := ih (i + 1) S1 (by omega) (fun j hj => by
      rw [r1]
      by_cases w : j = i
      · rw [if_pos w]
      · rw [if_neg w]; exact hz j (by omega)) f (by omega)
    refine ⟨S2, ?_, F1.trans y2, y3⟩
    conv => lhs; unfold D_m_readText_107
    rw [show (5 : Int32) = Int32.ofNat 5 from rfl, ge_n (by omega) (by decide), decide_eq_false (by omega), cond_false, aput_n (by omega) (by decide), Option.bind_some, ← hS1, i1]
    exact y1
theorem begin_m (hF : 10 < F) : ∃ S', D_m_readText F x S = rtT F x S' ∧ Fr Kb [585] S S' ∧ okB S' := by
  obtain ⟨S1, hS1⟩ : ∃ z, z = up1 (up1 (up1 (up1 (up1 (up1 (up1 (up1 (up1 (up1 (up1 (up1 (up1 (up1 (up1 (up1 (up1 (up1 (up1 (up1 (up1 S 4 0) 5 0) 31 0) 9 0) 12 0) 13 (-1)) 14 (-1)) 15 (-1)) 17 0) 18 0) 19 0) 16 0) 23 0) 24 0) 25 0) 26 0) 27 0) 29 0) 30 0) 28 0) 20 (-1) := ⟨_, rfl⟩
  have F1 : Fs Kb S S1 := by
    rw [hS1]
    repeat first | exact Fs.refl | refine fs_add ?_ (by decide)
  obtain ⟨S2, y1, y2, y3⟩ := wts_m (F := F) (x := x) 5 0 S1 rfl (fun j hj => absurd hj (Nat.not_lt_zero j)) F (by omega)
  have e1 : D_m_readText F x S = D_m_readText_107 F F x (Int32.ofNat 0) S1 := by rw [hS1]; rfl
  refine ⟨S2, e1.trans y1, F1.fr.trans (y2.mono (by simp) (fun i hi => hi)), ?_⟩
  have q : ∀ i, S2.1 i = S1.1 i := fun i => y2.1 i (by simp)
  unfold okB
  simp only [q]
  refine ⟨?_, ?_, ?_, ?_, ?_, ?_, ?_, ?_, ?_, ?_, ?_, ?_, ?_, ?_, ?_, ?_, ?_, ?_, ?_, ?_, ?_, y3⟩ <;> (rw [hS1]; rfl)
theorem wts_c : ∀ (n i : Nat) (T : tT) (f3 : Nat → Value), i + n = 4 → T.1 516 = some (.inr (.inl (0, 4, f3))) → (∀ j, j < i → m_toI (f3 j) = 0) → ∀ f, n < f → ∃ f3', D_c_Reader_begin_17 F f 513 (Int32.ofNat i) (kR T L r g) = some (kR (tset T 516 (.inr (.inl (0, 4, f3')))) L r g) ∧ ∀ j, j < 4 → m_toI (f3' j) = 0 := by
  intro n
  induction n with
  | zero =>
    intro i T f3 hi hT hz f hf
    obtain ⟨f, rfl⟩ : ∃ y, f = y + 1 := ⟨f - 1, by omega⟩
    have hT' : (kR T L r g).1 516 = some (.inr (.inl (0, 4, f3))) := (kR_ne (by decide)).trans hT
    have al : tal (kR T L r g) 516 = some (Int32.ofNat 4) := by simp only [tal, hT']; rfl
    refine ⟨f3, ?_, fun j hj => hz j (by omega)⟩
    rw [tset_own hT]
    conv => lhs; unfold D_c_Reader_begin_17
    simp only [Rr12 kR_at, Option.bind_some, al, ge_n (show i < 2147483648 by omega) (show 4 < 2147483648 by decide), decide_eq_true (show 4 ≤ i by omega), cond_true]
  | succ n ih =>
    intro i T f3 hi hT hz f hf
    obtain ⟨f, rfl⟩ : ∃ y, f = y + 1 := ⟨f - 1, by omega⟩
    have hT' : (kR T L r g).1 516 = some (.inr (.inl (0, 4, f3))) := (kR_ne (by decide)).trans hT
    have al : tal (kR T L r g) 516 = some (Int32.ofNat 4) := by simp only [tal, hT']; rfl
    have i1 : Int32.ofNat i + Int32.ofInt 1 = Int32.ofNat (i + 1) := m_n_add i 1
    have tw : tasi (kR T L r g) 516 (Int32.ofNat i) 0 = some (kR (tset T 516 (.inr (.inl (0, 4, fun j => if j = i then .int 0 else f3 j)))) L r g) := by
      unfold tasi
      rw [tas_n hT' (by omega) (by decide), kR_tset (by decide)]
    obtain ⟨f3', y1, y2⟩ := ih (i + 1) (tset T 516 (.inr (.inl (0, 4, fun j => if j = i then .int 0 else f3 j)))) _ (by omega) tset_at (fun j hj => by
      by_cases w : j = i
      · rw [if_pos w]; rfl
      · rw [if_neg w]; exact hz j (by omega)) f (by omega)
    rw [tset_tset] at y1
    refine ⟨f3', ?_, y2⟩
    conv => lhs; unfold D_c_Reader_begin_17
    simp only [Rr12 kR_at, Option.bind_some, al, ge_n (show i < 2147483648 by omega) (show 4 < 2147483648 by decide), decide_eq_false (show ¬ 4 ≤ i by omega), cond_false, tw, i1]
    exact y1
theorem begin_c {f3 : Nat → Value} (hT : T.1 516 = some (.inr (.inl (0, 4, f3)))) (hF : 10 < F) : ∃ f3' g', D_c_Reader_begin F 513 (kR T L r g) = some (kR (tset T 516 (.inr (.inl (0, 4, f3')))) L r g') ∧ (∀ j, j < 4 → m_toI (f3' j) = 0) ∧ g' 2 = 0 ∧ g' 3 = -1 ∧ g' 5 = 0 ∧ Gs [2, 3, 5] g g' := by
  obtain ⟨g1, hg1⟩ : ∃ z, z = fup (fup (fup g 2 0) 3 (-1)) 5 0 := ⟨_, rfl⟩
  obtain ⟨f3', y1, y2⟩ := wts_c (F := F) (L := L) (r := r) (g := g1) 4 0 T f3 rfl hT (fun j hj => absurd hj (Nat.not_lt_zero j)) F (by omega)
  refine ⟨f3', g1, ?_, y2, ?_, ?_, ?_, ?_⟩
  · unfold D_c_Reader_begin
    simp only [Kp2, Kp3, Kp5, Option.bind_some, ← hg1]
    exact y1
  · rw [hg1]; rfl
  · rw [hg1]; rfl
  · rw [hg1]; rfl
  · rw [hg1]; exact ((Gs.fup (by decide)).trans (Gs.fup (by decide))).trans (Gs.fup (by decide))
end
