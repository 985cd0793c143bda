/-! What a request wants, and the blocks that it asks for. -/
abbrev z_head_ : List Nat := [72, 69, 65, 68, 32]
abbrev z_get_ : List Nat := [71, 69, 84, 32]
theorem tx_6 : txs 6 z_head_ := txs_of (by decide +kernel) (by decide)
theorem tx_7 : txs 7 z_get_ := txs_of (by decide +kernel) (by decide)
def hvN (w : Nat → Nat) : Nat → Nat → Nat → Nat
  | 0, x, _ => x
  | n + 1, x, i => hvN w n (if w i ≤ w x then x else i) (i + 1)
theorem hvN_lt {w : Nat → Nat} : ∀ n x i, i + n = 4 → x < 4 → hvN w n x i < 4 := by
  intro n
  induction n with
  | zero => intro x i _ hx; exact hx
  | succ n ih =>
    intro x i hi hx
    refine ih _ _ (by omega) ?_
    split <;> omega
section
variable {T T' : tT} {S S' : mS} {t : Nat → Nat} {L p s e F k c m n a aq ac at' : Nat} {g g' : Nat → Int32} {r : Option Nat × Option Nat × Option Nat} {x : Int32} {w : Nat → Nat}
theorem heavy_c {f3 : Nat → Value} (h : T.1 516 = some (.inr (.inl (0, 4, f3)))) (hw : ∀ j, j < 4 → m_toI (f3 j) = Int32.ofNat (w j) ∧ w j < 100000) : ∀ n x i, i + n = 4 → x < 4 → ∀ f, n < f → D_c_Reader_heaviestLanguage_4 F f 513 (Int32.ofNat x) (Int32.ofNat i) (kR T L r g) = some (Int32.ofNat (hvN w n x i)) := by
  have h' : (kR T L r g).1 516 = some (.inr (.inl (0, 4, f3))) := (kR_ne (by decide)).trans h
  have ta : ∀ j, j < 4 → tai (kR T L r g) 516 0 (Int32.ofNat j) = some (Int32.ofNat (w j)) := fun j hj => by
    unfold tai
    rw [ta_o h' hj (by decide), Option.map_some, (hw j hj).1]
  intro n
  induction n with
  | zero =>
    intro x i hi hx f hf
    obtain ⟨f, rfl⟩ : ∃ y, f = y + 1 := ⟨f - 1, by omega⟩
    unfold D_c_Reader_heaviestLanguage_4
    rw [show (4 : Int32) = Int32.ofNat 4 from rfl, ge_n (by omega) (by decide), decide_eq_true (by omega)]
    rfl
  | succ n ih =>
    intro x i hi hx f hf
    obtain ⟨f, rfl⟩ : ∃ y, f = y + 1 := ⟨f - 1, by omega⟩
    have i1 : Int32.ofNat i + Int32.ofInt 1 = Int32.ofNat (i + 1) := m_n_add i 1
    have bi := (hw i (by omega)).2
    have bx := (hw x hx).2
    unfold D_c_Reader_heaviestLanguage_4
    rw [show (4 : Int32) = Int32.ofNat 4 from rfl, ge_n (by omega) (by decide), decide_eq_false (by omega), cond_false]
    simp only [Rr12 kR_at, Option.bind_some, ta i (by omega), ta x hx, le_n (show w i < 2147483648 by omega) (show w x < 2147483648 by omega), D_c_Reader_heaviestLanguage_26, i1]
    unfold hvN
    by_cases q : w i ≤ w x
    · rw [decide_eq_true q, cond_true, if_pos q]
      exact ih x (i + 1) (by omega) hx f (by omega)
    · rw [decide_eq_false q, cond_false, if_neg q]
      exact ih i (i + 1) (by omega) (by omega) f (by omega)
theorem wanted_m (hw : ∀ j, j < 4 → rd S 585 j = Int32.ofNat (w j) ∧ w j < 100000) : ∀ n x i, i + n = 4 → x < 4 → (x = 0 ∨ 0 < w x) → ∀ f, n < f → D_m_wanted_4 F f (Int32.ofNat x) (Int32.ofNat i) S = some (Int32.ofNat (hvN w n x i + 4 * (if 0 < rd S 585 4 then 1 else 0))) := by
  have ag : ∀ j, j < 5 → aget 0 5 S 585 (Int32.ofNat j) = some (rd S 585 j) := fun j hj => aget_n (Or.inl rfl) hj (by decide)
  intro n
  induction n with
  | zero =>
    intro x i hi hx hp f hf
    obtain ⟨f, rfl⟩ : ∃ y, f = y + 1 := ⟨f - 1, by omega⟩
    have bx := (hw x hx).2
    unfold D_m_wanted_4
    rw [show (4 : Int32) = Int32.ofNat 4 from rfl, ge_n (by omega) (by decide), decide_eq_true (by omega), cond_true, ag x (by omega), Option.bind_some, ag 4 (by decide), (hw x hx).1]
    have e1 : (cond (m_c1 .le (Int32.ofNat (w x))) (some (0 : Int32)) (some (Int32.ofNat x))) = some (Int32.ofNat x) := by
      by_cases z : w x = 0
      · rcases hp with q | q
        · subst q; cases m_c1 .le (Int32.ofNat (w 0)) <;> rfl
        · omega
      · have : m_c1 .le (Int32.ofNat (w x)) = false := decide_eq_false (fun q => z (by
          have := (i_le (b := 0) (show w x < 2147483648 by omega) (show 0 < 2147483648 by decide)).mp q
          omega))
        rw [this]; rfl
    have e2 : (cond (m_c1 .le (rd S 585 4)) (some (0 : Int32)) (some (Int32.ofNat 4))) = some (Int32.ofNat (4 * (if 0 < rd S 585 4 then 1 else 0))) := by
      by_cases z : 0 < rd S 585 4
      · have : m_c1 .le (rd S 585 4) = false := decide_eq_false (Int32.not_le.mpr z)
        rw [this, if_pos z]; rfl
      · have : m_c1 .le (rd S 585 4) = true := decide_eq_true (Int32.not_lt.mp z)
        rw [this, if_neg z]; rfl
    rw [e1, Option.bind_some, Option.bind_some, e2, Option.bind_some]
    exact congrArg some (m_n_add _ _)
  | succ n ih =>
    intro x i hi hx hp f hf
    obtain ⟨f, rfl⟩ : ∃ y, f = y + 1 := ⟨f - 1, by omega⟩
    have i1 : Int32.ofNat i + Int32.ofInt 1 = Int32.ofNat (i + 1) := m_n_add i 1
    have bi := (hw i (by omega)).2
    have bx := (hw x hx).2
    unfold D_m_wanted_4
    rw [show (4 : Int32) = Int32.ofNat 4 from rfl, ge_n (by omega) (by decide), decide_eq_false (by omega), cond_false, ag i (by omega), Option.bind_some, ag x (by omega), Option.bind_some, (hw i (by omega)).1, (hw x hx).1, le_n (by omega) (by omega), i1]
    unfold hvN
    by_cases q : w i ≤ w x
    · rw [decide_eq_true q, cond_true, if_pos q, Option.bind_some]
      exact ih x (i + 1) (by omega) hx hp f (by omega)
    · rw [decide_eq_false q, cond_false, if_neg q, Option.bind_some]
      exact ih i (i + 1) (by omega) (by omega) (Or.inr (by omega)) f (by omega)
/-- the language and the form that are wanted -/
theorem wanted_both {f3 : Nat → Value} (h : T.1 516 = some (.inr (.inl (0, 4, f3)))) (hj : ∀ j, j < 4 → m_toI (f3 j) = rd S 585 j) (hq : ∀ j, j < 5 → few 100000 (rd S 585 j)) (hF : 10 < F) : ∃ la fo, la < 4 ∧ fo < 2 ∧ fo = (if 0 < rd S 585 4 then 1 else 0) ∧ (∀ g, D_c_Reader_heaviestLanguage F 513 (kR T L r g) = some (Int32.ofNat la)) ∧ ∀ S', (∀ j, rd S' 585 j = rd S 585 j) → D_m_wanted F S' = some (Int32.ofNat (la + 4 * fo)) := by
  have ex : ∀ j, ∃ k, j < 4 → k < 100000 ∧ rd S 585 j = Int32.ofNat k := fun j => by
    by_cases z : j < 4
    · obtain ⟨k, k1', k2'⟩ := hq j (by omega)
      exact ⟨k, fun _ => ⟨k1', k2'⟩⟩
    · exact ⟨0, fun q => absurd q z⟩
  obtain ⟨w, hw⟩ : ∃ w : Nat → Nat, ∀ j, j < 4 → w j < 100000 ∧ rd S 585 j = Int32.ofNat (w j) := ⟨fun j => (ex j).choose, fun j hj => (ex j).choose_spec hj⟩
  refine ⟨hvN w 3 0 1, if 0 < rd S 585 4 then 1 else 0, hvN_lt 3 0 1 (by decide) (by decide), by split <;> decide, rfl, fun g => ?_, fun S' hS => ?_⟩
  · exact heavy_c h (fun j hj' => ⟨(hj j hj').trans (hw j hj').2, (hw j hj').1⟩) 3 0 1 (by decide) (by decide) F (by omega)
  · have := wanted_m (F := F) (S := S') (w := w) (fun j hj' => ⟨(hS j).trans (hw j hj').2, (hw j hj').1⟩) 3 0 1 (by decide) (by decide) (Or.inl rfl) F (by omega)
    rw [hS 4] at this
    exact this
/-- the blocks that a request asks for, once its conditions are known -/
def qch (g k : Nat → Int32) : Nat → Int32 := if k 1 = 1 ∧ k 7 = -1 then fup (fup g 4 ((if (255 : Int32) < k 2 then (255 : Int32) else k 2) >>> ((4 : Int32) &&& 31))) 5 ((if (255 : Int32) < k 3 then (255 : Int32) else k 3) >>> ((4 : Int32) &&& 31)) else g
theorem c_choose {ca s : Nat} {rr bb : Option Nat} {k : Nat → Int32} (h : T.1 a = some (cReq g (some ca) rr bb)) (hc : T.1 ca = some (cCond k s)) : D_c_Request_chooseBlocks F a T = some (tset T a (cReq (qch g k) (some ca) rr bb)) := by
  have ne : ¬ ca = a := fun q => by rw [q, h] at hc; cases hc
  have h4 : ∀ x, (tset T a (cReq (fup g 4 x) (some ca) rr bb)).1 a = some (cReq (fup g 4 x) (some ca) rr bb) := fun x => tset_at
  have c4 : ∀ x, (tset T a (cReq (fup g 4 x) (some ca) rr bb)).1 ca = some (cCond k s) := fun x => tset_o hc ne
  unfold D_c_Request_chooseBlocks qch
  simp only [Qr13 h, Option.bind_some, nc, Cg1 hc, Cg7 hc, Cg2 hc, Qp4 h, Qr13 (h4 _), Cg3 (c4 _), Qp5 (h4 _), tset_tset]
  by_cases q1' : k 1 = 1
  · by_cases q7' : k 7 = -1
    · rw [if_pos (show k 1 = 1 ∧ k 7 = -1 from ⟨q1', q7'⟩), show m_c2 .ne (k 1) (1 : Int32) = false from decide_eq_false (fun q => q q1'), show m_c2 .ne (k 7) ((-1) : Int32) = false from decide_eq_false (fun q => q q7')]
      rfl
    · rw [if_neg (show ¬ (k 1 = 1 ∧ k 7 = -1) from fun q => q7' q.2), show m_c2 .ne (k 1) (1 : Int32) = false from decide_eq_false (fun q => q q1'), show m_c2 .ne (k 7) ((-1) : Int32) = true from decide_eq_true q7', tset_own h]
      rfl
  · rw [if_neg (show ¬ (k 1 = 1 ∧ k 7 = -1) from fun q => q1' q.1), show m_c2 .ne (k 1) (1 : Int32) = true from decide_eq_true q1', tset_own h]
    rfl
theorem mn255 {A : Nat} (h : A < 100000) : (if (255 : Int32) < Int32.ofNat A then (255 : Int32) else Int32.ofNat A) >>> ((4 : Int32) &&& 31) = Int32.ofNat (min A 255 / 16) := by
  have e : ((255 : Int32) < Int32.ofNat A) ↔ 255 < A := i_lt (a := 255) (show 255 < 2147483648 by decide) (show A < 2147483648 by omega)
  by_cases q : 255 < A
  · rw [if_pos (e.mpr q), show min A 255 = 255 by omega]
    exact shr4 (by decide)
  · rw [if_neg (fun z => q (e.mp z)), show min A 255 = A by omega]
    exact shr4 (by omega)
/-- the row of an asked one, as it is laid out -/
def isAk (S S' : mS) (r : Nat) : Prop := rd S' 620 (23 * r + 2) = S.1 16 ∧ rd S' 620 (23 * r + 3) = S.1 9 ∧ rd S' 620 (23 * r + 4) = S.1 10 ∧ rd S' 620 (23 * r + 5) = S.1 11 ∧ rd S' 620 (23 * r + 6) = S.1 17 ∧ rd S' 620 (23 * r + 7) = S.1 12 ∧ rd S' 620 (23 * r + 21) = S.1 20
theorem isAk.cl {r : Nat} (h : isAk S S' r) (hq : okQ S) (hr : r < 300) : isCl S' r (cdv S) := by
  obtain ⟨a1, a2, a3, a4, a5, a6, a7⟩ := h
  obtain ⟨_, _, _, _, _, _, _, _, b9, _⟩ := hq
  refine ⟨hr, a1.symm, a5.symm, a6.symm, a7.symm, ?_⟩
  rw [a2, a3, a4]
  rcases b9 with q | ⟨⟨A, A1, A2⟩, q | q | q⟩
  · left
    exact ⟨q, by unfold cdv; simp only [q]; rfl⟩
  · obtain ⟨q, B, B1, B2⟩ := q
    right
    refine ⟨A, A1, ?_, A2, Or.inl ⟨B, B1, q, ?_, ?_, B2⟩⟩
    · unfold cdv; simp only [q, A2]; rfl
    · unfold cdv; simp only [q]; rfl
    · unfold cdv; simp only [q, B2]; rfl
  · right
    refine ⟨A, A1, ?_, A2, Or.inr (Or.inl ⟨q, ?_, ?_⟩)⟩
    · unfold cdv; simp only [q, A2]; rfl
    · unfold cdv; simp only [q]; rfl
    · unfold cdv; simp only [q]; rfl
  · right
    refine ⟨A, A1, ?_, A2, Or.inr (Or.inr ⟨q, ?_⟩)⟩
    · unfold cdv; simp only [q, A2]; rfl
    · unfold cdv; simp only [q]; rfl
theorem isAk.bl {r : Nat} (h : isAk S S' r) (hq : okQ S) (g4 : g 4 = 0) (g5 : g 5 = 15) : isBl S' r (qch g (cdv S) 4) (qch g (cdv S) 5) ∧ few 16 (qch g (cdv S) 4) ∧ few 16 (qch g (cdv S) 5) := by
  obtain ⟨a1, a2, a3, a4, a5, a6, a7⟩ := h
  obtain ⟨_, _, _, _, _, _, _, _, b9, _⟩ := hq
  have c7 : cdv S 7 = S.1 20 := rfl
  unfold isBl
  rw [a2, a3, a4, a7]
  by_cases q20 : S.1 20 = -1
  · rcases b9 with q | ⟨⟨A, A1, A2⟩, q | q | q⟩
    · have c1 : ¬ cdv S 1 = 1 := by
        have : cdv S 1 = 0 := by unfold cdv; simp only [q]; rfl
        rw [this]; decide
      have e : qch g (cdv S) = g := by unfold qch; rw [if_neg (fun z => c1 z.1)]
      rw [e, if_neg (show ¬ (S.1 20 = -1 ∧ (S.1 9 = 1 ∨ S.1 9 = 2)) from fun z => by rw [q] at z; exact absurd z.2 (by decide)), g4, g5]
      exact ⟨⟨rfl, rfl⟩, ⟨0, by decide, rfl⟩, ⟨15, by decide, rfl⟩⟩
    · obtain ⟨q, B, B1, B2⟩ := q
      have c1 : cdv S 1 = 1 := by unfold cdv; simp only [q]; rfl
      have c2 : cdv S 2 = Int32.ofNat A := by unfold cdv; simp only [q, A2]; rfl
      have c3 : cdv S 3 = Int32.ofNat B := by unfold cdv; simp only [q, B2]; rfl
      have e4 : qch g (cdv S) 4 = Int32.ofNat (min A 255 / 16) := by unfold qch; rw [if_pos ⟨c1, c7.trans q20⟩, fup_ne (by decide), fup_eq, c2]; exact mn255 A1
      have e5 : qch g (cdv S) 5 = Int32.ofNat (min B 255 / 16) := by unfold qch; rw [if_pos ⟨c1, c7.trans q20⟩, fup_eq, c3]; exact mn255 B1
      rw [if_pos (show S.1 20 = -1 ∧ (S.1 9 = 1 ∨ S.1 9 = 2) from ⟨q20, Or.inl q⟩), e4, e5]
      exact ⟨⟨A, A1, A2, rfl, Or.inr ⟨q, B, B1, B2, rfl⟩⟩, ⟨_, by omega, rfl⟩, ⟨_, by omega, rfl⟩⟩
    · have c1 : cdv S 1 = 1 := by unfold cdv; simp only [q]; rfl
      have c2 : cdv S 2 = Int32.ofNat A := by unfold cdv; simp only [q, A2]; rfl
      have c3 : cdv S 3 = Int32.ofNat 99999 := by unfold cdv; simp only [q]; rfl
      have e4 : qch g (cdv S) 4 = Int32.ofNat (min A 255 / 16) := by unfold qch; rw [if_pos ⟨c1, c7.trans q20⟩, fup_ne (by decide), fup_eq, c2]; exact mn255 A1
      have e5 : qch g (cdv S) 5 = Int32.ofNat (min 99999 255 / 16) := by unfold qch; rw [if_pos ⟨c1, c7.trans q20⟩, fup_eq, c3]; exact mn255 (by decide)
      rw [if_pos (show S.1 20 = -1 ∧ (S.1 9 = 1 ∨ S.1 9 = 2) from ⟨q20, Or.inr q⟩), e4, e5]
      exact ⟨⟨A, A1, A2, rfl, Or.inl ⟨q, rfl⟩⟩, ⟨_, by omega, rfl⟩, ⟨15, by decide, rfl⟩⟩
    · have c1 : ¬ cdv S 1 = 1 := by
        have : cdv S 1 = 2 := by unfold cdv; simp only [q]; rfl
        rw [this]; decide
      have e : qch g (cdv S) = g := by unfold qch; rw [if_neg (fun z => c1 z.1)]
      rw [e, if_neg (show ¬ (S.1 20 = -1 ∧ (S.1 9 = 1 ∨ S.1 9 = 2)) from fun z => by rw [q] at z; exact absurd z.2 (by decide)), g4, g5]
      exact ⟨⟨rfl, rfl⟩, ⟨0, by decide, rfl⟩, ⟨15, by decide, rfl⟩⟩
  · have e : qch g (cdv S) = g := by unfold qch; rw [if_neg (fun z => q20 (c7.symm.trans z.2))]
    rw [e, if_neg (show ¬ (S.1 20 = -1 ∧ (S.1 9 = 1 ∨ S.1 9 = 2)) from fun z => q20 z.1), g4, g5]
    exact ⟨⟨rfl, rfl⟩, ⟨0, by decide, rfl⟩, ⟨15, by decide, rfl⟩⟩
end
