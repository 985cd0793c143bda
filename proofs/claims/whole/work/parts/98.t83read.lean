/-! Reading: one character, a number. -/
/-- the reader and what the reference keeps, at a place -/
def Rr (T : tT) (S : mS) (L p : Nat) (g : Nat → Int32) (a b d : Option Nat) (f1 : Nat → Value) : Prop := T.1 513 = some (cRd (Int32.ofNat L) g a b d) ∧ T.1 514 = some (.inr (.inl (2, 300, f1))) ∧ L ≤ 300 ∧ S.1 2 = Int32.ofNat L ∧ (∀ i, i < L → m_toI (f1 i) = rd S 584 i ∧ ∃ k, k < 127 ∧ rd S 584 i = Int32.ofNat k) ∧ p ≤ L ∧ g 2 = Int32.ofNat p ∧ S.1 4 = Int32.ofNat p
/-- the character at a place, if there is one -/
def chAt (S : mS) (L p : Nat) (c : Nat) : Prop := p < L ∧ rd S 584 p = Int32.ofNat c
theorem cret_all : (List.range 127).all (fun k => decide (cret (Int32.ofNat k) = some (Int32.ofNat k))) = true := by decide +kernel
theorem cret_n {k : Nat} (h : k < 127) : cret (Int32.ofNat k) = some (Int32.ofNat k) := of_decide_eq_true (List.all_eq_true.mp cret_all k (List.mem_range.mpr h))
def isDg (c : Nat) : Prop := 48 ≤ c ∧ c ≤ 57
section
variable {T : tT} {S : mS} {L p F : Nat} {g : Nat → Int32} {a b d : Option Nat} {f1 : Nat → Value}
theorem Wg2 (h : T.1 513 = some (cRd (Int32.ofNat L) g a b d)) : tgi T 513 1 2 = some (g 2) := tgi_o h rfl
theorem Wg3 (h : T.1 513 = some (cRd (Int32.ofNat L) g a b d)) : tgi T 513 1 3 = some (g 3) := tgi_o h rfl
theorem Wg5 (h : T.1 513 = some (cRd (Int32.ofNat L) g a b d)) : tgi T 513 1 5 = some (g 5) := tgi_o h rfl
theorem Wg6 (h : T.1 513 = some (cRd (Int32.ofNat L) g a b d)) : tgi T 513 1 6 = some (g 6) := tgi_o h rfl
theorem Wg7 (h : T.1 513 = some (cRd (Int32.ofNat L) g a b d)) : tgi T 513 1 7 = some (g 7) := tgi_o h rfl
theorem Wg8 (h : T.1 513 = some (cRd (Int32.ofNat L) g a b d)) : tgi T 513 1 8 = some (g 8) := tgi_o h rfl
theorem Wg9 (h : T.1 513 = some (cRd (Int32.ofNat L) g a b d)) : tgi T 513 1 9 = some (g 9) := tgi_o h rfl
theorem Wg10 (h : T.1 513 = some (cRd (Int32.ofNat L) g a b d)) : tgi T 513 1 10 = some (g 10) := tgi_o h rfl
theorem Wg11 (h : T.1 513 = some (cRd (Int32.ofNat L) g a b d)) : tgi T 513 1 11 = some (g 11) := tgi_o h rfl
theorem RgL (h : T.1 513 = some (cRd (Int32.ofNat L) g a b d)) : tgi T 513 1 1 = some (Int32.ofNat L) := tgi_o h rfl
theorem Rr0 (h : T.1 513 = some (cRd (Int32.ofNat L) g a b d)) : tgr T 513 1 0 = some (some 514) := tgr_o (x := some 514) h rfl
theorem Rr4 (h : T.1 513 = some (cRd (Int32.ofNat L) g a b d)) : tgr T 513 1 4 = some (some 515) := tgr_o (x := some 515) h rfl
theorem Rr12 (h : T.1 513 = some (cRd (Int32.ofNat L) g a b d)) : tgr T 513 1 12 = some (some 516) := tgr_o (x := some 516) h rfl
theorem Rr13 (h : T.1 513 = some (cRd (Int32.ofNat L) g a b d)) : tgr T 513 1 13 = some a := tgr_o h rfl
theorem Rr14 (h : T.1 513 = some (cRd (Int32.ofNat L) g a b d)) : tgr T 513 1 14 = some b := tgr_o h rfl
theorem Rr15 (h : T.1 513 = some (cRd (Int32.ofNat L) g a b d)) : tgr T 513 1 15 = some d := tgr_o h rfl
theorem Wp2 {x : Int32} (h : T.1 513 = some (cRd (Int32.ofNat L) g a b d)) : tpi T 513 1 2 x = some (tset T 513 (cRd (Int32.ofNat L) (fup g 2 x) a b d)) := (tp_o h (show 2 < 16 by decide)).trans rfl
theorem Wp3 {x : Int32} (h : T.1 513 = some (cRd (Int32.ofNat L) g a b d)) : tpi T 513 1 3 x = some (tset T 513 (cRd (Int32.ofNat L) (fup g 3 x) a b d)) := (tp_o h (show 3 < 16 by decide)).trans rfl
theorem Wp5 {x : Int32} (h : T.1 513 = some (cRd (Int32.ofNat L) g a b d)) : tpi T 513 1 5 x = some (tset T 513 (cRd (Int32.ofNat L) (fup g 5 x) a b d)) := (tp_o h (show 5 < 16 by decide)).trans rfl
theorem Wp6 {x : Int32} (h : T.1 513 = some (cRd (Int32.ofNat L) g a b d)) : tpi T 513 1 6 x = some (tset T 513 (cRd (Int32.ofNat L) (fup g 6 x) a b d)) := (tp_o h (show 6 < 16 by decide)).trans rfl
theorem Wp7 {x : Int32} (h : T.1 513 = some (cRd (Int32.ofNat L) g a b d)) : tpi T 513 1 7 x = some (tset T 513 (cRd (Int32.ofNat L) (fup g 7 x) a b d)) := (tp_o h (show 7 < 16 by decide)).trans rfl
theorem Wp9 {x : Int32} (h : T.1 513 = some (cRd (Int32.ofNat L) g a b d)) : tpi T 513 1 9 x = some (tset T 513 (cRd (Int32.ofNat L) (fup g 9 x) a b d)) := (tp_o h (show 9 < 16 by decide)).trans rfl
theorem Wp10 {x : Int32} (h : T.1 513 = some (cRd (Int32.ofNat L) g a b d)) : tpi T 513 1 10 x = some (tset T 513 (cRd (Int32.ofNat L) (fup g 10 x) a b d)) := (tp_o h (show 10 < 16 by decide)).trans rfl
theorem Wp11 {x : Int32} (h : T.1 513 = some (cRd (Int32.ofNat L) g a b d)) : tpi T 513 1 11 x = some (tset T 513 (cRd (Int32.ofNat L) (fup g 11 x) a b d)) := (tp_o h (show 11 < 16 by decide)).trans rfl
theorem Rr.there (h : Rr T S L p g a b d f1) : (∃ k, k < 127 ∧ chAt S L p k ∧ D_c_Reader_here F 513 T = some (Int32.ofNat k) ∧ D_m_see F S = some (Int32.ofNat k)) ∨ (p = L ∧ D_c_Reader_here F 513 T = some 0 ∧ D_m_see F S = some (-1)) := by
  obtain ⟨h1, h2, h3, h4, h5, h6, h7, h8⟩ := h
  have e2 : tgi T 513 1 2 = some (Int32.ofNat p) := (Wg2 h1).trans (by rw [h7])
  have al : tal T 514 = some (Int32.ofNat 300) := by simp only [tal, h2]; rfl
  by_cases w : p < L
  · left
    obtain ⟨q1', k, k1, k2'⟩ := h5 p w
    refine ⟨k, k1, ⟨w, k2'⟩, ?_, ?_⟩
    · have ta9 : tai T 514 2 (Int32.ofNat p) = some (Int32.ofNat k) := by unfold tai; rw [ta_o h2 (by omega) (by decide), Option.map_some, q1', k2']
      have cr : cret (Int32.ofNat k) = some (Int32.ofNat k) := cret_n k1
      unfold D_c_Reader_here
      simp only [e2, Option.bind_some, show m_c1 .lt (Int32.ofNat p) = false from m_c1_ltf (by omega), cond_false, RgL h1, ge_n (show p < 2147483648 by omega) (show L < 2147483648 by omega), decide_eq_false (show ¬ L ≤ p by omega), Rr0 h1, al, ge_n (show p < 2147483648 by omega) (show 300 < 2147483648 by decide), decide_eq_false (show ¬ 300 ≤ p by omega), ta9, cr]
    · have a5 : aget 0 300 S 584 (Int32.ofNat p) = some (Int32.ofNat k) := (aget_n (Or.inl rfl) (by omega) (by decide)).trans (by rw [k2'])
      unfold D_m_see
      rw [h8, h4, ge_n (by omega) (by omega), decide_eq_false (by omega), cond_false, a5]
      rfl
  · right
    have : p = L := by omega
    refine ⟨this, ?_, ?_⟩
    · unfold D_c_Reader_here
      simp only [e2, Option.bind_some, show m_c1 .lt (Int32.ofNat p) = false from m_c1_ltf (by omega), cond_false, RgL h1, ge_n (show p < 2147483648 by omega) (show L < 2147483648 by omega), decide_eq_true (show L ≤ p by omega), cond_true]
      rfl
    · unfold D_m_see
      rw [h8, h4, ge_n (by omega) (by omega), decide_eq_true (by omega), cond_true]
      rfl
end
