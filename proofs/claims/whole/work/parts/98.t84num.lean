/-! Reading on each side alone: a character, a sign that must be there, a number. -/
/-- the character at a place, 0 behind the end -/
def hc (t : Nat → Nat) (L p : Nat) : Nat := if p < L then t p else 0
def sv (t : Nat → Nat) (L p : Nat) : Int32 := if p < L then Int32.ofNat (t p) else -1
def isD (k : Nat) : Bool := decide (48 ≤ k) && decide (k ≤ 57)
def isS (k : Nat) : Bool := (decide (97 ≤ k) && decide (k ≤ 122)) || decide (k = 45)
/-- the tape of the reference, of the class -/
def Tp (t : Nat → Nat) (L : Nat) (S : mS) : Prop := L ≤ 300 ∧ S.1 2 = Int32.ofNat L ∧ (∀ i, i < L → t i < 127 ∧ rd S 584 i = Int32.ofNat (t i))
def Tc (t : Nat → Nat) (L : Nat) (T : tT) : Prop := L ≤ 300 ∧ ∃ f1, T.1 514 = some (.inr (.inl (2, 300, f1))) ∧ ∀ i, i < L → t i < 127 ∧ m_toI (f1 i) = Int32.ofNat (t i)
/-- the reader with what it keeps -/
def kR (T : tT) (L : Nat) (r : Option Nat × Option Nat × Option Nat) (g : Nat → Int32) : tT := tset T 513 (cRd (Int32.ofNat L) g r.1 r.2.1 r.2.2)
/-- ints outside a list stay -/
def Gs (K : List Nat) (g g' : Nat → Int32) : Prop := ∀ i, ¬ i ∈ K → g' i = g i
def Fs (K : List Nat) (S S' : mS) : Prop := Gs K S.1 S'.1 ∧ S'.2 = S.2
theorem Gs.refl {K : List Nat} {g : Nat → Int32} : Gs K g g := fun _ _ => rfl
theorem Gs.trans {K : List Nat} {g g' g'' : Nat → Int32} (h : Gs K g g') (h' : Gs K g' g'') : Gs K g g'' := fun i hi => (h' i hi).trans (h i hi)
theorem Gs.mono {K K' : List Nat} {g g' : Nat → Int32} (h : Gs K g g') (m : ∀ i ∈ K, i ∈ K') : Gs K' g g' := fun i hi => h i (fun q => hi (m i q))
theorem Gs.fup {K : List Nat} {g : Nat → Int32} {k : Nat} {x : Int32} (h : k ∈ K) : Gs K g (fup g k x) := fun i hi => fup_ne (fun q => hi (q ▸ h))
theorem Fs.refl {K : List Nat} {S : mS} : Fs K S S := ⟨Gs.refl, rfl⟩
theorem Fs.trans {K : List Nat} {S S' S'' : mS} (h : Fs K S S') (h' : Fs K S' S'') : Fs K S S'' := ⟨h.1.trans h'.1, h'.2.trans h.2⟩
theorem Fs.mono {K K' : List Nat} {S S' : mS} (h : Fs K S S') (m : ∀ i ∈ K, i ∈ K') : Fs K' S S' := ⟨h.1.mono m, h.2⟩
theorem Fs.up1 {K : List Nat} {S : mS} {k : Nat} {x : Int32} (h : k ∈ K) : Fs K S (up1 S k x) := ⟨fun i hi => by rw [up1_1, if_neg (show ¬ i = k from fun q => hi (q ▸ h))], rfl⟩
theorem up1_at {S : mS} {k : Nat} {x : Int32} : (up1 S k x).1 k = x := by rw [up1_1, if_pos rfl]
theorem up1_no {S : mS} {k i : Nat} {x : Int32} (h : ¬ i = k) : (up1 S k x).1 i = S.1 i := by rw [up1_1, if_neg h]
theorem b_eq0 (b : Bool) : m_c1 .eq (b2i b) = !b := by cases b <;> rfl
theorem b_ne0 (b : Bool) : m_c1 .ne (b2i b) = b := by cases b <;> rfl
theorem m1_all : (List.range 127).all (fun c => decide (¬ (-1 : Int32) = Int32.ofNat c)) = true := by decide +kernel
theorem m1_ne {c : Nat} (h : c < 127) : ¬ (-1 : Int32) = Int32.ofNat c := of_decide_eq_true (List.all_eq_true.mp m1_all c (List.mem_range.mpr h))
section
variable {T : tT} {S S' : mS} {t : Nat → Nat} {L p F k c m : Nat} {g : Nat → Int32} {r : Option Nat × Option Nat × Option Nat} {K : List Nat}
theorem Tp.fs (h : Tp t L S) (f : Fs K S S') (n2 : ¬ 2 ∈ K) : Tp t L S' := ⟨h.1, by rw [f.1 2 n2]; exact h.2.1, fun i hi => by unfold rd; rw [f.2]; exact h.2.2 i hi⟩
theorem Tc.lt (h : Tc t L T) : hc t L p < 127 := by
  unfold hc
  by_cases w : p < L
  · rw [if_pos w]; obtain ⟨_, f, _, q⟩ := h; exact (q p w).1
  · rw [if_neg w]; decide
theorem kR_at : (kR T L r g).1 513 = some (cRd (Int32.ofNat L) g r.1 r.2.1 r.2.2) := tset_at
theorem kR_set {g' : Nat → Int32} : tset (kR T L r g) 513 (cRd (Int32.ofNat L) g' r.1 r.2.1 r.2.2) = kR T L r g' := tset_tset
theorem kR_ne {b : Nat} (h : ¬ b = 513) : (kR T L r g).1 b = T.1 b := tset_ne h
theorem kR_cs {g' : Nat → Int32} : Cs (kR T L r g) (kR T L r g') 0 0 := by
  have := Cs.cell (T := kR T L r g) (a := 513) (d := cRd (Int32.ofNat L) g' r.1 r.2.1 r.2.2) kR_at rfl rfl
  rw [kR_set] at this
  exact this
theorem Kg2 : tgi (kR T L r g) 513 1 2 = some (g 2) := Wg2 kR_at
theorem Kg9 : tgi (kR T L r g) 513 1 9 = some (g 9) := Wg9 kR_at
theorem KgL : tgi (kR T L r g) 513 1 1 = some (Int32.ofNat L) := RgL kR_at
theorem Kcl : tcl (kR T L r g) 513 1 = some () := tcl_o kR_at
theorem Kp2 {x : Int32} : tpi (kR T L r g) 513 1 2 x = some (kR T L r (fup g 2 x)) := (Wp2 kR_at).trans (by rw [kR_set])
theorem Kp3 {x : Int32} : tpi (kR T L r g) 513 1 3 x = some (kR T L r (fup g 3 x)) := (Wp3 kR_at).trans (by rw [kR_set])
theorem Kp9 {x : Int32} : tpi (kR T L r g) 513 1 9 x = some (kR T L r (fup g 9 x)) := (Wp9 kR_at).trans (by rw [kR_set])
theorem here_v (h : Tc t L T) (hg : g 2 = Int32.ofNat p) (hp : p ≤ L) : D_c_Reader_here F 513 (kR T L r g) = some (Int32.ofNat (hc t L p)) := by
  obtain ⟨h3, f1, h2, h5⟩ := h
  have e2 : tgi (kR T L r g) 513 1 2 = some (Int32.ofNat p) := Kg2.trans (by rw [hg])
  have h2' : (kR T L r g).1 514 = some (.inr (.inl (2, 300, f1))) := (kR_ne (by decide)).trans h2
  have al : tal (kR T L r g) 514 = some (Int32.ofNat 300) := by simp only [tal, h2']; rfl
  unfold hc
  by_cases w : p < L
  · obtain ⟨k1', q1'⟩ := h5 p w
    have ta9 : tai (kR T L r g) 514 2 (Int32.ofNat p) = some (Int32.ofNat (t p)) := by unfold tai; rw [ta_o h2' (by omega) (by decide), Option.map_some, q1']
    unfold D_c_Reader_here
    simp only [e2, Option.bind_some, show m_c1 .lt (Int32.ofNat p) = false from m_c1_ltf (by omega), cond_false, KgL, ge_n (show p < 2147483648 by omega) (show L < 2147483648 by omega), decide_eq_false (show ¬ L ≤ p by omega), Rr0 kR_at, al, ge_n (show p < 2147483648 by omega) (show 300 < 2147483648 by decide), decide_eq_false (show ¬ 300 ≤ p by omega), ta9, cret_n k1', if_pos w]
  · unfold D_c_Reader_here
    simp only [e2, Option.bind_some, show m_c1 .lt (Int32.ofNat p) = false from m_c1_ltf (by omega), cond_false, KgL, ge_n (show p < 2147483648 by omega) (show L < 2147483648 by omega), decide_eq_true (show L ≤ p by omega), cond_true, if_neg w]
    rfl
theorem see_v (h : Tp t L S) (hg : S.1 4 = Int32.ofNat p) (hp : p ≤ L) : D_m_see F S = some (sv t L p) := by
  obtain ⟨h1, h2, h3⟩ := h
  unfold sv
  by_cases w : p < L
  · have a5 : aget 0 300 S 584 (Int32.ofNat p) = some (Int32.ofNat (t p)) := (aget_n (Or.inl rfl) (by omega) (by decide)).trans (by rw [(h3 p w).2])
    unfold D_m_see
    rw [hg, h2, ge_n (by omega) (by omega), decide_eq_false (by omega), cond_false, a5, if_pos w]
    rfl
  · unfold D_m_see
    rw [hg, h2, ge_n (by omega) (by omega), decide_eq_true (by omega), cond_true, if_neg w]
    rfl
theorem sv_eq (h : Tp t L S) (c0 : 0 < c) (c1 : c < 127) : m_c2 .eq (sv t L p) (Int32.ofNat c) = decide (hc t L p = c) := by
  unfold sv hc
  by_cases w : p < L
  · rw [if_pos w, if_pos w]; exact eq_n (by have := (h.2.2 p w).1; omega) (by omega)
  · rw [if_neg w, if_neg w, decide_eq_false (show ¬ 0 = c by omega)]; exact decide_eq_false (m1_ne c1)
theorem sv_ne (h : Tp t L S) (c0 : 0 < c) (c1 : c < 127) : m_c2 .ne (sv t L p) (Int32.ofNat c) = decide (¬ hc t L p = c) := by
  unfold sv hc
  by_cases w : p < L
  · rw [if_pos w, if_pos w]; exact ne_n (by have := (h.2.2 p w).1; omega) (by omega)
  · rw [if_neg w, if_neg w, decide_eq_true (show ¬ 0 = c by omega)]; exact decide_eq_true (m1_ne c1)
theorem dg_c (hk : k < 127) : D_c_Reader_isDigit F (Int32.ofNat k) T = some (b2i (isD k)) := by
  unfold D_c_Reader_isDigit isD
  rw [show (48 : Int32) = Int32.ofNat 48 from rfl, show (57 : Int32) = Int32.ofNat 57 from rfl, lt_n (by omega) (by decide), gt_n (by omega) (by decide)]
  by_cases w : k < 48
  · rw [decide_eq_true w, decide_eq_false (show ¬ 48 ≤ k by omega)]; rfl
  · rw [decide_eq_false w, decide_eq_true (show 48 ≤ k by omega)]
    by_cases w2 : 57 < k
    · rw [decide_eq_true w2, decide_eq_false (show ¬ k ≤ 57 by omega)]; rfl
    · rw [decide_eq_false w2, decide_eq_true (show k ≤ 57 by omega)]; rfl
theorem dg_m (h : Tp t L S') : D_m_isDigit F (sv t L p) S = some (b2i (isD (hc t L p))) := by
  unfold sv hc
  by_cases w' : p < L
  · rw [if_pos w', if_pos w']
    have := (h.2.2 p w').1
    unfold D_m_isDigit isD
    rw [show (48 : Int32) = Int32.ofNat 48 from rfl, show (57 : Int32) = Int32.ofNat 57 from rfl, lt_n (by omega) (by decide), gt_n (by omega) (by decide)]
    by_cases w : t p < 48
    · rw [decide_eq_true w, decide_eq_false (show ¬ 48 ≤ t p by omega)]; rfl
    · rw [decide_eq_false w, decide_eq_true (show 48 ≤ t p by omega)]
      by_cases w2 : 57 < t p
      · rw [decide_eq_true w2, decide_eq_false (show ¬ t p ≤ 57 by omega)]; rfl
      · rw [decide_eq_false w2, decide_eq_true (show t p ≤ 57 by omega)]; rfl
  · rw [if_neg w', if_neg w']; rfl
theorem sm_m (h : Tp t L S') : D_m_isSmall F (sv t L p) S = some (b2i (isS (hc t L p))) := by
  unfold sv hc
  by_cases w' : p < L
  · rw [if_pos w', if_pos w']
    have := (h.2.2 p w').1
    unfold D_m_isSmall isS
    rw [show (97 : Int32) = Int32.ofNat 97 from rfl, show (122 : Int32) = Int32.ofNat 122 from rfl, show (45 : Int32) = Int32.ofNat 45 from rfl, lt_n (by omega) (by decide), le_n (by omega) (by decide), ne_n (by omega) (by decide)]
    by_cases w : t p < 97
    · rw [decide_eq_true w, decide_eq_false (show ¬ 97 ≤ t p by omega)]
      by_cases w2 : t p = 45
      · rw [decide_eq_false (show ¬ ¬ t p = 45 by omega), decide_eq_true w2]; rfl
      · rw [decide_eq_true w2, decide_eq_false w2]; rfl
    · rw [decide_eq_false w, decide_eq_true (show 97 ≤ t p by omega), decide_eq_true (show ¬ t p = 45 by omega), decide_eq_false (show ¬ t p = 45 by omega)]
      by_cases w2 : t p ≤ 122
      · rw [decide_eq_true w2]; rfl
      · rw [decide_eq_false w2]; rfl
  · rw [if_neg w', if_neg w']; rfl
theorem expect_c (h : Tc t L T) (hg : g 2 = Int32.ofNat p) (hp : p ≤ L) (c1 : c < 127) : D_c_Reader_expect F 513 (Int32.ofNat c) (kR T L r g) = some (if hc t L p = c then (1, kR T L r (fup g 2 (Int32.ofNat (p + 1)))) else (0, kR T L r (fup g 3 (Int32.ofNat p)))) := by
  have := h.lt (p := p)
  have e1 : Int32.ofNat p + 1 = Int32.ofNat (p + 1) := m_n_add p 1
  unfold D_c_Reader_expect
  rw [Kcl, Option.bind_some, here_v h hg hp, Option.bind_some, eq_n (by omega) (by omega), Kg2, hg, Option.bind_some, e1, Kp2, Option.bind_some]
  by_cases w : hc t L p = c
  · rw [decide_eq_true w, if_pos w, cond_true]
  · rw [decide_eq_false w, if_neg w, cond_false, Option.bind_some]
    unfold D_c_Reader_no
    rw [Kp3]
    rfl
theorem wrong_m (h : S.1 5 = 0) {x : Int32} : D_m_wrong F x S = some (0, up1 (up1 S 5 1) 6 x) := by
  unfold D_m_wrong
  rw [h]
  rfl
theorem wrong_d (h : S.1 5 = 1) {x : Int32} : D_m_wrong F x S = some (0, S) := by
  unfold D_m_wrong
  rw [h]
  rfl
theorem expect_m (h : Tp t L S) (hg : S.1 4 = Int32.ofNat p) (hp : p ≤ L) (h5 : S.1 5 = 0) (c0 : 0 < c) (c1 : c < 127) : D_m_expect F (Int32.ofNat c) S = some (if hc t L p = c then (1, up1 S 4 (Int32.ofNat (p + 1))) else (0, up1 (up1 S 5 1) 6 (Int32.ofNat p))) := by
  have e1 : Int32.ofNat p + 1 = Int32.ofNat (p + 1) := m_n_add p 1
  unfold D_m_expect
  rw [h5, show m_c1 .eq (0 : Int32) = true from rfl, cond_true, see_v h hg hp, Option.bind_some, sv_eq h c0 c1, hg, e1, wrong_m h5]
  by_cases w : hc t L p = c
  · rw [decide_eq_true w, if_pos w]; rfl
  · rw [decide_eq_false w, if_neg w]; rfl
theorem expect_d (h5 : S.1 5 = 1) {x : Int32} : D_m_expect F x S = some (0, S) := by
  unfold D_m_expect
  rw [h5]
  rfl
end
