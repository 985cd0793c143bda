/-! Names, on both sides. -/
/-- ints and arrays that stay -/
def Fr (K A : List Nat) (S S' : mS) : Prop := Gs K S.1 S'.1 ∧ ∀ a k, ¬ a ∈ A → rd S' a k = rd S a k
theorem Fs.fr {K A : List Nat} {S S' : mS} (h : Fs K S S') : Fr K A S S' := ⟨h.1, fun a k _ => by unfold rd; rw [h.2]⟩
theorem Fr.refl {K A : List Nat} {S : mS} : Fr K A S S := ⟨Gs.refl, fun _ _ _ => rfl⟩
theorem Fr.trans {K A : List Nat} {S S' S'' : mS} (h : Fr K A S S') (h' : Fr K A S' S'') : Fr K A S S'' := ⟨h.1.trans h'.1, fun a k ha => (h'.2 a k ha).trans (h.2 a k ha)⟩
theorem Fr.mono {K A K' A' : List Nat} {S S' : mS} (h : Fr K A S S') (m : ∀ i ∈ K, i ∈ K') (m' : ∀ i ∈ A, i ∈ A') : Fr K' A' S S' := ⟨h.1.mono m, fun a k ha => h.2 a k (fun q => ha (m' a q))⟩
theorem Fr.up2 {K A : List Nat} {S : mS} {a k : Nat} {x : Int32} (h : a ∈ A) : Fr K A S (up2 S a k x) := ⟨Gs.refl, fun b j hb => by rw [rd_up2, if_neg (show ¬ (b = a ∧ j = k) from fun q => hb (q.1 ▸ h))]⟩
/-- what stays of the heap -/
def Ft (B : List Nat) (T T' : tT) : Prop := (∀ b, ¬ b ∈ B → T'.1 b = T.1 b) ∧ T'.2 = T.2
theorem Ft.refl {B : List Nat} {T : tT} : Ft B T T := ⟨fun _ _ => rfl, rfl⟩
theorem Ft.trans {B : List Nat} {T T' T'' : tT} (h : Ft B T T') (h' : Ft B T' T'') : Ft B T T'' := ⟨fun b hb => (h'.1 b hb).trans (h.1 b hb), h'.2.trans h.2⟩
theorem Ft.mono {B B' : List Nat} {T T' : tT} (h : Ft B T T') (m : ∀ i ∈ B, i ∈ B') : Ft B' T T' := ⟨fun b hb => h.1 b (fun q => hb (m b q)), h.2⟩
theorem Ft.set {B : List Nat} {T : tT} {a : Nat} {c : tC} (h : a ∈ B) : Ft B T (tset T a c) := ⟨fun b hb => tset_ne (fun q => hb (q ▸ h)), rfl⟩
/-- letters with a colon behind them -/
def Wd (t : Nat → Nat) (L a b : Nat) : Prop := a < b ∧ b < L ∧ (∀ i, a ≤ i → i < b → isS (t i) = true) ∧ t b = 58
/-- the names that were read -/
def Nm (t : Nat → Nat) (L : Nat) (T : tT) (S : mS) (g : Nat → Int32) (n p : Nat) : Prop := 2 * n ≤ p ∧ g 5 = Int32.ofNat n ∧ S.1 31 = Int32.ofNat n ∧ ∃ f2, T.1 515 = some (.inr (.inl (0, 300, f2))) ∧ ∀ k, k < n → ∃ a b, Wd t L a b ∧ m_toI (f2 k) = Int32.ofNat a ∧ rd S 587 k = Int32.ofNat a ∧ rd S 588 k = Int32.ofNat b
section
variable {T T' : tT} {S S' : mS} {t : Nat → Nat} {L p e F k c m n : Nat} {g g' : Nat → Int32} {r : Option Nat × Option Nat × Option Nat} {K A B : List Nat}
theorem Tp.fr (h : Tp t L S) (f : Fr K A S S') (n2 : ¬ 2 ∈ K) (nA : ¬ 584 ∈ A) : Tp t L S' := ⟨h.1, by rw [f.1 2 n2]; exact h.2.1, fun i hi => by rw [f.2 584 i nA]; exact h.2.2 i hi⟩
theorem Tc.ft (h : Tc t L T) (f : Ft B T T') (nB : ¬ 514 ∈ B) : Tc t L T' := ⟨h.1, by obtain ⟨_, f1, q1, q2⟩ := h; exact ⟨f1, (f.1 514 nB).trans q1, q2⟩⟩
theorem tset_comm {a b : Nat} {x y : tC} (h : ¬ a = b) : tset (tset T a x) b y = tset (tset T b y) a x := by
  unfold tset
  refine Prod.ext (funext fun i => ?_) rfl
  show (if i = b then some y else if i = a then some x else T.1 i) = (if i = a then some x else if i = b then some y else T.1 i)
  by_cases w : i = b
  · rw [if_pos w, if_neg (fun q => h (q.symm.trans w)), if_pos w]
  · rw [if_neg w, if_neg w]
theorem kR_tset {b : Nat} {y : tC} (h : ¬ b = 513) : tset (kR T L r g) b y = kR (tset T b y) L r g := tset_comm (fun q => h q.symm)
theorem isS_58 : isS 58 = false := rfl
theorem Wd.iff {a b c d : Nat} (h1 : Wd t L a b) (h2 : Wd t L c d) : (∀ k, k ≤ d - c → a + k < L ∧ t (a + k) = t (c + k)) ↔ (b - a = d - c ∧ ∀ k, k < b - a → t (a + k) = t (c + k)) := by
  obtain ⟨a1, a2, a3, a4⟩ := h1
  obtain ⟨b1, b2, b3, b4⟩ := h2
  constructor
  · intro h
    have e : b - a = d - c := by
      by_cases w : b - a < d - c
      · have := (h (b - a) (by omega)).2
        rw [show a + (b - a) = b by omega, a4] at this
        have q := b3 (c + (b - a)) (by omega) (by omega)
        rw [← this, isS_58] at q
        cases q
      · by_cases w2 : d - c < b - a
        · have := (h (d - c) (by omega)).2
          rw [show c + (d - c) = d by omega, b4] at this
          have q := a3 (a + (d - c)) (by omega) (by omega)
          rw [this, isS_58] at q
          cases q
        · omega
    exact ⟨e, fun k hk => (h k (by omega)).2⟩
  · intro ⟨e, h⟩ k hk
    refine ⟨by omega, ?_⟩
    by_cases w : k < b - a
    · exact h k w
    · rw [show a + k = b by omega, show c + k = d by omega, a4, b4]
theorem same_c {a d : Nat} (h : Tc t L T) (hc' : c ≤ d) (hd : d < L) (ha : a < L) (hF : 400 < F) : ∃ bb, D_c_Reader_isSame F 513 (Int32.ofNat a) (Int32.ofNat c) (Int32.ofNat (d - c)) (kR T L r g) = some (b2i bb) ∧ (bb = true ↔ ∀ k, k ≤ d - c → a + k < L ∧ t (a + k) = t (c + k)) := by
  have hL := h.1
  have loop : ∀ n k, k + n = d - c + 1 → ∀ f, n < f → ∃ bb, D_c_Reader_isSame_3 F f 513 (Int32.ofNat a) (Int32.ofNat c) (Int32.ofNat (d - c)) (Int32.ofNat k) (kR T L r g) = some (b2i bb) ∧ (bb = true ↔ ∀ j, k ≤ j → j ≤ d - c → a + j < L ∧ t (a + j) = t (c + j)) := by
    intro n
    induction n with
    | zero =>
      intro k hk f hf
      obtain ⟨f, rfl⟩ : ∃ y, f = y + 1 := ⟨f - 1, by omega⟩
      refine ⟨true, ?_, ⟨fun _ j j1 j2 => by omega, fun _ => rfl⟩⟩
      conv => lhs; unfold D_c_Reader_isSame_3
      rw [gt_n (by omega) (by omega), decide_eq_true (by omega)]
      rfl
    | succ n ih =>
      intro k hk f hf
      obtain ⟨f, rfl⟩ : ∃ y, f = y + 1 := ⟨f - 1, by omega⟩
      have e1 : Int32.ofNat k + Int32.ofInt 1 = Int32.ofNat (k + 1) := m_n_add k 1
      have st : D_c_Reader_isSame_3 F (f + 1) 513 (Int32.ofNat a) (Int32.ofNat c) (Int32.ofNat (d - c)) (Int32.ofNat k) (kR T L r g) = cond (decide (L ≤ a + k)) (some 0) ((tai (kR T L r g) 514 2 (Int32.ofNat (a + k))).bind fun v20 => cond (m_c2 .eq v20 (Int32.ofNat (t (c + k)))) (D_c_Reader_isSame_3 F f 513 (Int32.ofNat a) (Int32.ofNat c) (Int32.ofNat (d - c)) (Int32.ofNat (k + 1)) (kR T L r g)) (some 0)) := by
        conv => lhs; unfold D_c_Reader_isSame_3
        simp only [gt_n (show k < 2147483648 by omega) (show d - c < 2147483648 by omega), decide_eq_false (show ¬ d - c < k by omega), cond_false, KgL, Option.bind_some, m_n_add, ge_n (show a + k < 2147483648 by omega) (show L < 2147483648 by omega), ge_n (show c + k < 2147483648 by omega) (show L < 2147483648 by omega), decide_eq_false (show ¬ L ≤ c + k by omega), Rr0 kR_at, tape_c h (show c + k < L by omega), e1]
      rw [st]
      by_cases w : a + k < L
      · rw [decide_eq_false (show ¬ L ≤ a + k by omega), cond_false, tape_c h w, Option.bind_some]
        have l1 : t (a + k) < 127 := by obtain ⟨_, f1, _, q⟩ := h; exact (q _ w).1
        have l2 : t (c + k) < 127 := by obtain ⟨_, f1, _, q⟩ := h; exact (q (c + k) (by omega)).1
        rw [eq_n (by omega) (by omega)]
        by_cases w2 : t (a + k) = t (c + k)
        · rw [decide_eq_true w2, cond_true]
          obtain ⟨bb, y1, y2⟩ := ih (k + 1) (by omega) f (by omega)
          refine ⟨bb, y1, y2.trans ⟨fun q j j1 j2 => ?_, fun q j j1 j2 => q j (by omega) j2⟩⟩
          by_cases w3 : j = k
          · rw [w3]; exact ⟨w, w2⟩
          · exact q j (by omega) j2
        · rw [decide_eq_false w2]
          exact ⟨false, rfl, ⟨fun q => (by cases q), fun q => absurd (q k (Nat.le_refl _) (by omega)).2 w2⟩⟩
      · rw [decide_eq_true (show L ≤ a + k by omega)]
        exact ⟨false, rfl, ⟨fun q => (by cases q), fun q => absurd (q k (Nat.le_refl _) (by omega)).1 w⟩⟩
  obtain ⟨bb, y1, y2⟩ := loop (d - c + 1) 0 (by omega) F (by omega)
  exact ⟨bb, y1, y2.trans ⟨fun q k hk => q k (Nat.zero_le _) hk, fun q k _ hk => q k hk⟩⟩
theorem same_m {a b d : Nat} (h : Tp t L S) (hab : a ≤ b) (hb : b < L) (hc' : c ≤ d) (hd : d < L) (hF : 400 < F) : ∃ bb, D_m_isSame F (Int32.ofNat a) (Int32.ofNat b) (Int32.ofNat c) (Int32.ofNat d) S = some (b2i bb) ∧ (bb = true ↔ (b - a = d - c ∧ ∀ k, k < b - a → t (a + k) = t (c + k))) := by
  have hL := h.1
  have loop : b - a = d - c → ∀ n k, k + n = b - a → ∀ f, n + 1 < f → ∃ bb, D_m_isSame_20 F f (Int32.ofNat a) (Int32.ofNat b) (Int32.ofNat c) 1 (Int32.ofNat k) S = some (b2i bb) ∧ (bb = true ↔ ∀ j, k ≤ j → j < b - a → t (a + j) = t (c + j)) := by
    intro hE n
    induction n with
    | zero =>
      intro k hk f hf
      obtain ⟨f, rfl⟩ : ∃ y, f = y + 1 := ⟨f - 1, by omega⟩
      refine ⟨true, ?_, ⟨fun _ j j1 j2 => by omega, fun _ => rfl⟩⟩
      conv => lhs; unfold D_m_isSame_20
      rw [m_n_sub hab, ge_n (by omega) (by omega), decide_eq_true (by omega)]
      rfl
    | succ n ih =>
      intro k hk f hf
      obtain ⟨f, rfl⟩ : ∃ y, f = y + 1 := ⟨f - 1, by omega⟩
      have e1 : Int32.ofNat k + Int32.ofInt 1 = Int32.ofNat (k + 1) := m_n_add k 1
      have l1 : t (a + k) < 127 := (h.2.2 (a + k) (by omega)).1
      have l2 : t (c + k) < 127 := (h.2.2 (c + k) (by omega)).1
      have st : D_m_isSame_20 F (f + 1) (Int32.ofNat a) (Int32.ofNat b) (Int32.ofNat c) 1 (Int32.ofNat k) S = (cond (decide (¬ t (a + k) = t (c + k))) (some (0 : Int32)) (some (1 : Int32))).bind fun v18 => D_m_isSame_20 F f (Int32.ofNat a) (Int32.ofNat b) (Int32.ofNat c) v18 (Int32.ofNat (k + 1)) S := by
        conv => lhs; unfold D_m_isSame_20
        simp only [show m_c1 .eq (1 : Int32) = false from rfl, cond_false, m_n_sub hab, ge_n (show k < 2147483648 by omega) (show b - a < 2147483648 by omega), decide_eq_false (show ¬ b - a ≤ k by omega), m_n_add, tape_m h (show a + k < L by omega), tape_m h (show c + k < L by omega), Option.bind_some, ne_n (show t (a + k) < 2147483648 by omega) (show t (c + k) < 2147483648 by omega), e1]
      rw [st]
      by_cases w2 : t (a + k) = t (c + k)
      · rw [decide_eq_false (show ¬ ¬ t (a + k) = t (c + k) from fun n => n w2), cond_false, Option.bind_some]
        obtain ⟨bb, y1, y2⟩ := ih (k + 1) (by omega) f (by omega)
        refine ⟨bb, y1, y2.trans ⟨fun q j j1 j2 => ?_, fun q j j1 j2 => q j (by omega) j2⟩⟩
        by_cases w3 : j = k
        · rw [w3]; exact w2
        · exact q j (by omega) j2
      · rw [decide_eq_true w2]
        obtain ⟨f, rfl⟩ : ∃ y, f = y + 1 := ⟨f - 1, by omega⟩
        exact ⟨false, rfl, ⟨fun q => (by cases q), fun q => absurd (q k (Nat.le_refl _) (by omega)) w2⟩⟩
  unfold D_m_isSame
  rw [m_n_sub hab, m_n_sub hc', ne_n (by omega) (by omega)]
  by_cases w : b - a = d - c
  · rw [decide_eq_false (show ¬ ¬ b - a = d - c from fun n => n w), cond_false, Option.bind_some]
    obtain ⟨bb, y1, y2⟩ := loop w (b - a) 0 (by omega) F (by omega)
    exact ⟨bb, y1, y2.trans ⟨fun q => ⟨w, fun k hk => q k (Nat.zero_le _) hk⟩, fun q k _ hk => q.2 k hk⟩⟩
  · rw [decide_eq_true w]
    obtain ⟨F', rfl⟩ : ∃ y, F = y + 1 := ⟨F - 1, by omega⟩
    exact ⟨false, rfl, ⟨fun q => (by cases q), fun q => absurd q.1 w⟩⟩
theorem P_same {a b d : Nat} (h : Tc t L T) (h' : Tp t L S) (w1 : Wd t L a b) (w2 : Wd t L c d) (hF : 400 < F) : ∃ bb, D_c_Reader_isSame F 513 (Int32.ofNat a) (Int32.ofNat c) (Int32.ofNat (d - c)) (kR T L r g) = some (b2i bb) ∧ D_m_isSame F (Int32.ofNat a) (Int32.ofNat b) (Int32.ofNat c) (Int32.ofNat d) S = some (b2i bb) ∧ (bb = true ↔ (b - a = d - c ∧ ∀ k, k < b - a → t (a + k) = t (c + k))) := by
  obtain ⟨b1, x1, x2⟩ := same_c (F := F) (r := r) (g := g) h (Nat.le_of_lt w2.1) w2.2.1 (Nat.lt_trans w1.1 w1.2.1) hF
  obtain ⟨b2, y1, y2⟩ := same_m (F := F) h' (Nat.le_of_lt w1.1) w1.2.1 (Nat.le_of_lt w2.1) w2.2.1 hF
  have : b1 = b2 := Bool.eq_iff_iff.mpr (x2.trans ((w1.iff w2).trans y2.symm))
  rw [← this] at y1 y2
  exact ⟨b1, x1, y1, y2⟩
theorem Kg5 : tgi (kR T L r g) 513 1 5 = some (g 5) := Wg5 kR_at
theorem Kp5 {x : Int32} : tpi (kR T L r g) 513 1 5 x = some (kR T L r (fup g 5 x)) := (Wp5 kR_at).trans (by rw [kR_set])
theorem Kp6 {x : Int32} : tpi (kR T L r g) 513 1 6 x = some (kR T L r (fup g 6 x)) := (Wp6 kR_at).trans (by rw [kR_set])
theorem Kp7 {x : Int32} : tpi (kR T L r g) 513 1 7 x = some (kR T L r (fup g 7 x)) := (Wp7 kR_at).trans (by rw [kR_set])
/-- a name that is another one -/
def Other (t : Nat → Nat) (L s e : Nat) (S : mS) (j : Nat) : Prop := ∃ a b, Wd t L a b ∧ rd S 587 j = Int32.ofNat a ∧ rd S 588 j = Int32.ofNat b ∧ ¬ (b - a = e - s ∧ ∀ k, k < b - a → t (a + k) = t (s + k))
/-- whether the name was there -/
theorem P_was {s : Nat} (hN : Nm t L T S g n p) (h : Tc t L T) (h' : Tp t L S) (hp : p ≤ L) (g6 : g 6 = Int32.ofNat s) (g7 : g 7 = Int32.ofNat e) (s4 : S.1 4 = Int32.ofNat e) (w : Wd t L s e) (hF : 400 < F) : ∀ m k, k + m = n → ∀ f f2, m < f → m < f2 →
    (D_c_Reader_wasThere_2 F f 513 (Int32.ofNat k) (kR T L r g) = some 1 ∧ D_m_name_82 F f2 (Int32.ofNat s) (Int32.ofNat k) S = (D_m_wrong F (Int32.ofNat s) S).bind fun q49 => (bret q49.1).bind fun v51 => some (v51, q49.2)) ∨
    (∃ f3, D_c_Reader_wasThere_2 F f 513 (Int32.ofNat k) (kR T L r g) = some 0 ∧ D_m_name_82 F f2 (Int32.ofNat s) (Int32.ofNat k) S = D_m_name_82 F (f3 + 1) (Int32.ofNat s) (Int32.ofNat n) S ∧ ∀ j, k ≤ j → j < n → Other t L s e S j) := by
  obtain ⟨n1, n2, n3, f2', n4, n5⟩ := hN
  have hL := h.1
  have n4' : (kR T L r g).1 515 = some (.inr (.inl (0, 300, f2'))) := (kR_ne (by decide)).trans n4
  intro m
  induction m with
  | zero =>
    intro k hk f f2 hf hf2
    obtain ⟨f, rfl⟩ : ∃ y, f = y + 1 := ⟨f - 1, by omega⟩
    obtain ⟨f2, rfl⟩ : ∃ y, f2 = y + 1 := ⟨f2 - 1, by omega⟩
    right
    refine ⟨f2, ?_, by rw [show k = n by omega], fun j j1 j2 => by omega⟩
    conv => lhs; unfold D_c_Reader_wasThere_2
    rw [Kg5, n2, Option.bind_some, ge_n (by omega) (by omega), decide_eq_true (by omega)]
    rfl
  | succ m ih =>
    intro k hk f f2 hf hf2
    obtain ⟨f, rfl⟩ : ∃ y, f = y + 1 := ⟨f - 1, by omega⟩
    obtain ⟨f2, rfl⟩ : ∃ y, f2 = y + 1 := ⟨f2 - 1, by omega⟩
    obtain ⟨a, b, k1', k2', k3', k4'⟩ := n5 k (by omega)
    obtain ⟨bb, y1, y2, y3⟩ := P_same (F := F) (r := r) (g := g) h h' k1' w hF
    have e1 : Int32.ofNat k + Int32.ofInt 1 = Int32.ofNat (k + 1) := m_n_add k 1
    have ta9 : tai (kR T L r g) 515 0 (Int32.ofNat k) = some (Int32.ofNat a) := by unfold tai; rw [ta_o n4' (by omega) (by decide), Option.map_some, k2']
    have a1 : aget 0 150 S 587 (Int32.ofNat k) = some (Int32.ofNat a) := (aget_n (Or.inl rfl) (by omega) (by decide)).trans (by rw [k3'])
    have a2 : aget 0 150 S 588 (Int32.ofNat k) = some (Int32.ofNat b) := (aget_n (Or.inl rfl) (by omega) (by decide)).trans (by rw [k4'])
    have cst : D_c_Reader_wasThere_2 F (f + 1) 513 (Int32.ofNat k) (kR T L r g) = cond (!bb) (D_c_Reader_wasThere_2 F f 513 (Int32.ofNat (k + 1)) (kR T L r g)) (some 1) := by
      conv => lhs; unfold D_c_Reader_wasThere_2
      simp only [Kg5, n2, Option.bind_some, ge_n (show k < 2147483648 by omega) (show n < 2147483648 by omega), decide_eq_false (show ¬ n ≤ k by omega), cond_false, Rr4 kR_at, ta9, Kg6, Kg7, g6, g7, m_n_sub (Nat.le_of_lt w.1), Kcl, y1, b_eq0, e1]
    have mst : D_m_name_82 F (f2 + 1) (Int32.ofNat s) (Int32.ofNat k) S = cond (!bb) (D_m_name_82 F f2 (Int32.ofNat s) (Int32.ofNat (k + 1)) S) ((D_m_wrong F (Int32.ofNat s) S).bind fun q49 => (bret q49.1).bind fun v51 => some (v51, q49.2)) := by
      conv => lhs; unfold D_m_name_82
      rw [n3, ge_n (by omega) (by omega), decide_eq_false (show ¬ n ≤ k by omega), cond_false, a1, Option.bind_some, a2, Option.bind_some, s4, y2, Option.bind_some, b_eq0, e1]
    rw [cst, mst]
    cases bb with
    | true => exact Or.inl ⟨rfl, rfl⟩
    | false =>
      rcases ih (k + 1) (by omega) f f2 (by omega) (by omega) with q | ⟨f3, q1', q2', q3'⟩
      · exact Or.inl q
      · refine Or.inr ⟨f3, q1', q2', fun j j1 j2 => ?_⟩
        by_cases wj : j = k
        · rw [wj]
          exact ⟨a, b, k1', k3', k4', fun q => absurd (y3.mpr q) (by decide)⟩
        · exact q3' j (by omega) j2
end
