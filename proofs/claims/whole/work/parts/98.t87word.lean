/-! Runs of letters, values that do not matter, words. -/
section
variable {T : tT} {S S' : mS} {t : Nat → Nat} {L p e F k c m : Nat} {g g' : Nat → Int32} {r : Option Nat × Option Nat × Option Nat} {K : List Nat}
/-- a run ends -/
theorem ex_run (P : Nat → Bool) (h0 : P 0 = false) : ∀ n p, p + n = L → ∃ e, p ≤ e ∧ e ≤ L ∧ P (hc t L e) = false ∧ ∀ i, p ≤ i → i < e → P (hc t L i) = true := by
  intro n
  induction n with
  | zero =>
    intro p hp
    refine ⟨p, Nat.le_refl _, by omega, ?_, fun i _ _ => by omega⟩
    unfold hc
    rw [if_neg (by omega)]
    exact h0
  | succ n ih =>
    intro p hp
    cases w : P (hc t L p) with
    | false => exact ⟨p, Nat.le_refl _, by omega, w, fun i _ _ => by omega⟩
    | true =>
      obtain ⟨e, a1, a2, a3, a4⟩ := ih (p + 1) (by omega)
      refine ⟨e, by omega, a2, a3, fun i i1 i2 => ?_⟩
      by_cases q : i = p
      · rw [q]; exact w
      · exact a4 i (by omega) i2
theorem isS_c (h : Tc t L T) (hg : g 2 = Int32.ofNat p) (hp : p ≤ L) {f : Nat} : D_c_Reader_skipLetters_0 F (f + 1) 513 (kR T L r g) = cond (isS (hc t L p)) (D_c_Reader_skipLetters_0 F f 513 (kR T L r (fup g 2 (Int32.ofNat (p + 1))))) (some (kR T L r g)) := by
  have hL := h.1
  have hl := h.lt (p := p)
  have e1 : Int32.ofNat p + 1 = Int32.ofNat (p + 1) := m_n_add p 1
  have rec' : D_c_Reader_skipLetters_38 F (D_c_Reader_skipLetters_0 F f) 513 (kR T L r g) = D_c_Reader_skipLetters_0 F f 513 (kR T L r (fup g 2 (Int32.ofNat (p + 1)))) := by
    unfold D_c_Reader_skipLetters_38
    rw [Kg2, Option.bind_some, hg, e1, Kp2, Option.bind_some]
  conv => lhs; unfold D_c_Reader_skipLetters_0
  simp only [Kg2, hg, Option.bind_some, KgL, Kcl, here_v h hg hp, rec']
  rw [ge_n (by omega) (by omega), show (45 : Int32) = Int32.ofNat 45 from rfl, show (97 : Int32) = Int32.ofNat 97 from rfl, show (122 : Int32) = Int32.ofNat 122 from rfl, eq_n (by omega) (by decide), lt_n (by omega) (by decide), gt_n (by omega) (by decide)]
  by_cases w : L ≤ p
  · have h0 : hc t L p = 0 := by unfold hc; rw [if_neg (by omega)]
    rw [decide_eq_true w, h0]; rfl
  · rw [decide_eq_false w, cond_false]
    unfold isS
    by_cases w1 : hc t L p = 45
    · rw [decide_eq_true w1, Bool.or_true]; rfl
    · rw [decide_eq_false w1, Bool.or_false, cond_false]
      by_cases w2 : hc t L p < 97
      · rw [decide_eq_true w2, decide_eq_false (show ¬ 97 ≤ hc t L p by omega)]; rfl
      · rw [decide_eq_false w2, decide_eq_true (show 97 ≤ hc t L p by omega)]
        by_cases w3 : 122 < hc t L p
        · rw [decide_eq_true w3, decide_eq_false (show ¬ hc t L p ≤ 122 by omega)]; rfl
        · rw [decide_eq_false w3, decide_eq_true (show hc t L p ≤ 122 by omega)]; rfl
theorem skip_c (h : Tc t L T) (he : e ≤ L) (hn : isS (hc t L e) = false) : ∀ (n p : Nat) (g : Nat → Int32), p + n = e → g 2 = Int32.ofNat p → (∀ i, p ≤ i → i < e → isS (hc t L i) = true) → ∀ f, n < f → ∃ g', D_c_Reader_skipLetters_0 F f 513 (kR T L r g) = some (kR T L r g') ∧ g' 2 = Int32.ofNat e ∧ Gs [2] g g' := by
  intro n
  induction n with
  | zero =>
    intro p g hp g2 hi f hf
    obtain ⟨f, rfl⟩ : ∃ y, f = y + 1 := ⟨f - 1, by omega⟩
    have : p = e := by omega
    subst this
    rw [isS_c h g2 he, hn]
    exact ⟨g, rfl, g2, Gs.refl⟩
  | succ n ih =>
    intro p g hp g2 hi f hf
    obtain ⟨f, rfl⟩ : ∃ y, f = y + 1 := ⟨f - 1, by omega⟩
    rw [isS_c h g2 (by omega), hi p (Nat.le_refl _) (by omega), cond_true]
    obtain ⟨g', a1, a2, a3⟩ := ih (p + 1) (fup g 2 (Int32.ofNat (p + 1))) (by omega) fup_eq (fun i i1 i2 => hi i (by omega) i2) f (by omega)
    exact ⟨g', a1, a2, (Gs.fup (by decide)).trans a3⟩
theorem name_skip (he : e ≤ L) {x1 : Int32} : ∀ (n p : Nat) (S : mS), Tp t L S → p + n = e → S.1 4 = Int32.ofNat p → (∀ i, p ≤ i → i < e → isS (hc t L i) = true) → ∀ f, n < f → ∃ S' f', D_m_name_5 F f x1 S = D_m_name_5 F (f' + 1) x1 S' ∧ S'.1 4 = Int32.ofNat e ∧ Fs [4] S S' := by
  intro n
  induction n with
  | zero =>
    intro p S h hp s4 hi f hf
    obtain ⟨f, rfl⟩ : ∃ y, f = y + 1 := ⟨f - 1, by omega⟩
    exact ⟨S, f, rfl, by rw [s4, show p = e by omega], Fs.refl⟩
  | succ n ih =>
    intro p S h hp s4 hi f hf
    obtain ⟨f, rfl⟩ : ∃ y, f = y + 1 := ⟨f - 1, by omega⟩
    have e1 : Int32.ofNat p + 1 = Int32.ofNat (p + 1) := m_n_add p 1
    have fs : Fs [4] S (up1 S 4 (Int32.ofNat (p + 1))) := Fs.up1 (by decide)
    have st : D_m_name_5 F (f + 1) x1 S = D_m_name_5 F f x1 (up1 S 4 (Int32.ofNat (p + 1))) := by
      conv => lhs; unfold D_m_name_5
      rw [see_v h s4 (by omega), Option.bind_some, sm_m h, Option.bind_some, b_eq0, hi p (Nat.le_refl _) (by omega), s4, e1]
      rfl
    obtain ⟨S', f', a1, a2, a3⟩ := ih (p + 1) _ (h.fs fs (by decide)) (by omega) up1_at (fun i i1 i2 => hi i (by omega) i2) f (by omega)
    exact ⟨S', f', st.trans a1, a2, fs.trans a3⟩
theorem list_skip (he : e ≤ L) {x1 : Int32} {rec2 : Int32 → Int32 → mS → Option mS} : ∀ (n p : Nat) (S : mS), Tp t L S → p + n = e → S.1 4 = Int32.ofNat p → (∀ i, p ≤ i → i < e → isS (hc t L i) = true) → ∀ f, n < f → ∃ S' f', D_m_list_21 F rec2 f x1 S = D_m_list_21 F rec2 (f' + 1) x1 S' ∧ S'.1 4 = Int32.ofNat e ∧ Fs [4] S S' := by
  intro n
  induction n with
  | zero =>
    intro p S h hp s4 hi f hf
    obtain ⟨f, rfl⟩ : ∃ y, f = y + 1 := ⟨f - 1, by omega⟩
    exact ⟨S, f, rfl, by rw [s4, show p = e by omega], Fs.refl⟩
  | succ n ih =>
    intro p S h hp s4 hi f hf
    obtain ⟨f, rfl⟩ : ∃ y, f = y + 1 := ⟨f - 1, by omega⟩
    have e1 : Int32.ofNat p + 1 = Int32.ofNat (p + 1) := m_n_add p 1
    have fs : Fs [4] S (up1 S 4 (Int32.ofNat (p + 1))) := Fs.up1 (by decide)
    have st : D_m_list_21 F rec2 (f + 1) x1 S = D_m_list_21 F rec2 f x1 (up1 S 4 (Int32.ofNat (p + 1))) := by
      conv => lhs; unfold D_m_list_21
      rw [see_v h s4 (by omega), Option.bind_some, sm_m h, Option.bind_some, b_eq0, hi p (Nat.le_refl _) (by omega), s4, e1]
      rfl
    obtain ⟨S', f', a1, a2, a3⟩ := ih (p + 1) _ (h.fs fs (by decide)) (by omega) up1_at (fun i i1 i2 => hi i (by omega) i2) f (by omega)
    exact ⟨S', f', st.trans a1, a2, fs.trans a3⟩
/-- a value that does not matter, on both sides -/
theorem P_value : ∀ (n p : Nat) (g : Nat → Int32) (S : mS), p + n = L → St t L T S p g → ∀ f f2, n < f → n < f2 → ∃ p' g' S', D_c_Reader_skipValue_0 F f 513 (kR T L r g) = some (1, kR T L r g') ∧ D_m_anyValue_0 F f2 S = some S' ∧ St t L T S' p' g' ∧ p ≤ p' ∧ Gs [2] g g' ∧ Fs [4] S S' := by
  have cst : ∀ (p f : Nat) (g : Nat → Int32) (S : mS), St t L T S p g → D_c_Reader_skipValue_0 F (f + 1) 513 (kR T L r g) = cond (decide (L ≤ p)) (some (1, kR T L r g)) (cond (decide (hc t L p = 10)) (some (1, kR T L r g)) (D_c_Reader_skipValue_0 F f 513 (kR T L r (fup g 2 (Int32.ofNat (p + 1)))))) := by
    intro p f g S h
    obtain ⟨h1, h2, h3, h4, h5, h6⟩ := h
    have hL := h1.1
    have hl := h1.lt (p := p)
    have e1 : Int32.ofNat p + 1 = Int32.ofNat (p + 1) := m_n_add p 1
    conv => lhs; unfold D_c_Reader_skipValue_0
    simp only [Kg2, h4, Option.bind_some, KgL, Kcl, here_v h1 h4 h3, e1, Kp2]
    rw [ge_n (by omega) (by omega), show (10 : Int32) = Int32.ofNat 10 from rfl, eq_n (by omega) (by decide)]
  have mst : ∀ (p f : Nat) (g : Nat → Int32) (S : mS), St t L T S p g → D_m_anyValue_0 F (f + 1) S = cond (decide (hc t L p = 10)) (some S) (cond (decide (L ≤ p)) (some S) (D_m_anyValue_0 F f (up1 S 4 (Int32.ofNat (p + 1))))) := by
    intro p f g S h
    obtain ⟨h1, h2, h3, h4, h5, h6⟩ := h
    have hL := h1.1
    have e1 : Int32.ofNat p + 1 = Int32.ofNat (p + 1) := m_n_add p 1
    conv => lhs; unfold D_m_anyValue_0
    rw [see_v h2 h5 h3, Option.bind_some, show (10 : Int32) = Int32.ofNat 10 from rfl, sv_eq h2 (by decide) (by decide), h5, h2.2.1, ge_n (by omega) (by omega), e1]
    rfl
  have stop : ∀ (p f f2 : Nat) (g : Nat → Int32) (S : mS), St t L T S p g → (L ≤ p ∨ hc t L p = 10) → ∃ p' g' S', D_c_Reader_skipValue_0 F (f + 1) 513 (kR T L r g) = some (1, kR T L r g') ∧ D_m_anyValue_0 F (f2 + 1) S = some S' ∧ St t L T S' p' g' ∧ p ≤ p' ∧ Gs [2] g g' ∧ Fs [4] S S' := by
    intro p f f2 g S h w
    refine ⟨p, g, S, ?_, ?_, h, Nat.le_refl _, Gs.refl, Fs.refl⟩
    · rw [cst p f g S h]
      rcases w with w | w
      · rw [decide_eq_true w]; rfl
      · rw [decide_eq_true w]; cases decide (L ≤ p) <;> rfl
    · rw [mst p f2 g S h]
      rcases w with w | w
      · rw [decide_eq_true w]; cases decide (hc t L p = 10) <;> rfl
      · rw [decide_eq_true w]; rfl
  intro n
  induction n with
  | zero =>
    intro p g S hp h f f2 hf hf2
    obtain ⟨f, rfl⟩ : ∃ y, f = y + 1 := ⟨f - 1, by omega⟩
    obtain ⟨f2, rfl⟩ : ∃ y, f2 = y + 1 := ⟨f2 - 1, by omega⟩
    exact stop p f f2 g S h (Or.inl (by omega))
  | succ n ih =>
    intro p g S hp h f f2 hf hf2
    obtain ⟨f, rfl⟩ : ∃ y, f = y + 1 := ⟨f - 1, by omega⟩
    obtain ⟨f2, rfl⟩ : ∃ y, f2 = y + 1 := ⟨f2 - 1, by omega⟩
    by_cases w : hc t L p = 10
    · exact stop p f f2 g S h (Or.inr w)
    · have fs : Fs [4] S (up1 S 4 (Int32.ofNat (p + 1))) := Fs.up1 (by decide)
      obtain ⟨p', g', S', a1, a2, a3, a4, a5, a6⟩ := ih (p + 1) (fup g 2 (Int32.ofNat (p + 1))) (up1 S 4 (Int32.ofNat (p + 1))) (by omega) (h.step (by omega) fup_eq up1_at ((up1_no (by decide)).trans h.2.2.2.2.2) fs (by decide)) f f2 (by omega) (by omega)
      refine ⟨p', g', S', ?_, ?_, a3, by omega, (Gs.fup (by decide)).trans a5, fs.trans a6⟩
      · rw [cst p f g S h, decide_eq_false (show ¬ L ≤ p by omega), decide_eq_false w]; exact a1
      · rw [mst p f2 g S h, decide_eq_false (show ¬ L ≤ p by omega), decide_eq_false w]; exact a2
/-- the signs from a place on -/
def mt (t : Nat → Nat) (cs : List Nat) (s : Nat) : Nat → Nat → Bool
  | 0, _ => true
  | n + 1, k => decide (t (s + k) = cs.getD k 0) && mt t cs s n (k + 1)
def isW (t : Nat → Nat) (s e : Nat) (cs : List Nat) : Bool := decide (e - s = cs.length) && mt t cs s cs.length 0
theorem Kg6 : tgi (kR T L r g) 513 1 6 = some (g 6) := Wg6 kR_at
theorem Kg7 : tgi (kR T L r g) 513 1 7 = some (g 7) := Wg7 kR_at
theorem tape_c (h : Tc t L T) (hp : p < L) : tai (kR T L r g) 514 2 (Int32.ofNat p) = some (Int32.ofNat (t p)) := by
  obtain ⟨h3, f1, h2, h5⟩ := h
  have h2' : (kR T L r g).1 514 = some (.inr (.inl (2, 300, f1))) := (kR_ne (by decide)).trans h2
  unfold tai
  rw [ta_o h2' (by omega) (by decide), Option.map_some, (h5 p hp).2]
theorem tape_m (h : Tp t L S) (hp : p < L) : aget 0 300 S 584 (Int32.ofNat p) = some (Int32.ofNat (t p)) := (aget_n (Or.inl rfl) (by have := h.1; omega) (by decide)).trans (by rw [(h.2.2 p hp).2])
theorem word_c {x s : Nat} {cs : List Nat} (hx : txs x cs) (h : Tc t L T) (hs : s ≤ e) (he : e ≤ L) (g6 : g 6 = Int32.ofNat s) (g7 : g 7 = Int32.ofNat e) (hF : 100 < F) : D_c_Reader_isWord F 513 x (kR T L r g) = some (b2i (isW t s e cs)) := by
  obtain ⟨x1, x2, x3, x4⟩ := hx
  have hL := h.1
  have loop : s + cs.length = e → ∀ n k, k + n = cs.length → ∀ f, n < f → D_c_Reader_isWord_39 F f 513 x (Int32.ofNat k) (kR T L r g) = some (b2i (mt t cs s n k)) := by
    intro hse n
    induction n with
    | zero =>
      intro k hk f hf
      obtain ⟨f, rfl⟩ : ∃ y, f = y + 1 := ⟨f - 1, by omega⟩
      conv => lhs; unfold D_c_Reader_isWord_39
      rw [x1, Option.bind_some, ge_n (by omega) (by omega), decide_eq_true (by omega)]
      rfl
    | succ n ih =>
      intro k hk f hf
      obtain ⟨f, rfl⟩ : ∃ y, f = y + 1 := ⟨f - 1, by omega⟩
      have e1 : Int32.ofNat k + Int32.ofInt 1 = Int32.ofNat (k + 1) := m_n_add k 1
      have tl : t (s + k) < 127 := by obtain ⟨_, f1, _, q⟩ := h; exact (q (s + k) (by omega)).1
      have cl := (x3 k (by omega)).2
      conv => lhs; unfold D_c_Reader_isWord_39
      simp only [x1, Option.bind_some, ge_n (show k < 2147483648 by omega) (show cs.length < 2147483648 by omega), decide_eq_false (show ¬ cs.length ≤ k by omega), cond_false, Rr0 kR_at, Kg6, g6, m_n_add, tape_c h (show s + k < L by omega), x2 k (by omega), eq_n (show t (s + k) < 2147483648 by omega) (show cs.getD k 0 < 2147483648 by omega), e1]
      unfold mt
      by_cases w : t (s + k) = cs.getD k 0
      · rw [decide_eq_true w, Bool.true_and]; exact ih (k + 1) (by omega) f (by omega)
      · rw [decide_eq_false w]; rfl
  have al : tal (kR T L r g) 514 = some (Int32.ofNat 300) := by
    obtain ⟨_, f1, h2, _⟩ := h
    simp only [tal, show (kR T L r g).1 514 = some (.inr (.inl (2, 300, f1))) from (kR_ne (by decide)).trans h2]; rfl
  unfold D_c_Reader_isWord isW
  simp only [Kg6, Kg7, g6, g7, x1, Option.bind_some, m_n_sub hs, ne_n (show e - s < 2147483648 by omega) (show cs.length < 2147483648 by omega), m_c1_ltf (show s < 2147483648 by omega), cond_false, Rr0 kR_at, al, le_n (show e < 2147483648 by omega) (show 300 < 2147483648 by decide), decide_eq_true (show e ≤ 300 by omega), cond_true]
  by_cases w : e - s = cs.length
  · rw [decide_eq_true w, decide_eq_false (show ¬ ¬ e - s = cs.length from fun n => n w), Bool.true_and, cond_false]
    exact loop (by omega) cs.length 0 (by omega) F (by omega)
  · rw [decide_eq_false w, decide_eq_true w]; rfl
theorem word_m {x s : Nat} {cs : List Nat} (hx : txs x cs) (h : Tp t L S) (hs : s ≤ e) (he : e ≤ L) (g6 : S.1 80 = Int32.ofNat s) (g7 : S.1 81 = Int32.ofNat e) (hF : 100 < F) : D_m_isWord F x S = some (b2i (isW t s e cs)) := by
  obtain ⟨x1, x2, x3, x4⟩ := hx
  have hL := h.1
  have loop : s + cs.length = e → ∀ n k, k + n = cs.length → ∀ f, n + 1 < f → D_m_isWord_24 F f x 1 (Int32.ofNat k) S = some (b2i (mt t cs s n k)) := by
    intro hse n
    induction n with
    | zero =>
      intro k hk f hf
      obtain ⟨f, rfl⟩ : ∃ y, f = y + 1 := ⟨f - 1, by omega⟩
      conv => lhs; unfold D_m_isWord_24
      rw [x1, Option.bind_some, ge_n (by omega) (by omega), decide_eq_true (by omega)]
      rfl
    | succ n ih =>
      intro k hk f hf
      obtain ⟨f, rfl⟩ : ∃ y, f = y + 1 := ⟨f - 1, by omega⟩
      have e1 : Int32.ofNat k + Int32.ofInt 1 = Int32.ofNat (k + 1) := m_n_add k 1
      have tl : t (s + k) < 127 := (h.2.2 (s + k) (by omega)).1
      have cl := (x3 k (by omega)).2
      conv => lhs; unfold D_m_isWord_24
      simp only [show m_c1 .eq (1 : Int32) = false from rfl, x1, Option.bind_some, ge_n (show k < 2147483648 by omega) (show cs.length < 2147483648 by omega), decide_eq_false (show ¬ cs.length ≤ k by omega), cond_false, g6, m_n_add, tape_m h (show s + k < L by omega), x2 k (by omega), ne_n (show t (s + k) < 2147483648 by omega) (show cs.getD k 0 < 2147483648 by omega), e1]
      unfold mt
      by_cases w : t (s + k) = cs.getD k 0
      · rw [decide_eq_true w, decide_eq_false (show ¬ ¬ t (s + k) = cs.getD k 0 from fun n => n w), Bool.true_and]
        exact ih (k + 1) (by omega) f (by omega)
      · rw [decide_eq_false w, decide_eq_true w]
        obtain ⟨f, rfl⟩ : ∃ y, f = y + 1 := ⟨f - 1, by omega⟩
        rfl
  unfold D_m_isWord isW
  simp only [x1, Option.bind_some, g6, g7, m_n_sub hs, ne_n (show e - s < 2147483648 by omega) (show cs.length < 2147483648 by omega)]
  by_cases w : e - s = cs.length
  · rw [decide_eq_true w, decide_eq_false (show ¬ ¬ e - s = cs.length from fun n => n w), Bool.true_and]
    exact loop (by omega) cs.length 0 (by omega) F (by omega)
  · rw [decide_eq_false w, decide_eq_true w]
    obtain ⟨F', rfl⟩ : ∃ y, F = y + 1 := ⟨F - 1, by omega⟩
    rfl
theorem named_m {x s n : Nat} {cs : List Nat} (hx : txs x cs) (h : Tp t L S) (hs : s ≤ e) (he : e ≤ L) (hn : n < 150) (s31 : S.1 31 = Int32.ofNat (n + 1)) (g6 : rd S 587 n = Int32.ofNat s) (g7 : rd S 588 n = Int32.ofNat e) (hF : 100 < F) : D_m_isNamed F x S = some (b2i (isW t s e cs)) := by
  obtain ⟨x1, x2, x3, x4⟩ := hx
  have hL := h.1
  have loop : s + cs.length = e → ∀ n k, k + n = cs.length → ∀ f, n + 1 < f → D_m_isNamed_41 F f x (Int32.ofNat s) 1 (Int32.ofNat k) S = some (b2i (mt t cs s n k)) := by
    intro hse n
    induction n with
    | zero =>
      intro k hk f hf
      obtain ⟨f, rfl⟩ : ∃ y, f = y + 1 := ⟨f - 1, by omega⟩
      conv => lhs; unfold D_m_isNamed_41
      rw [x1, Option.bind_some, ge_n (by omega) (by omega), decide_eq_true (by omega)]
      rfl
    | succ n ih =>
      intro k hk f hf
      obtain ⟨f, rfl⟩ : ∃ y, f = y + 1 := ⟨f - 1, by omega⟩
      have e1 : Int32.ofNat k + Int32.ofInt 1 = Int32.ofNat (k + 1) := m_n_add k 1
      have tl : t (s + k) < 127 := (h.2.2 (s + k) (by omega)).1
      have cl := (x3 k (by omega)).2
      conv => lhs; unfold D_m_isNamed_41
      simp only [show m_c1 .eq (1 : Int32) = false from rfl, x1, Option.bind_some, ge_n (show k < 2147483648 by omega) (show cs.length < 2147483648 by omega), decide_eq_false (show ¬ cs.length ≤ k by omega), cond_false, m_n_add, tape_m h (show s + k < L by omega), x2 k (by omega), ne_n (show t (s + k) < 2147483648 by omega) (show cs.getD k 0 < 2147483648 by omega), e1]
      unfold mt
      by_cases w : t (s + k) = cs.getD k 0
      · rw [decide_eq_true w, decide_eq_false (show ¬ ¬ t (s + k) = cs.getD k 0 from fun n => n w), Bool.true_and]
        exact ih (k + 1) (by omega) f (by omega)
      · rw [decide_eq_false w, decide_eq_true w]
        obtain ⟨f, rfl⟩ : ∃ y, f = y + 1 := ⟨f - 1, by omega⟩
        rfl
  have e0 : Int32.ofNat (n + 1) - 1 = Int32.ofNat n := m_n_sub (a := n + 1) (b := 1) (by omega)
  have a1 : aget 0 150 S 587 (Int32.ofNat n) = some (Int32.ofNat s) := (aget_n (Or.inl rfl) hn (by decide)).trans (by rw [g6])
  have a2 : aget 0 150 S 588 (Int32.ofNat n) = some (Int32.ofNat e) := (aget_n (Or.inl rfl) hn (by decide)).trans (by rw [g7])
  unfold D_m_isNamed isW
  simp only [s31, e0, a1, a2, x1, Option.bind_some, m_n_sub hs, ne_n (show e - s < 2147483648 by omega) (show cs.length < 2147483648 by omega)]
  by_cases w : e - s = cs.length
  · rw [decide_eq_true w, decide_eq_false (show ¬ ¬ e - s = cs.length from fun n => n w), Bool.true_and]
    exact loop (by omega) cs.length 0 (by omega) F (by omega)
  · rw [decide_eq_false w, decide_eq_true w]
    obtain ⟨F', rfl⟩ : ∃ y, F = y + 1 := ⟨F - 1, by omega⟩
    rfl
end
