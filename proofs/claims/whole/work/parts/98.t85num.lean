/-! Numbers, texts that must be there, runs of letters. -/
/-- at most n digits -/
def rdN (t : Nat → Nat) (L : Nat) : Nat → Nat → Nat → Nat × Nat
  | 0, p, v => (p, v)
  | n + 1, p, v => if isD (hc t L p) = true then rdN t L n (p + 1) (10 * v + (hc t L p - 48)) else (p, v)
/-- a reading failed: the reference knows it, or meets a digit too many -/
def Fl (t : Nat → Nat) (L : Nat) (S : mS) (f : Nat) : Prop := (S.1 5 = 1 ∧ S.1 6 = Int32.ofNat f) ∨ (S.1 5 = 0 ∧ S.1 4 = Int32.ofNat f ∧ f < L ∧ isD (hc t L f) = true)
section
variable {T : tT} {S S' : mS} {t : Nat → Nat} {L p F k c m : Nat} {g : Nat → Int32} {r : Option Nat × Option Nat × Option Nat} {K : List Nat}
theorem isD_lt (h : isD (hc t L p) = true) : p < L ∧ 48 ≤ hc t L p ∧ hc t L p ≤ 57 := by
  unfold isD at h
  rw [Bool.and_eq_true, decide_eq_true_eq, decide_eq_true_eq] at h
  refine ⟨?_, h.1, h.2⟩
  by_cases w : p < L
  · exact w
  · unfold hc at h; rw [if_neg w] at h; omega
theorem isS_lt (h : isS (hc t L p) = true) : p < L := by
  by_cases w : p < L
  · exact w
  · unfold hc at h; rw [if_neg w] at h; exact absurd h (by decide)
theorem rdN_le : ∀ (n p v : Nat), p ≤ (rdN t L n p v).1 ∧ (rdN t L n p v).1 ≤ p + n ∧ (p ≤ L → (rdN t L n p v).1 ≤ L) ∧ (rdN t L n p v).2 + 1 ≤ (v + 1) * 10 ^ n := by
  intro n
  induction n with
  | zero => intro p v; refine ⟨Nat.le_refl p, Nat.le_refl p, fun h => h, ?_⟩; show v + 1 ≤ (v + 1) * 1; omega
  | succ n ih =>
    intro p v
    unfold rdN
    by_cases w : isD (hc t L p) = true
    · rw [if_pos w]
      obtain ⟨w1, w2, w3⟩ := isD_lt w
      obtain ⟨i1, i2, i3, i4⟩ := ih (p + 1) (10 * v + (hc t L p - 48))
      refine ⟨by omega, by omega, fun _ => i3 (by omega), Nat.le_trans i4 ?_⟩
      rw [Nat.pow_succ, Nat.mul_comm (10 ^ n) 10, ← Nat.mul_assoc]
      exact Nat.mul_le_mul_right _ (by omega)
    · rw [if_neg w]
      refine ⟨Nat.le_refl p, by omega, fun h => h, ?_⟩
      show v + 1 ≤ (v + 1) * 10 ^ (n + 1)
      exact Nat.le_mul_of_pos_right _ (by first | exact Nat.pow_pos (by decide) | exact Nat.pos_pow (by decide))
theorem num_c (h : Tc t L T) {x1 x2 : Int32} : ∀ (n p v : Nat) (g : Nat → Int32), n ≤ 5 → p ≤ L → (v + 1) * 10 ^ n ≤ 100000 → g 2 = Int32.ofNat p → g 9 = Int32.ofNat v → ∀ f, n < f → ∃ g', D_c_Reader_readNumber_12 F f 513 x1 x2 (Int32.ofNat (5 - n)) (kR T L r g) = D_c_Reader_readNumber_62 F 513 x1 x2 (kR T L r g') ∧ g' 2 = Int32.ofNat (rdN t L n p v).1 ∧ g' 9 = Int32.ofNat (rdN t L n p v).2 ∧ Gs [2, 9] g g' := by
  intro n
  induction n with
  | zero =>
    intro p v g _ hp hv g2 g9 f hf
    obtain ⟨f, rfl⟩ : ∃ y, f = y + 1 := ⟨f - 1, by omega⟩
    exact ⟨g, rfl, g2, g9, Gs.refl⟩
  | succ n ih =>
    intro p v g hn hp hv g2 g9 f hf
    obtain ⟨f, rfl⟩ : ∃ y, f = y + 1 := ⟨f - 1, by omega⟩
    have st : D_c_Reader_readNumber_12 F (f + 1) 513 x1 x2 (Int32.ofNat (5 - (n + 1))) (kR T L r g) = cond (!(isD (hc t L p))) (D_c_Reader_readNumber_62 F 513 x1 x2 (kR T L r g)) (D_c_Reader_readNumber_12 F f 513 x1 x2 (Int32.ofNat (5 - (n + 1)) + Int32.ofInt 1) (kR T L r (fup (fup g 9 ((10 : Int32) * Int32.ofNat v + (Int32.ofNat (hc t L p) - 48))) 2 (Int32.ofNat p + 1)))) := by
      conv => lhs; unfold D_c_Reader_readNumber_12
      rw [show (5 : Int32) = Int32.ofNat 5 from rfl, ge_n (by omega) (by decide), decide_eq_false (show ¬ 5 ≤ 5 - (n + 1) by omega), cond_false]
      simp only [Kcl, here_v h g2 hp, dg_c h.lt, Option.bind_some, b_eq0, Kg9, g9, Kp9, Kg2, Kp2, fup_ne (show ¬ 2 = 9 by decide), g2]
    rw [st]
    unfold rdN
    by_cases w : isD (hc t L p) = true
    · rw [if_pos w, w]
      obtain ⟨w1, w2, w3⟩ := isD_lt w
      have e1 : (10 : Int32) * Int32.ofNat v + (Int32.ofNat (hc t L p) - 48) = Int32.ofNat (10 * v + (hc t L p - 48)) := by
        rw [show (10 : Int32) = Int32.ofNat 10 from rfl, show (48 : Int32) = Int32.ofNat 48 from rfl, m_n_mul, m_n_sub w2, m_n_add]
      have e2 : Int32.ofNat p + 1 = Int32.ofNat (p + 1) := m_n_add p 1
      have e3 : Int32.ofNat (5 - (n + 1)) + Int32.ofInt 1 = Int32.ofNat (5 - n) := (m_n_add (5 - (n + 1)) 1).trans (by rw [show 5 - (n + 1) + 1 = 5 - n by omega])
      rw [e1, e2, e3]
      obtain ⟨g', y1, y2, y3, y4⟩ := ih (p + 1) (10 * v + (hc t L p - 48)) (fup (fup g 9 (Int32.ofNat (10 * v + (hc t L p - 48)))) 2 (Int32.ofNat (p + 1))) (by omega) (by omega) (by
        refine Nat.le_trans ?_ hv
        rw [Nat.pow_succ, Nat.mul_comm (10 ^ n) 10, ← Nat.mul_assoc]
        exact Nat.mul_le_mul_right _ (by omega)) fup_eq ((fup_ne (by decide)).trans fup_eq) f (by omega)
      exact ⟨g', y1, y2, y3, ((Gs.fup (by decide)).trans (Gs.fup (by decide))).trans y4⟩
    · rw [if_neg w, Bool.eq_false_iff.mpr w]
      exact ⟨g, rfl, g2, g9, Gs.refl⟩
theorem num_m {x1 : Int32} {s : Nat} : ∀ (n p v : Nat) (S : mS), Tp t L S → n ≤ 5 → p ≤ L → p + n = s + 5 → S.1 4 = Int32.ofNat p → ∀ f, n < f → ∃ S', D_m_number_16 F f x1 (Int32.ofNat s) (Int32.ofNat v) S = D_m_number_62 F x1 (Int32.ofNat s) (Int32.ofNat (rdN t L n p v).2) S' ∧ S'.1 4 = Int32.ofNat (rdN t L n p v).1 ∧ Fs [4] S S' := by
  intro n
  induction n with
  | zero =>
    intro p v S h _ hp hs s4 f hf
    obtain ⟨f, rfl⟩ : ∃ y, f = y + 1 := ⟨f - 1, by omega⟩
    refine ⟨S, ?_, s4, Fs.refl⟩
    have hL := h.1
    conv => lhs; unfold D_m_number_16
    rw [see_v h s4 hp, Option.bind_some, dg_m h, Option.bind_some, s4, m_n_sub (by omega), show (5 : Int32) = Int32.ofNat 5 from rfl, ge_n (by omega) (by decide), decide_eq_true (show 5 ≤ p - s by omega), cond_true]
    cases m_c1 .eq (b2i (isD (hc t L p))) <;> rfl
  | succ n ih =>
    intro p v S h hn hp hs s4 f hf
    obtain ⟨f, rfl⟩ : ∃ y, f = y + 1 := ⟨f - 1, by omega⟩
    have hL := h.1
    have st : D_m_number_16 F (f + 1) x1 (Int32.ofNat s) (Int32.ofNat v) S = cond (!(isD (hc t L p))) (D_m_number_62 F x1 (Int32.ofNat s) (Int32.ofNat v) S) (D_m_number_16 F f x1 (Int32.ofNat s) ((((10 : Int32) * Int32.ofNat v) + sv t L p) - 48) (up1 S 4 (Int32.ofNat p + 1))) := by
      conv => lhs; unfold D_m_number_16
      rw [see_v h s4 hp, Option.bind_some, dg_m h, Option.bind_some, s4, m_n_sub (by omega), show (5 : Int32) = Int32.ofNat 5 from rfl, ge_n (by omega) (by decide), decide_eq_false (show ¬ 5 ≤ p - s by omega), cond_false, b_eq0]
      rfl
    rw [st]
    unfold rdN
    by_cases w : isD (hc t L p) = true
    · rw [if_pos w, w]
      obtain ⟨w1, w2, w3⟩ := isD_lt w
      have es : sv t L p = Int32.ofNat (hc t L p) := by unfold sv hc; rw [if_pos w1, if_pos w1]
      have e1 : (((10 : Int32) * Int32.ofNat v) + sv t L p) - 48 = Int32.ofNat (10 * v + (hc t L p - 48)) := by
        rw [es, show (10 : Int32) = Int32.ofNat 10 from rfl, show (48 : Int32) = Int32.ofNat 48 from rfl, m_n_mul, m_n_add, m_n_sub (by omega), show 10 * v + hc t L p - 48 = 10 * v + (hc t L p - 48) by omega]
      have e2 : Int32.ofNat p + 1 = Int32.ofNat (p + 1) := m_n_add p 1
      rw [e1, e2]
      have fs : Fs [4] S (up1 S 4 (Int32.ofNat (p + 1))) := Fs.up1 (by decide)
      obtain ⟨S', y1, y2, y3⟩ := ih (p + 1) (10 * v + (hc t L p - 48)) (up1 S 4 (Int32.ofNat (p + 1))) (h.fs fs (by decide)) (by omega) (by omega) (by omega) up1_at f (by omega)
      exact ⟨S', y1, y2, fs.trans y3⟩
    · rw [if_neg w, Bool.eq_false_iff.mpr w]
      exact ⟨S, rfl, s4, Fs.refl⟩
/-- a number on both sides -/
theorem P_number (h : Tc t L T) (h' : Tp t L S) (hp : p ≤ L) (hm : m < 2147483648) (g2 : g 2 = Int32.ofNat p) (s4 : S.1 4 = Int32.ofNat p) (s5 : S.1 5 = 0) (hF : 5 < F) :
    (∃ q v g' S', D_c_Reader_readNumber F 513 (Int32.ofNat m) (kR T L r g) = some (1, kR T L r g') ∧ D_m_number F (Int32.ofNat m) S = some (Int32.ofNat v, S') ∧ g' 2 = Int32.ofNat q ∧ g' 9 = Int32.ofNat v ∧ S'.1 4 = Int32.ofNat q ∧ p < q ∧ q ≤ L ∧ v ≤ m ∧ v ≤ 99999 ∧ isD (hc t L q) = false ∧ Gs [2, 9] g g' ∧ Fs [4] S S') ∨
    (∃ f w g' S', D_c_Reader_readNumber F 513 (Int32.ofNat m) (kR T L r g) = some (0, kR T L r g') ∧ D_m_number F (Int32.ofNat m) S = some (w, S') ∧ g' 3 = Int32.ofNat f ∧ Fl t L S' f ∧ Gs [2, 3, 9] g g' ∧ Fs [4, 5, 6] S S') := by
  obtain ⟨g', y1, y2, y3, y4⟩ := num_c (F := F) (r := r) h (x1 := Int32.ofNat m) (x2 := g 2) 5 p 0 (fup g 9 0) (by decide) hp (by decide) ((fup_ne (by decide)).trans g2) fup_eq F hF
  obtain ⟨S', z1, z2, z3⟩ := num_m (F := F) (x1 := Int32.ofNat m) (s := p) 5 p 0 S h' (by decide) hp rfl s4 F hF
  obtain ⟨i1, i2, i3, i4⟩ := rdN_le (t := t) (L := L) 5 p 0
  obtain ⟨q, hq⟩ : ∃ q, q = (rdN t L 5 p 0).1 := ⟨_, rfl⟩
  obtain ⟨v, hv⟩ : ∃ v, v = (rdN t L 5 p 0).2 := ⟨_, rfl⟩
  rw [← hq] at y2 z2 i1 i2 i3
  rw [← hv] at y3 z1 i4
  have hL := h.1
  have qL := i3 hp
  have hv' : v ≤ 99999 := by omega
  have gs : Gs [2, 9] g g' := (Gs.fup (by decide)).trans y4
  have c1 : D_c_Reader_readNumber F 513 (Int32.ofNat m) (kR T L r g) = D_c_Reader_readNumber_62 F 513 (Int32.ofNat m) (Int32.ofNat p) (kR T L r g') := by
    unfold D_c_Reader_readNumber
    rw [Kg2, Option.bind_some, Kp9, Option.bind_some, ← g2]
    exact y1
  have m1 : D_m_number F (Int32.ofNat m) S = D_m_number_62 F (Int32.ofNat m) (Int32.ofNat p) (Int32.ofNat v) S' := by
    unfold D_m_number
    rw [s5, show m_c1 .eq (0 : Int32) = true from rfl, cond_true, s4]
    exact z1
  have s5' : S'.1 5 = 0 := (z3.1 5 (by decide)).trans s5
  have gs3 : ∀ x, Gs [2, 3, 9] g (fup g' 3 x) := fun x => (gs.mono (by decide)).trans (Gs.fup (by decide))
  have fs3 : ∀ x, Fs [4, 5, 6] S (up1 (up1 S' 5 1) 6 x) := fun x => (z3.mono (by decide)).trans ((Fs.up1 (by decide)).trans (Fs.up1 (by decide)))
  have cno : ∀ x, D_c_Reader_no F 513 x (kR T L r g') = some (0, kR T L r (fup g' 3 x)) := fun x => by unfold D_c_Reader_no; rw [Kp3]; rfl
  have u5 : ∀ x, (up1 (up1 S' 5 1) 6 x).1 5 = 1 := fun x => by rw [up1_no (by decide), up1_at]
  by_cases w : q = p
  · right
    have c2 : D_c_Reader_readNumber_62 F 513 (Int32.ofNat m) (Int32.ofNat p) (kR T L r g') = some (0, kR T L r (fup g' 3 (Int32.ofNat p))) := by
      unfold D_c_Reader_readNumber_62
      rw [Kg2, Option.bind_some, y2, ne_n (by omega) (by omega), decide_eq_false (by omega), cond_false, Option.bind_some, Kcl, Option.bind_some, cno, w]
      rfl
    have m2 : ∃ z, D_m_number_62 F (Int32.ofNat m) (Int32.ofNat p) (Int32.ofNat v) S' = some (z, up1 (up1 S' 5 1) 6 (Int32.ofNat p)) := by
      unfold D_m_number_62
      rw [z2, ne_n (by omega) (by omega), decide_eq_false (by omega), cond_false, wrong_m s5', Option.bind_some, w]
      unfold D_m_number_79 D_m_number_90
      rw [wrong_d (u5 _)]
      simp only [u5, Option.bind_some, show m_c1 .eq (1 : Int32) = false from rfl, cond_false]
      cases m_c2 .le (Int32.ofNat v) (Int32.ofNat m) <;> exact ⟨_, rfl⟩
    obtain ⟨z, m2⟩ := m2
    exact ⟨p, z, _, _, c1.trans c2, m1.trans m2, fup_eq, Or.inl ⟨u5 _, up1_at⟩, gs3 _, fs3 _⟩
  · have cA : D_c_Reader_readNumber_62 F 513 (Int32.ofNat m) (Int32.ofNat p) (kR T L r g') = cond (decide (v ≤ m)) (cond (!(isD (hc t L q))) (some (1, kR T L r g')) (some (0, kR T L r (fup g' 3 (Int32.ofNat q))))) (some (0, kR T L r (fup g' 3 (Int32.ofNat p)))) := by
      unfold D_c_Reader_readNumber_62
      rw [Kg2, Option.bind_some, y2, ne_n (by omega) (by omega), decide_eq_true (show ¬ q = p from w), cond_true, Kg9, Option.bind_some, y3, le_n (by omega) hm, Kcl, Option.bind_some, here_v h y2 qL, Option.bind_some, dg_c h.lt, Option.bind_some, b_eq0, Option.bind_some, Option.bind_some, Option.bind_some, cno, cno]
      rfl
    have mA : D_m_number_62 F (Int32.ofNat m) (Int32.ofNat p) (Int32.ofNat v) S' = cond (decide (v ≤ m)) (some (Int32.ofNat v, S')) (some (-1, up1 (up1 S' 5 1) 6 (Int32.ofNat p))) := by
      unfold D_m_number_62
      rw [z2, ne_n (by omega) (by omega), decide_eq_true (show ¬ q = p from w), cond_true]
      unfold D_m_number_79 D_m_number_90
      rw [le_n (by omega) hm, wrong_m s5', s5']
      rfl
    by_cases w2 : v ≤ m
    · rw [decide_eq_true w2, cond_true] at cA mA
      cases w3 : isD (hc t L q) with
      | false =>
        left
        rw [w3] at cA
        exact ⟨q, v, g', S', c1.trans cA, m1.trans mA, y2, y3, z2, by omega, qL, w2, hv', w3, gs, z3⟩
      | true =>
        right
        rw [w3] at cA
        exact ⟨q, _, _, S', c1.trans cA, m1.trans mA, fup_eq, Or.inr ⟨s5', z2, (isD_lt w3).1, w3⟩, gs3 _, z3.mono (by decide)⟩
    · rw [decide_eq_false w2, cond_false] at cA mA
      right
      exact ⟨p, _, _, _, c1.trans cA, m1.trans mA, fup_eq, Or.inl ⟨u5 _, up1_at⟩, gs3 _, fs3 _⟩
end
