/-! blank and post, by their rows. -/
theorem m_ix_n {e N : Nat} (h : e < N) (hN : N < 2147483648) : m_ix (Int32.ofNat e) N := ⟨m_n_neg (by omega), by rw [m_n_cl (by omega)]; exact h⟩
/-- d places of hand from e on are zeroed -/
def m_hz : Nat → Nat → mS → mS
  | 0, _, S => S
  | d + 1, e, S => m_hz d (e + 1) (up2 S 625 e 0)
def G_blank (S : mS) (ty fr to_ nu key : Int32) : mS := up2 (up2 (up2 (up2 (up2 (up2 (m_hz 22 0 S) 625 0 ty) 625 1 fr) 625 2 to_) 625 3 nu) 625 4 (key / 4)) 625 5 (key - key / 4 * 4)
theorem l_blank9 {l : Launch} {w0 : List mM} {x1 x2 x3 x4 x5 : Int32} : ∀ (d e : Nat) (S : mS) (w : List mM), m_RM S w → m_Fr w0 w m_dom → e + d = 22 → m_Rs l M_304 (3, [(6, .int (Int32.ofNat e)), (0, .ref 583), (1, .int x1), (2, .int x2), (3, .int x3), (4, .int x4), (5, .int x5)], [], w) (fun v w' => v = none ∧ m_RM (up2 (up2 (up2 (up2 (up2 (up2 (m_hz d e S) 625 0 x1) 625 1 x2) 625 2 x3) 625 3 x4) 625 4 (x5 / 4)) 625 5 (x5 - x5 / 4 * 4)) w' ∧ m_Fr w0 w' m_dom) 0 0 2 200 := by
  intro d
  induction d with
  | zero =>
    intro e S w h hF he
    exact K_blank_3_0 h hF (m_c2n (a := e) (b := 22) (by omega) (by omega) (decide_eq_true (p := 22 ≤ e) (by omega))) ⟨by decide, by decide⟩ ⟨by decide, by decide⟩ ⟨by decide, by decide⟩ ⟨by decide, by decide⟩ ⟨by decide, by decide⟩ ⟨by decide, by decide⟩ (fun w1 h1 hF1 => ⟨rfl, h1, hF1⟩)
  | succ d ih =>
    intro e S w h hF he
    refine K_blank_3_1 h hF (m_c2n (a := e) (b := 22) (by omega) (by omega) (decide_eq_false (p := 22 ≤ e) (by omega))) (m_ix_n (by omega) (by omega)) (fun w1 h1 hF1 => ?_)
    rw [m_n_cl (by omega)] at h1
    rw [m_n_inc]
    exact ih (e + 1) _ w1 h1 hF1 (by omega)
theorem T_blank {l : Launch} {w : List mM} {S : mS} {ty fr to_ nu key : Int32} (h : m_RM S w) : m_Rs l M_304 (m_ent M_304 [.ref 583, .int ty, .int fr, .int to_, .int nu, .int key] w) (fun v w' => v = none ∧ m_RM (G_blank S ty fr to_ nu key) w' ∧ m_Fr w w' m_dom) 0 0 2 200 :=
  K_blank_0_0 h m_Fr.refl (fun w1 h1 hF1 => l_blank9 22 0 S w1 h1 hF1 rfl)
/-- d places of hand from e on go into message m -/
def m_hp (m : Nat) : Nat → Nat → mS → mS
  | 0, _, S => S
  | d + 1, e, S => m_hp m d (e + 1) (up2 S 624 (22 * m + e) (m_rd 0 (S.2 625) (Int32.ofNat e)))
def G_post (S : mS) (m : Nat) : mS := if m = 100 then up1 S 39 (S.1 39 + 1) else up1 (m_hp m 22 0 S) 77 ((m_hp m 22 0 S).1 77 + 1)
theorem m_hp_1 {m : Nat} : ∀ (d e : Nat) (S : mS), (m_hp m d e S).1 = S.1 := by
  intro d
  induction d with
  | zero => intro e S; rfl
  | succ d ih => intro e S; exact ih (e + 1) _
theorem l_post9 {l : Launch} {w0 : List mM} {m : Nat} (hm : m < 100) : ∀ (d e : Nat) (S : mS) (w : List mM), S.1 77 = Int32.ofNat m → m_RM S w → m_Fr w0 w m_dom → e + d = 22 → m_Rs l M_305 (22, [(1, .int (Int32.ofNat e)), (0, .ref 583)], [], w) (fun v w' => v = none ∧ m_RM (up1 (m_hp m d e S) 77 ((m_hp m d e S).1 77 + 1)) w' ∧ m_Fr w0 w' m_dom) 0 0 2 200 := by
  intro d
  induction d with
  | zero =>
    intro e S w hS h hF he
    exact K_post_22_0 h hF (m_c2n (a := e) (b := 22) (by omega) (by omega) (decide_eq_true (p := 22 ≤ e) (by omega))) (fun w1 h1 hF1 => ⟨rfl, h1, hF1⟩)
  | succ d ih =>
    intro e S w hS h hF he
    have e9 : (22 : Int32) * S.1 77 + Int32.ofNat e = Int32.ofNat (22 * m + e) := by
      rw [hS]
      show Int32.ofNat 22 * Int32.ofNat m + Int32.ofNat e = _
      rw [m_n_mul, m_n_add]
    refine K_post_22_1 h hF (m_c2n (a := e) (b := 22) (by omega) (by omega) (decide_eq_false (p := 22 ≤ e) (by omega))) (m_ix_n (by omega) (by omega)) (by rw [e9]; exact m_ix_n (by omega) (by omega)) (fun w1 h1 hF1 => ?_)
    rw [e9, m_n_cl (by omega)] at h1
    rw [m_n_inc]
    exact ih (e + 1) _ w1 hS h1 hF1 (by omega)
theorem T_post {l : Launch} {w : List mM} {S : mS} {m : Nat} (hm : m ≤ 100) (hS : S.1 77 = Int32.ofNat m) (h : m_RM S w) : m_Rs l M_305 (m_ent M_305 [.ref 583] w) (fun v w' => v = none ∧ m_RM (G_post S m) w' ∧ m_Fr w w' m_dom) 0 0 2 200 := by
  unfold G_post
  by_cases h9 : m = 100
  · rw [if_pos h9]
    exact K_post_0_1 h m_Fr.refl (by rw [hS]; exact m_c2n (a := m) (b := 100) (by omega) (by omega) (decide_eq_false (p := ¬ m = 100) (by omega))) (fun w1 h1 hF1 => ⟨rfl, h1, hF1⟩)
  · rw [if_neg h9]
    exact K_post_0_0 h m_Fr.refl (by rw [hS]; exact m_c2n (a := m) (b := 100) (by omega) (by omega) (decide_eq_true (p := ¬ m = 100) (by omega))) (fun w1 h1 hF1 => l_post9 (by omega) 22 0 S w1 hS h1 hF1 rfl)
