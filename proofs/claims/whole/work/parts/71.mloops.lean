/-! suits, sizes, remove of the reference, by their rows. -/
/-- the first sort from w on that suits, of the key fe -/
def m_su (S : mS) (fe : Nat) (wants : Int32) : Nat → Nat → Int32
  | 0, _ => -1
  | d + 1, v => cond (m_c1 .eq (m_rd 4 (S.2 601) (Int32.ofNat (8 * fe + v)))) (m_su S fe wants d (v + 1)) (cond (m_c2 .ne (F_mwhich (F_mtold (S.2 603) (Int32.ofNat (8 * fe + v)) 8) wants) (Int32.ofNat v)) (m_su S fe wants d (v + 1)) (Int32.ofNat (8 * fe + v)))
theorem l_suits {l : Launch} {w0 : List mM} {S : mS} {fe : Nat} (hf : fe < 896) {x2 : Int32} : ∀ (d v : Nat) (w : List mM), m_RM S w → m_Fr w0 w m_dom → v + d = 8 → m_Rs l M_277 (2, [(3, .int (Int32.ofNat v)), (0, .ref 583), (1, .int (Int32.ofNat fe)), (2, .int x2)], [], w) (fun u w' => u = some (.int (m_su S fe x2 d v)) ∧ m_RM S w' ∧ m_Fr w0 w' m_dom) 0 0 3 300 := by
  intro d
  induction d with
  | zero =>
    intro v w h hF he
    exact K_suits_2_0 h hF (m_c2n (a := v) (b := 8) (by omega) (by omega) (decide_eq_true (p := 8 ≤ v) (by omega))) (fun w1 h1 hF1 => ⟨rfl, h1, hF1⟩)
  | succ d ih =>
    intro v w h hF he
    have e1 : (8 : Int32) * Int32.ofNat fe + Int32.ofNat v = Int32.ofNat (8 * fe + v) := by
      show Int32.ofNat 8 * Int32.ofNat fe + Int32.ofNat v = _
      rw [m_n_mul, m_n_add]
    have e2 : (9 : Int32) * Int32.ofNat (8 * fe + v) + 8 = Int32.ofNat (9 * (8 * fe + v) + 8) := by
      show Int32.ofNat 9 * Int32.ofNat (8 * fe + v) + Int32.ofNat 8 = _
      rw [m_n_mul, m_n_add]
    have hc1 : m_c2 .ge (Int32.ofNat v) (8 : Int32) = false := m_c2n (a := v) (b := 8) (by omega) (by omega) (decide_eq_false (p := 8 ≤ v) (by omega))
    have g1 : m_ix ((8 : Int32) * Int32.ofNat fe + Int32.ofNat v) 7168 := by rw [e1]; exact m_ix_n (by omega) (by omega)
    have g2 : m_ix ((9 : Int32) * ((8 : Int32) * Int32.ofNat fe + Int32.ofNat v) + 8) 64512 := by rw [e1, e2]; exact m_ix_n (by omega) (by omega)
    cases hc2 : m_c1 .eq (m_rd 4 (S.2 601) (Int32.ofNat (8 * fe + v))) with
    | true =>
      have e9 : m_su S fe x2 (d + 1) v = m_su S fe x2 d (v + 1) := by simp only [m_su, hc2, cond_true]
      rw [e9]
      refine K_suits_2_1 h hF hc1 (by rw [e1]; exact hc2) g1 (fun w1 h1 hF1 => ?_)
      rw [m_n_inc]
      exact ih (v + 1) w1 h1 hF1 (by omega)
    | false =>
      cases hc3 : m_c2 .ne (F_mwhich (F_mtold (S.2 603) (Int32.ofNat (8 * fe + v)) 8) x2) (Int32.ofNat v) with
      | true =>
        have e9 : m_su S fe x2 (d + 1) v = m_su S fe x2 d (v + 1) := by simp only [m_su, hc2, hc3, cond_true, cond_false]
        rw [e9]
        refine K_suits_2_2 h hF hc1 (by rw [e1]; exact hc2) (by rw [e1]; exact hc3) g1 g2 (fun w1 h1 hF1 => ?_)
        rw [m_n_inc]
        exact ih (v + 1) w1 h1 hF1 (by omega)
      | false =>
        have e9 : m_su S fe x2 (d + 1) v = Int32.ofNat (8 * fe + v) := by simp only [m_su, hc2, hc3, cond_false]
        rw [e9]
        refine K_suits_2_3 h hF hc1 (by rw [e1]; exact hc2) (by rw [e1]; exact hc3) g1 g2 (fun w1 h1 hF1 => ?_)
        rw [e1]
        exact ⟨rfl, h1, hF1⟩
theorem T_suits {l : Launch} {w : List mM} {S : mS} {fe : Nat} (hf : fe < 896) {wants : Int32} (h : m_RM S w) : m_Rs l M_277 (m_ent M_277 [.ref 583, .int (Int32.ofNat fe), .int wants] w) (fun u w' => u = some (.int (m_su S fe wants 8 0)) ∧ m_RM S w' ∧ m_Fr w w' m_dom) 0 0 3 300 :=
  K_suits_0_0 h m_Fr.refl (fun w1 h1 hF1 => l_suits hf 8 0 w1 h1 hF1 rfl)
/-- what an entry counts in sizes -/
def m_sz1 (S : mS) (ko : Int32) (e : Nat) : Int32 := cond (m_c1 .eq (m_rd 4 (S.2 601) (Int32.ofNat e))) 0 (cond (m_c1 .eq ko) (F_msize (S.2 607) (Int32.ofNat e)) (cond (m_c1 .eq (m_rd 4 (S.2 602) (Int32.ofNat e))) 0 (F_msize (S.2 607) (Int32.ofNat e))))
def m_sz (S : mS) (ko : Int32) : Nat → Nat → Int32 → Int32
  | 0, _, a => a
  | d + 1, e, a => m_sz S ko d (e + 1) (a + m_sz1 S ko e)
theorem l_sizes9 {l : Launch} {w0 : List mM} {S : mS} {n : Nat} (hn : n < 7) {x2 : Int32} : ∀ (d e : Nat) (a : Int32) (w : List mM), m_RM S w → m_Fr w0 w m_dom → e + d = 1024 * n + 1024 → m_Rs l M_297 (9, [(4, .int (Int32.ofNat e)), (3, .int a), (0, .ref 583), (1, .int (Int32.ofNat n)), (2, .int x2)], [], w) (fun u w' => u = some (.int (m_sz S x2 d e a)) ∧ m_RM S w' ∧ m_Fr w0 w' m_dom) 0 0 3 300 := by
  intro d
  have e1 : (1024 : Int32) * Int32.ofNat n + 1024 = Int32.ofNat (1024 * n + 1024) := by
    show Int32.ofNat 1024 * Int32.ofNat n + Int32.ofNat 1024 = _
    rw [m_n_mul, m_n_add]
  induction d with
  | zero =>
    intro e a w h hF he
    exact K_sizes_9_0 h hF (by rw [e1]; exact m_c2n (a := e) (b := 1024 * n + 1024) (by omega) (by omega) (decide_eq_true (p := 1024 * n + 1024 ≤ e) (by omega))) (fun w1 h1 hF1 => ⟨rfl, h1, hF1⟩)
  | succ d ih =>
    intro e a w h hF he
    have hc1 : m_c2 .ge (Int32.ofNat e) ((1024 : Int32) * Int32.ofNat n + 1024) = false := by rw [e1]; exact m_c2n (a := e) (b := 1024 * n + 1024) (by omega) (by omega) (decide_eq_false (p := 1024 * n + 1024 ≤ e) (by omega))
    have g1 : m_ix (Int32.ofNat e) 7168 := m_ix_n (by omega) (by omega)
    have e9 : m_sz S x2 (d + 1) e a = m_sz S x2 d (e + 1) (a + m_sz1 S x2 e) := rfl
    rw [e9]
    cases hc2 : m_c1 .eq (m_rd 4 (S.2 601) (Int32.ofNat e)) with
    | true =>
      rw [show m_sz1 S x2 e = 0 by simp only [m_sz1, hc2, cond_true]]
      refine K_sizes_9_1 h hF hc1 hc2 g1 (fun w1 h1 hF1 => ?_)
      rw [m_n_inc]
      exact ih (e + 1) _ w1 h1 hF1 (by omega)
    | false =>
      cases hc3 : m_c1 .eq x2 with
      | true =>
        rw [show m_sz1 S x2 e = F_msize (S.2 607) (Int32.ofNat e) by simp only [m_sz1, hc2, hc3, cond_true, cond_false]]
        refine K_sizes_9_2 h hF hc1 hc2 hc3 g1 g1 (fun w1 h1 hF1 => ?_)
        rw [m_n_inc]
        exact ih (e + 1) _ w1 h1 hF1 (by omega)
      | false =>
        cases hc4 : m_c1 .eq (m_rd 4 (S.2 602) (Int32.ofNat e)) with
        | true =>
          rw [show m_sz1 S x2 e = 0 by simp only [m_sz1, hc2, hc3, hc4, cond_true, cond_false]]
          refine K_sizes_9_3 h hF hc1 hc2 hc3 hc4 g1 g1 (fun w1 h1 hF1 => ?_)
          rw [m_n_inc]
          exact ih (e + 1) _ w1 h1 hF1 (by omega)
        | false =>
          rw [show m_sz1 S x2 e = F_msize (S.2 607) (Int32.ofNat e) by simp only [m_sz1, hc2, hc3, hc4, cond_false]]
          refine K_sizes_9_4 h hF hc1 hc2 hc3 hc4 g1 g1 g1 (fun w1 h1 hF1 => ?_)
          rw [m_n_inc]
          exact ih (e + 1) _ w1 h1 hF1 (by omega)
theorem T_sizes {l : Launch} {w : List mM} {S : mS} {n : Nat} (hn : n < 7) {ko : Int32} (h : m_RM S w) : m_Rs l M_297 (m_ent M_297 [.ref 583, .int (Int32.ofNat n), .int ko] w) (fun u w' => u = some (.int (m_sz S ko 1024 (1024 * n) 0)) ∧ m_RM S w' ∧ m_Fr w w' m_dom) 0 0 3 300 := by
  refine K_sizes_0_0 h m_Fr.refl (fun w1 h1 hF1 => ?_)
  rw [show (1024 : Int32) * Int32.ofNat n = Int32.ofNat (1024 * n) from m_n_mul 1024 n]
  exact l_sizes9 hn 1024 (1024 * n) 0 w1 h1 hF1 rfl
/-- rows of messages move up by one: d places from e on -/
def m_rm : Nat → Nat → mS → mS
  | 0, _, S => S
  | d + 1, e, S => m_rm d (e + 1) (up2 S 624 e (m_rd 0 (S.2 624) (Int32.ofNat (e + 22))))
theorem l_remove {l : Launch} {w0 : List mM} {m : Nat} (hm : 1 ≤ m) (hm2 : m ≤ 100) {x1 : Int32} : ∀ (d e : Nat) (S : mS) (w : List mM), S.1 77 = Int32.ofNat m → m_RM S w → m_Fr w0 w m_dom → e + d = 22 * (m - 1) → m_Rs l M_316 (5, [(2, .int (Int32.ofNat e)), (0, .ref 583), (1, .int x1)], [], w) (fun v w' => v = none ∧ m_RM (up1 (m_rm d e S) 77 (Int32.ofNat (m - 1))) w' ∧ m_Fr w0 w' m_dom) 0 0 2 200 := by
  intro d
  induction d with
  | zero =>
    intro e S w hS h hF he
    have e1 : S.1 77 - (1 : Int32) = Int32.ofNat (m - 1) := by rw [hS]; exact m_n_sub (a := m) (b := 1) hm
    have e2 : (22 : Int32) * Int32.ofNat (m - 1) = Int32.ofNat (22 * (m - 1)) := m_n_mul 22 (m - 1)
    refine K_remove_5_0 h hF (by rw [e1, e2]; exact m_c2n (a := e) (b := 22 * (m - 1)) (by omega) (by omega) (decide_eq_true (p := 22 * (m - 1) ≤ e) (by omega))) (fun w1 h1 hF1 => ?_)
    rw [e1] at h1
    exact ⟨rfl, h1, hF1⟩
  | succ d ih =>
    intro e S w hS h hF he
    have e1 : S.1 77 - (1 : Int32) = Int32.ofNat (m - 1) := by rw [hS]; exact m_n_sub (a := m) (b := 1) hm
    have e2 : (22 : Int32) * Int32.ofNat (m - 1) = Int32.ofNat (22 * (m - 1)) := m_n_mul 22 (m - 1)
    have e3 : Int32.ofNat e + (22 : Int32) = Int32.ofNat (e + 22) := m_n_add e 22
    refine K_remove_5_1 h hF (by rw [e1, e2]; exact m_c2n (a := e) (b := 22 * (m - 1)) (by omega) (by omega) (decide_eq_false (p := 22 * (m - 1) ≤ e) (by omega))) (by rw [e3]; exact m_ix_n (by omega) (by omega)) (m_ix_n (by omega) (by omega)) (fun w1 h1 hF1 => ?_)
    rw [e3, m_n_cl (by omega)] at h1
    rw [m_n_inc]
    exact ih (e + 1) _ w1 hS h1 hF1 (by omega)
theorem T_remove {l : Launch} {w : List mM} {S : mS} {m k : Nat} (hk : k < m) (hm2 : m ≤ 100) (hS : S.1 77 = Int32.ofNat m) (h : m_RM S w) : m_Rs l M_316 (m_ent M_316 [.ref 583, .int (Int32.ofNat k)] w) (fun v w' => v = none ∧ m_RM (up1 (m_rm (22 * (m - 1) - 22 * k) (22 * k) S) 77 (Int32.ofNat (m - 1))) w' ∧ m_Fr w w' m_dom) 0 0 2 200 := by
  refine K_remove_0_0 h m_Fr.refl (fun w1 h1 hF1 => ?_)
  rw [show (22 : Int32) * Int32.ofNat k = Int32.ofNat (22 * k) from m_n_mul 22 k]
  exact l_remove (by omega) hm2 _ (22 * k) S w1 hS h1 hF1 (by omega)
