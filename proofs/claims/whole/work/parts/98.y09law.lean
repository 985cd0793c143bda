/-! The law's loop. -/
section
variable {l : Launch} {n j o : Nat} {sc : Nat → Int32} {w : List mM} {T T' : tT} {S S' : mS}
theorem LInv.h5 (h : LInv j o T S) : T.1 512 = some (house S.1) ∧ 630 < T.2.1 := by
  obtain ⟨X, Y, Z, Q, rs, c, k1, k2, m, τ, ν, lam, β1, β2, tp, f, hR, hP, h630, _⟩ := h
  exact ⟨hR.1.2.1, hR.1.1.1 _ _ h630⟩
/-- the loop from its head, for the calls that are still to come -/
def Go (l : Launch) (n : Nat) (sc : Nat → Int32) (j : Nat) : Prop := ∀ (o : Nat) (T : tT) (S : mS) (w : List mM), LInv j o T S → RT T w → m_RM S w → m_Law l n sc (23, [(4, .int (Int32.ofNat (6 * j))), (3, .ref 630), (2, .ref 583), (1, .ref 512), (0, .ref 500)], [], w) (600600 - o - T.2.1) (7057000 - 6 * o - T.2.2)
theorem l_fin {o' : Nat} (hj : 6 * j + 5 < n) (hn : n ≤ 3072) (ho : o ≤ o') (hL : LInv (j + 1) o' T' S') (k : Go l n sc (j + 1)) : ∀ w', RT T' w' → m_RM S' w' → m_Law l n sc (816, [(4, .int (Int32.ofNat (6 * j))), (3, .ref 630), (2, .ref 583), (1, .ref 512), (0, .ref 500)], [], w') (600600 - o - T'.2.1) (7057000 - 6 * o - T'.2.2) := fun w' hT hM => by
  refine w_next (by omega) ?_
  have := k o' T' S' w' hL hT hM
  rw [show 6 * (j + 1) = 6 * j + 6 by omega] at this
  exact this.mono (by omega) (by omega)
theorem l_room {o' : Nat} (hj : 6 * j + 5 < n) (hn : n ≤ 3072) (ho : o ≤ o') (hL : LInv (j + 1) o' T' S') : T'.2.1 ≤ 600600 - o ∧ T'.2.2 ≤ 7057000 - 6 * o := by
  have := hL.room (by omega)
  omega
theorem l_type (hj : 6 * j + 5 < n) (hn : n ≤ 3072) (h : LInv j o T S) (hT : RT T w) (hM : m_RM S w) (k : Go l n sc (j + 1)) : m_Law l n sc (132, [(4, .int (Int32.ofNat (6 * j))), (3, .ref 630), (2, .ref 583), (1, .ref 512), (0, .ref 500)], [], w) (600600 - o - T.2.1) (7057000 - 6 * o - T.2.2) := by
  obtain ⟨g5, g6⟩ := h.h5
  obtain ⟨v, T', S', o', e1, e2, ho, hL⟩ := s_type (by omega) h
  obtain ⟨r1, r2⟩ := l_room hj hn ho hL
  exact w_type hj (by omega) hT hM g5 g6 (T_c_EdgeHouse_type (l := l) (okr_some (show 512 < T.2.1 by omega)) hT e1).1 e1 e2 r1 r2 (l_fin hj hn ho hL k)
theorem l_drop (hj : 6 * j + 5 < n) (hn : n ≤ 3072) (h : LInv j o T S) (hT : RT T w) (hM : m_RM S w) (k : Go l n sc (j + 1)) : m_Law l n sc (245, [(4, .int (Int32.ofNat (6 * j))), (3, .ref 630), (2, .ref 583), (1, .ref 512), (0, .ref 500)], [], w) (600600 - o - T.2.1) (7057000 - 6 * o - T.2.2) := by
  obtain ⟨g5, g6⟩ := h.h5
  obtain ⟨v, T', S', o', e1, e2, ho, hL⟩ := s_drop (by omega) h
  obtain ⟨r1, r2⟩ := l_room hj hn ho hL
  exact w_drop hj (by omega) hT hM g5 g6 (T_c_EdgeHouse_drop (l := l) (okr_some (show 512 < T.2.1 by omega)) hT e1).1 e1 e2 r1 r2 (l_fin hj hn ho hL k)
theorem l_ask (hj : 6 * j + 5 < n) (hn : n ≤ 3072) (h : LInv j o T S) (hT : RT T w) (hM : m_RM S w) (k : Go l n sc (j + 1)) : m_Law l n sc (270, [(4, .int (Int32.ofNat (6 * j))), (3, .ref 630), (2, .ref 583), (1, .ref 512), (0, .ref 500)], [], w) (600600 - o - T.2.1) (7057000 - 6 * o - T.2.2) := by
  obtain ⟨g5, g6⟩ := h.h5
  obtain ⟨v, T', S', o', e1, e2, ho, hL⟩ := s_ask (by omega) h
  obtain ⟨r1, r2⟩ := l_room hj hn ho hL
  exact w_ask hj (by omega) hT hM g5 g6 (T_c_EdgeHouse_ask (l := l) (okr_some (show 512 < T.2.1 by omega)) hT e1).1 e1 e2 r1 r2 (l_fin hj hn ho hL k)
theorem l_fault (hj : 6 * j + 5 < n) (hn : n ≤ 3072) (h : LInv j o T S) (hT : RT T w) (hM : m_RM S w) (k : Go l n sc (j + 1)) : m_Law l n sc (283, [(4, .int (Int32.ofNat (6 * j))), (3, .ref 630), (2, .ref 583), (1, .ref 512), (0, .ref 500)], [], w) (600600 - o - T.2.1) (7057000 - 6 * o - T.2.2) := by
  obtain ⟨g5, g6⟩ := h.h5
  obtain ⟨v, S', o', e1, e2, ho, hL⟩ := s_fault (by omega) h
  obtain ⟨r1, r2⟩ := l_room hj hn ho hL
  exact w_fault hj (by omega) hT hM g5 g6 (Nat.le_refl _) e1 e2 r1 r2 (l_fin hj hn ho hL k)
theorem l_deliver (hj : 6 * j + 5 < n) (hn : n ≤ 3072) (h : LInv j o T S) (hT : RT T w) (hM : m_RM S w) (k : Go l n sc (j + 1)) : m_Law l n sc (296, [(4, .int (Int32.ofNat (6 * j))), (3, .ref 630), (2, .ref 583), (1, .ref 512), (0, .ref 500)], [], w) (600600 - o - T.2.1) (7057000 - 6 * o - T.2.2) := by
  obtain ⟨g5, g6⟩ := h.h5
  obtain ⟨v, T', S', o', e1, e2, ho, hL⟩ := s_deliver (by omega) h
  obtain ⟨r1, r2⟩ := l_room hj hn ho hL
  exact w_deliver hj (by omega) hT hM g5 g6 (T_c_EdgeHouse_deliver (l := l) (okr_some (show 512 < T.2.1 by omega)) hT e1).1 e1 e2 r1 r2 (l_fin hj hn ho hL k)
theorem l_lose (hj : 6 * j + 5 < n) (hn : n ≤ 3072) (h : LInv j o T S) (hT : RT T w) (hM : m_RM S w) (k : Go l n sc (j + 1)) : m_Law l n sc (321, [(4, .int (Int32.ofNat (6 * j))), (3, .ref 630), (2, .ref 583), (1, .ref 512), (0, .ref 500)], [], w) (600600 - o - T.2.1) (7057000 - 6 * o - T.2.2) := by
  obtain ⟨g5, g6⟩ := h.h5
  obtain ⟨v, T', S', o', e1, e2, ho, hL⟩ := s_lose (by omega) h
  obtain ⟨r1, r2⟩ := l_room hj hn ho hL
  exact w_lose hj (by omega) hT hM g5 g6 (T_c_EdgeHouse_lose (l := l) (okr_some (show 512 < T.2.1 by omega)) hT e1).1 e1 e2 r1 r2 (l_fin hj hn ho hL k)
theorem l_settle (hj : 6 * j + 5 < n) (hn : n ≤ 3072) (h : LInv j o T S) (hT : RT T w) (hM : m_RM S w) (k : Go l n sc (j + 1)) : m_Law l n sc (346, [(4, .int (Int32.ofNat (6 * j))), (3, .ref 630), (2, .ref 583), (1, .ref 512), (0, .ref 500)], [], w) (600600 - o - T.2.1) (7057000 - 6 * o - T.2.2) := by
  obtain ⟨g5, g6⟩ := h.h5
  obtain ⟨v, T', S', o', e1, e2, ho, hL⟩ := s_settle (by omega) h
  obtain ⟨r1, r2⟩ := l_room hj hn ho hL
  exact w_settle hj (by omega) hT hM g5 g6 (T_c_EdgeHouse_settle (l := l) (okr_some (show 512 < T.2.1 by omega)) hT e1).1 e1 e2 r1 r2 (l_fin hj hn ho hL k)
theorem l_purge (hj : 6 * j + 5 < n) (hn : n ≤ 3072) (h : LInv j o T S) (hT : RT T w) (hM : m_RM S w) (k : Go l n sc (j + 1)) : m_Law l n sc (359, [(4, .int (Int32.ofNat (6 * j))), (3, .ref 630), (2, .ref 583), (1, .ref 512), (0, .ref 500)], [], w) (600600 - o - T.2.1) (7057000 - 6 * o - T.2.2) := by
  obtain ⟨g5, g6⟩ := h.h5
  obtain ⟨v, T', S', o', e1, e2, ho, hL⟩ := s_purge (by omega) h
  obtain ⟨r1, r2⟩ := l_room hj hn ho hL
  exact w_purge hj (by omega) hT hM g5 g6 (T_c_EdgeHouse_purge (l := l) (okr_some (show 512 < T.2.1 by omega)) hT e1).1 e1 e2 r1 r2 (l_fin hj hn ho hL k)
theorem l_fail (hj : 6 * j + 5 < n) (hn : n ≤ 3072) (h : LInv j o T S) (hT : RT T w) (hM : m_RM S w) (k : Go l n sc (j + 1)) : m_Law l n sc (452, [(4, .int (Int32.ofNat (6 * j))), (3, .ref 630), (2, .ref 583), (1, .ref 512), (0, .ref 500)], [], w) (600600 - o - T.2.1) (7057000 - 6 * o - T.2.2) := by
  obtain ⟨g5, g6⟩ := h.h5
  obtain ⟨v, T', S', o', e1, e2, ho, hL⟩ := s_fail (by omega) h
  obtain ⟨r1, r2⟩ := l_room hj hn ho hL
  exact w_fail hj (by omega) hT hM g5 g6 (T_c_EdgeHouse_fail (l := l) (okr_some (show 512 < T.2.1 by omega)) hT e1).1 e1 e2 r1 r2 (l_fin hj hn ho hL k)
theorem l_back (hj : 6 * j + 5 < n) (hn : n ≤ 3072) (h : LInv j o T S) (hT : RT T w) (hM : m_RM S w) (k : Go l n sc (j + 1)) : m_Law l n sc (477, [(4, .int (Int32.ofNat (6 * j))), (3, .ref 630), (2, .ref 583), (1, .ref 512), (0, .ref 500)], [], w) (600600 - o - T.2.1) (7057000 - 6 * o - T.2.2) := by
  obtain ⟨g5, g6⟩ := h.h5
  obtain ⟨v, T', S', o', e1, e2, ho, hL⟩ := s_back (by omega) h
  obtain ⟨r1, r2⟩ := l_room hj hn ho hL
  exact w_back hj (by omega) hT hM g5 g6 (T_c_EdgeHouse_back (l := l) (okr_some (show 512 < T.2.1 by omega)) hT e1).1 e1 e2 r1 r2 (l_fin hj hn ho hL k)
theorem l_budget (hj : 6 * j + 5 < n) (hn : n ≤ 3072) (h : LInv j o T S) (hT : RT T w) (hM : m_RM S w) (k : Go l n sc (j + 1)) : m_Law l n sc (502, [(4, .int (Int32.ofNat (6 * j))), (3, .ref 630), (2, .ref 583), (1, .ref 512), (0, .ref 500)], [], w) (600600 - o - T.2.1) (7057000 - 6 * o - T.2.2) := by
  obtain ⟨g5, g6⟩ := h.h5
  obtain ⟨v, T', S', o', e1, e2, ho, hL⟩ := s_budget (by omega) h
  obtain ⟨r1, r2⟩ := l_room hj hn ho hL
  exact w_budget hj (by omega) hT hM g5 g6 (T_c_EdgeHouse_budget (l := l) (okr_some (show 512 < T.2.1 by omega)) hT e1).1 e1 e2 r1 r2 (l_fin hj hn ho hL k)
theorem l_letter (hj : 6 * j + 5 < n) (hn : n ≤ 3072) (h : LInv j o T S) (hT : RT T w) (hM : m_RM S w) (k : Go l n sc (j + 1)) : m_Law l n sc (607, [(4, .int (Int32.ofNat (6 * j))), (3, .ref 630), (2, .ref 583), (1, .ref 512), (0, .ref 500)], [], w) (600600 - o - T.2.1) (7057000 - 6 * o - T.2.2) := by
  obtain ⟨g5, g6⟩ := h.h5
  obtain ⟨v, T', S', o', e1, e2, ho, hL⟩ := s_letter (by omega) h
  obtain ⟨r1, r2⟩ := l_room hj hn ho hL
  exact w_letter hj (by omega) hT hM g5 g6 (T_c_EdgeHouse_letter (l := l) (okr_some (show 512 < T.2.1 by omega)) hT e1).1 e1 e2 r1 r2 (l_fin hj hn ho hL k)
theorem l_node (hj : 6 * j + 5 < n) (hn : n ≤ 3072) (h : LInv j o T S) (hT : RT T w) (hM : m_RM S w) (k : Go l n sc (j + 1)) : m_Law l n sc (644, [(4, .int (Int32.ofNat (6 * j))), (3, .ref 630), (2, .ref 583), (1, .ref 512), (0, .ref 500)], [], w) (600600 - o - T.2.1) (7057000 - 6 * o - T.2.2) := by
  obtain ⟨g5, g6⟩ := h.h5
  obtain ⟨v, S', o', e1, e2, ho, hL⟩ := s_node (by omega) h
  obtain ⟨r1, r2⟩ := l_room hj hn ho hL
  exact w_node hj (by omega) hT hM g5 g6 (Nat.le_refl _) e1 e2 r1 r2 (l_fin hj hn ho hL k)
theorem l_entry (hj : 6 * j + 5 < n) (hn : n ≤ 3072) (h : LInv j o T S) (hT : RT T w) (hM : m_RM S w) (k : Go l n sc (j + 1)) : m_Law l n sc (681, [(4, .int (Int32.ofNat (6 * j))), (3, .ref 630), (2, .ref 583), (1, .ref 512), (0, .ref 500)], [], w) (600600 - o - T.2.1) (7057000 - 6 * o - T.2.2) := by
  obtain ⟨g5, g6⟩ := h.h5
  obtain ⟨v, S', o', e1, e2, ho, hL⟩ := s_entry (by omega) h
  obtain ⟨r1, r2⟩ := l_room hj hn ho hL
  exact w_entry hj (by omega) hT hM g5 g6 (Nat.le_refl _) e1 e2 r1 r2 (l_fin hj hn ho hL k)
theorem l_message (hj : 6 * j + 5 < n) (hn : n ≤ 3072) (h : LInv j o T S) (hT : RT T w) (hM : m_RM S w) (k : Go l n sc (j + 1)) : m_Law l n sc (754, [(4, .int (Int32.ofNat (6 * j))), (3, .ref 630), (2, .ref 583), (1, .ref 512), (0, .ref 500)], [], w) (600600 - o - T.2.1) (7057000 - 6 * o - T.2.2) := by
  obtain ⟨g5, g6⟩ := h.h5
  obtain ⟨v, S', o', e1, e2, ho, hL⟩ := s_message (by omega) h
  obtain ⟨r1, r2⟩ := l_room hj hn ho hL
  exact w_message hj (by omega) hT hM g5 g6 (Nat.le_refl _) e1 e2 r1 r2 (l_fin hj hn ho hL k)
theorem l_total (hj : 6 * j + 5 < n) (hn : n ≤ 3072) (h : LInv j o T S) (hT : RT T w) (hM : m_RM S w) (k : Go l n sc (j + 1)) : m_Law l n sc (791, [(4, .int (Int32.ofNat (6 * j))), (3, .ref 630), (2, .ref 583), (1, .ref 512), (0, .ref 500)], [], w) (600600 - o - T.2.1) (7057000 - 6 * o - T.2.2) := by
  obtain ⟨g5, g6⟩ := h.h5
  obtain ⟨v, S', o', e1, e2, ho, hL⟩ := s_total (by omega) h
  obtain ⟨r1, r2⟩ := l_room hj hn ho hL
  exact w_total hj (by omega) hT hM g5 g6 (Nat.le_refl _) e1 e2 r1 r2 (l_fin hj hn ho hL k)
theorem l_thr {q1 q2 : Nat} (hj : 6 * j + 5 < n) (hn : n ≤ 3072) (hq : q1 = 0 ∨ q1 = 1) (hq2 : q2 = 6 * q1) (hL : LInv (j + 1) (o + 1) T' S') (k : Go l n sc (j + 1)) : (T'.2.1 + q1 ≤ 600600 - o ∧ T'.2.2 + q2 ≤ 7057000 - 6 * o) ∧ ∀ w', RT T' w' → m_RM S' w' → m_Law l n sc (816, [(4, .int (Int32.ofNat (6 * j))), (3, .ref 630), (2, .ref 583), (1, .ref 512), (0, .ref 500)], [], w') (600600 - o - q1 - T'.2.1) (7057000 - 6 * o - q2 - T'.2.2) := by
  have hr := hL.room (by omega)
  refine ⟨by omega, fun w' hT hM => w_next (by omega) ?_⟩
  have := k (o + 1) T' S' w' hL hT hM
  rw [show 6 * (j + 1) = 6 * j + 6 by omega] at this
  exact this.mono (by omega) (by omega)
theorem l_update (hfl : l.flags = pinnedFlags ++ [noTraceFlag]) (hj : 6 * j + 5 < n) (hn : n ≤ 3072) (h : LInv j o T S) (hT : RT T w) (hM : m_RM S w) (k : Go l n sc (j + 1)) : m_Law l n sc (201, [(4, .int (Int32.ofNat (6 * j))), (3, .ref 630), (2, .ref 583), (1, .ref 512), (0, .ref 500)], [], w) (600600 - o - T.2.1) (7057000 - 6 * o - T.2.2) := by
  obtain ⟨g5, g6⟩ := h.h5
  rcases s_update (by omega) h with ⟨v, T', S', f, e1, e2, e0, h630, hL⟩ | ⟨T1, T2, S', b1, b2, e2, e0, hL⟩
  · obtain ⟨j1, j2, w', hw, hT', hM'⟩ := h_updg (l := l) hT hM g5 g6 e1 h630
    obtain ⟨⟨r1, r2⟩, kk⟩ := l_thr (q1 := 0) (q2 := 0) hj hn (Or.inl rfl) rfl hL k
    exact w_update (T' := lgT T' f v.toInt64) (q1 := 0) (q2 := 0) hj (by omega) hT g6 j1 j2 e2 e0 hw hT' hM' (Or.inr ⟨rfl, _, tset_eq, if_pos rfl⟩) r1 r2 kk
  · obtain ⟨j1, j2, w', hT', hF', st⟩ := z_upd (l := l) hT g5 (by omega) b1 b2 hL.h5.1
    obtain ⟨⟨r1, r2⟩, kk⟩ := l_thr (q1 := 1) (q2 := 6) hj hn (Or.inr rfl) rfl hL k
    have hw := h_upd hT g5 (y_upd hfl (Nat.le_of_ble_eq_true rfl) st (Nat.le_refl _) (Nat.le_refl _))
    rw [Nat.zero_add, Nat.zero_add] at hw
    exact w_update (q1 := 1) (q2 := 6) hj (by omega) hT g6 j1 j2 e2 e0 hw hT' (hM.fm hF') (Or.inl (by decide)) r1 r2 kk
theorem l_tick (hfl : l.flags = pinnedFlags ++ [noTraceFlag]) (hj : 6 * j + 5 < n) (hn : n ≤ 3072) (h : LInv j o T S) (hT : RT T w) (hM : m_RM S w) (k : Go l n sc (j + 1)) : m_Law l n sc (396, [(4, .int (Int32.ofNat (6 * j))), (3, .ref 630), (2, .ref 583), (1, .ref 512), (0, .ref 500)], [], w) (600600 - o - T.2.1) (7057000 - 6 * o - T.2.2) := by
  obtain ⟨g5, g6⟩ := h.h5
  rcases s_tick (by omega) h with ⟨v, T', S', f, e1, e2, e0, h630, hL⟩ | ⟨S', hb, e2, e0, hL⟩
  · obtain ⟨j1, j2, w', hw, hT', hM'⟩ := h_tickg (l := l) hT hM g5 g6 e1 h630
    obtain ⟨⟨r1, r2⟩, kk⟩ := l_thr (q1 := 0) (q2 := 0) hj hn (Or.inl rfl) rfl hL k
    exact w_tick (T' := lgT T' f v.toInt64) (q1 := 0) (q2 := 0) hj (by omega) hT g6 j1 j2 e2 e0 hw hT' hM' (Or.inr ⟨rfl, _, tset_eq, if_pos rfl⟩) r1 r2 kk
  · obtain ⟨⟨r1, r2⟩, kk⟩ := l_thr (q1 := 1) (q2 := 6) hj hn (Or.inr rfl) rfl hL k
    have hw := h_tick hT g5 (y_tick hfl (Nat.le_of_ble_eq_true rfl) (z_tick (l := l) (w := w) hb) (by decide) (by decide))
    rw [Nat.zero_add, Nat.zero_add] at hw
    exact w_tick (T' := T) (q1 := 1) (q2 := 6) hj (by omega) hT g6 (Nat.le_refl _) (Nat.le_refl _) e2 e0 (by rw [Nat.sub_self, Nat.sub_self]; exact hw) hT hM (Or.inl (by decide)) r1 r2 kk
theorem l_answer (hfl : l.flags = pinnedFlags ++ [noTraceFlag]) (hj : 6 * j + 5 < n) (hn : n ≤ 3072) (h : LInv j o T S) (hT : RT T w) (hM : m_RM S w) (k : Go l n sc (j + 1)) : m_Law l n sc (539, [(4, .int (Int32.ofNat (6 * j))), (3, .ref 630), (2, .ref 583), (1, .ref 512), (0, .ref 500)], [], w) (600600 - o - T.2.1) (7057000 - 6 * o - T.2.2) := by
  obtain ⟨g5, g6⟩ := h.h5
  rcases s_answer (by omega) h with ⟨v, T', S', f, e1, e2, e0, h630, hL⟩ | ⟨rk, e, S', ls, ea, e2, e0, hL⟩
  · obtain ⟨j1, j2, w', hw, hT', hM'⟩ := h_ansg (l := l) hT hM g5 g6 e1 h630
    obtain ⟨⟨r1, r2⟩, kk⟩ := l_thr (q1 := 0) (q2 := 0) hj hn (Or.inl rfl) rfl hL k
    exact w_answer (T' := lgT T' f v.toInt64) (q1 := 0) (q2 := 0) hj (by omega) hT g6 j1 j2 e2 e0 hw hT' hM' (Or.inr ⟨rfl, _, tset_eq, if_pos rfl⟩) r1 r2 kk
  · obtain ⟨⟨r1, r2⟩, kk⟩ := l_thr (q1 := 1) (q2 := 6) hj hn (Or.inr rfl) rfl hL k
    rcases ea with ⟨rfl, hb⟩ | ⟨rfl, hb1, hb2, hb3⟩
    · have hw := h_ans hT g5 (y_ans hfl (Nat.le_of_ble_eq_true rfl) (z_ans (l := l) (w := w) (y := sc (6 * j + 2)) hT g5 (by omega) ls hb) (by decide) (by decide))
      rw [Nat.zero_add, Nat.zero_add] at hw
      exact w_answer (T' := T) (q1 := 1) (q2 := 6) hj (by omega) hT g6 (Nat.le_refl _) (Nat.le_refl _) e2 e0 (by rw [Nat.sub_self, Nat.sub_self]; exact hw) hT hM (Or.inl (by decide)) r1 r2 kk
    · have hw := h_an2 hT g5 (y_an2 hfl (Nat.le_of_ble_eq_true rfl) (z_an2 (l := l) (w := w) (y := sc (6 * j + 2)) hT g5 (by omega) ls hb1 hb2 hb3) (by decide) (by decide))
      rw [Nat.zero_add, Nat.zero_add] at hw
      exact w_answer (T' := T) (q1 := 1) (q2 := 6) hj (by omega) hT g6 (Nat.le_refl _) (Nat.le_refl _) e2 e0 (by rw [Nat.sub_self, Nat.sub_self]; exact hw) hT hM (Or.inl (by decide)) r1 r2 kk
theorem l_all (hfl : l.flags = pinnedFlags ++ [noTraceFlag]) (hj : 6 * j + 5 < n) (hn : n ≤ 3072) (h : LInv j o T S) (hT : RT T w) (hM : m_RM S w) (k : Go l n sc (j + 1)) : ∀ t, t ∈ lawOps → m_Law l n sc (t, [(4, .int (Int32.ofNat (6 * j))), (3, .ref 630), (2, .ref 583), (1, .ref 512), (0, .ref 500)], [], w) (600600 - o - T.2.1) (7057000 - 6 * o - T.2.2) := by
  intro t ht
  have hd : LInv (j + 1) o T S := by
    obtain ⟨X, Y, Z, Q, rs, c, k1, k2, m, τ, ν, lam, β1, β2, tp, f, hR, hP, h630, h2, n1, n2, n3, n4, n5, n6, n7⟩ := h
    exact ⟨X, Y, Z, Q, rs, c, k1, k2, m, τ, ν, lam, β1, β2, tp, f, hR, hP, h630, h2, n1, by omega, by omega, by omega, by omega, n6, n7⟩
  unfold lawOps at ht
  simp only [List.mem_cons, List.mem_nil_iff, or_false] at ht
  rcases ht with q | q | q | q | q | q | q | q | q | q | q | q | q | q | q | q | q | q | q | q
  · rw [q]; exact l_type hj hn h hT hM k
  · rw [q]; exact l_update hfl hj hn h hT hM k
  · rw [q]; exact l_drop hj hn h hT hM k
  · rw [q]; exact l_ask hj hn h hT hM k
  · rw [q]; exact l_fault hj hn h hT hM k
  · rw [q]; exact l_deliver hj hn h hT hM k
  · rw [q]; exact l_lose hj hn h hT hM k
  · rw [q]; exact l_settle hj hn h hT hM k
  · rw [q]; exact l_purge hj hn h hT hM k
  · rw [q]; exact l_tick hfl hj hn h hT hM k
  · rw [q]; exact l_fail hj hn h hT hM k
  · rw [q]; exact l_back hj hn h hT hM k
  · rw [q]; exact l_budget hj hn h hT hM k
  · rw [q]; exact l_answer hfl hj hn h hT hM k
  · rw [q]; exact l_letter hj hn h hT hM k
  · rw [q]; exact l_node hj hn h hT hM k
  · rw [q]; exact l_entry hj hn h hT hM k
  · rw [q]; exact l_message hj hn h hT hM k
  · rw [q]; exact l_total hj hn h hT hM k
  · rw [q]; exact l_fin hj hn (Nat.le_refl _) hd k w hT hM
theorem l_loop (hfl : l.flags = pinnedFlags ++ [noTraceFlag]) (hn : n ≤ 3072) : ∀ (r j : Nat), n ≤ 6 * (j + r) → 6 * j ≤ n → Go l n sc j := by
  intro r
  induction r with
  | zero =>
    intro j h1 h2 o T S w hL hT hM
    exact w_head (by omega) h2 (fun q => by omega)
  | succ r ih =>
    intro j h1 h2 o T S w hL hT hM
    refine w_head (by omega) h2 (fun q => l_all hfl q hn hL hT hM ?_)
    by_cases w : 6 * (j + 1) ≤ n
    · exact ih (j + 1) (by omega) w
    · omega
end
