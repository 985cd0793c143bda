/-! A fetch is made for a request. -/
def nodeM (S : mS) (n : Nat) (ms : Int32) : tC := .inl (4, [.int (Int32.ofNat n), .ref (528 + 8 * n), .ref (531 + 8 * n), .ref (532 + 8 * n), .ref (533 + 8 * n), .ref (534 + 8 * n), .int (rd S 591 n), .int (rd S 593 n), .int (rd S 594 n), .int ms, .int (rd S 596 n)])
section
variable {T : tT} {S : mS} {F n : Nat}
/-- the class: a new fetch with one that waits -/
theorem c_letNew (hN : okN T) (hnode : T.1 (527 + 8 * n) = some (nodeC S n)) {q p v : Nat} {g : Nat → Int32} {cc r b : Option Nat} (hq : T.1 q = some (cReq g cc r b)) (g0 : g 0 = Int32.ofNat p) (g1 : g 1 = Int32.ofNat v) (g6 : flag (g 6)) (hno : D_c_Node_fetchOf F (527 + 8 * n) (Int32.ofNat p) (Int32.ofNat v) T = some none) (mi : Int32) : ∃ T1, D_c_EdgeHouse_letWait F 512 (some (527 + 8 * n)) (some q) mi T = some (some T.2.1, T1) ∧ T1.1 T.2.1 = some (cFetch (fup (newG g mi) 11 (Int32.ofNat 1)) (some q) (some q)) ∧ T.1 T.2.1 = none ∧ T1.1 (527 + 8 * n) = some (nodeM S n (rd S 595 n + 1)) ∧ T1.1 q = some (cReq g cc r none) ∧ ∀ b c, T.1 b = some c → ¬ b = 527 + 8 * n → ¬ b = q → T1.1 b = some c := by
  have e9 : tgi T (527 + 8 * n) 4 9 = some (rd S 595 n) := tgi_o hnode rfl
  have p9 : tpi T (527 + 8 * n) 4 9 (rd S 595 n + 1) = some (tset T (527 + 8 * n) (nodeM S n (rd S 595 n + 1))) := (tp_o hnode (show 9 < 11 by decide)).trans rfl
  let T0 : tT := tset T (527 + 8 * n) (nodeM S n (rd S 595 n + 1))
  have N0 : okN T0 := by
    intro b c hb
    have hb' : (tset T (527 + 8 * n) (nodeM S n (rd S 595 n + 1))).1 b = some c := hb
    rw [tset_1] at hb'
    show b < T.2.1
    split at hb'
    · rename_i w; rw [w]; exact hN _ _ hnode
    · exact hN _ _ hb'
  have nq : ¬ q = 527 + 8 * n := kd_ne hq hnode (show ¬ (6 : Nat) = 4 by decide)
  have hq0 : T0.1 q = some (cReq g cc r b) := tset_o hq nq
  obtain ⟨m1, m2, m3⟩ := new_fetch N0
  have m3' : T.1 T.2.1 = none := (new_fetch hN).2.2
  have mf := c_newF (F := F) N0 hq0 g6
  let fa : Nat := T.2.1
  let T4 : tT := tset (tadd T0 (cFetch (fun _ => 0) none none) 14) T0.2.1 (cFetch (newG g 0) none none)
  have nqa : ¬ q = fa := fun w => by rw [w] at hq; rw [show T.1 fa = none from m3'] at hq; cases hq
  have nna : ¬ 527 + 8 * n = fa := fun w => by rw [w] at hnode; rw [show T.1 fa = none from m3'] at hnode; cases hnode
  have old : ∀ (G : tC) b c, T.1 b = some c → ¬ b = 527 + 8 * n → (tset (tadd T0 (cFetch (fun _ => 0) none none) 14) fa G).1 b = some c := by
    intro G b c hb h1
    have h2 : ¬ b = fa := fun w => by rw [w] at hb; rw [show T.1 fa = none from m3'] at hb; cases hb
    rw [tset_1, if_neg h2, tadd_1, if_neg (show ¬ b = T0.2.1 from h2)]
    exact tset_o hb h1
  have oldn : ∀ (G : tC), (tset (tadd T0 (cFetch (fun _ => 0) none none) 14) fa G).1 (527 + 8 * n) = some (nodeM S n (rd S 595 n + 1)) := by
    intro G
    rw [tset_1, if_neg nna, tadd_1, if_neg (show ¬ 527 + 8 * n = T0.2.1 from nna)]
    exact tset_at
  -- the fetch before it is joined
  have base : ∃ T5 : tT, D_c_EdgeHouse_letWait F 512 (some (527 + 8 * n)) (some q) mi T = D_c_EdgeHouse_letWait_72 F 512 (some q) (some fa) T5 ∧ T5 = tset (tadd T0 (cFetch (fun _ => 0) none none) 14) fa (cFetch (newG g mi) none none) := by
    refine ⟨_, ?_, rfl⟩
    simp only [D_c_EdgeHouse_letWait, Option.bind_some, Qg0 hq, Qg1 hq, tcl_o hnode, g0, g1, hno, nc, e9, p9, bd2]
    show ((tnw T0 10).bind fun q' => (D_c_Fetch_init F q'.1 (some q) q'.2).bind fun T34 => cond (m_c1 .eq mi) (D_c_EdgeHouse_letWait_72 F 512 (some q) (some q'.1) T34) _) = _
    rw [m1, Option.bind_some]
    show ((D_c_Fetch_init F T0.2.1 (some q) (tadd T0 (cFetch (fun _ => 0) none none) 14)).bind fun T34 => cond (m_c1 .eq mi) (D_c_EdgeHouse_letWait_72 F 512 (some q) (some T0.2.1) T34) _) = _
    rw [mf, Option.bind_some]
    by_cases w : mi = 0
    · subst w
      rfl
    · have w1 : m_c1 .eq mi = false := by simp [m_c1, w]
      rw [w1, cond_false, ntz_c, Option.bind_some, Fp5 tset_at, Option.bind_some, nlz_c, Option.bind_some, Fp6 tset_at, Option.bind_some, tset_tset, tset_tset]
      have : cFetch (fup (fup (newG g 0) 5 (v_ntz mi)) 6 (31 - v_nlz mi)) none none = cFetch (newG g mi) none none := by
        refine cFetch_ext (fun i hi => ?_)
        unfold fup newG
        match i, hi with
        | 0, _ => rfl
        | 1, _ => rfl
        | 2, _ => rfl
        | 3, _ => rfl
        | 4, _ => rfl
        | 5, _ => simp [w]
        | 6, _ => simp [w]
        | 7, _ => rfl
        | 8, _ => rfl
        | 9, _ => rfl
        | 10, _ => rfl
        | 11, _ => rfl
      rw [this]
      rfl
  obtain ⟨T5, b1, b2⟩ := base
  have f5 : T5.1 fa = some (cFetch (fup (newG g mi) 11 (Int32.ofNat ([] : List Nat).length)) ([] : List Nat).head? ([] : List Nat).getLast?) := by
    rw [b2, tset_at]
    rfl
  have q5 : T5.1 q = some (cReq g cc r b) := by rw [b2]; exact old _ _ _ hq nq
  obtain ⟨T1, t1, t2, t3, t4, t5, t6⟩ := c_join (F := F) f5 q5 (fun x w => by cases w) (fun w => by cases w)
  refine ⟨T1, ?_, t2, m3', ?_, t3, fun b c hb h1 h2 => ?_⟩
  · rw [b1]
    unfold D_c_EdgeHouse_letWait_72
    rw [Option.bind_some, tcl_o f5, Option.bind_some, t1]
    rfl
  · refine t5 _ _ (by rw [b2]; exact oldn _) nna (fun w => nq w.symm) (fun w => by cases w)
  · refine t5 b c (by rw [b2]; exact old _ b c hb h1) (fun w => ?_) h2 (fun w => by cases w)
    rw [w] at hb
    rw [show T.1 fa = none from m3'] at hb
    cases hb
end
