/-! Runs of the small machine taken piece by piece, with what holds at their end. -/
def m_nn : mI → mF → Option mR := fun _ _ => none
theorem m_nx_mono {ic ic' : mI → mF → Option mR} (h : ∀ J G r, ic J G = some r → ic' J G = some r) {I : mI} {F : mF} {q : mF × Nat × Nat × Nat × Nat} (hq : m_nx ic I F = some q) : m_nx ic' I F = some q := by
  unfold m_nx at hq ⊢
  cases h1 : m_de I F.1 with
  | none => rw [h1] at hq; cases hq
  | some a =>
    obtain ⟨i, len⟩ := a
    rw [h1] at hq
    simp only at hq ⊢
    cases h2 : m_ps i F.2.2.1 with
    | some b => rw [h2] at hq; exact hq
    | none =>
      rw [h2] at hq
      simp only at hq ⊢
      cases h3 : m_lo I.2.2.1 i F.2.1 F.2.2.1 with
      | some b => rw [h3] at hq; exact hq
      | none =>
        rw [h3] at hq
        simp only at hq ⊢
        cases h4 : m_br F.2.2.2.length F.1 i len F.2.2.1 with
        | some b => rw [h4] at hq; exact hq
        | none =>
          rw [h4] at hq
          simp only at hq ⊢
          cases h5 : m_hs I i F.2.2.1 F.2.2.2 with
          | some b => rw [h5] at hq; exact hq
          | none =>
            rw [h5] at hq
            simp only at hq ⊢
            cases h6 : m_xs I i F.2.2.1 F.2.2.2 with
            | some b => rw [h6] at hq; exact hq
            | none =>
              rw [h6] at hq
              simp only at hq ⊢
              cases h7 : m_c0 I i F.2.2.1 with
              | some b => rw [h7] at hq; exact hq
              | none =>
                rw [h7] at hq
                simp only at hq ⊢
                cases h8 : m_ca I i F.2.2.1 F.2.2.2 with
                | none => rw [h8] at hq; cases hq
                | some b =>
                  obtain ⟨J, as, rest⟩ := b
                  rw [h8] at hq
                  simp only at hq ⊢
                  split at hq
                  · rename_i h9
                    rw [if_pos h9]
                    cases hr : ic J (m_ent J as F.2.2.2) with
                    | none => rw [hr] at hq; cases hq
                    | some r => rw [hr] at hq; rw [h _ _ _ hr]; exact hq
                  · cases hq
theorem m_rt_nx {ic : mI → mF → Option mR} {I : mI} {F : mF} {v : Option Value} (h : m_rt I F = some v) : m_nx ic I F = none := by
  unfold m_rt at h
  unfold m_nx
  cases h1 : m_de I F.1 with
  | none => rfl
  | some a =>
    obtain ⟨i, len⟩ := a
    rw [h1] at h
    simp only at h ⊢
    unfold m_re at h
    split at h <;> first | rfl | (cases h; done)
theorem m_exec_up : ∀ (f : Nat) (I : mI) (F : mF) (r : mR), m_exec f I F = some r → m_exec (f + 1) I F = some r := by
  intro f
  induction f with
  | zero => intro I F r h; cases h
  | succ f ih =>
    intro I F r h
    rw [m_exec_s] at h
    rw [m_exec_s]
    cases h1 : m_nx (m_exec f) I F with
    | some q =>
      obtain ⟨F', c, s, f9, l⟩ := q
      rw [h1] at h
      rw [m_nx_mono (fun J G r hr => ih J G r hr) h1]
      simp only at h ⊢
      obtain ⟨r', hr', e⟩ := Option.map_eq_some_iff.mp h
      rw [ih I F' r' hr', Option.map_some, e]
    | none =>
      rw [h1] at h
      simp only at h
      cases h2 : m_rt I F with
      | none => rw [h2] at h; cases h
      | some v =>
        rw [m_rt_nx h2]
        rw [h2] at h
        exact h
theorem m_exec_le {f g : Nat} (hfg : f ≤ g) {I : mI} {F : mF} {r : mR} (h : m_exec f I F = some r) : m_exec g I F = some r := by
  obtain ⟨k, rfl⟩ := Nat.le.dest hfg
  induction k with
  | zero => exact h
  | succ k ih => exact m_exec_up _ _ _ _ (ih (Nat.le_add_right _ _))
/-- from F method I comes to its end: P of its answer and its world; at most c cells of s slots are new; f frames, l words of locals are enough -/
def m_Rq (I : mI) (F : mF) (P : Option Value → List mM → Prop) (c s f l : Nat) : Prop := ∃ (n : Nat) (r : mR), m_exec n I F = some r ∧ P r.1 r.2.1 ∧ r.2.2.1 ≤ c ∧ r.2.2.2.1 ≤ s ∧ r.2.2.2.2.1 ≤ f ∧ r.2.2.2.2.2 ≤ l
theorem m_Rq.mono {I : mI} {F : mF} {P P' : Option Value → List mM → Prop} {c s f l c' s' f' l' : Nat} (h : m_Rq I F P c s f l) (hP : ∀ v w, P v w → P' v w) (hc : c ≤ c') (hs : s ≤ s') (hf : f ≤ f') (hl : l ≤ l') : m_Rq I F P' c' s' f' l' := by
  obtain ⟨n, r, h1, h2, h3, h4, h5, h6⟩ := h
  exact ⟨n, r, h1, hP _ _ h2, Nat.le_trans h3 hc, Nat.le_trans h4 hs, Nat.le_trans h5 hf, Nat.le_trans h6 hl⟩
theorem m_Rq.run {I : mI} {F : mF} {P : Option Value → List mM → Prop} {c s f l : Nat} (n : Nat) {r : mR} (h : m_exec n I F = some r) (h2 : P r.1 r.2.1) (h3 : r.2.2.1 ≤ c) (h4 : r.2.2.2.1 ≤ s) (h5 : r.2.2.2.2.1 ≤ f) (h6 : r.2.2.2.2.2 ≤ l) : m_Rq I F P c s f l := ⟨n, r, h, h2, h3, h4, h5, h6⟩
theorem m_Rq.ret {I : mI} {F : mF} {P : Option Value → List mM → Prop} {c s f l : Nat} {v : Option Value} (h : m_rt I F = some v) (hP : P v F.2.2.2) : m_Rq I F P c s f l := by
  refine ⟨1, (v, F.2.2.2, 0, 0, 0, 0), ?_, hP, Nat.zero_le _, Nat.zero_le _, Nat.zero_le _, Nat.zero_le _⟩
  rw [m_exec_s, m_rt_nx h]
  simp only
  rw [h]
theorem m_Rq.nx {I : mI} {F F' : mF} {P : Option Value → List mM → Prop} {c s f l dc ds fr lo : Nat} (h : m_nx m_nn I F = some (F', dc, ds, fr, lo)) (k : m_Rq I F' P c s f l) (hf : fr ≤ f) (hl : lo ≤ l) : m_Rq I F P (dc + c) (ds + s) f l := by
  obtain ⟨n, r, h1, h2, h3, h4, h5, h6⟩ := k
  refine ⟨n + 1, m_add dc ds fr lo r, ?_, h2, Nat.add_le_add_left h3 _, Nat.add_le_add_left h4 _, Nat.max_le.mpr ⟨hf, h5⟩, Nat.max_le.mpr ⟨hl, h6⟩⟩
  rw [m_exec_s, m_nx_mono (ic' := m_exec n) (fun J G r hr => by cases hr) h]
  simp only
  rw [h1, Option.map_some]
/-- k steps, none of them a call -/
def m_stp (I : mI) (k : Nat) : mF → Option (mF × Nat × Nat × Nat × Nat) := Nat.rec (fun F => some (F, 0, 0, 0, 0)) (fun _ ih F => match m_nx m_nn I F with
  | some (F', c, s, f, l) => (ih F').map (fun r => (r.1, c + r.2.1, s + r.2.2.1, max f r.2.2.2.1, max l r.2.2.2.2))
  | none => none) k
theorem m_stp_s (I : mI) (k : Nat) (F : mF) : m_stp I (k + 1) F = match m_nx m_nn I F with
  | some (F', c, s, f, l) => (m_stp I k F').map (fun r => (r.1, c + r.2.1, s + r.2.2.1, max f r.2.2.2.1, max l r.2.2.2.2))
  | none => none := rfl
theorem m_Rq.blk {I : mI} {P : Option Value → List mM → Prop} {c s f l : Nat} : ∀ (k : Nat) {F F' : mF} {dc ds fr lo : Nat}, m_stp I k F = some (F', dc, ds, fr, lo) → m_Rq I F' P c s f l → fr ≤ f → lo ≤ l → m_Rq I F P (dc + c) (ds + s) f l := by
  intro k
  induction k with
  | zero => intro F F' dc ds fr lo h hk _ _; cases h; rw [Nat.zero_add, Nat.zero_add]; exact hk
  | succ k ih =>
    intro F F' dc ds fr lo h hk hf hl
    rw [m_stp_s] at h
    cases h1 : m_nx m_nn I F with
    | none => rw [h1] at h; cases h
    | some q =>
      obtain ⟨F1, c1, s1, f1, l1⟩ := q
      rw [h1] at h
      simp only at h
      obtain ⟨⟨F2, c2, s2, f2, l2⟩, h2, e⟩ := Option.map_eq_some_iff.mp h
      cases e
      have := m_Rq.nx h1 (ih h2 hk (Nat.le_trans (Nat.le_max_right _ _) hf) (Nat.le_trans (Nat.le_max_right _ _) hl)) (Nat.le_trans (Nat.le_max_left _ _) hf) (Nat.le_trans (Nat.le_max_left _ _) hl)
      rw [← Nat.add_assoc, ← Nat.add_assoc] at this
      exact this
/-- the call at which a frame stands -/
def m_at1 (I : mI) (F : mF) : Option (mI × List Value × List Value) := match m_de I F.1 with
  | some (i, len) => match m_ps i F.2.2.1 with
    | some _ => none
    | none => match m_lo I.2.2.1 i F.2.1 F.2.2.1 with
      | some _ => none
      | none => match m_br F.2.2.2.length F.1 i len F.2.2.1 with
        | some _ => none
        | none => match m_hs I i F.2.2.1 F.2.2.2 with
          | some _ => none
          | none => match m_xs I i F.2.2.1 F.2.2.2 with
            | some _ => none
            | none => match m_c0 I i F.2.2.1 with
              | some _ => none
              | none => match m_ca I i F.2.2.1 F.2.2.2 with
                | some (J, as, rest) => if len = 3 ∧ m_okf F = true ∧ (lg_sl as).length ≤ J.2.2.1 then some (J, as, rest) else none
                | none => none
  | none => none
theorem m_at1_nx {I J : mI} {F : mF} {as rest : List Value} (h : m_at1 I F = some (J, as, rest)) {ic : mI → mF → Option mR} {r : mR} (hr : ic J (m_ent J as F.2.2.2) = some r) : m_nx ic I F = some ((F.1 + 3, F.2.1, r.1.toList ++ rest, r.2.1), r.2.2.1, r.2.2.2.1, r.2.2.2.2.1 + 1, 8 + (J.2.2.1 + 11) + r.2.2.2.2.2) := by
  unfold m_at1 at h
  unfold m_nx
  cases h1 : m_de I F.1 with
  | none => rw [h1] at h; cases h
  | some a =>
    obtain ⟨i, len⟩ := a
    rw [h1] at h
    simp only at h ⊢
    cases h2 : m_ps i F.2.2.1 with
    | some b => rw [h2] at h; cases h
    | none =>
      rw [h2] at h
      simp only at h ⊢
      cases h3 : m_lo I.2.2.1 i F.2.1 F.2.2.1 with
      | some b => rw [h3] at h; cases h
      | none =>
        rw [h3] at h
        simp only at h ⊢
        cases h4 : m_br F.2.2.2.length F.1 i len F.2.2.1 with
        | some b => rw [h4] at h; cases h
        | none =>
          rw [h4] at h
          simp only at h ⊢
          cases h5 : m_hs I i F.2.2.1 F.2.2.2 with
          | some b => rw [h5] at h; cases h
          | none =>
            rw [h5] at h
            simp only at h ⊢
            cases h6 : m_xs I i F.2.2.1 F.2.2.2 with
            | some b => rw [h6] at h; cases h
            | none =>
              rw [h6] at h
              simp only at h ⊢
              cases h7 : m_c0 I i F.2.2.1 with
              | some b => rw [h7] at h; cases h
              | none =>
                rw [h7] at h
                simp only at h ⊢
                cases h8 : m_ca I i F.2.2.1 F.2.2.2 with
                | none => rw [h8] at h; cases h
                | some b =>
                  obtain ⟨J9, as9, rest9⟩ := b
                  rw [h8] at h
                  simp only at h ⊢
                  split at h
                  · rename_i h9
                    cases h
                    rw [if_pos h9, hr]
                  · cases h
theorem m_Rq.call {I J : mI} {F : mF} {as rest : List Value} {P P1 : Option Value → List mM → Prop} {c s f l c1 s1 f1 l1 : Nat} (h : m_at1 I F = some (J, as, rest)) (hJ : m_Rq J (m_ent J as F.2.2.2) P1 c1 s1 f1 l1)
    (k : ∀ (v : Option Value) (w : List mM), P1 v w → m_Rq I (F.1 + 3, F.2.1, v.toList ++ rest, w) P c s f l) (hf : f1 + 1 ≤ f) (hl : 8 + (J.2.2.1 + 11) + l1 ≤ l) : m_Rq I F P (c1 + c) (s1 + s) f l := by
  obtain ⟨n, r, h1, h2, h3, h4, h5, h6⟩ := hJ
  obtain ⟨n', r', g1, g2, g3, g4, g5, g6⟩ := k _ _ h2
  refine ⟨max n n' + 1, m_add r.2.2.1 r.2.2.2.1 (r.2.2.2.2.1 + 1) (8 + (J.2.2.1 + 11) + r.2.2.2.2.2) r', ?_, g2, Nat.add_le_add h3 g3, Nat.add_le_add h4 g4, Nat.max_le.mpr ⟨by omega, g5⟩, Nat.max_le.mpr ⟨by omega, g6⟩⟩
  rw [m_exec_s, m_at1_nx h (m_exec_le (Nat.le_max_left n n') h1)]
  simp only
  rw [m_exec_le (Nat.le_max_right n n') g1, Option.map_some]
/-- a branch on two ints, on one -/
theorem m_Rq.icmp {I : mI} {pc t : Nat} {lv : List (Nat × Value)} {st : List Value} {w : List mM} {cc : ClassFile.Cond} {off : Int} {x y : Int32} {P : Option Value → List mM → Prop} {c s f l : Nat} (hd : m_de I pc = some (.if_icmp cc off, 3)) (hj : m_jmp pc off = some t)
    (k1 : m_c2 cc x y = true → m_Rq I (t, lv, st, w) P c s f l) (k2 : m_c2 cc x y = false → m_Rq I (pc + 3, lv, st, w) P c s f l) : m_Rq I (pc, lv, .int y :: .int x :: st, w) P c s f l := by
  have e : m_nx m_nn I (pc, lv, .int y :: .int x :: st, w) = some ((if m_c2 cc x y = true then t else pc + 3, lv, st, w), 0, 0, 0, 0) := by
    unfold m_nx
    simp only [hd, m_ps, m_lo, m_br, m_bb, hj, if_true, Option.map_some]
  cases hc : m_c2 cc x y with
  | true =>
    rw [hc, if_pos rfl] at e
    have := m_Rq.nx e (k1 hc) (Nat.zero_le _) (Nat.zero_le _)
    rw [Nat.zero_add, Nat.zero_add] at this
    exact this
  | false =>
    rw [hc, if_neg (by decide)] at e
    have := m_Rq.nx e (k2 hc) (Nat.zero_le _) (Nat.zero_le _)
    rw [Nat.zero_add, Nat.zero_add] at this
    exact this
theorem m_Rq.ifc {I : mI} {pc t : Nat} {lv : List (Nat × Value)} {st : List Value} {w : List mM} {cc : ClassFile.Cond} {off : Int} {x : Int32} {P : Option Value → List mM → Prop} {c s f l : Nat} (hd : m_de I pc = some (.ifCond cc off, 3)) (hj : m_jmp pc off = some t)
    (k1 : m_c1 cc x = true → m_Rq I (t, lv, st, w) P c s f l) (k2 : m_c1 cc x = false → m_Rq I (pc + 3, lv, st, w) P c s f l) : m_Rq I (pc, lv, .int x :: st, w) P c s f l := by
  have e : m_nx m_nn I (pc, lv, .int x :: st, w) = some ((if m_c1 cc x = true then t else pc + 3, lv, st, w), 0, 0, 0, 0) := by
    unfold m_nx
    simp only [hd, m_ps, m_lo, m_br, m_b1, hj, if_true, Option.map_some]
  cases hc : m_c1 cc x with
  | true =>
    rw [hc, if_pos rfl] at e
    have := m_Rq.nx e (k1 hc) (Nat.zero_le _) (Nat.zero_le _)
    rw [Nat.zero_add, Nat.zero_add] at this
    exact this
  | false =>
    rw [hc, if_neg (by decide)] at e
    have := m_Rq.nx e (k2 hc) (Nat.zero_le _) (Nat.zero_le _)
    rw [Nat.zero_add, Nat.zero_add] at this
    exact this
def m_veq (a b : Value) : Bool := match a, b with
  | .int x, .int y => decide (x = y)
  | .long x, .long y => decide (x = y)
  | .ref x, .ref y => decide (x = y)
  | .retAddr x, .retAddr y => decide (x = y)
  | .null, .null => true
  | _, _ => false
theorem m_veq_eq (a b : Value) (h : m_veq a b = true) : a = b := by
  unfold m_veq at h
  split at h
  · rw [of_decide_eq_true h]
  · rw [of_decide_eq_true h]
  · rw [of_decide_eq_true h]
  · rw [of_decide_eq_true h]
  · rfl
  · cases h
def m_all2 {α : Type} (f : α → α → Bool) : List α → List α → Bool
  | [], [] => true
  | a :: l, b :: k => f a b && m_all2 f l k
  | _, _ => false
theorem m_all2_eq {α : Type} {f : α → α → Bool} (h : ∀ a b, f a b = true → a = b) : ∀ (l k : List α), m_all2 f l k = true → l = k := by
  intro l
  induction l with
  | nil => intro k hk; cases k with
    | nil => rfl
    | cons b k => cases hk
  | cons a l ih => intro k hk; cases k with
    | nil => cases hk
    | cons b k =>
      have hk : (f a b && m_all2 f l k) = true := hk
      rw [Bool.and_eq_true] at hk
      rw [h a b hk.1, ih k hk.2]
def m_peq (a b : Nat × Value) : Bool := decide (a.1 = b.1) && m_veq a.2 b.2
theorem m_peq_eq (a b : Nat × Value) (h : m_peq a b = true) : a = b := by
  unfold m_peq at h
  rw [Bool.and_eq_true] at h
  exact Prod.ext (of_decide_eq_true h.1) (m_veq_eq _ _ h.2)
def m_ceq (a b : mM) : Bool := match a, b with
  | .inl x, .inl y => decide (x.1 = y.1) && decide (x.2.1 = y.2.1) && m_all2 m_peq x.2.2 y.2.2
  | .inr x, .inr y => decide (x.1 = y.1) && m_all2 m_veq x.2 y.2
  | _, _ => false
theorem m_ceq_eq (a b : mM) (h : m_ceq a b = true) : a = b := by
  unfold m_ceq at h
  split at h
  · simp only [Bool.and_eq_true, decide_eq_true_eq] at h
    exact congrArg Sum.inl (Prod.ext h.1.1 (Prod.ext h.1.2 (m_all2_eq m_peq_eq _ _ h.2)))
  · simp only [Bool.and_eq_true, decide_eq_true_eq] at h
    exact congrArg Sum.inr (Prod.ext h.1 (m_all2_eq m_veq_eq _ _ h.2))
  · cases h
def m_weq (a b : List mM) : Bool := m_all2 m_ceq a b
theorem m_weq_eq {a b : List mM} (h : m_weq a b = true) : a = b := m_all2_eq m_ceq_eq _ _ h
def m_feq (a b : mF) : Bool := decide (a.1 = b.1) && m_all2 m_peq a.2.1 b.2.1 && m_all2 m_veq a.2.2.1 b.2.2.1 && m_weq a.2.2.2 b.2.2.2
theorem m_feq_eq {a b : mF} (h : m_feq a b = true) : a = b := by
  unfold m_feq at h
  simp only [Bool.and_eq_true, decide_eq_true_eq] at h
  exact Prod.ext h.1.1.1 (Prod.ext (m_all2_eq m_peq_eq _ _ h.1.1.2) (Prod.ext (m_all2_eq m_veq_eq _ _ h.1.2) (m_weq_eq h.2)))
/-- a stretch of the small machine comes to F, in the room of c cells, s slots, f frames, l words -/
def m_ck (r : Option (mF × Nat × Nat × Nat × Nat)) (F : mF) (c s f l : Nat) : Bool := match r with
  | some q => m_feq q.1 F && decide (q.2.1 ≤ c) && decide (q.2.2.1 ≤ s) && decide (q.2.2.2.1 ≤ f) && decide (q.2.2.2.2 ≤ l)
  | none => false
theorem m_ck_eq {r : Option (mF × Nat × Nat × Nat × Nat)} {F : mF} {c s f l : Nat} (h : m_ck r F c s f l = true) : ∃ c' s' f' l', r = some (F, c', s', f', l') ∧ c' ≤ c ∧ s' ≤ s ∧ f' ≤ f ∧ l' ≤ l := by
  unfold m_ck at h
  split at h
  · rename_i q
    simp only [Bool.and_eq_true, decide_eq_true_eq] at h
    obtain ⟨F', c', s', f', l'⟩ := q
    obtain ⟨⟨⟨⟨h1, h2⟩, h3⟩, h4⟩, h5⟩ := h
    have e9 : F' = F := m_feq_eq h1
    subst e9
    exact ⟨c', s', f', l', rfl, h2, h3, h4, h5⟩
  · cases h
/-- a run of the small machine: the answer v, the world w, in the room of c cells, s slots, f frames, l words -/
def m_rk (r : Option mR) (v : Option Value) (w : List mM) (c s f l : Nat) : Bool := match r with
  | some q => (match q.1, v with
    | some a, some b => m_veq a b
    | none, none => true
    | _, _ => false) && m_weq q.2.1 w && decide (q.2.2.1 ≤ c) && decide (q.2.2.2.1 ≤ s) && decide (q.2.2.2.2.1 ≤ f) && decide (q.2.2.2.2.2 ≤ l)
  | none => false
theorem m_Rq.ofk {I : mI} {F : mF} {v : Option Value} {w : List mM} {P : Option Value → List mM → Prop} {c s f l : Nat} (n : Nat) (h : m_rk (m_exec n I F) v w c s f l = true) (hP : P v w) : m_Rq I F P c s f l := by
  unfold m_rk at h
  split at h
  · rename_i q hq
    simp only [Bool.and_eq_true, decide_eq_true_eq] at h
    obtain ⟨⟨⟨⟨⟨h0, h1⟩, h2⟩, h3⟩, h4⟩, h5⟩ := h
    refine ⟨n, q, hq, ?_, h2, h3, h4, h5⟩
    rw [m_weq_eq h1]
    split at h0
    · rename_i a b e1 
      rw [e1, m_veq_eq _ _ h0]; exact hP
    · rename_i e1
      rw [e1]; exact hP
    · cases h0
  · cases h
/-- a run whose answer alone is told -/
def m_ra (r : Option mR) (v : Option Value) (c s f l : Nat) : Bool := match r with
  | some q => (match q.1, v with
    | some a, some b => m_veq a b
    | none, none => true
    | _, _ => false) && decide (q.2.2.1 ≤ c) && decide (q.2.2.2.1 ≤ s) && decide (q.2.2.2.2.1 ≤ f) && decide (q.2.2.2.2.2 ≤ l)
  | none => false
theorem m_Rq.ofa {I : mI} {F : mF} {v : Option Value} {P : Option Value → List mM → Prop} {c s f l : Nat} (n : Nat) (h : m_ra (m_exec n I F) v c s f l = true) (hP : ∀ w, P v w) : m_Rq I F P c s f l := by
  unfold m_ra at h
  split at h
  · rename_i q hq
    simp only [Bool.and_eq_true, decide_eq_true_eq] at h
    obtain ⟨⟨⟨⟨h0, h2⟩, h3⟩, h4⟩, h5⟩ := h
    refine ⟨n, q, hq, ?_, h2, h3, h4, h5⟩
    split at h0
    · rename_i a b e1 
      rw [e1, m_veq_eq _ _ h0]; exact hP _
    · rename_i e1
      rw [e1]; exact hP _
    · cases h0
  · cases h
