/-! Worlds known by some of their cells: one object with its fields, arrays of which only type and length are known, cells as they stand. -/
def m_FW (oa ci : Nat) (fs : List Value) (fl : List (Nat × Nat × Nat)) (gl : List (Nat × mM)) (w : List mM) : Prop :=
  119 ≤ w.length ∧ m_at w oa = some (.inr (ci, fs)) ∧ (∀ q ∈ fl, ∃ e, m_at w q.1 = some (.inl (q.2.1, q.2.2, e))) ∧ (∀ q ∈ gl, m_at w q.1 = some q.2)
def m_wf (oa : Nat) (fl : List (Nat × Nat × Nat)) (gl : List (Nat × mM)) : Bool :=
  decide (512 ≤ oa) && fl.all (fun q => decide (512 ≤ q.1) && decide (¬ q.1 = oa) && fl.all (fun q' => decide (¬ q.1 = q'.1) || decide (q = q'))) && gl.all (fun q => decide (512 ≤ q.1) && decide (¬ q.1 = oa) && fl.all (fun q' => decide (¬ q.1 = q'.1)))
theorem m_at_ne2 {w : List mM} {a b : Nat} {c : mM} (ha : 512 ≤ a) (hb : 512 ≤ b) (h : ¬ b = a) : m_at (w.set (a - 512) c) b = m_at w b := by
  unfold m_at
  split
  · rfl
  · rw [List.getElem?_set, if_neg (by omega)]
theorem m_FW.seta {oa ci : Nat} {fs : List Value} {fl : List (Nat × Nat × Nat)} {gl : List (Nat × mM)} {w : List mM} {a t N : Nat} (hwf : m_wf oa fl gl = true) (h : m_FW oa ci fs fl gl w) (hq : (a, t, N) ∈ fl) (e : List (Nat × Value)) : m_FW oa ci fs fl gl (w.set (a - 512) (.inl (t, N, e))) := by
  unfold m_wf at hwf
  simp only [Bool.and_eq_true, List.all_eq_true, Bool.or_eq_true, decide_eq_true_eq] at hwf
  obtain ⟨⟨w0, w1⟩, w2⟩ := hwf
  obtain ⟨⟨a1, a2⟩, a3⟩ := w1 _ hq
  refine ⟨by rw [List.length_set]; exact h.1, ?_, fun q hq2 => ?_, fun q hq2 => ?_⟩
  · rw [m_at_ne2 a1 w0 (fun e => a2 e.symm)]; exact h.2.1
  · obtain ⟨e0, he⟩ := h.2.2.1 q hq2
    rcases a3 q hq2 with g | g
    · exact ⟨e0, by rw [m_at_ne2 a1 (w1 q hq2).1.1 (fun e => g e.symm)]; exact he⟩
    · subst g
      exact ⟨e, m_at_eq he⟩
  · obtain ⟨⟨b1, b2⟩, b3⟩ := w2 q hq2
    rw [m_at_ne2 a1 b1 (b3 _ hq)]; exact h.2.2.2 q hq2
theorem m_FW.seto {oa ci : Nat} {fs fs' : List Value} {fl : List (Nat × Nat × Nat)} {gl : List (Nat × mM)} {w : List mM} (hwf : m_wf oa fl gl = true) (h : m_FW oa ci fs fl gl w) : m_FW oa ci fs' fl gl (w.set (oa - 512) (.inr (ci, fs'))) := by
  unfold m_wf at hwf
  simp only [Bool.and_eq_true, List.all_eq_true, Bool.or_eq_true, decide_eq_true_eq] at hwf
  obtain ⟨⟨w0, w1⟩, w2⟩ := hwf
  refine ⟨by rw [List.length_set]; exact h.1, m_at_eq h.2.1, fun q hq2 => ?_, fun q hq2 => ?_⟩
  · obtain ⟨e0, he⟩ := h.2.2.1 q hq2
    exact ⟨e0, by rw [m_at_ne2 w0 (w1 q hq2).1.1 (w1 q hq2).1.2]; exact he⟩
  · rw [m_at_ne2 w0 (w2 q hq2).1.1 (w2 q hq2).1.2]; exact h.2.2.2 q hq2
theorem m_FW.g {oa ci : Nat} {fs : List Value} {fl : List (Nat × Nat × Nat)} {gl : List (Nat × mM)} {w : List mM} (h : m_FW oa ci fs fl gl w) {a : Nat} {c : mM} (k : Nat) (hk : gl[k]? = some (a, c)) : m_at w a = some c := h.2.2.2 (a, c) (List.mem_of_getElem? hk)
section
variable {I J : mI} {pc pc' k oa ci a N j fk fl9 : Nat} {fs fs' : List Value} {fl : List (Nat × Nat × Nat)} {gl : List (Nat × mM)} {w : List mM} {lv : List (Nat × Value)} {r : List Value} {x y : Int32} {v : Value} {P : Option Value → List mM → Prop} {c s f l f1 l1 : Nat} {ty : FieldType}
theorem m_Rq.fwB (hd : m_dn I pc .bastore 1 pc') (hwf : m_wf oa fl gl = true) (h : m_FW oa ci fs fl gl w) (k9 : Nat) (hq : fl[k9]? = some (a, 4, N)) (hi : ¬ y < 0) (hj : y.toNatClampNeg = j) (hN : j < N) (k : ∀ w', m_FW oa ci fs fl gl w' → m_Rq I (pc', lv, r, w') P c s f l) : m_Rq I (pc, lv, .int x :: .int y :: .ref a :: r, w) P c s f l := by
  obtain ⟨e, he⟩ := h.2.2.1 _ (List.mem_of_getElem? hq)
  exact m_Rq.n0 (x_bastore hd he hi hj hN rfl) (k _ (m_FW.seta hwf h (List.mem_of_getElem? hq) _))
theorem m_Rq.fwI (hd : m_dn I pc .iastore 1 pc') (hwf : m_wf oa fl gl = true) (h : m_FW oa ci fs fl gl w) (k9 : Nat) (hq : fl[k9]? = some (a, 0, N)) (hi : ¬ y < 0) (hj : y.toNatClampNeg = j) (hN : j < N) (k : ∀ w', m_FW oa ci fs fl gl w' → m_Rq I (pc', lv, r, w') P c s f l) : m_Rq I (pc, lv, .int x :: .int y :: .ref a :: r, w) P c s f l := by
  obtain ⟨e, he⟩ := h.2.2.1 _ (List.mem_of_getElem? hq)
  exact m_Rq.n0 (x_iastore hd he hi hj hN rfl) (k _ (m_FW.seta hwf h (List.mem_of_getElem? hq) _))
theorem m_Rq.fwC (hd : m_dn I pc .castore 1 pc') (hwf : m_wf oa fl gl = true) (h : m_FW oa ci fs fl gl w) (k9 : Nat) (hq : fl[k9]? = some (a, 2, N)) (hi : ¬ y < 0) (hj : y.toNatClampNeg = j) (hN : j < N) (k : ∀ w', m_FW oa ci fs fl gl w' → m_Rq I (pc', lv, r, w') P c s f l) : m_Rq I (pc, lv, .int x :: .int y :: .ref a :: r, w) P c s f l := by
  obtain ⟨e, he⟩ := h.2.2.1 _ (List.mem_of_getElem? hq)
  exact m_Rq.n0 (x_castore hd he hi hj hN rfl) (k _ (m_FW.seta hwf h (List.mem_of_getElem? hq) _))
theorem m_Rq.fwL (hd : m_dn I pc .iaload 1 pc') (h : m_FW oa ci fs fl gl w) (k9 : Nat) (hq : fl[k9]? = some (a, 0, N)) (hi : ¬ y < 0) (hj : y.toNatClampNeg = j) (hN : j < N) (k : ∀ z, m_Rq I (pc', lv, .int z :: r, w) P c s f l) : m_Rq I (pc, lv, .int y :: .ref a :: r, w) P c s f l := by
  obtain ⟨e, he⟩ := h.2.2.1 _ (List.mem_of_getElem? hq)
  have he : m_at w a = some (.inl (0, N, e)) := he
  have h2 : ¬ (y < 0 ∨ N ≤ j) := fun h => h.elim hi (fun h => absurd hN (Nat.not_lt.mpr h))
  refine m_Rq.n0 (F' := (pc', lv, .int (m_toI (m_el 0 e j)) :: r, w)) (x_hs hd rfl rfl rfl ?_) (k _)
  have e1 : ¬ ((0 : Nat) = 1) := by decide
  simp only [m_hs, m_ald, he, hj, decide_true]
  rw [if_pos ⟨trivial, h2⟩, if_neg e1]
theorem m_Rq.fwP (hd : m_dn I pc (.putfield k) 3 pc') (hwf : m_wf oa fl gl = true) (h : m_FW oa ci fs fl gl w) (hf : m_fe I k = some (ci, fk, fl9)) (hty : m_ft ci fk = some ty) (hfl : fl9 = 1 ∨ fl9 = 2) (hlen : decide (fk < fs.length) = true) (hn : narrow ty (.int x) = .int x) (hi : fits ty (.int x) = true) (hfs : fs.set fk (.int x) = fs') (kk : ∀ w', m_FW oa ci fs' fl gl w' → m_Rq I (pc', lv, r, w') P c s f l) : m_Rq I (pc, lv, .int x :: .ref oa :: r, w) P c s f l := by
  refine m_Rq.n0 (x_putf hd hf h.2.1 hty hfl hlen hn hi rfl) (kk _ ?_)
  rw [hfs]
  exact m_FW.seto hwf h
theorem m_Rq.callQ {st as rest : List Value} {Q : List mM → Prop} (h : m_at1 I (pc, lv, st, w) = some (J, as, rest)) (hJ : m_Rq J (m_ent J as w) (fun v w' => v = none ∧ Q w') 0 0 f1 l1) (hp : pc + 3 = pc')
    (k : ∀ w', Q w' → m_Rq I (pc', lv, rest, w') P c s f l) (hf : f1 + 1 ≤ f) (hl : 8 + (J.2.2.1 + 11) + l1 ≤ l) : m_Rq I (pc, lv, st, w) P c s f l := by
  have := m_Rq.call (P := P) (c := c) (s := s) (f := f) (l := l) h hJ (fun v w' hv => by obtain ⟨rfl, h2⟩ := hv; subst hp; exact k w' h2) hf hl
  rw [Nat.zero_add, Nat.zero_add] at this
  exact this
theorem m_Rq.callR {st as rest : List Value} {Q : List mM → Prop} {v0 : Value} (h : m_at1 I (pc, lv, st, w) = some (J, as, rest)) (hJ : m_Rq J (m_ent J as w) (fun v w' => v = some v0 ∧ Q w') 0 0 f1 l1) (hp : pc + 3 = pc')
    (k : ∀ w', Q w' → m_Rq I (pc', lv, v0 :: rest, w') P c s f l) (hf : f1 + 1 ≤ f) (hl : 8 + (J.2.2.1 + 11) + l1 ≤ l) : m_Rq I (pc, lv, st, w) P c s f l := by
  have := m_Rq.call (P := P) (c := c) (s := s) (f := f) (l := l) h hJ (fun v w' hv => by obtain ⟨rfl, h2⟩ := hv; subst hp; exact k w' h2) hf hl
  rw [Nat.zero_add, Nat.zero_add] at this
  exact this
end
/-- the reference's cells stand as in the fresh world -/
def m_mwb (w : List mM) : Bool := decide (119 ≤ w.length) && m_weq ((w.drop 71).take 48) ((w_1.drop 71).take 48)
theorem m_mwb_at {w : List mM} (h : m_mwb w = true) : 119 ≤ w.length ∧ ∀ a, 583 ≤ a → a < 631 → m_at w a = m_at w_1 a := by
  unfold m_mwb at h
  rw [Bool.and_eq_true] at h
  refine ⟨of_decide_eq_true h.1, fun a h1 h2 => ?_⟩
  have e := m_weq_eq h.2
  have e2 := congrArg (fun l => l[a - 583]?) e
  simp only [List.getElem?_take, List.getElem?_drop] at e2
  rw [if_pos (by omega), if_pos (by omega), show 71 + (a - 583) = a - 512 by omega] at e2
  unfold m_at
  rw [if_neg (by omega), if_neg (by omega), e2]
/-- a run of the class that leaves the reference's cells as they are -/
def m_ck2 (r : Option mR) (x : Int32) : Bool := match r with
  | some q => (match q.1 with
    | some (.int y) => decide (y = x)
    | _ => false) && m_mwb q.2.1 && m_rb q 400 400000
  | none => false
theorem m_ck2_rq {n : Nat} {J : mI} {as : List Value} {x : Int32} (h : m_ck2 (m_exec n J (m_ent J as w_1)) x = true) : m_Rq J (m_ent J as w_1) (fun v w => v = some (.int x) ∧ m_mwb w = true) 400 400000 100 20000 := by
  unfold m_ck2 at h
  split at h
  · rename_i q hq
    simp only [Bool.and_eq_true] at h
    obtain ⟨⟨h1, h2⟩, h3⟩ := h
    unfold m_rb at h3
    simp only [Bool.and_eq_true, decide_eq_true_eq] at h3
    refine ⟨n, q, hq, ⟨?_, h2⟩, h3.1.1.1, h3.1.1.2, h3.1.2, h3.2⟩
    split at h1
    · rename_i y hy
      rw [hy, of_decide_eq_true h1]
    · cases h1
  · cases h
theorem m_mwb_mdl {w : List mM} (h : m_mwb w = true) : m_mdl w = true := by
  obtain ⟨h1, h2⟩ := m_mwb_at h
  exact m_mdl_of h1 ((h2 583 (by decide) (by decide)).trans a_583)
theorem m_mwb_1 : m_mwb w_1 = true := by decide +kernel
