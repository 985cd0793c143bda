/-! The start: behind both constructors. -/
def cvM (c : mM) : tC := match c with
  | .inr (ci, fs) => if ci = 2 then .inr (.inr (0, [])) else .inl (ci, fs)
  | .inl (t, n, els) => .inr (.inl (t, n, m_el t els))
def T0 : tT := (fun a => if a ∈ m_dom then none else (m_at w_1 a).map cvM, 631, 0)
def S0 : mS := (fun i => if i = 3 then -1 else 0, fun a => if a = 591 then [(6, .int 1), (5, .int 1), (4, .int 1), (3, .int 1), (2, .int 1), (1, .int 1)] else if a = 592 then [(6, .int 1000), (5, .int 1000), (4, .int 1000), (3, .int 1000), (2, .int 1000), (1, .int 1000)] else [])
def okc0 (k : Nat) (c : mM) : Bool := match c with
  | .inr (ci, fs) => fs.all (m_okv 119) && (!decide (ci = 12)) && (!decide (ci = 2) || (decide (512 + k ∈ Ls) && (match fs with
    | [.ref a, .int x, .int _] => decide (a = 0) && decide (x = 0)
    | _ => false)))
  | .inl (_, _, els) => els.all (fun q => m_okv 119 q.2)
theorem w1_ok : (List.range 119).all (fun k => match w_1[k]? with
  | some c => okc0 k c
  | none => false) = true := by decide +kernel
theorem w1_len : w_1.length = 119 := by decide +kernel
theorem w1_dom : ∀ d ∈ m_dom, d < 631 := by decide +kernel
section
variable {a : Nat} {c : mM} {d : tC}
theorem w1_at (h : m_at w_1 a = some c) : 512 ≤ a ∧ a < 631 ∧ okc0 (a - 512) c = true := by
  obtain ⟨h1, h2⟩ := m_at_ok h
  have h3 := (List.getElem?_eq_some_iff.mp h2).1
  rw [w1_len] at h3
  have h4 := List.all_eq_true.mp w1_ok (a - 512) (List.mem_range.mpr (by omega))
  rw [h2] at h4
  exact ⟨by omega, by omega, h4⟩
theorem t0_at (hd : a ∉ m_dom) (h : m_at w_1 a = some c) : T0.1 a = some (cvM c) := by
  show (if a ∈ m_dom then none else (m_at w_1 a).map cvM) = _
  rw [if_neg hd, h]
  rfl
theorem t0_inv (h : T0.1 a = some d) : a ∉ m_dom ∧ ∃ c, m_at w_1 a = some c ∧ cvM c = d := by
  have h' : (if a ∈ m_dom then none else (m_at w_1 a).map cvM) = some d := h
  by_cases w : a ∈ m_dom
  · rw [if_pos w] at h'; cases h'
  · rw [if_neg w] at h'
    exact ⟨w, Option.map_eq_some_iff.mp h'⟩
theorem t0_list {n : Nat} {xs : List Nat} (h : T0.1 a = some (.inr (.inr (n, xs)))) : a ∉ m_dom ∧ n = 0 ∧ xs = [] ∧ a ∈ Ls ∧ ∃ mc, m_at w_1 a = some (.inr (2, [.ref 0, .int 0, .int mc])) := by
  obtain ⟨h1, c, h2, h3⟩ := t0_inv h
  obtain ⟨q1, q2, q3⟩ := w1_at h2
  match c, h2, h3, q3 with
  | .inl (t, m, els), h2, h3, q3 => cases h3
  | .inr (ci, fs), h2, h3, q3 =>
    by_cases w : ci = 2
    · subst w
      have h3' : (.inr (.inr (0, [])) : tC) = .inr (.inr (n, xs)) := h3
      cases h3'
      refine ⟨h1, rfl, rfl, ?_⟩
      unfold okc0 at q3
      simp only [Bool.and_eq_true, Bool.or_eq_true, decide_true, Bool.not_true, Bool.false_eq_true, false_or, decide_eq_true_eq] at q3
      obtain ⟨_, r1, r2⟩ := q3
      rw [show 512 + (a - 512) = a by omega] at r1
      refine ⟨r1, ?_⟩
      split at r2
      · rename_i b x y _
        simp only [Bool.and_eq_true, decide_eq_true_eq] at r2
        rw [r2.1, r2.2] at h2
        exact ⟨y, h2⟩
      · cases r2
    · have h3' : cvM (.inr (ci, fs)) = .inl (ci, fs) := if_neg w
      rw [h3'] at h3
      cases h3
theorem t0_obj {ci : Nat} {fs : List Value} (h : T0.1 a = some (.inl (ci, fs))) : a ∉ m_dom ∧ m_at w_1 a = some (.inr (ci, fs)) ∧ fs.all (m_okv 119) = true ∧ ¬ ci = 12 := by
  obtain ⟨h1, c, h2, h3⟩ := t0_inv h
  obtain ⟨q1, q2, q3⟩ := w1_at h2
  match c, h2, h3, q3 with
  | .inl (t, m, els), h2, h3, q3 => cases h3
  | .inr (cj, gs), h2, h3, q3 =>
    by_cases w : cj = 2
    · have h3' : cvM (.inr (cj, gs)) = .inr (.inr (0, [])) := if_pos w
      rw [h3'] at h3
      cases h3
    · have h3' : cvM (.inr (cj, gs)) = .inl (cj, gs) := if_neg w
      rw [h3'] at h3
      cases h3
      unfold okc0 at q3
      simp only [Bool.and_eq_true] at q3
      exact ⟨h1, h2, q3.1.1, fun e => by rw [decide_eq_true e] at q3; exact absurd q3.1.2 (by decide)⟩
theorem t0_arr {t n : Nat} {f : Nat → Value} (h : T0.1 a = some (.inr (.inl (t, n, f)))) : a ∉ m_dom ∧ ∃ els, m_at w_1 a = some (.inl (t, n, els)) ∧ (∀ j, m_el t els j = f j) ∧ ∀ j, m_okv 119 (f j) = true := by
  obtain ⟨h1, c, h2, h3⟩ := t0_inv h
  obtain ⟨q1, q2, q3⟩ := w1_at h2
  match c, h2, h3, q3 with
  | .inr (cj, gs), h2, h3, q3 =>
    by_cases w : cj = 2
    · have h3' : cvM (.inr (cj, gs)) = .inr (.inr (0, [])) := if_pos w
      rw [h3'] at h3
      cases h3
    · have h3' : cvM (.inr (cj, gs)) = .inl (cj, gs) := if_neg w
      rw [h3'] at h3
      cases h3
  | .inl (t', m, els), h2, h3, q3 =>
    have h3' : (.inr (.inl (t', m, m_el t' els)) : tC) = .inr (.inl (t, n, f)) := h3
    cases h3'
    refine ⟨h1, els, h2, fun j => rfl, fun j => ?_⟩
    unfold okc0 at q3
    unfold m_el
    cases e : els.find? (fun q => q.1 == j) with
    | some q =>
      exact List.all_eq_true.mp q3 q (List.mem_of_find?_eq_some e)
    | none =>
      show m_okv 119 (m_zero t) = true
      unfold m_zero
      split
      · rfl
      · split <;> rfl
end
theorem RT0 : RT T0 w_1 := by
  refine ⟨fun _ => 0, ⟨by rw [w1_len]; rfl, by rw [w1_len]; exact w1_dom⟩, fun a ci fs h => ?_, fun a t n f h => ?_, fun a n xs h => ?_, fun a n xs a' n' xs' h h' e => Or.inr rfl⟩
  · obtain ⟨h1, h2, h3, _⟩ := t0_obj h
    rw [w1_len]
    exact ⟨h1, h2, h3⟩
  · obtain ⟨h1, els, h2, h3, h4⟩ := t0_arr h
    rw [w1_len]
    exact ⟨h1, els, h2, h3, h4⟩
  · obtain ⟨h1, rfl, rfl, h4, mc, h5⟩ := t0_list h
    exact ⟨h1, ⟨mc, h5, Or.inl ⟨rfl, rfl, rfl⟩⟩, fun b hb => (by cases hb), Or.inl rfl⟩
theorem RM0 : m_RM S0 w_1 := by
  refine ⟨rfl, fun q hq => ?_⟩
  unfold m_arrs at hq
  simp only [List.mem_cons, List.mem_nil_iff, or_false] at hq
  repeat (rcases hq with e | hq; · rw [e]; rfl)
  rw [hq]; rfl
theorem okL0 : okL T0 := by
  refine ⟨fun b c h => ?_, fun b n xs h => ?_⟩
  · obtain ⟨_, c', h2, _⟩ := t0_inv h
    exact (w1_at h2).2.1
  · obtain ⟨_, rfl, _, h4, _⟩ := t0_list h
    exact ⟨h4, Or.inl rfl, Nat.zero_le _⟩
theorem rd0 {a k : Nat} (h1 : ¬ a = 591) (h2 : ¬ a = 592) : rd S0 a k = 0 := by
  show m_toI (m_el 0 (if a = 591 then _ else if a = 592 then _ else []) k) = 0
  rw [if_neg h1, if_neg h2]
  rfl
theorem PI0 : PI T0 16 := by
  refine ⟨526, m_el 3 [], 0, 0, ⟨t0_at (a := 525) (by decide) rfl, t0_at (a := 526) (by decide) rfl, fun i _ => rfl⟩, by decide, by decide, fun q b' l h => ?_⟩
  obtain ⟨_, _, _, h4⟩ := t0_obj h
  exact absurd rfl h4
