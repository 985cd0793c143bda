/-! Calls by contracts, in a form that unifies. -/
theorem m_okv_at {w : List mM} {a : Nat} {c : mM} (h : m_at w a = some c) : m_okv w.length (.ref a) = true := by
  obtain ⟨h1, h2⟩ := m_at_ok h
  have h3 := (List.getElem?_eq_some_iff.mp h2).1
  have h4 : a < 512 + w.length := by omega
  exact decide_eq_true h4
theorem m_okv_out {n a : Nat} (h : a < 512) : m_okv n (.ref a) = true := by
  have h4 : a < 512 + n := by omega
  exact decide_eq_true h4
theorem m_okv_i (n : Nat) (x : Int32) : m_okv n (.int x) = true := rfl
theorem m_okv_l (n : Nat) (x : Int64) : m_okv n (.long x) = true := rfl
theorem m_okv_0 (n : Nat) : m_okv n .null = true := rfl
theorem m_okv_t (n k : Nat) : m_okv n (.retAddr k) = true := rfl
section
variable {l : Launch} {I J : mI} {pc pc' k mid x9 : Nat} {lv : List (Nat × Value)} {st as rest : List Value} {w w0 : List mM} {v0 : Value} {P : Option Value → List mM → Prop} {Q : List mM → Prop} {c s f lo c1 s1 f1 l1 : Nat}
theorem y_cs (hd : m_dn I pc (.invokestatic k) 3 pc') (hc : m_ce I k = some (2, mid, x9)) (hJ : m_mt[mid]? = some J) (ht : m_takeS J st = some (J, as, rest)) (ho : m_okf (pc, lv, st, w) = true) (ha : decide ((lg_sl as).length ≤ J.2.2.1) = true) : m_at1 I (pc, lv, st, w) = some (J, as, rest) := by
  unfold m_at1
  have h0 : m_c0 I (.invokestatic k) st = none := by simp only [m_c0, hc]
  have h1 : m_ps (.invokestatic k) st = none := rfl
  have h2 : m_lo I.2.2.1 (.invokestatic k) lv st = none := rfl
  have h3 : m_br w.length pc (.invokestatic k) 3 st = none := rfl
  have h4 : m_hs I (.invokestatic k) st w = none := rfl
  have h5 : m_xs I (.invokestatic k) st w = none := rfl
  have h6 : m_ca I (.invokestatic k) st w = some (J, as, rest) := by
    unfold m_ca
    simp only [hc, hJ, if_true, ht]
  simp only [hd.1, h1, h2, h3, h4, h5, h0, h6]
  rw [if_pos ⟨trivial, ho, of_decide_eq_true ha⟩]
theorem y_cv {ci : Nat} (hd : m_dn I pc (.invokevirtual k) 3 pc') (hc : m_ce I k = some (1, mid, ci)) (hJ : m_mt[mid]? = some J) (hr : m_isRecv st w J.2.2.2.1 ci = true) (ht : m_takeI J st = some (J, as, rest)) (ho : m_okf (pc, lv, st, w) = true) (ha : decide ((lg_sl as).length ≤ J.2.2.1) = true) : m_at1 I (pc, lv, st, w) = some (J, as, rest) := by
  unfold m_at1
  have h0 : m_c0 I (.invokevirtual k) st = none := rfl
  have h1 : m_ps (.invokevirtual k) st = none := rfl
  have h2 : m_lo I.2.2.1 (.invokevirtual k) lv st = none := rfl
  have h3 : m_br w.length pc (.invokevirtual k) 3 st = none := rfl
  have h4 : m_hs I (.invokevirtual k) st w = none := rfl
  have h5 : m_xs I (.invokevirtual k) st w = none := rfl
  have h6 : m_ca I (.invokevirtual k) st w = some (J, as, rest) := by
    unfold m_ca
    simp only [hc, hJ, if_true, hr, ht]
  simp only [hd.1, h1, h2, h3, h4, h5, h0, h6]
  rw [if_pos ⟨trivial, ho, of_decide_eq_true ha⟩]
theorem m_Rs.callP (hI : m_bOk I) (h : m_at1 I (pc, lv, st, w) = some (J, as, rest)) {P1 : Option Value → List mM → Prop} (hJ : m_Rs l J (m_ent J as w) P1 c1 s1 f1 l1) (hp : pc + 3 = pc') (k : ∀ v w', P1 v w' → m_Rs l I (pc', lv, v.toList ++ rest, w') P c s f lo) (hf : f1 + 1 ≤ f) (hl : 8 + (J.2.2.1 + 11) + l1 ≤ lo) : m_Rs l I (pc, lv, st, w) P (c1 + c) (s1 + s) f lo := by
  subst hp
  exact m_Rs.call hI h hJ k hf hl
theorem m_Rs.callE (hI : m_bOk I) (h : m_at1 I (pc, lv, st, w) = some (J, as, rest)) (hJ : m_Rs l J (m_ent J as w) (fun v w' => v = some v0 ∧ w' = w0) 0 0 f1 l1) (hp : pc + 3 = pc') (k : m_Rs l I (pc', lv, v0 :: rest, w0) P c s f lo) (hf : f1 + 1 ≤ f) (hl : 8 + (J.2.2.1 + 11) + l1 ≤ lo) : m_Rs l I (pc, lv, st, w) P c s f lo := by
  have := m_Rs.callP (P := P) (c := c) (s := s) hI h hJ hp (fun v w' hv => by obtain ⟨rfl, rfl⟩ := hv; exact k) hf hl
  rw [Nat.zero_add, Nat.zero_add] at this
  exact this
theorem m_Rs.callV (hI : m_bOk I) (h : m_at1 I (pc, lv, st, w) = some (J, as, rest)) (hJ : m_Rs l J (m_ent J as w) (fun v w' => v = none ∧ w' = w0) 0 0 f1 l1) (hp : pc + 3 = pc') (k : m_Rs l I (pc', lv, rest, w0) P c s f lo) (hf : f1 + 1 ≤ f) (hl : 8 + (J.2.2.1 + 11) + l1 ≤ lo) : m_Rs l I (pc, lv, st, w) P c s f lo := by
  have := m_Rs.callP (P := P) (c := c) (s := s) hI h hJ hp (fun v w' hv => by obtain ⟨rfl, rfl⟩ := hv; exact k) hf hl
  rw [Nat.zero_add, Nat.zero_add] at this
  exact this
/-- a call that makes cells: its answer and its world are told, its room is c1, s1 -/
theorem m_Rs.callM (hI : m_bOk I) (h : m_at1 I (pc, lv, st, w) = some (J, as, rest)) {v1 : Option Value} (hJ : m_Rs l J (m_ent J as w) (fun v w' => v = v1 ∧ w' = w0) c1 s1 f1 l1) (hp : pc + 3 = pc') (k : m_Rs l I (pc', lv, v1.toList ++ rest, w0) P c s f lo) (hf : f1 + 1 ≤ f) (hl : 8 + (J.2.2.1 + 11) + l1 ≤ lo) : m_Rs l I (pc, lv, st, w) P (c1 + c) (s1 + s) f lo :=
  m_Rs.callP hI h hJ hp (fun v w' hv => by obtain ⟨rfl, rfl⟩ := hv; exact k) hf hl
theorem m_Rs.stp {F' : mF} (h : m_Step l I (pc, lv, st, w) F' 0 0 f1 l1) (k : m_Rs l I F' P c s f lo) (hf : f1 ≤ f) (hl : l1 ≤ lo) : m_Rs l I (pc, lv, st, w) P c s f lo := by
  have := m_Rs.step h k hf hl
  rw [Nat.zero_add, Nat.zero_add] at this
  exact this
end
