/-! The law's loop: rows and calls. -/
theorem m_RM.fm {S : mS} {w w' : List mM} (h : m_RM S w) (hF : m_Fm w w') : m_RM S w' := ⟨hF.2 583 List.mem_cons_self _ h.1, fun q hq => hF.2 q.1 (List.mem_cons_of_mem _ (List.mem_map.mpr ⟨q, hq, rfl⟩)) _ (h.2 q hq)⟩
theorem RT.fq {T : tT} {w w' : List mM} (h : RT T w) (hF : m_Fq w w') : RT T w' := by
  obtain ⟨own, ⟨h1, h1'⟩, h2, h3, h4, h5⟩ := h
  obtain ⟨f1, f2⟩ := hF
  refine ⟨own, ⟨by rw [f1]; exact h1, by rw [f1]; exact h1'⟩, fun a ci fs ha => ?_, fun a t n f ha => ?_, fun a n xs ha => ?_, h5⟩
  · obtain ⟨a1, a2, a3⟩ := h2 a ci fs ha
    exact ⟨a1, f2.2 _ _ a2 a1, by rw [f1]; exact a3⟩
  · obtain ⟨a1, els, a2, a3, a4⟩ := h3 a t n f ha
    exact ⟨a1, els, f2.2 _ _ a2 a1, a3, by rw [f1]; exact a4⟩
  · obtain ⟨a1, a2, a3, a4⟩ := h4 a n xs ha
    have n0 : ¬ (0 : Nat) ∈ m_dom := by decide +kernel
    refine ⟨a1, a2.fr (fun d hd => f2.2 _ _ hd a1) (fun d hd => ?_), a3, ?_⟩
    · rcases a4 with z | ⟨z, _⟩
      · exact f2.2 _ _ hd (by rw [z]; exact n0)
      · exact f2.2 _ _ hd z
    · rcases a4 with z | ⟨z1, z2, d, z3⟩
      · exact Or.inl z
      · exact Or.inr ⟨z1, z2, d, f2.2 _ _ z3 z1⟩
section
variable {l : Launch} {n i : Nat} {sc : Nat → Int32} {w w' : List mM} {T T1 : tT} {S S1 : mS} {lv lv' : List (Nat × Value)} {st as rest : List Value} {pc pc' C U f lo c0 s0 : Nat} {J : mI} {x : Int32}
theorem m_Law.n0 {F F' : mF} (h : m_nx m_nn M_law F = some (F', 0, 0, 0, 0)) (k : m_Law l n sc F' c0 s0) : m_Law l n sc F c0 s0 := by
  have hs := m_nx_sound l m_law_ok (fun J G r hJ hr => by cases hr) h
  have := m_Law.step hs (Nat.zero_le _) (Nat.zero_le _) k
  rw [Nat.zero_add, Nat.zero_add] at this
  exact this
theorem m_Law.pick (ks : List Nat) (hp : lv_pick lv ks = lv') (h : m_Law l n sc (pc, lv', st, w) c0 s0) : m_Law l n sc (pc, lv, st, w) c0 s0 := by
  intro p e s9 m b below meth c9 H locs cells slots ls D dA X L g1 g2 g3 g4 g5 g6 g7 g8 g9 g10 g11 g12 g13 g14 g15 g16 g17 g18
  refine h p e s9 m b below meth c9 H locs cells slots ls D dA X L g1 g2 g3 g4 g5 g6 g7 g8 g9 g10 g11 g12 g13 g14 g15 ⟨g16.1, g16.2.1, fun q hq => g16.2.2 q ?_⟩ g17 g18
  obtain ⟨q0, hq0, rfl⟩ := List.mem_map.mp hq
  refine List.mem_map.mpr ⟨q0, ?_, rfl⟩
  have h9 : q0 ∈ lv_pick lv ks := by rw [hp]; exact hq0
  obtain ⟨k, -, hk⟩ := List.mem_filterMap.mp h9
  exact List.mem_of_getElem? hk
theorem m_Law.ldi (k : Nat) (hd : m_de M_law pc = some (.iaload, 1)) (hk : i + k < n) (hn : n < 2147483648) (h : m_Law l n sc (pc + 1, lv, .int (sc (i + k)) :: st, w) c0 s0) : m_Law l n sc (pc, lv, .int (Int32.ofNat i + Int32.ofNat k) :: .ref 500 :: st, w) c0 s0 := by
  refine m_Law.ld (i + k) hd ?_ ?_ hk h
  · rw [m_n_add]; exact m_n_neg (by omega)
  · rw [m_n_add]; exact m_n_cl (by omega)
/-- a call of the class -/
theorem m_Law.callB (h : m_at1 M_law (pc, lv, st, w) = some (J, as, rest)) (hq : m_Rb l J (m_ent J as w) (fun v w' => v = some (.int x) ∧ RT T1 w' ∧ m_Fm w w') T T1 f lo) (hS : m_RM S w) (hC : T1.2.1 ≤ C) (hU : T1.2.2 ≤ U) (hp : pc + 3 = pc') (k : ∀ w1, RT T1 w1 → m_RM S w1 → m_Law l n sc (pc', lv, .int x :: rest, w1) (C - T1.2.1) (U - T1.2.2)) (hf : f + 1 ≤ 2048) (hl : 8 + (J.2.2.1 + 11) + lo ≤ 84000) : m_Law l n sc (pc, lv, st, w) (C - T.2.1) (U - T.2.2) := by
  subst hp
  obtain ⟨i, hde, hca, hokf, hfit⟩ := m_at1_inv h
  obtain ⟨j1, j2, v, w', ⟨rfl, r1, r2⟩, j4⟩ := hq
  have := m_Law.step (m_call_step l m_law_ok h (m_Met_of (m_mt_ok J (m_ca_as hca).2) hfit j4)) hf hl (k w' r1 (hS.fm r2))
  exact this.mono (by show T1.2.1 - T.2.1 + (C - T1.2.1) ≤ _; omega) (by show T1.2.2 - T.2.2 + (U - T1.2.2) ≤ _; omega)
/-- a call of the reference -/
theorem m_Law.callM (h : m_at1 M_law (pc, lv, st, w) = some (J, as, rest)) (hq : m_Rs l J (m_ent J as w) (fun v w' => v = some (.int x) ∧ m_RM S1 w' ∧ m_Fq w w') 0 0 f lo) (hT : RT T w) (hp : pc + 3 = pc') (k : ∀ w1, RT T w1 → m_RM S1 w1 → m_Fq w w1 → m_Law l n sc (pc', lv, .int x :: rest, w1) c0 s0) (hf : f + 1 ≤ 2048) (hl : 8 + (J.2.2.1 + 11) + lo ≤ 84000) : m_Law l n sc (pc, lv, st, w) c0 s0 := by
  subst hp
  obtain ⟨i, hde, hca, hokf, hfit⟩ := m_at1_inv h
  obtain ⟨v, w', ⟨rfl, r1, r2⟩, j4⟩ := hq
  have := m_Law.step (m_call_step l m_law_ok h (m_Met_of (m_mt_ok J (m_ca_as hca).2) hfit j4)) hf hl (k w' (hT.fq r2) r1 r2)
  exact this.mono (by show 0 + c0 ≤ _; omega) (by show 0 + s0 ≤ _; omega)
theorem RT.ok (h : RT T w) {a : Nat} (ha : a < T.2.1) : m_okv w.length (.ref a) = true := h.okv (okr_some ha)
end
