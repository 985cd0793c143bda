/-! Texts that were made, or the empty one. -/
def tsl (F : Nat) (T : tT) (a : Nat) : Option Int32 := if a = 31 then xlen 31 else (tcl T a 12).bind fun _ => D_c_String_length F a T
def tse (F : Nat) (T : tT) (a : Nat) : Option Int32 := if a = 31 then some 1 else (tcl T a 12).bind fun _ => D_c_String_isEmpty F a T
def tsc (F : Nat) (T : tT) (a : Nat) (i : Int32) : Option Int32 := if a = 31 then none else (tcl T a 12).bind fun _ => D_c_String_charAt F a i T
theorem m_tx31 : (m_tx 31).length = 0 := by decide +kernel
theorem O_emp {l : Launch} {w : List mM} : m_Rs l M_159 (m_ent M_159 [.ref 31] w) (fun v w' => v = some (.int 1) ∧ w' = w) 0 0 0 0 := by
  have ht : 1 ≤ 31 ∧ 31 ≤ m_sN := by decide
  show m_Rs l M_159 (0, [(0, .ref 31)], [], w) _ 0 0 0 0
  refine m_Rs.n0 b_159 (x_aload_n d_159_0 rfl) ?_
  refine m_Rs.n0 b_159 (x_xgv d_159_1 rfl ht) ?_
  refine m_Rs.n0 b_159 (x_xlen d_159_4 ht) ?_
  rw [m_tx31]
  refine m_Rs.n0 b_159 (x_iff d_159_5 rfl rfl) ?_
  refine m_Rs.n0 b_159 (x_iconst (z := 1) d_159_8 (by decide)) ?_
  refine m_Rs.n0 b_159 (x_goto d_159_9 rfl) ?_
  exact m_Rs.ret b_159 (m_rt_ir d_159_13 rfl m_nb1) ⟨rfl, rfl⟩
section
variable {l : Launch} {I : mI} {pc pc' k a : Nat} {lv : List (Nat × Value)} {rest : List Value} {w w0 : List mM} {P : Option Value → List mM → Prop} {f lo F : Nat} {T T' : tT} {i x : Int32}
theorem RT.ca {ci : Nat} (h : RT T w) (e : tcl T a ci = some ()) : okr T.2.1 (some a) := by
  obtain ⟨fs, g⟩ := h.cls e
  have := m_at_lt g
  exact okr_some (by rw [h.len]; exact this.2)
theorem m_Rb.rtsl (hI : m_bOk I) (hd : m_dn I pc (.invokevirtual k) 3 pc') (hc : m_ce I k = some (1, 24, 12)) (ho : m_okf (pc, lv, .ref a :: rest, w) = true) (h8 : rest.length ≤ 4) (h : RT T w) (hF : m_Fm w0 w) (e : tsl F T a = some x) (kk : ∀ w1, RT T w1 → m_Fm w0 w1 → T.2.1 ≤ T.2.1 → m_Rb l I (pc', lv, .int x :: rest, w1) P T T' f lo) (hf : 5 ≤ f) (hl : 500 ≤ lo) : m_Rb l I (pc, lv, .ref a :: rest, w) P T T' f lo := by
  unfold tsl at e
  split at e
  · rename_i h1
    subst h1
    exact m_Rb.lift (fun c s k9 => m_Rs.cxlen hI hd hc ho e k9 (catL h8) (by omega) (by omega)) (kk w h hF (Nat.le_refl _))
  · obtain ⟨_, e1, e2⟩ := bS e
    obtain ⟨fs, g⟩ := h.cls e1
    have h9 : m_takeI M_24 (.ref a :: rest) = some (M_24, [.ref a], rest) := by
      show (if (rest.map fun v => v.category).sum ≤ 8 then some (M_24, [Value.ref a], rest) else none) = _
      rw [if_pos (catL h8)]
    have h7 : 8 + (M_24.2.2.1 + 11) + 100 ≤ 500 := by decide
    exact m_Rb.callI hI (y_cv hd hc q_24 (m_isRecv_of rfl g) h9 ho rfl) (T_c_String_length (h.ca e1) h e2) hF hd.2 kk (by omega) (Nat.le_trans h7 hl)
theorem m_Rb.rtse (hI : m_bOk I) (hd : m_dn I pc (.invokevirtual k) 3 pc') (hc : m_ce I k = some (1, 159, 12)) (ho : m_okf (pc, lv, .ref a :: rest, w) = true) (h8 : rest.length ≤ 4) (h : RT T w) (hF : m_Fm w0 w) (e : tse F T a = some x) (kk : ∀ w1, RT T w1 → m_Fm w0 w1 → T.2.1 ≤ T.2.1 → m_Rb l I (pc', lv, .int x :: rest, w1) P T T' f lo) (hf : 5 ≤ f) (hl : 500 ≤ lo) : m_Rb l I (pc, lv, .ref a :: rest, w) P T T' f lo := by
  have h9 : m_takeI M_159 (.ref a :: rest) = some (M_159, [.ref a], rest) := by
    show (if (rest.map fun v => v.category).sum ≤ 8 then some (M_159, [Value.ref a], rest) else none) = _
    rw [if_pos (catL h8)]
  have h7 : 8 + (M_159.2.2.1 + 11) ≤ 500 := by decide
  unfold tse at e
  split at e
  · rename_i h1
    subst h1
    cases e
    exact m_Rb.lift (fun c s k9 => m_Rs.callE hI (y_cv hd hc q_159 (m_isRecv_out rfl (by decide)) h9 ho rfl) O_emp hd.2 k9 (by omega) (Nat.le_trans h7 hl)) (kk w h hF (Nat.le_refl _))
  · obtain ⟨_, e1, e2⟩ := bS e
    obtain ⟨fs, g⟩ := h.cls e1
    exact m_Rb.callI hI (y_cv hd hc q_159 (m_isRecv_of rfl g) h9 ho rfl) (T_c_String_isEmpty (h.ca e1) h e2) hF hd.2 kk (by omega) (Nat.le_trans h7 hl)
theorem m_Rb.rtsc (hI : m_bOk I) (hd : m_dn I pc (.invokevirtual k) 3 pc') (hc : m_ce I k = some (1, 26, 12)) (ho : m_okf (pc, lv, .int i :: .ref a :: rest, w) = true) (h8 : rest.length ≤ 4) (h : RT T w) (hF : m_Fm w0 w) (e : tsc F T a i = some x) (kk : ∀ w1, RT T w1 → m_Fm w0 w1 → T.2.1 ≤ T.2.1 → m_Rb l I (pc', lv, .int x :: rest, w1) P T T' f lo) (hf : 5 ≤ f) (hl : 500 ≤ lo) : m_Rb l I (pc, lv, .int i :: .ref a :: rest, w) P T T' f lo := by
  unfold tsc at e
  split at e
  · cases e
  · obtain ⟨_, e1, e2⟩ := bS e
    obtain ⟨fs, g⟩ := h.cls e1
    have h9 : m_takeI M_26 (.int i :: .ref a :: rest) = some (M_26, [.ref a, .int i], rest) := by
      show (if (rest.map fun v => v.category).sum ≤ 8 then some (M_26, [Value.ref a, .int i], rest) else none) = _
      rw [if_pos (catL h8)]
    have h7 : 8 + (M_26.2.2.1 + 11) + 300 ≤ 500 := by decide
    exact m_Rb.callI hI (y_cv hd hc q_26 (m_isRecv_of rfl g) h9 ho rfl) (T_c_String_charAt (h.ca e1) h e2) hF hd.2 kk (by omega) (Nat.le_trans h7 hl)
end
