/-! The reference's state: its ints by their places, its arrays by their addresses. Written by wip/tool/ms0.py. -/
abbrev mS : Type := (Nat → Int32) × (Nat → List (Nat × Value))
def m_arrs : List (Nat × Nat × Nat) := [(584, 0, 300), (585, 0, 5), (586, 0, 8), (587, 0, 150), (588, 0, 150), (589, 0, 288), (590, 0, 32), (591, 4, 7), (592, 0, 7), (593, 0, 7), (594, 0, 7), (595, 0, 7), (596, 0, 7), (597, 0, 7), (598, 0, 448), (599, 0, 448), (600, 0, 448), (601, 4, 7168), (602, 4, 7168), (603, 0, 64512), (604, 0, 7168), (605, 0, 7168), (606, 0, 7168), (607, 0, 7168), (608, 0, 7168), (609, 4, 896), (610, 4, 896), (611, 0, 896), (612, 0, 896), (613, 0, 896), (614, 0, 896), (615, 0, 896), (616, 0, 896), (617, 0, 896), (618, 0, 14), (619, 0, 14), (620, 0, 6900), (621, 4, 300), (622, 0, 48000), (623, 0, 48000), (624, 0, 2200), (625, 0, 22), (626, 0, 9), (627, 0, 2700), (628, 0, 22), (629, 0, 700)]
def m_dom : List Nat := 583 :: m_arrs.map (·.1)
def m_RM (S : mS) (w : List mM) : Prop := m_at w 583 = some (.inr (14, f_M S.1)) ∧ ∀ q ∈ m_arrs, m_at w q.1 = some (.inl (q.2.1, q.2.2, S.2 q.1))
def up1 (S : mS) (k : Nat) (x : Int32) : mS := (fun i => if i = k then x else S.1 i, S.2)
def up2 (S : mS) (a j : Nat) (x : Int32) : mS := (S.1, fun b => if b = a then m_sel (S.2 a) j (.int x) else S.2 b)
theorem m_RM.a {S : mS} {w : List mM} (h : m_RM S w) {a t N : Nat} (k : Nat) (hk : m_arrs[k]? = some (a, t, N)) : m_at w a = some (.inl (t, N, S.2 a)) := h.2 (a, t, N) (List.mem_of_getElem? hk)
theorem m_arrs_ok : ∀ q ∈ m_arrs, 584 ≤ q.1 ∧ (∀ q' ∈ m_arrs, q.1 = q'.1 → q = q') := by decide +kernel
theorem m_dom_a {a t N k : Nat} (hk : m_arrs[k]? = some (a, t, N)) : a ∈ m_dom := List.mem_cons_of_mem _ (List.mem_map.mpr ⟨(a, t, N), List.mem_of_getElem? hk, rfl⟩)
/-- only the reference's cells change, and there are no new ones -/
def m_Fq (w w' : List mM) : Prop := w'.length = w.length ∧ m_Fr w w' m_dom
theorem m_Fq.refl {w : List mM} : m_Fq w w := ⟨rfl, m_Fr.refl⟩
theorem m_Fq.w1 {w w' w1 : List mM} {a : Nat} {c : mM} (h : m_Fq w w') (h1 : m_W1 w' w1 a c) (ha : a ∈ m_dom) : m_Fq w w1 := ⟨h1.1.trans h.1, h.2.w1 h1 ha⟩
theorem m_Fq.trans {w w' w'' : List mM} (h : m_Fq w w') (h2 : m_Fq w' w'') : m_Fq w w'' := ⟨h2.1.trans h.1, h.2.trans h2.2 (fun _ hb => Or.inl hb)⟩
section
variable {l : Launch} {I : mI} {pc pc' k fk N j t a : Nat} {lv : List (Nat × Value)} {r : List Value} {w w0 : List mM} {S : mS} {x y z : Int32} {ty : FieldType} {P : Option Value → List mM → Prop} {c s f lo : Nat}
theorem m_Rs.mput (hI : m_bOk I) (hd : m_dn I pc (.putfield k) 3 pc') (h : m_RM S w) (hF : m_Fq w0 w) (hf : m_fe I k = some (14, fk, 1)) (hty : m_ft 14 fk = some ty) (hlen : decide (fk < (f_M S.1).length) = true) (hn : narrow ty (.int x) = .int x) (hi : fits ty (.int x) = true) (hfs : (f_M S.1).set fk (.int x) = f_M (up1 S fk x).1) (kk : ∀ w1, m_RM (up1 S fk x) w1 → m_Fq w0 w1 → m_Rs l I (pc', lv, r, w1) P c s f lo) : m_Rs l I (pc, lv, .int x :: .ref 583 :: r, w) P c s f lo := by
  refine m_Rs.wput hI hd hf h.1 hty (Or.inl rfl) hlen hn hi rfl hfs (fun w1 h1 => kk w1 ⟨h1.2.1, fun q hq => ?_⟩ (hF.w1 h1 List.mem_cons_self))
  have hq2 := (m_arrs_ok q hq).1
  exact h1.2.2 _ _ (h.2 q hq) (by omega)
theorem m_RM.w1 {w1 : List mM} (h : m_RM S w) (k9 : Nat) (hk : m_arrs[k9]? = some (a, t, N)) (h1 : m_W1 w w1 a (.inl (t, N, m_sel (S.2 a) j (.int x)))) : m_RM (up2 S a j x) w1 := by
  have ha := List.mem_of_getElem? hk
  refine ⟨h1.2.2 _ _ h.1 (fun e => by have h9 : 584 ≤ a := (m_arrs_ok _ ha).1; omega), fun q hq => ?_⟩
  by_cases e : q.1 = a
  · have e2 : q = (a, t, N) := (m_arrs_ok q hq).2 _ ha e
    subst e2
    show m_at w1 a = some (.inl (t, N, (up2 S a j x).2 a))
    rw [show (up2 S a j x).2 a = m_sel (S.2 a) j (.int x) from if_pos rfl]
    exact h1.2.1
  · rw [show (up2 S a j x).2 q.1 = S.2 q.1 from if_neg e]
    exact h1.2.2 _ _ (h.2 q hq) e
theorem m_Rs.mias (hI : m_bOk I) (hd : m_dn I pc .iastore 1 pc') (h : m_RM S w) (hF : m_Fq w0 w) (k9 : Nat) (hk : m_arrs[k9]? = some (a, 0, N)) (hi : m_ix y N) (kk : ∀ w1, m_RM (up2 S a y.toNatClampNeg x) w1 → m_Fq w0 w1 → m_Rs l I (pc', lv, r, w1) P c s f lo) : m_Rs l I (pc, lv, .int x :: .int y :: .ref a :: r, w) P c s f lo := by
  have ha := h.a k9 hk
  have h1 : m_W1 w (w.set (a - 512) (.inl (0, N, m_sel (S.2 a) y.toNatClampNeg (.int x)))) a (.inl (0, N, m_sel (S.2 a) y.toNatClampNeg (.int x))) := m_W1.set ha
  exact m_Rs.n0 hI (x_iastore hd ha hi.1 rfl hi.2 rfl) (kk _ (h.w1 k9 hk h1) (hF.w1 h1 (m_dom_a hk)))
theorem m_Rs.mbas (hI : m_bOk I) (hd : m_dn I pc .bastore 1 pc') (h : m_RM S w) (hF : m_Fq w0 w) (k9 : Nat) (hk : m_arrs[k9]? = some (a, 4, N)) (hi : m_ix y N) (hz : vp_nar .boolean x = x) (kk : ∀ w1, m_RM (up2 S a y.toNatClampNeg x) w1 → m_Fq w0 w1 → m_Rs l I (pc', lv, r, w1) P c s f lo) : m_Rs l I (pc, lv, .int x :: .int y :: .ref a :: r, w) P c s f lo := by
  have ha := h.a k9 hk
  have h1 : m_W1 w (w.set (a - 512) (.inl (4, N, m_sel (S.2 a) y.toNatClampNeg (.int x)))) a (.inl (4, N, m_sel (S.2 a) y.toNatClampNeg (.int x))) := m_W1.set ha
  have e3 : ¬ ((4 : Nat) = 3) := by decide
  have h2 : ¬ (y < 0 ∨ N ≤ y.toNatClampNeg) := fun h => h.elim hi.1 (fun h => absurd hi.2 (Nat.not_lt.mpr h))
  refine m_Rs.n0 hI (x_hs hd rfl rfl rfl ?_) (kk _ (h.w1 k9 hk h1) (hF.w1 h1 (m_dom_a hk)))
  simp only [m_hs, m_ast, ha, if_neg e3, if_true]
  rw [if_pos h2, hz]
end
