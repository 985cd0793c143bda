/-! Rows for texts: inherited methods and super's, bytes, the digits' tables. -/
theorem f_cl2 : Cond.sameMethod "[B" "java/lang/Object" "clone" "()Ljava/lang/Object;" ∈ m_gt := m_gi6 203 rfl rfl
theorem f_cl3 : Cond.native (m_cln "java/lang/Object") ∈ m_gt := m_gi6 204 rfl rfl
theorem f_cl4 : Cond.instanceMethod (m_cln "java/lang/Object") ∈ m_gt := m_gi6 205 rfl rfl
theorem f_cl5 : Cond.selects "[B" (m_cln "[B") (m_cln "java/lang/Object") ∈ m_gt := m_gi6 206 rfl rfl
theorem f_cl6 : Cond.castable "[B" "java/lang/Cloneable" ∈ m_nw := List.mem_filter.mpr ⟨m_in6 (List.mem_of_getElem? (i := 207) rfl), rfl⟩
theorem f_do : Cond.fieldLink "java/lang/Integer" 83 "java/lang/Integer" "DigitOnes" "[B" ∈ m_gt := m_gi7 37 rfl rfl
theorem f_dt : Cond.fieldLink "java/lang/Integer" 87 "java/lang/Integer" "DigitTens" "[B" ∈ m_gt := m_gi7 39 rfl rfl
def tasb (T : tT) (a : Nat) (i x : Int32) : Option tT := tas T a 3 i (.int (vp_nar .byte x))
/-- bytes are copied -/
def tcb (T : tT) (a0 : Nat) (sp : Int32) (a1 : Nat) (dp n : Int32) : Option tT := match T.1 a0 with
  | some (.inr (.inl (3, n0, f0))) => match T.1 a1 with
    | some (.inr (.inl (3, n1, f1))) => if (¬ sp < 0 ∧ ¬ dp < 0 ∧ ¬ n < 0) ∧ (sp.toNatClampNeg + n.toNatClampNeg ≤ n0 ∧ dp.toNatClampNeg + n.toNatClampNeg ≤ n1) ∧ ((List.range n.toNatClampNeg).all fun i => fits .byte (.int (m_toI (f0 (sp.toNatClampNeg + i))))) = true then some (tset T a1 (.inr (.inl (3, n1, fun j => if dp.toNatClampNeg ≤ j ∧ j < dp.toNatClampNeg + n.toNatClampNeg then f0 (sp.toNatClampNeg + (j - dp.toNatClampNeg)) else f1 j)))) else none
    | _ => none
  | _ => none
/-- a copy of bytes is made -/
def tcln (T : tT) (a : Nat) : Option (Nat × tT) := match T.1 a with
  | some (.inr (.inl (3, n, f))) => if ((List.range n).all fun i => fits .byte (.int (m_toI (f i)))) = true then some (T.2.1, tadd T (.inr (.inl (3, n, f))) n) else none
  | _ => none
def tba (T : tT) (a : Nat) : Option Unit := match T.1 a with
  | some (.inr (.inl (3, _, _))) => some ()
  | _ => none
def tpb (T : tT) (a ci k : Nat) (x : Int32) : Option tT := if vp_nar .byte x = x ∧ fits .byte (.int x) = true then tp T a ci k (.int x) else none
/-- a text that stands outside -/
def tou (a : Nat) : Option Unit := if a < 512 then some () else none
theorem tou_ok {a : Nat} (h : tou a = some ()) : a < 512 := by
  unfold tou at h
  split at h
  · assumption
  · cases h
theorem m_okv_outr {n a : Nat} (h : a < 512) : m_okv n (rv (some a)) = true := m_okv_out h
/-- the digits' tables -/
def dgo (i : Int32) : Option Int32 := if ¬ i < 0 ∧ i.toNatClampNeg < 100 then some (Int32.ofNat (48 + i.toNatClampNeg % 10)) else none
def dgt (i : Int32) : Option Int32 := if ¬ i < 0 ∧ i.toNatClampNeg < 100 then some (Int32.ofNat (48 + i.toNatClampNeg / 10)) else none
section
variable {l : Launch} {I J : mI} {pc pc' k fk fl9 t a b ci q1 q2 : Nat} {lv lv' : List (Nat × Value)} {st as rest r : List Value} {w w0 : List mM} {F F' : mF} {P P1 : Option Value → List mM → Prop} {f lo f1 l1 : Nat} {T T1 T' : tT} {x y i sp dp n : Int32} {z : Option Nat} {v kk9 : Value} {ty : FieldType}
/-- a step to the method J's entry and back -/
abbrev m_Cl (l : Launch) (I J : mI) (pc : Nat) (lv : List (Nat × Value)) (st as rest : List Value) (w : List mM) : Prop := ∀ r : mR, m_Met l J as w r → m_Step l I (pc, lv, st, w) (pc + 3, lv, r.1.toList ++ rest, r.2.1) r.2.2.1 r.2.2.2.1 (r.2.2.2.2.1 + 1) (8 + (J.2.2.1 + 11) + r.2.2.2.2.2)
theorem m_Rb.callU (hJm : J ∈ m_mt) (hfit : decide ((lg_sl as).length ≤ J.2.2.1) = true) (hst : m_Cl l I J pc lv st as rest w) (hJ : m_Rb l J (m_ent J as w) P1 T T1 f1 l1) (hp : pc + 3 = pc') (k : T.2.1 ≤ T1.2.1 → ∀ v w', P1 v w' → m_Rb l I (pc', lv, v.toList ++ rest, w') P T1 T' f lo) (hf : f1 + 1 ≤ f) (hl : 8 + (J.2.2.1 + 11) + l1 ≤ lo) : m_Rb l I (pc, lv, st, w) P T T' f lo := by
  subst hp
  obtain ⟨j1, j2, v, w', j3, j4⟩ := hJ
  obtain ⟨k1, k2, k3⟩ := k j1 v w' j3
  refine ⟨Nat.le_trans j1 k1, Nat.le_trans j2 k2, ?_⟩
  have := m_Rs.step (hst _ (m_Met_of (m_mt_ok J hJm) (of_decide_eq_true hfit) j4)) k3 hf hl
  rw [show T'.2.1 - T.2.1 = (T1.2.1 - T.2.1) + (T'.2.1 - T1.2.1) by omega, show T'.2.2 - T.2.2 = (T1.2.2 - T.2.2) + (T'.2.2 - T1.2.2) by omega]
  exact this
theorem m_Rb.callUI (hJm : J ∈ m_mt) (hfit : decide ((lg_sl as).length ≤ J.2.2.1) = true) (hst : m_Cl l I J pc lv st as rest w) (hJ : m_Rb l J (m_ent J as w) (fun v w' => v = some (.int x) ∧ RT T1 w' ∧ m_Fm w w') T T1 f1 l1) (hF : m_Fm w0 w) (hp : pc + 3 = pc') (k : ∀ w1, RT T1 w1 → m_Fm w0 w1 → T.2.1 ≤ T1.2.1 → m_Rb l I (pc', lv, .int x :: rest, w1) P T1 T' f lo) (hf : f1 + 1 ≤ f) (hl : 8 + (J.2.2.1 + 11) + l1 ≤ lo) : m_Rb l I (pc, lv, st, w) P T T' f lo :=
  m_Rb.callU hJm hfit hst hJ hp (fun h1 v w1 hv => by obtain ⟨rfl, h2, h3⟩ := hv; exact k w1 h2 (hF.trans h3) h1) hf hl
theorem m_Rb.callUR (hJm : J ∈ m_mt) (hfit : decide ((lg_sl as).length ≤ J.2.2.1) = true) (hst : m_Cl l I J pc lv st as rest w) (hJ : m_Rb l J (m_ent J as w) (fun v w' => v = some (rv z) ∧ okr T1.2.1 z ∧ RT T1 w' ∧ m_Fm w w') T T1 f1 l1) (hF : m_Fm w0 w) (hp : pc + 3 = pc') (k : ∀ w1, okr T1.2.1 z → RT T1 w1 → m_Fm w0 w1 → T.2.1 ≤ T1.2.1 → m_Rb l I (pc', lv, rv z :: rest, w1) P T1 T' f lo) (hf : f1 + 1 ≤ f) (hl : 8 + (J.2.2.1 + 11) + l1 ≤ lo) : m_Rb l I (pc, lv, st, w) P T T' f lo :=
  m_Rb.callU hJm hfit hst hJ hp (fun h1 v w1 hv => by obtain ⟨rfl, h4, h2, h3⟩ := hv; exact k w1 h4 h2 (hF.trans h3) h1) hf hl
theorem m_Rb.callUV (hJm : J ∈ m_mt) (hfit : decide ((lg_sl as).length ≤ J.2.2.1) = true) (hst : m_Cl l I J pc lv st as rest w) (hJ : m_Rb l J (m_ent J as w) (fun v w' => v = none ∧ RT T1 w' ∧ m_Fm w w') T T1 f1 l1) (hF : m_Fm w0 w) (hp : pc + 3 = pc') (k : ∀ w1, RT T1 w1 → m_Fm w0 w1 → T.2.1 ≤ T1.2.1 → m_Rb l I (pc', lv, rest, w1) P T1 T' f lo) (hf : f1 + 1 ≤ f) (hl : 8 + (J.2.2.1 + 11) + l1 ≤ lo) : m_Rb l I (pc, lv, st, w) P T T' f lo :=
  m_Rb.callU hJm hfit hst hJ hp (fun h1 v w1 hv => by obtain ⟨rfl, h2, h3⟩ := hv; exact k w1 h2 (hF.trans h3) h1) hf hl
theorem m_Rb.tgetB (hI : m_bOk I) (hd : m_dn I pc .baload 1 pc') (h : RT T w) (e : tai T a 3 i = some x) (kk : m_Rb l I (pc', lv, .int x :: r, w) P T T' f lo) : m_Rb l I (pc, lv, .int i :: .ref a :: r, w) P T T' f lo :=
  m_Rb.tald (fun t => decide (t = 3 ∨ t = 4)) (fun _ _ => rfl) (fun _ => rfl) (fun _ _ _ => rfl) (fun _ _ _ _ => rfl) hI hd rfl (by decide) h e kk
theorem m_Rb.tputAB (hI : m_bOk I) (hd : m_dn I pc .bastore 1 pc') (h : RT T w) (hF : m_Fm w0 w) (e : tasb T a i x = some T1) (kk : ∀ w1, RT T1 w1 → m_Fm w0 w1 → T.2.1 ≤ T1.2.1 → m_Rb l I (pc', lv, r, w1) P T1 T' f lo) : m_Rb l I (pc, lv, .int x :: .int i :: .ref a :: r, w) P T T' f lo :=
  m_Rb.tast (fun _ _ => rfl) (fun _ => rfl) (fun _ _ _ => rfl) (fun _ _ _ _ => rfl) hI hd (t := 3) (ty := .byte) rfl rfl h hF e kk
theorem m_Rb.tputB (hI : m_bOk I) (hd : m_dn I pc (.putfield k) 3 pc') (hf : m_fe I k = some (ci, fk, fl9)) (hty : m_ft ci fk = some .byte) (hfl : fl9 = 1 ∨ fl9 = 2) (h : RT T w) (hF : m_Fm w0 w) (e : tpb T a ci fk x = some T1) (kk : ∀ w1, RT T1 w1 → m_Fm w0 w1 → T.2.1 ≤ T1.2.1 → m_Rb l I (pc', lv, r, w1) P T1 T' f lo) : m_Rb l I (pc, lv, .int x :: .ref a :: r, w) P T T' f lo := by
  unfold tpb at e
  split at e
  · rename_i h1
    have hn : narrow .byte (.int x) = .int x := by
      show Value.int (vp_nar .byte x) = .int x
      rw [h1.1]
    exact m_Rb.tput hI hd hf hty hfl hn h1.2 h hF e rfl kk
  · cases e
/-- System.arraycopy of bytes -/
theorem m_Rb.tcopy (hI : m_bOk I) (hd : m_dn I pc (.invokestatic k) 3 pc') (f1 : Cond.methodLink I.1.cls k arraycopyName ∈ m_gt) (h8 : r.length ≤ 4) (h : RT T w) (hF : m_Fm w0 w) (e : tcb T a sp b dp n = some T1) (kk : ∀ w1, RT T1 w1 → m_Fm w0 w1 → T.2.1 ≤ T1.2.1 → m_Rb l I (pc', lv, r, w1) P T1 T' f lo) (hf : 1 ≤ f) (hl : 100 ≤ lo) : m_Rb l I (pc, lv, .int n :: .int dp :: .ref b :: .int sp :: .ref a :: r, w) P T T' f lo := by
  obtain ⟨hd1, rfl⟩ := hd
  unfold tcb at e
  split at e
  · rename_i n0 f0 h0
    split at e
    · rename_i n1 g1 h1
      split at e
      · rename_i hc
        obtain ⟨⟨c1, c2, c3⟩, ⟨c4, c5⟩, c6⟩ := hc
        cases e
        obtain ⟨e0, x1, x2, x3⟩ := h.arr h0
        obtain ⟨e1, y1, y2, y3⟩ := h.arr h1
        have hft : ∀ i, i < n.toNatClampNeg → fits .byte (.int (m_toI (m_el 3 e0 (sp.toNatClampNeg + i)))) = true := fun i hi => by
          rw [x2]
          exact List.all_eq_true.mp c6 i (List.mem_range.mpr hi)
        have hst := m_Step.copyP (lv := lv) l hI hd1 f1 m_cp_n m_cp_s m_cp_i x1 y1 (by decide) (by decide) (ty := .byte) rfl rfl hft c1 c2 c3 c4 c5 (catL h8)
        have hW : m_W1 w (w.set (b - 512) (.inl (3, n1, m_cpl 3 e0 e1 sp.toNatClampNeg dp.toNatClampNeg n.toNatClampNeg))) b (.inl (3, n1, m_cpl 3 e0 e1 sp.toNatClampNeg dp.toNatClampNeg n.toNatClampNeg)) := m_W1.set y1
        have R1 := h.puta h1 hW (f' := fun j => if dp.toNatClampNeg ≤ j ∧ j < dp.toNatClampNeg + n.toNatClampNeg then f0 (sp.toNatClampNeg + (j - dp.toNatClampNeg)) else g1 j) (fun j => by rw [m_el_cpl, x2, y2]) (fun j => by
          split
          · exact x3 _
          · exact y3 j)
        have k9 := kk _ R1 (hF.put hW (h.ndom h1)) (Nat.le_refl _)
        exact m_Rb.lift (fun c s k => m_Rs.stp hst k hf (Nat.le_trans (by decide) hl)) (m_Rb.same rfl k9)
      · cases e
    · cases e
  · cases e
theorem RT.newb {w1 : List mM} {n1 m : Nat} {els : List (Nat × Value)} {g : Nat → Value} (h : RT T w) (h1 : m_WA w w1 n1 (.inl (3, m, els))) (he : ∀ j, m_el 3 els j = g j) (hok : ∀ j, m_okv w.length (g j) = true) : n1 = T.2.1 ∧ RT (tadd T (.inr (.inl (3, m, g))) m) w1 := by
  obtain ⟨own, h⟩ := h
  obtain ⟨k1, k2, k3⟩ := h.nnew
  have hn1 : n1 = T.2.1 := by rw [h1.1, h.1.1]
  subst hn1
  refine ⟨rfl, own, h.cell (a := T.2.1) (by rw [h1.2.1]; omega) (fun b d hb _ => h1.2.2.2 b d hb) (fun b hb => tadd_ne hb) (by show T.2.1 + 1 = _; rw [h1.2.1, h.1.1]; omega) k2 (fun n xs e => by rw [k1] at e; cases e) (fun n xs e => by rw [tadd_eq] at e; cases e) k3 ?_ ?_ ?_⟩
  · intro cj gs e
    rw [k1] at e
    cases e
  · intro cj gs e
    rw [tadd_eq] at e
    cases e
  · intro t n f e
    rw [tadd_eq] at e
    cases e
    exact ⟨els, h1.2.2.1, he, fun j => m_okv_mono (hok j) (by rw [h1.2.1]; omega)⟩
/-- clone() of bytes -/
theorem m_Rb.tclone (hI : m_bOk I) (hd : m_dn I pc (.invokevirtual k) 3 pc') (f1 : Cond.methodLink I.1.cls k (m_cln "[B") ∈ m_gt) (h8 : r.length ≤ 4) (hok : m_okf (pc, lv, .ref a :: r, w) = true) (h : RT T w) (hF : m_Fm w0 w) (e : tcln T a = some (b, T1)) (kk : ∀ w1, okr T1.2.1 (some b) → RT T1 w1 → m_Fm w0 w1 → T.2.1 ≤ T1.2.1 → m_Rb l I (pc', lv, .ref b :: r, w1) P T1 T' f lo) (hf : 1 ≤ f) (hl : 22 ≤ lo) : m_Rb l I (pc, lv, .ref a :: r, w) P T T' f lo := by
  obtain ⟨hd1, rfl⟩ := hd
  unfold tcln at e
  split at e
  · rename_i m g h0
    split at e
    · rename_i hc
      cases e
      obtain ⟨e0, x1, x2, x3⟩ := h.arr h0
      have hft : ∀ i, i < m → fits .byte (.int (m_toI (m_el 3 e0 i))) = true := fun i hi => by
        rw [x2]
        exact List.all_eq_true.mp hc i (List.mem_range.mpr hi)
      have hst := m_Step.cloneB l hI hd1 f1 f_cl2 f_cl3 f_cl4 f_cl5 f_cl6 x1 hft (catL h8) hok
      have hW : m_WA w (w ++ [.inl (3, m, e0)]) (512 + w.length) (.inl (3, m, e0)) := m_WA.of
      obtain ⟨g1, g2⟩ := h.newb hW x2 x3
      refine m_Rb.grow (T1 := tadd T (.inr (.inl (3, m, g))) m) (dc := 1) (ds := m) rfl rfl (fun c s k9 => m_Rs.step hst k9 hf hl) ?_
      rw [g1]
      exact kk _ (okr_some (Nat.lt_succ_self _)) g2 (hF.wa hW) (Nat.le_succ _)
    · cases e
  · cases e
theorem m_Rb.tcastB (hI : m_bOk I) (hd : m_dn I pc (.checkcast k) 3 pc') (f1 : Cond.classLink I.1.cls k "[B" ∈ m_gt) (h : RT T w) (e : tba T a = some ()) (kk : m_Rb l I (pc', lv, .ref a :: r, w) P T T' f lo) : m_Rb l I (pc, lv, .ref a :: r, w) P T T' f lo := by
  obtain ⟨hd1, rfl⟩ := hd
  unfold tba at e
  split at e
  · rename_i m g h0
    obtain ⟨e0, x1, x2, x3⟩ := h.arr h0
    exact m_Rb.lift (fun c s k => m_Rs.stp (m_Step.castB l hI hd1 f1 x1) k (Nat.zero_le _) (Nat.zero_le _)) kk
  · cases e
end
/-! the digits' tables: getstatic, iload, (ineg), baload in one step -/
section
variable {l : Launch} {I : mI} {pc k q : Nat} {lv : List (Nat × Value)} {st : List Value} {w : List mM} {x y : Int32} {n : String}
theorem dg_in {i : Int32} {y : Int32} (h : dgo i = some y) : (¬ i < 0 ∧ i.toNatClampNeg < 100) ∧ y = Int32.ofNat (48 + i.toNatClampNeg % 10) := by
  unfold dgo at h
  split at h
  · rename_i h1
    exact ⟨h1, (Option.some.inj h).symm⟩
  · cases h
theorem dg_it {i : Int32} {y : Int32} (h : dgt i = some y) : (¬ i < 0 ∧ i.toNatClampNeg < 100) ∧ y = Int32.ofNat (48 + i.toNatClampNeg / 10) := by
  unfold dgt at h
  split at h
  · rename_i h1
    exact ⟨h1, (Option.some.inj h).symm⟩
  · cases h
theorem m_Step.dgoA (l : Launch) (hI : m_bOk I) (hcl : I.1.cls = "java/lang/Integer") (hd1 : m_de I pc = some (.getstatic 83, 3)) (hd2 : m_de I (pc + 3) = some (.iload q, 2)) (hd3 : m_de I (pc + 5) = some (.baload, 1)) (hlv : m_lv lv q = some (.int x)) (hy : dgo x = some y) : m_Step l I (pc, lv, st, w) (pc + 6, lv, .int y :: st, w) 0 0 0 0 := by
  intro p e R s m args below meth c H locs cells slots ls D dA X A L Q hx hb hml hown hts hnm hK hE hA hS hl hc hs hfr hlo kk
  have hDg := hE.2.2.2.2.2.2
  have hS : m_St D dA X A s.heap H locs L w := hS
  obtain ⟨⟨g1, g2⟩, g3⟩ := dg_in hy
  subst g3
  rw [hcl] at hown
  refine va_gets hx hb hDg.1 hS.2.2.2.2 hown (hts _ f_do) (fun x h9 => h9) (m_de_ok hI hd1) ?_
  refine lv_iload hx hb (m_de_ok hI hd2) (m_lv_get hl hlv) ?_
  refine va_tb hx hb hDg.2.2.1 hS.2.2.2.2 (fun z => by rcases z with z | z; exact g1 z; omega) rfl (m_de_ok hI hd3) ?_
  have g := kk H locs [] ls (by rw [List.append_nil]; exact hS) (by rw [List.append_nil]; exact hl)
  rw [List.append_nil] at g
  exact g
theorem m_Rb.dgoA {l : Launch} {P : Option Value → List mM → Prop} {T T' : tT} {f lo : Nat} (hI : m_bOk I) (hcl : I.1.cls = "java/lang/Integer") (hd1 : m_dn I pc (.getstatic 83) 3 (pc + 3)) (hd2 : m_dn I (pc + 3) (.iload q) 2 (pc + 5)) (hd3 : m_dn I (pc + 5) .baload 1 (pc + 6)) (hlv : m_lv lv q = some (.int x)) (e : dgo x = some y) (kk : m_Rb l I (pc + 6, lv, .int y :: st, w) P T T' f lo) : m_Rb l I (pc, lv, st, w) P T T' f lo :=
  m_Rb.lift (fun c s k => m_Rs.stp (m_Step.dgoA l hI hcl hd1.1 hd2.1 hd3.1 hlv e) k (Nat.zero_le _) (Nat.zero_le _)) kk
theorem m_Step.dgtA (l : Launch) (hI : m_bOk I) (hcl : I.1.cls = "java/lang/Integer") (hd1 : m_de I pc = some (.getstatic 87, 3)) (hd2 : m_de I (pc + 3) = some (.iload q, 2)) (hd3 : m_de I (pc + 5) = some (.baload, 1)) (hlv : m_lv lv q = some (.int x)) (hy : dgt x = some y) : m_Step l I (pc, lv, st, w) (pc + 6, lv, .int y :: st, w) 0 0 0 0 := by
  intro p e R s m args below meth c H locs cells slots ls D dA X A L Q hx hb hml hown hts hnm hK hE hA hS hl hc hs hfr hlo kk
  have hDg := hE.2.2.2.2.2.2
  have hS : m_St D dA X A s.heap H locs L w := hS
  obtain ⟨⟨g1, g2⟩, g3⟩ := dg_it hy
  subst g3
  rw [hcl] at hown
  refine va_gets hx hb hDg.2.1 hS.2.2.2.2 hown (hts _ f_dt) (fun x h9 => h9) (m_de_ok hI hd1) ?_
  refine lv_iload hx hb (m_de_ok hI hd2) (m_lv_get hl hlv) ?_
  refine va_tb hx hb hDg.2.2.2 hS.2.2.2.2 (fun z => by rcases z with z | z; exact g1 z; omega) rfl (m_de_ok hI hd3) ?_
  have g := kk H locs [] ls (by rw [List.append_nil]; exact hS) (by rw [List.append_nil]; exact hl)
  rw [List.append_nil] at g
  exact g
theorem m_Rb.dgtA {l : Launch} {P : Option Value → List mM → Prop} {T T' : tT} {f lo : Nat} (hI : m_bOk I) (hcl : I.1.cls = "java/lang/Integer") (hd1 : m_dn I pc (.getstatic 87) 3 (pc + 3)) (hd2 : m_dn I (pc + 3) (.iload q) 2 (pc + 5)) (hd3 : m_dn I (pc + 5) .baload 1 (pc + 6)) (hlv : m_lv lv q = some (.int x)) (e : dgt x = some y) (kk : m_Rb l I (pc + 6, lv, .int y :: st, w) P T T' f lo) : m_Rb l I (pc, lv, st, w) P T T' f lo :=
  m_Rb.lift (fun c s k => m_Rs.stp (m_Step.dgtA l hI hcl hd1.1 hd2.1 hd3.1 hlv e) k (Nat.zero_le _) (Nat.zero_le _)) kk
theorem m_Step.dgoN (l : Launch) {q4 : Fin 4} (hI : m_bOk I) (hcl : I.1.cls = "java/lang/Integer") (hd1 : m_de I pc = some (.getstatic 83, 3)) (hd2 : m_de I (pc + 3) = some (.iload_n q4, 1)) (hd4 : m_de I (pc + 4) = some (.ineg, 1)) (hd3 : m_de I (pc + 5) = some (.baload, 1)) (hlv : m_lv lv q4 = some (.int x)) (hy : dgo (-x) = some y) : m_Step l I (pc, lv, st, w) (pc + 6, lv, .int y :: st, w) 0 0 0 0 := by
  intro p e R s m args below meth c H locs cells slots ls D dA X A L Q hx hb hml hown hts hnm hK hE hA hS hl hc hs hfr hlo kk
  have hDg := hE.2.2.2.2.2.2
  have hS : m_St D dA X A s.heap H locs L w := hS
  obtain ⟨⟨g1, g2⟩, g3⟩ := dg_in hy
  subst g3
  rw [hcl] at hown
  refine va_gets hx hb hDg.1 hS.2.2.2.2 hown (hts _ f_do) (fun x h9 => h9) (m_de_ok hI hd1) ?_
  refine lv_iload_n hx hb (m_de_ok hI hd2) rfl (m_lv_get hl hlv) ?_
  refine lv_ineg hx hb (m_de_ok hI hd4) ?_
  refine va_tb hx hb hDg.2.2.1 hS.2.2.2.2 (fun z => by rcases z with z | z; exact g1 z; omega) rfl (m_de_ok hI hd3) ?_
  have g := kk H locs [] ls (by rw [List.append_nil]; exact hS) (by rw [List.append_nil]; exact hl)
  rw [List.append_nil] at g
  exact g
theorem m_Rb.dgoN {q4 : Fin 4} {l : Launch} {P : Option Value → List mM → Prop} {T T' : tT} {f lo : Nat} (hI : m_bOk I) (hcl : I.1.cls = "java/lang/Integer") (hd1 : m_dn I pc (.getstatic 83) 3 (pc + 3)) (hd2 : m_dn I (pc + 3) (.iload_n q4) 1 (pc + 4)) (hd4 : m_dn I (pc + 4) .ineg 1 (pc + 5)) (hd3 : m_dn I (pc + 5) .baload 1 (pc + 6)) (hlv : m_lv lv q4 = some (.int x)) (e : dgo (-x) = some y) (kk : m_Rb l I (pc + 6, lv, .int y :: st, w) P T T' f lo) : m_Rb l I (pc, lv, st, w) P T T' f lo :=
  m_Rb.lift (fun c s k => m_Rs.stp (m_Step.dgoN l hI hcl hd1.1 hd2.1 hd4.1 hd3.1 hlv e) k (Nat.zero_le _) (Nat.zero_le _)) kk
theorem m_Step.dgtN (l : Launch) {q4 : Fin 4} (hI : m_bOk I) (hcl : I.1.cls = "java/lang/Integer") (hd1 : m_de I pc = some (.getstatic 87, 3)) (hd2 : m_de I (pc + 3) = some (.iload_n q4, 1)) (hd4 : m_de I (pc + 4) = some (.ineg, 1)) (hd3 : m_de I (pc + 5) = some (.baload, 1)) (hlv : m_lv lv q4 = some (.int x)) (hy : dgt (-x) = some y) : m_Step l I (pc, lv, st, w) (pc + 6, lv, .int y :: st, w) 0 0 0 0 := by
  intro p e R s m args below meth c H locs cells slots ls D dA X A L Q hx hb hml hown hts hnm hK hE hA hS hl hc hs hfr hlo kk
  have hDg := hE.2.2.2.2.2.2
  have hS : m_St D dA X A s.heap H locs L w := hS
  obtain ⟨⟨g1, g2⟩, g3⟩ := dg_it hy
  subst g3
  rw [hcl] at hown
  refine va_gets hx hb hDg.2.1 hS.2.2.2.2 hown (hts _ f_dt) (fun x h9 => h9) (m_de_ok hI hd1) ?_
  refine lv_iload_n hx hb (m_de_ok hI hd2) rfl (m_lv_get hl hlv) ?_
  refine lv_ineg hx hb (m_de_ok hI hd4) ?_
  refine va_tb hx hb hDg.2.2.2 hS.2.2.2.2 (fun z => by rcases z with z | z; exact g1 z; omega) rfl (m_de_ok hI hd3) ?_
  have g := kk H locs [] ls (by rw [List.append_nil]; exact hS) (by rw [List.append_nil]; exact hl)
  rw [List.append_nil] at g
  exact g
theorem m_Rb.dgtN {q4 : Fin 4} {l : Launch} {P : Option Value → List mM → Prop} {T T' : tT} {f lo : Nat} (hI : m_bOk I) (hcl : I.1.cls = "java/lang/Integer") (hd1 : m_dn I pc (.getstatic 87) 3 (pc + 3)) (hd2 : m_dn I (pc + 3) (.iload_n q4) 1 (pc + 4)) (hd4 : m_dn I (pc + 4) .ineg 1 (pc + 5)) (hd3 : m_dn I (pc + 5) .baload 1 (pc + 6)) (hlv : m_lv lv q4 = some (.int x)) (e : dgt (-x) = some y) (kk : m_Rb l I (pc + 6, lv, .int y :: st, w) P T T' f lo) : m_Rb l I (pc, lv, st, w) P T T' f lo :=
  m_Rb.lift (fun c s k => m_Rs.stp (m_Step.dgtN l hI hcl hd1.1 hd2.1 hd4.1 hd3.1 hlv e) k (Nat.zero_le _) (Nat.zero_le _)) kk
end
theorem m_Step.virtK (l : Launch) {I J : mI} (hI : m_bOk I) {pc k a ci : Nat} {lv : List (Nat × Value)} {st as rest : List Value} {w : List mM} {fs : List Value} {rr : vw_C} {r : mR} {x : MethodName} {owner : String} (hd : m_de I pc = some (.invokevirtual k, 3)) (hJm : J ∈ m_mt)
    (f1 : Cond.methodLink I.1.cls k x ∈ m_gt) (f2 : Cond.sameMethod x.cls owner x.name x.desc ∈ m_gt) (f3 : ∀ (args : Array Value) (s : State), (∀ w ∈ m_gt, w.before args s = true) → va_Decl s ⟨owner, x.name, x.desc⟩) (f4 : ∀ (args : Array Value) (s : State), (∀ w ∈ m_gt, w.before args s = true) → (∀ w ∈ m_nw, va_Nw w s) → (Cond.selects rr.1 x J.1).before args s = true) (f5 : Cond.instanceMethod J.1 ∈ m_gt)
    (hdesc : (parseMethodDescriptor x.desc).map (fun d => d.parameters.length) = some J.2.2.2.1) (hy : owner ≠ "java/lang/invoke/MethodHandle" ∧ owner ≠ "java/lang/invoke/VarHandle") (ht : m_takeI J st = some (J, as, rest)) (ha : st[J.2.2.2.1]? = some (.ref a)) (hrv : m_at w a = some (.inr (ci, fs))) (hr : m_cl[ci]? = some rr) (hokf : m_okf (pc, lv, st, w) = true) (hM : m_Met l J as w r) :
    m_Step l I (pc, lv, st, w) (pc + 3, lv, r.1.toList ++ rest, r.2.1) r.2.2.1 r.2.2.2.1 (r.2.2.2.2.1 + 1) (8 + (J.2.2.1 + 11) + r.2.2.2.2.2) := by
  refine m_go_step ht hokf ?_
  intro p e R s m args below meth c H locs cells slots ls D dA X A L a9 e1 e4 hx hb hml hls hown hts hK hS hfr hlo hc hs hp hlen hstk hcat
  cases ha.symm.trans e4
  subst e1
  have hJ := m_mt_ok J hJm
  have hM2 := hM D dA X L H.size hS.1 hS.2.1
  obtain ⟨h5, h6⟩ := m_at_L (X := X) hS.1 hrv
  have hrc := va_recv hK.1 hS.2.2.1 hr (m_wd_get (X := X) (dA := dA) h5 h6)
  have cw : va_CU R s args I.1.cls rr.1 owner k x J.1 J.2.1 J.2.2.1 J.2.2.2.2.1 (m_Ts J) (m_room r) r.2.2.1 r.2.2.2.1 J.2.2.2.1 := by
    refine ⟨⟨rfl, rfl, hfr, hlo, pay_in hts (m_good (m_Ts_in hJ)), List.mem_cons_self⟩, hts _ hJ.1, hts _ hJ.2.1, hy, fun sig h => ?_, hts _ f1, hts _ f2, f3 args s hts, f4 args s hts hK.2.1, hts _ f5⟩
    rw [h] at hdesc
    exact (Option.some.inj hdesc).symm
  exact va_runU (Ts := m_gt) (own := I.1.cls) (nL := I.2.2.1) (b := m_ad X L a) (As := ((st.take J.2.2.2.1).reverse).map (m_tr X L)) (rest := (st.drop (J.2.2.2.1 + 1)).map (m_tr X L)) ⟨hx, hb, hml, hown, hts⟩ hM2 cw ⟨hp.1, hrc, hp.2⟩ rfl hlen hls hstk hcat (m_de_ok hI hd) ⟨hc, hs⟩
theorem m_selPK {C : String} {y z : MethodName} (hz : Cond.selects C z z ∈ m_gt) (hzc : z.cls = y.cls) (hp : Cond.privateMethod y ∈ m_nw) (hi : Cond.instanceMethod y ∈ m_gt) (hy : y.cls ≠ "java/lang/invoke/MethodHandle" ∧ y.cls ≠ "java/lang/invoke/VarHandle") (args : Array Value) (s : State) (hts : ∀ w ∈ m_gt, w.before args s = true) (hnw : ∀ w ∈ m_nw, va_Nw w s) : (Cond.selects C y y).before args s = true := by
  obtain ⟨c, r, m0, h1, h2, h3, h4, k0, h5, h6⟩ := Cond.selects_spec (hts _ hz)
  obtain ⟨mk, methM, hnamed, hmethM, -, -⟩ := Cond.instanceMethod_spec (hts _ hi)
  have hfound : s.methodFound? y.cls y.name y.desc = some mk := State.methodFound?_of_named hnamed hy
  have hcls : m0.cls = mk.cls := by
    have g1 := findClass_of_methodNamed h3
    have g2 := findClass_of_methodNamed hnamed
    rw [hzc, g2] at g1
    exact (Option.some.inj g1).symm
  have hsel : selectMethod {} s.vm c mk = .method mk := selectMethod_private hmethM ((Cond.privateMethod_at (va_Nw.use (A := args) rfl (hnw _ hp))) mk methM hnamed hmethM)
  rw [hcls] at h5
  simp only [Cond.before, Cond.holds, Cond.value, h1, hfound, hnamed, hsel, h5]
  simp
  exact h6
theorem f_pv_166 : Cond.privateMethod ⟨"java/lang/AbstractStringBuilder", "ensureCapacityInternal", "(I)V"⟩ ∈ m_nw := List.mem_filter.mpr ⟨m_in6 (List.mem_of_getElem? (i := 190) rfl), rfl⟩
theorem f_pv_167 : Cond.privateMethod ⟨"java/lang/AbstractStringBuilder", "newCapacity", "(I)I"⟩ ∈ m_nw := List.mem_filter.mpr ⟨m_in6 (List.mem_of_getElem? (i := 194) rfl), rfl⟩
theorem f_pv_175 : Cond.privateMethod ⟨"java/lang/AbstractStringBuilder", "putStringAt", "(ILjava/lang/String;)V"⟩ ∈ m_nw := List.mem_filter.mpr ⟨m_in6 (List.mem_of_getElem? (i := 231) rfl), rfl⟩
theorem f_pv_176 : Cond.privateMethod ⟨"java/lang/AbstractStringBuilder", "inflateIfNeededFor", "(Ljava/lang/String;)V"⟩ ∈ m_nw := List.mem_filter.mpr ⟨m_in6 (List.mem_of_getElem? (i := 235) rfl), rfl⟩
