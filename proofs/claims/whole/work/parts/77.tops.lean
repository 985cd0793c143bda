/-! The class's methods as guarded functions on its cells: what they stand on. -/
def tg (T : tT) (a ci k : Nat) : Option Value := match T.1 a with
  | some (.inl (cj, fs)) => if cj = ci then fs[k]? else none
  | _ => none
def vi (v : Value) : Option Int32 := match v with
  | .int x => some x
  | _ => none
def vr (v : Value) : Option (Option Nat) := match v with
  | .null => some none
  | .ref a => some (some a)
  | _ => none
def tgi (T : tT) (a ci k : Nat) : Option Int32 := (tg T a ci k).bind vi
def tgr (T : tT) (a ci k : Nat) : Option (Option Nat) := (tg T a ci k).bind vr
def tp (T : tT) (a ci k : Nat) (v : Value) : Option tT := match T.1 a with
  | some (.inl (cj, fs)) => if cj = ci ∧ k < fs.length then some (tset T a (.inl (ci, fs.set k v))) else none
  | _ => none
def tpi (T : tT) (a ci k : Nat) (x : Int32) : Option tT := tp T a ci k (.int x)
def tpz (T : tT) (a ci k : Nat) (x : Int32) : Option tT := if x = 0 ∨ x = 1 then tp T a ci k (.int x) else none
def tpr (T : tT) (a ci k : Nat) (y : Option Nat) : Option tT := tp T a ci k (rv y)
def ta (T : tT) (a t : Nat) (i : Int32) : Option Value := match T.1 a with
  | some (.inr (.inl (t', n, f))) => if t' = t ∧ ¬ i < 0 ∧ i.toNatClampNeg < n then some (f i.toNatClampNeg) else none
  | _ => none
def tai (T : tT) (a t : Nat) (i : Int32) : Option Int32 := (ta T a t i).map m_toI
def tar (T : tT) (a t : Nat) (i : Int32) : Option (Option Nat) := (ta T a t i).bind vr
def tas (T : tT) (a t : Nat) (i : Int32) (v : Value) : Option tT := match T.1 a with
  | some (.inr (.inl (t', n, f))) => if t' = t ∧ ¬ i < 0 ∧ i.toNatClampNeg < n then some (tset T a (.inr (.inl (t, n, fun j => if j = i.toNatClampNeg then v else f j)))) else none
  | _ => none
def tasi (T : tT) (a : Nat) (i x : Int32) : Option tT := tas T a 0 i (.int x)
def tasc (T : tT) (a : Nat) (i x : Int32) : Option tT := tas T a 2 i (.int (vp_nar .char x))
def tasz (T : tT) (a : Nat) (i x : Int32) : Option tT := if x = 0 ∨ x = 1 then tas T a 4 i (.int x) else none
def tcl (T : tT) (a ci : Nat) : Option Unit := match T.1 a with
  | some (.inl (cj, _)) => if cj = ci then some () else none
  | _ => none
def tasr (T : tT) (a t : Nat) (i : Int32) (y : Option Nat) : Option tT := match y with
  | none => tas T a t i .null
  | some b => match T.1 b with
    | some (.inl (ci, _)) => if (ci, t) ∈ m_ass ∨ (ci, t) ∈ m_asl then tas T a t i (.ref b) else none
    | _ => none
def tal (T : tT) (a : Nat) : Option Int32 := match T.1 a with
  | some (.inr (.inl (t, n, _))) => if t < 9 then some (Int32.ofNat n) else none
  | _ => none
def tcc (T : tT) (x : Option Nat) (ci : Nat) : Option Unit := match x with
  | none => some ()
  | some a => tcl T a ci
def tl (T : tT) (a : Nat) : Option (Nat × List Nat) := match T.1 a with
  | some (.inr (.inr q)) => some q
  | _ => none
def tls (T : tT) (a : Nat) : Option Int32 := (tl T a).map fun q => Int32.ofNat q.2.length
def tle (T : tT) (a : Nat) : Option Int32 := (tl T a).map fun q => if q.2 = [] then 1 else 0
def tlg (T : tT) (a : Nat) (i : Int32) : Option Nat := (tl T a).bind fun q => if i < 0 then none else q.2[i.toNatClampNeg]?
def tlr (T : tT) (a : Nat) (i : Int32) : Option (Nat × tT) := (tl T a).bind fun q => if i < 0 then none else (q.2[i.toNatClampNeg]?).map fun b => (b, tset T a (.inr (.inr (q.1, q.2.eraseIdx i.toNatClampNeg))))
def tla (T : tT) (a b : Nat) : Option tT := (tl T a).bind fun q => match T.1 b with
  | some (.inl (ci, _)) => if q.2.length < 366 ∧ (ci, 8) ∈ m_asl then some ((tset T a (.inr (.inr (l_cap q.1 q.2.length, q.2 ++ [b])))).1, T.2.1 + (if q.2.length < q.1 then 0 else 1), T.2.2 + (if q.2.length < q.1 then 0 else l_cap q.1 q.2.length)) else none
  | _ => none
def tlc (T : tT) (a : Nat) : Option tT := (tl T a).map fun q => tset T a (.inr (.inr (q.1, [])))
def tnw (T : tT) (ci : Nat) : Option (Nat × tT) := (m_fd[ci]?).map fun fs => (T.2.1, tadd T (.inl (ci, fs)) fs.length)
def tna (T : tT) (t : Nat) (n : Int32) : Option (Nat × tT) := if n < 0 ∨ 65536 < n.toNatClampNeg then none else some (T.2.1, tadd T (.inr (.inl (t, n.toNatClampNeg, fun _ => m_zero t))) n.toNatClampNeg)
/-- null or not -/
def nc {α : Type} (x : Option Nat) (e : α) (f : Nat → α) : α := match x with
  | none => e
  | some a => f a
theorem nN {α : Type} {e r : α} {f : Nat → α} (h : nc none e f = r) : e = r := h
theorem nS {α : Type} {a : Nat} {e r : α} {f : Nat → α} (h : nc (some a) e f = r) : f a = r := h
def bd2 {α β γ : Type} (o : Option (α × β)) (f : α → β → Option γ) : Option γ := o.bind fun q => f q.1 q.2
theorem bS2 {α β γ : Type} {o : Option (α × β)} {f : α → β → Option γ} {r : γ} (h : bd2 o f = some r) : ∃ v t, o = some (v, t) ∧ f v t = some r := by
  obtain ⟨q, h1, h2⟩ := bS h
  exact ⟨q.1, q.2, h1, h2⟩
/-! What the cells say of the world. -/
section
variable {T T1 : tT} {w w0 w1 : List mM} {a b ci k t : Nat} {v : Value} {x y i : Int32} {z : Option Nat}
theorem RT.len (h : RT T w) : T.2.1 = 512 + w.length := by
  obtain ⟨own, h⟩ := h
  exact h.1.1
theorem RT.okv (h : RT T w) (k : okr T.2.1 z) : m_okv w.length (rv z) = true := by
  rw [h.len] at k
  exact m_okv_rv k
theorem RT.okn (h : RT T w) (k : okr T.2.1 (some a)) : m_okv w.length (.ref a) = true := h.okv k
theorem tg_ok (e : tg T a ci k = some v) : ∃ fs, T.1 a = some (.inl (ci, fs)) ∧ fs[k]? = some v := by
  unfold tg at e
  split at e
  · rename_i cj fs ha
    split at e
    · rename_i h1
      subst h1
      exact ⟨fs, ha, e⟩
    · cases e
  · cases e
theorem RT.obj (h : RT T w) {fs : List Value} (ha : T.1 a = some (.inl (ci, fs))) : m_at w a = some (.inr (ci, fs)) ∧ fs.all (m_okv w.length) = true := by
  obtain ⟨own, h⟩ := h
  exact (h.2.1 a ci fs ha).2
theorem RT.ndom (h : RT T w) {c : tC} (ha : T.1 a = some c) : a ∉ m_dom := by
  obtain ⟨own, h⟩ := h
  exact (h.ex ha).1
theorem tgi_ok (e : tgi T a ci k = some x) : tg T a ci k = some (.int x) := by
  obtain ⟨v, h1, h2⟩ := bS e
  cases v <;> cases h2
  exact h1
theorem tgr_ok (e : tgr T a ci k = some z) : tg T a ci k = some (rv z) := by
  obtain ⟨v, h1, h2⟩ := bS e
  cases v <;> cases h2 <;> exact h1
theorem tcl_ok (e : tcl T a ci = some ()) : ∃ fs, T.1 a = some (.inl (ci, fs)) := by
  unfold tcl at e
  split at e
  · rename_i cj fs ha
    split at e
    · rename_i h1
      subst h1
      exact ⟨fs, ha⟩
    · cases e
  · cases e
theorem RT.cls (h : RT T w) (e : tcl T a ci = some ()) : ∃ fs, m_at w a = some (.inr (ci, fs)) := by
  obtain ⟨fs, ha⟩ := tcl_ok e
  exact ⟨fs, (h.obj ha).1⟩
theorem tp_ok (e : tp T a ci k v = some T1) : ∃ fs, T.1 a = some (.inl (ci, fs)) ∧ k < fs.length ∧ T1 = tset T a (.inl (ci, fs.set k v)) := by
  unfold tp at e
  split at e
  · rename_i cj fs ha
    split at e
    · rename_i h1
      obtain ⟨rfl, h2⟩ := h1
      exact ⟨fs, ha, h2, (Option.some.inj e).symm⟩
    · cases e
  · cases e
theorem okl_set {n : Nat} {fs : List Value} (h : fs.all (m_okv n) = true) (hv : m_okv n v = true) : (fs.set k v).all (m_okv n) = true := by
  rw [List.all_eq_true] at h ⊢
  intro q hq
  rcases List.mem_or_eq_of_mem_set hq with h1 | h1
  · exact h q h1
  · rw [h1]; exact hv
theorem ta_ok (e : ta T a t i = some v) : ∃ n f, T.1 a = some (.inr (.inl (t, n, f))) ∧ (¬ i < 0 ∧ i.toNatClampNeg < n) ∧ v = f i.toNatClampNeg := by
  unfold ta at e
  split at e
  · rename_i t' n f ha
    split at e
    · rename_i h1
      obtain ⟨rfl, h2⟩ := h1
      exact ⟨n, f, ha, h2, (Option.some.inj e).symm⟩
    · cases e
  · cases e
theorem tas_ok (e : tas T a t i v = some T1) : ∃ n f, T.1 a = some (.inr (.inl (t, n, f))) ∧ (¬ i < 0 ∧ i.toNatClampNeg < n) ∧ T1 = tset T a (.inr (.inl (t, n, fun j => if j = i.toNatClampNeg then v else f j))) := by
  unfold tas at e
  split at e
  · rename_i t' n f ha
    split at e
    · rename_i h1
      obtain ⟨rfl, h2⟩ := h1
      exact ⟨n, f, ha, h2, (Option.some.inj e).symm⟩
    · cases e
  · cases e
theorem RT.arr (h : RT T w) {n : Nat} {f : Nat → Value} (ha : T.1 a = some (.inr (.inl (t, n, f)))) : ∃ els, m_at w a = some (.inl (t, n, els)) ∧ (∀ j, m_el t els j = f j) ∧ ∀ j, m_okv w.length (f j) = true := by
  obtain ⟨own, h⟩ := h
  exact (h.2.2.1 a t n f ha).2
theorem tl_ok {n : Nat} {xs : List Nat} (e : tl T a = some (n, xs)) : T.1 a = some (.inr (.inr (n, xs))) := by
  unfold tl at e
  split at e
  · rename_i q ha
    rw [ha, Option.some.inj e]
  · cases e
theorem m_Fm.put {c : mM} (h : m_Fm w0 w) (h1 : m_W1 w w1 a c) (ha : a ∉ m_dom) : m_Fm w0 w1 := ⟨by rw [h1.1]; exact h.1, fun b hb d hd => h1.2.2 b d (h.2 b hb d hd) (fun e => ha (by rw [← e]; exact hb))⟩
theorem m_Fm.wa {c : mM} {n1 : Nat} (h : m_Fm w0 w) (h1 : m_WA w w1 n1 c) : m_Fm w0 w1 := ⟨by rw [h1.2.1]; have := h.1; omega, fun b hb d hd => h1.2.2.2 b d (h.2 b hb d hd)⟩
theorem i32_nc (h : ¬ i < 0) : Int32.ofNat i.toNatClampNeg = i := by
  apply Int32.toInt_inj.mp
  have h1 : (0 : Int) ≤ i.toInt := by
    have : ¬ i.toInt < (0 : Int32).toInt := fun e => h (Int32.lt_iff_toInt_lt.mpr e)
    simpa using this
  have h2 : (i.toNatClampNeg : Int) = i.toInt := by
    unfold Int32.toNatClampNeg
    omega
  have h3 : i.toInt < 2 ^ 31 := Int32.toInt_lt i
  rw [Int32.toInt_ofNat_of_lt (by omega)]
  exact h2
end
/-! Stacks and locals with references that may be null. -/
theorem cat_rv (x : Option Nat) : (rv x).category = 1 := by cases x <;> rfl
theorem cat_le2 (v : Value) : v.category ≤ 2 := by cases v <;> exact Nat.le_of_ble_eq_true rfl
theorem catL : ∀ {r : List Value}, r.length ≤ 4 → (r.map fun v => v.category).sum ≤ 8 := by
  intro r h
  have : ∀ r : List Value, (r.map fun v => v.category).sum ≤ 2 * r.length := by
    intro r
    induction r with
    | nil => exact Nat.le_refl _
    | cons v r ih =>
      have := cat_le2 v
      simp only [List.map_cons, List.sum_cons, List.length_cons]
      omega
  have := this r
  omega
theorem lv_args_r (n : Nat) (x : Option Nat) (as : List Value) : lv_args n (rv x :: as) = (n, rv x) :: lv_args (n + 1) as := by
  show (n, rv x) :: lv_args (if (rv x).category = 2 then n + 2 else n + 1) as = _
  rw [cat_rv, if_neg (by decide)]
theorem lv_args_a (n a : Nat) (as : List Value) : lv_args n (.ref a :: as) = (n, .ref a) :: lv_args (n + 1) as := rfl
theorem lv_args_i (n : Nat) (x : Int32) (as : List Value) : lv_args n (.int x :: as) = (n, .int x) :: lv_args (n + 1) as := rfl
theorem lv_args_l (n : Nat) (x : Int64) (as : List Value) : lv_args n (.long x :: as) = (n, .long x) :: lv_args (n + 2) as := rfl
theorem lv_args_0 (n : Nat) : lv_args n [] = [] := rfl
theorem lgs_r (x : Option Nat) (as : List Value) : (lg_sl (rv x :: as)).length = 1 + (lg_sl as).length := by
  show ((if (rv x).category = 2 then [Slot.val (rv x), .second] else [.val (rv x)]) ++ lg_sl as).length = _
  rw [cat_rv, if_neg (by decide), List.length_append]
  rfl
theorem lgs_a (a : Nat) (as : List Value) : (lg_sl (.ref a :: as)).length = 1 + (lg_sl as).length := by
  show ([Slot.val (.ref a)] ++ lg_sl as).length = _
  rw [List.length_append]
  rfl
theorem lgs_i (x : Int32) (as : List Value) : (lg_sl (.int x :: as)).length = 1 + (lg_sl as).length := by
  show ([Slot.val (.int x)] ++ lg_sl as).length = _
  rw [List.length_append]
  rfl
theorem lgs_l (x : Int64) (as : List Value) : (lg_sl (.long x :: as)).length = 2 + (lg_sl as).length := by
  show ([Slot.val (.long x), .second] ++ lg_sl as).length = _
  rw [List.length_append]
  rfl
theorem lgs_0 : (lg_sl []).length = 0 := rfl
theorem m_p1r {lv : List (Nat × Value)} {i : Nat} {v : Value} (h : lv.all (fun q => !(q.1 + 1 == i) || (q.2.category == 1)) = true) : m_put1 lv i v = (i, v) :: lv.filter (fun q => !(q.1 == i)) := by
  unfold m_put1
  congr 1
  apply List.filter_congr
  intro q hq
  have h1 := List.all_eq_true.mp h q hq
  cases e : (q.1 + 1 == i) with
  | false => simp
  | true =>
    rw [e] at h1
    have h2 : q.2.category = 1 := by simpa using h1
    simp [h2]
theorem m_takeI_of {J : mI} {st as rest : List Value} {a : Nat} (h1 : st[J.2.2.2.1]? = some (.ref a)) (h2 : (st.take J.2.2.2.1).reverse = as) (h3 : st.drop (J.2.2.2.1 + 1) = rest) (h4 : rest.length ≤ 4) : m_takeI J st = some (J, .ref a :: as, rest) := by
  unfold m_takeI
  simp only [h1, h2, h3]
  rw [if_pos (catL h4)]
theorem m_takeS_of {J : mI} {st as rest : List Value} (h1 : J.2.2.2.1 ≤ st.length) (h2 : (st.take J.2.2.2.1).reverse = as) (h3 : st.drop J.2.2.2.1 = rest) (h4 : rest.length ≤ 4) : m_takeS J st = some (J, as, rest) := by
  unfold m_takeS
  simp only [h2, h3]
  rw [if_pos ⟨h1, catL h4⟩]
section
variable {ic : mI → mF → Option mR} {I : mI} {pc pc' k : Nat} {k4 : Fin 4} {lv lv' : List (Nat × Value)} {st r : List Value} {w : List mM} {x : Option Nat}
theorem x_aloadr_n (hd : m_dn I pc (.aload_n k4) 1 pc') (h : m_lv lv k4 = some (rv x)) : m_nx ic I (pc, lv, st, w) = some ((pc', lv, rv x :: st, w), 0, 0, 0, 0) := by
  cases x with
  | none => exact x_aload_n0 hd h
  | some a => exact x_aload_n hd h
theorem x_aloadr (hd : m_dn I pc (.aload k) 2 pc') (h : m_lv lv k = some (rv x)) : m_nx ic I (pc, lv, st, w) = some ((pc', lv, rv x :: st, w), 0, 0, 0, 0) := by
  cases x with
  | none => exact x_aload0 hd h
  | some a => exact x_aload hd h
theorem x_astorer_n (hd : m_dn I pc (.astore_n k4) 1 pc') (hk : decide (k4 < I.2.2.1) = true) (h : m_put1 lv k4 (rv x) = lv') : m_nx ic I (pc, lv, rv x :: r, w) = some ((pc', lv', r, w), 0, 0, 0, 0) := by
  cases x with
  | none => exact x_astore_n0 hd hk h
  | some a => exact x_astore_n hd hk h
theorem x_astorer (hd : m_dn I pc (.astore k) 2 pc') (hk : decide (k < I.2.2.1) = true) (h : m_put1 lv k (rv x) = lv') : m_nx ic I (pc, lv, rv x :: r, w) = some ((pc', lv', r, w), 0, 0, 0, 0) := by
  cases x with
  | none => exact x_astore0 hd hk h
  | some a => exact x_astore hd hk h
theorem m_rt_rr {c9 : String} (hd : m_dn I pc .areturn 1 pc') (hty : I.2.2.2.2.1 = some (.object c9)) : m_rt I (pc, lv, [rv x], w) = some (some (rv x)) := by
  cases x with
  | none =>
    unfold m_rt
    simp only [hd.1]
    show m_re I .areturn 1 [.null] = _
    simp only [m_re, hty, if_true]
    rfl
  | some a => exact m_rt_ar hd hty
end
/-! Runs whose room is what the cells say. -/
def m_Rb (l : Launch) (I : mI) (F : mF) (P : Option Value → List mM → Prop) (T T' : tT) (f lo : Nat) : Prop := T.2.1 ≤ T'.2.1 ∧ T.2.2 ≤ T'.2.2 ∧ m_Rs l I F P (T'.2.1 - T.2.1) (T'.2.2 - T.2.2) f lo
section
variable {l : Launch} {I J : mI} {pc pc' k fk fl9 t a b ci q1 q2 : Nat} {lv lv' : List (Nat × Value)} {st as rest r : List Value} {w w0 : List mM} {F F' : mF} {P P1 : Option Value → List mM → Prop} {f lo f1 l1 : Nat} {T T1 T' : tT} {x y i : Int32} {z : Option Nat} {v kk9 : Value} {ty : FieldType}
theorem m_Rb.lift (hr : ∀ c s, m_Rs l I F' P c s f lo → m_Rs l I F P c s f lo) (k : m_Rb l I F' P T T' f lo) : m_Rb l I F P T T' f lo := ⟨k.1, k.2.1, hr _ _ k.2.2⟩
theorem m_Rb.n0 (hI : m_bOk I) (h : m_nx m_nn I F = some (F', 0, 0, 0, 0)) (k : m_Rb l I F' P T T' f lo) : m_Rb l I F P T T' f lo := ⟨k.1, k.2.1, m_Rs.n0 hI h k.2.2⟩
theorem m_Rb.nz (hI : m_bOk I) (h : m_nx m_nn I (pc, lv, st, w) = some (F', 0, 0, f1, l1)) (k : m_Rb l I F' P T T' f lo) (hf : f1 ≤ f) (hl : l1 ≤ lo) : m_Rb l I (pc, lv, st, w) P T T' f lo := ⟨k.1, k.2.1, m_Rs.nz hI h k.2.2 hf hl⟩
theorem m_Rb.pick (ks : List Nat) (hp : lv_pick lv ks = lv') (h : m_Rb l I (pc, lv', st, w) P T T' f lo) : m_Rb l I (pc, lv, st, w) P T T' f lo := ⟨h.1, h.2.1, m_Rs.pick ks hp h.2.2⟩
theorem m_Rb.ret {v : Option Value} (hI : m_bOk I) (h : m_rt I F = some v) (hP : P v F.2.2.2) : m_Rb l I F P T T f lo := ⟨Nat.le_refl _, Nat.le_refl _, m_Rs.ret hI h hP⟩
theorem m_Rb.same (e : T1.2 = T.2) (k : m_Rb l I F P T1 T' f lo) : m_Rb l I F P T T' f lo := by
  unfold m_Rb at k ⊢
  rw [e] at k
  exact k
theorem m_Rb.grow {dc ds : Nat} (e1 : T1.2.1 = T.2.1 + dc) (e2 : T1.2.2 = T.2.2 + ds) (hr : ∀ c s, m_Rs l I F' P c s f lo → m_Rs l I F P (dc + c) (ds + s) f lo) (k : m_Rb l I F' P T1 T' f lo) : m_Rb l I F P T T' f lo := by
  obtain ⟨k1, k2, k3⟩ := k
  refine ⟨by omega, by omega, ?_⟩
  have := hr _ _ k3
  rw [e1] at this k1
  rw [e2] at this k2
  rw [show T'.2.1 - T.2.1 = dc + (T'.2.1 - (T.2.1 + dc)) by omega, show T'.2.2 - T.2.2 = ds + (T'.2.2 - (T.2.2 + ds)) by omega]
  exact this
theorem m_Rb.call (hI : m_bOk I) (h : m_at1 I (pc, lv, st, w) = some (J, as, rest)) (hJ : m_Rb l J (m_ent J as w) P1 T T1 f1 l1) (hp : pc + 3 = pc') (k : T.2.1 ≤ T1.2.1 → ∀ v w', P1 v w' → m_Rb l I (pc', lv, v.toList ++ rest, w') P T1 T' f lo) (hf : f1 + 1 ≤ f) (hl : 8 + (J.2.2.1 + 11) + l1 ≤ lo) : m_Rb l I (pc, lv, st, w) P T T' f lo := by
  obtain ⟨j1, j2, v, w', j3, j4⟩ := hJ
  obtain ⟨k1, k2, k3⟩ := k j1 v w' j3
  refine ⟨Nat.le_trans j1 k1, Nat.le_trans j2 k2, ?_⟩
  have := m_Rs.callP hI h (P1 := fun v1 w1 => v1 = v ∧ w1 = w') ⟨v, w', ⟨rfl, rfl⟩, j4⟩ hp (fun v1 w1 h1 => by obtain ⟨rfl, rfl⟩ := h1; exact k3) hf hl
  rw [show T'.2.1 - T.2.1 = (T1.2.1 - T.2.1) + (T'.2.1 - T1.2.1) by omega, show T'.2.2 - T.2.2 = (T1.2.2 - T.2.2) + (T'.2.2 - T1.2.2) by omega]
  exact this
theorem m_Rb.callI (hI : m_bOk I) (h : m_at1 I (pc, lv, st, w) = some (J, as, rest)) (hJ : m_Rb l J (m_ent J as w) (fun v w' => v = some (.int x) ∧ RT T1 w' ∧ m_Fm w w') T T1 f1 l1) (hF : m_Fm w0 w) (hp : pc + 3 = pc') (k : ∀ w1, RT T1 w1 → m_Fm w0 w1 → T.2.1 ≤ T1.2.1 → m_Rb l I (pc', lv, .int x :: rest, w1) P T1 T' f lo) (hf : f1 + 1 ≤ f) (hl : 8 + (J.2.2.1 + 11) + l1 ≤ lo) : m_Rb l I (pc, lv, st, w) P T T' f lo :=
  m_Rb.call hI h hJ hp (fun h1 v w1 hv => by obtain ⟨rfl, h2, h3⟩ := hv; exact k w1 h2 (hF.trans h3) h1) hf hl
theorem m_Rb.callR (hI : m_bOk I) (h : m_at1 I (pc, lv, st, w) = some (J, as, rest)) (hJ : m_Rb l J (m_ent J as w) (fun v w' => v = some (rv z) ∧ okr T1.2.1 z ∧ RT T1 w' ∧ m_Fm w w') T T1 f1 l1) (hF : m_Fm w0 w) (hp : pc + 3 = pc') (k : ∀ w1, okr T1.2.1 z → RT T1 w1 → m_Fm w0 w1 → T.2.1 ≤ T1.2.1 → m_Rb l I (pc', lv, rv z :: rest, w1) P T1 T' f lo) (hf : f1 + 1 ≤ f) (hl : 8 + (J.2.2.1 + 11) + l1 ≤ lo) : m_Rb l I (pc, lv, st, w) P T T' f lo :=
  m_Rb.call hI h hJ hp (fun h1 v w1 hv => by obtain ⟨rfl, h4, h2, h3⟩ := hv; exact k w1 h4 h2 (hF.trans h3) h1) hf hl
theorem m_Rb.callV (hI : m_bOk I) (h : m_at1 I (pc, lv, st, w) = some (J, as, rest)) (hJ : m_Rb l J (m_ent J as w) (fun v w' => v = none ∧ RT T1 w' ∧ m_Fm w w') T T1 f1 l1) (hF : m_Fm w0 w) (hp : pc + 3 = pc') (k : ∀ w1, RT T1 w1 → m_Fm w0 w1 → T.2.1 ≤ T1.2.1 → m_Rb l I (pc', lv, rest, w1) P T1 T' f lo) (hf : f1 + 1 ≤ f) (hl : 8 + (J.2.2.1 + 11) + l1 ≤ lo) : m_Rb l I (pc, lv, st, w) P T T' f lo :=
  m_Rb.call hI h hJ hp (fun h1 v w1 hv => by obtain ⟨rfl, h2, h3⟩ := hv; exact k w1 h2 (hF.trans h3) h1) hf hl
/-- a contract that leaves the world -/
theorem m_Rb.callE (hI : m_bOk I) (h : m_at1 I (pc, lv, st, w) = some (J, as, rest)) (hJ : m_Rs l J (m_ent J as w) (fun v' w' => v' = some v ∧ w' = w) 0 0 f1 l1) (hp : pc + 3 = pc') (k : m_Rb l I (pc', lv, v :: rest, w) P T T' f lo) (hf : f1 + 1 ≤ f) (hl : 8 + (J.2.2.1 + 11) + l1 ≤ lo) : m_Rb l I (pc, lv, st, w) P T T' f lo :=
  ⟨k.1, k.2.1, m_Rs.callE hI h hJ hp k.2.2 hf hl⟩
theorem m_Rb.tgetI (hI : m_bOk I) (hd : m_dn I pc (.getfield k) 3 pc') (hf : m_fe I k = some (ci, fk, fl9)) (h : RT T w) (e : tgi T a ci fk = some x) (kk : m_Rb l I (pc', lv, .int x :: r, w) P T T' f lo) : m_Rb l I (pc, lv, .ref a :: r, w) P T T' f lo := by
  obtain ⟨fs, h1, h2⟩ := tg_ok (tgi_ok e)
  exact m_Rb.n0 hI (x_getf hd hf (h.obj h1).1 h2) kk
theorem m_Rb.tgetR (hI : m_bOk I) (hd : m_dn I pc (.getfield k) 3 pc') (hf : m_fe I k = some (ci, fk, fl9)) (h : RT T w) (e : tgr T a ci fk = some z) (kk : okr T.2.1 z → m_Rb l I (pc', lv, rv z :: r, w) P T T' f lo) : m_Rb l I (pc, lv, .ref a :: r, w) P T T' f lo := by
  obtain ⟨fs, h1, h2⟩ := tg_ok (tgr_ok e)
  refine m_Rb.n0 hI (x_getf hd hf (h.obj h1).1 h2) (kk ?_)
  rw [h.len]
  exact okr_of (List.all_eq_true.mp (h.obj h1).2 _ (List.mem_of_getElem? h2))
theorem m_Rb.tput (hI : m_bOk I) (hd : m_dn I pc (.putfield k) 3 pc') (hf : m_fe I k = some (ci, fk, fl9)) (hty : m_ft ci fk = some ty) (hfl : fl9 = 1 ∨ fl9 = 2) (hn : narrow ty v = v) (hi : fits ty v = true) (h : RT T w) (hF : m_Fm w0 w) (e : tp T a ci fk v = some T1) (hok : m_okv w.length v = true) (kk : ∀ w1, RT T1 w1 → m_Fm w0 w1 → T.2.1 ≤ T1.2.1 → m_Rb l I (pc', lv, r, w1) P T1 T' f lo) : m_Rb l I (pc, lv, v :: .ref a :: r, w) P T T' f lo := by
  obtain ⟨fs, h1, h2, rfl⟩ := tp_ok e
  obtain ⟨g1, g2⟩ := h.obj h1
  have hW : m_W1 w (w.set (a - 512) (.inr (ci, fs.set fk v))) a (.inr (ci, fs.set fk v)) := m_W1.set g1
  exact m_Rb.n0 hI (x_putf hd hf g1 hty hfl (decide_eq_true h2) hn hi hok) (m_Rb.same rfl (kk _ (h.put h1 hW (okl_set g2 hok)) (hF.put hW (h.ndom h1)) (Nat.le_refl _)))
theorem m_Rb.tputI (hI : m_bOk I) (hd : m_dn I pc (.putfield k) 3 pc') (hf : m_fe I k = some (ci, fk, fl9)) (hty : m_ft ci fk = some .int) (hfl : fl9 = 1 ∨ fl9 = 2) (h : RT T w) (hF : m_Fm w0 w) (e : tpi T a ci fk x = some T1) (kk : ∀ w1, RT T1 w1 → m_Fm w0 w1 → T.2.1 ≤ T1.2.1 → m_Rb l I (pc', lv, r, w1) P T1 T' f lo) : m_Rb l I (pc, lv, .int x :: .ref a :: r, w) P T T' f lo :=
  m_Rb.tput hI hd hf hty hfl rfl rfl h hF e rfl kk
theorem m_Rb.tputZ (hI : m_bOk I) (hd : m_dn I pc (.putfield k) 3 pc') (hf : m_fe I k = some (ci, fk, fl9)) (hty : m_ft ci fk = some .boolean) (hfl : fl9 = 1 ∨ fl9 = 2) (h : RT T w) (hF : m_Fm w0 w) (e : tpz T a ci fk x = some T1) (kk : ∀ w1, RT T1 w1 → m_Fm w0 w1 → T.2.1 ≤ T1.2.1 → m_Rb l I (pc', lv, r, w1) P T1 T' f lo) : m_Rb l I (pc, lv, .int x :: .ref a :: r, w) P T T' f lo := by
  unfold tpz at e
  split at e
  · rename_i h1
    exact m_Rb.tput hI hd hf hty hfl (m_nb_or h1) (by rcases h1 with rfl | rfl <;> rfl) h hF e rfl kk
  · cases e
theorem m_Rb.tputR {c9 : String} (hI : m_bOk I) (hd : m_dn I pc (.putfield k) 3 pc') (hf : m_fe I k = some (ci, fk, fl9)) (hty : m_ft ci fk = some (.object c9)) (hfl : fl9 = 1 ∨ fl9 = 2) (h : RT T w) (hF : m_Fm w0 w) (e : tpr T a ci fk z = some T1) (hz : okr T.2.1 z) (kk : ∀ w1, RT T1 w1 → m_Fm w0 w1 → T.2.1 ≤ T1.2.1 → m_Rb l I (pc', lv, r, w1) P T1 T' f lo) : m_Rb l I (pc, lv, rv z :: .ref a :: r, w) P T T' f lo :=
  m_Rb.tput hI hd hf hty hfl (by cases z <;> rfl) (by cases z <;> rfl) h hF e (h.okv hz) kk
theorem m_Rb.tputA {c9 : FieldType} (hI : m_bOk I) (hd : m_dn I pc (.putfield k) 3 pc') (hf : m_fe I k = some (ci, fk, fl9)) (hty : m_ft ci fk = some (.array c9)) (hfl : fl9 = 1 ∨ fl9 = 2) (h : RT T w) (hF : m_Fm w0 w) (e : tpr T a ci fk z = some T1) (hz : okr T.2.1 z) (kk : ∀ w1, RT T1 w1 → m_Fm w0 w1 → T.2.1 ≤ T1.2.1 → m_Rb l I (pc', lv, r, w1) P T1 T' f lo) : m_Rb l I (pc, lv, rv z :: .ref a :: r, w) P T T' f lo :=
  m_Rb.tput hI hd hf hty hfl (by cases z <;> rfl) (by cases z <;> rfl) h hF e (h.okv hz) kk
theorem tai_ok (e : tai T a t i = some x) : ∃ n f, T.1 a = some (.inr (.inl (t, n, f))) ∧ (¬ i < 0 ∧ i.toNatClampNeg < n) ∧ x = m_toI (f i.toNatClampNeg) := by
  unfold tai at e
  obtain ⟨v, h1, h2⟩ := Option.map_eq_some_iff.mp e
  obtain ⟨n, f, g1, g2, g3⟩ := ta_ok h1
  exact ⟨n, f, g1, g2, by rw [← h2, g3]⟩
theorem m_Rb.tald (ok : Nat → Bool) {ins : Instr} (hm : ∀ st w, m_hs I ins st w = m_ald ok st w) (p1 : ∀ st, m_ps ins st = none) (p2 : ∀ n lv st, m_lo n ins lv st = none) (p3 : ∀ n pc k st, m_br n pc ins k st = none) (hI : m_bOk I) (hd : m_dn I pc ins 1 pc') (hok : ok t = true) (ht : ¬ t = 1) (h : RT T w) (e : tai T a t i = some x) (kk : m_Rb l I (pc', lv, .int x :: r, w) P T T' f lo) : m_Rb l I (pc, lv, .int i :: .ref a :: r, w) P T T' f lo := by
  obtain ⟨n, f9, g1, g2, rfl⟩ := tai_ok e
  obtain ⟨els, k1, k2, -⟩ := h.arr g1
  refine m_Rb.n0 hI (x_hs hd (p1 _) (p2 _ _ _) (p3 _ _ _ _) ?_) kk
  rw [hm]
  have g2' : ¬ (i < 0 ∨ n ≤ i.toNatClampNeg) := by
    intro h9
    rcases h9 with h9 | h9
    · exact g2.1 h9
    · omega
  simp only [m_ald, k1]
  rw [if_pos ⟨hok, g2'⟩, if_neg ht, k2]
theorem m_Rb.tgetA (hI : m_bOk I) (hd : m_dn I pc .iaload 1 pc') (h : RT T w) (e : tai T a 0 i = some x) (kk : m_Rb l I (pc', lv, .int x :: r, w) P T T' f lo) : m_Rb l I (pc, lv, .int i :: .ref a :: r, w) P T T' f lo :=
  m_Rb.tald (fun t => decide (t = 0)) (fun _ _ => rfl) (fun _ => rfl) (fun _ _ _ => rfl) (fun _ _ _ _ => rfl) hI hd rfl (by decide) h e kk
theorem m_Rb.tgetC (hI : m_bOk I) (hd : m_dn I pc .caload 1 pc') (h : RT T w) (e : tai T a 2 i = some x) (kk : m_Rb l I (pc', lv, .int x :: r, w) P T T' f lo) : m_Rb l I (pc, lv, .int i :: .ref a :: r, w) P T T' f lo :=
  m_Rb.tald (fun t => decide (t = 2)) (fun _ _ => rfl) (fun _ => rfl) (fun _ _ _ => rfl) (fun _ _ _ _ => rfl) hI hd rfl (by decide) h e kk
theorem m_Rb.tgetZ (hI : m_bOk I) (hd : m_dn I pc .baload 1 pc') (h : RT T w) (e : tai T a 4 i = some x) (kk : m_Rb l I (pc', lv, .int x :: r, w) P T T' f lo) : m_Rb l I (pc, lv, .int i :: .ref a :: r, w) P T T' f lo :=
  m_Rb.tald (fun t => decide (t = 3 ∨ t = 4)) (fun _ _ => rfl) (fun _ => rfl) (fun _ _ _ => rfl) (fun _ _ _ _ => rfl) hI hd rfl (by decide) h e kk
theorem m_Rb.tgetO {c9 : String} (hI : m_bOk I) (hd : m_dn I pc .aaload 1 pc') (ht : m_tyl[t]? = some (.object c9)) (h6 : decide (¬ t < 6) = true) (h : RT T w) (e : tar T a t i = some z) (kk : okr T.2.1 z → m_Rb l I (pc', lv, rv z :: r, w) P T T' f lo) : m_Rb l I (pc, lv, .int i :: .ref a :: r, w) P T T' f lo := by
  unfold tar at e
  obtain ⟨v, h1, h2⟩ := bS e
  obtain ⟨n, f9, g1, g2, g3⟩ := ta_ok h1
  obtain ⟨els, k1, k2, k3⟩ := h.arr g1
  have hz : v = rv z := by cases v <;> cases h2 <;> rfl
  have hok : okr T.2.1 z := by
    rw [h.len]
    refine okr_of ?_
    rw [← hz, g3]
    exact k3 _
  have hel : m_el t els i.toNatClampNeg = rv z := by rw [k2, ← g3, hz]
  cases z with
  | none => exact m_Rb.n0 hI (x_aaload0 hd k1 ht h6 g2.1 rfl g2.2 hel) (kk hok)
  | some b => exact m_Rb.n0 hI (x_aaload hd k1 ht h6 g2.1 rfl g2.2 hel) (kk hok)
theorem m_Rb.talen (hI : m_bOk I) (hd : m_dn I pc .arraylength 1 pc') (h : RT T w) (e : tal T a = some x) (kk : m_Rb l I (pc', lv, .int x :: r, w) P T T' f lo) : m_Rb l I (pc, lv, .ref a :: r, w) P T T' f lo := by
  unfold tal at e
  split at e
  · rename_i t n f9 ha
    split at e
    · rename_i h9
      obtain rfl := Option.some.inj e
      obtain ⟨els, k1, k2, k3⟩ := h.arr ha
      have ht : ∃ ty, m_tyl[t]? = some ty := ⟨_, List.getElem?_eq_getElem (show t < m_tyl.length from h9)⟩
      obtain ⟨ty, ht⟩ := ht
      exact m_Rb.n0 hI (x_alen hd k1 ht rfl) kk
    · cases e
  · cases e
theorem m_Rb.tast {ins : Instr} {tyf : Nat → Option FieldType} {x9 : Int32} (hm : ∀ st w, m_hs I ins st w = m_ast tyf st w) (p1 : ∀ st, m_ps ins st = none) (p2 : ∀ n lv st, m_lo n ins lv st = none) (p3 : ∀ n pc k st, m_br n pc ins k st = none) (hI : m_bOk I) (hd : m_dn I pc ins 1 pc') (hok : tyf t = some ty) (hx : vp_nar ty x = x9) (h : RT T w) (hF : m_Fm w0 w) (e : tas T a t i (.int x9) = some T1) (kk : ∀ w1, RT T1 w1 → m_Fm w0 w1 → T.2.1 ≤ T1.2.1 → m_Rb l I (pc', lv, r, w1) P T1 T' f lo) : m_Rb l I (pc, lv, .int x :: .int i :: .ref a :: r, w) P T T' f lo := by
  obtain ⟨n, f9, g1, g2, rfl⟩ := tas_ok e
  obtain ⟨els, k1, k2, k3⟩ := h.arr g1
  have hW : m_W1 w (w.set (a - 512) (.inl (t, n, m_sel els i.toNatClampNeg (.int x9)))) a (.inl (t, n, m_sel els i.toNatClampNeg (.int x9))) := m_W1.set k1
  refine m_Rb.n0 hI (x_hs hd (p1 _) (p2 _ _ _) (p3 _ _ _ _) ?_) (m_Rb.same rfl (kk _ (h.puta g1 hW (fun j => ?_) (fun j => ?_)) (hF.put hW (h.ndom g1)) (Nat.le_refl _)))
  · rw [hm]
    have g2' : ¬ (i < 0 ∨ n ≤ i.toNatClampNeg) := by
      intro h9
      rcases h9 with h9 | h9
      · exact g2.1 h9
      · omega
    simp only [m_ast, k1, hok]
    rw [if_pos g2', hx]
  · rw [m_el_set, k2]
  · split
    · rfl
    · exact k3 j
theorem m_Rb.tputAI (hI : m_bOk I) (hd : m_dn I pc .iastore 1 pc') (h : RT T w) (hF : m_Fm w0 w) (e : tasi T a i x = some T1) (kk : ∀ w1, RT T1 w1 → m_Fm w0 w1 → T.2.1 ≤ T1.2.1 → m_Rb l I (pc', lv, r, w1) P T1 T' f lo) : m_Rb l I (pc, lv, .int x :: .int i :: .ref a :: r, w) P T T' f lo :=
  m_Rb.tast (fun _ _ => rfl) (fun _ => rfl) (fun _ _ _ => rfl) (fun _ _ _ _ => rfl) hI hd (t := 0) (ty := .int) (x9 := x) rfl rfl h hF e kk
theorem m_Rb.tputAC (hI : m_bOk I) (hd : m_dn I pc .castore 1 pc') (h : RT T w) (hF : m_Fm w0 w) (e : tasc T a i x = some T1) (kk : ∀ w1, RT T1 w1 → m_Fm w0 w1 → T.2.1 ≤ T1.2.1 → m_Rb l I (pc', lv, r, w1) P T1 T' f lo) : m_Rb l I (pc, lv, .int x :: .int i :: .ref a :: r, w) P T T' f lo :=
  m_Rb.tast (fun _ _ => rfl) (fun _ => rfl) (fun _ _ _ => rfl) (fun _ _ _ _ => rfl) hI hd (t := 2) (ty := .char) rfl rfl h hF e kk
theorem m_Rb.tputAZ (hI : m_bOk I) (hd : m_dn I pc .bastore 1 pc') (h : RT T w) (hF : m_Fm w0 w) (e : tasz T a i x = some T1) (kk : ∀ w1, RT T1 w1 → m_Fm w0 w1 → T.2.1 ≤ T1.2.1 → m_Rb l I (pc', lv, r, w1) P T1 T' f lo) : m_Rb l I (pc, lv, .int x :: .int i :: .ref a :: r, w) P T T' f lo := by
  unfold tasz at e
  split at e
  · rename_i h1
    refine m_Rb.tast (fun _ _ => rfl) (fun _ => rfl) (fun _ _ _ => rfl) (fun _ _ _ _ => rfl) hI hd (t := 4) (ty := .boolean) (x9 := x) rfl ?_ h hF e kk
    rcases h1 with rfl | rfl <;> decide
  · cases e
theorem m_Rb.tputO {c9 : String} (hI : m_bOk I) (hd : m_dn I pc .aastore 1 pc') (ht : m_tyl[t]? = some (.object c9)) (h6 : decide (¬ t < 6) = true) (h : RT T w) (hF : m_Fm w0 w) (e : tasr T a t i z = some T1) (hz : okr T.2.1 z) (kk : ∀ w1, RT T1 w1 → m_Fm w0 w1 → T.2.1 ≤ T1.2.1 → m_Rb l I (pc', lv, r, w1) P T1 T' f lo) : m_Rb l I (pc, lv, rv z :: .int i :: .ref a :: r, w) P T T' f lo := by
  cases z with
  | none =>
    obtain ⟨n, f9, g1, g2, rfl⟩ := tas_ok (show tas T a t i .null = some T1 from e)
    obtain ⟨els, k1, k2, k3⟩ := h.arr g1
    have hW : m_W1 w (w.set (a - 512) (.inl (t, n, m_sel els i.toNatClampNeg .null))) a (.inl (t, n, m_sel els i.toNatClampNeg .null)) := m_W1.set k1
    refine m_Rb.n0 hI (x_aastore0 hd k1 ht (of_decide_eq_true h6) g2.1 rfl g2.2) (m_Rb.same rfl (kk _ (h.puta g1 hW (fun j => ?_) (fun j => ?_)) (hF.put hW (h.ndom g1)) (Nat.le_refl _)))
    · rw [m_el_set, k2]
    · split
      · rfl
      · exact k3 j
  | some b =>
    unfold tasr at e
    simp only at e
    split at e
    · rename_i ci gs hb
      split at e
      · rename_i hc
        obtain ⟨n, f9, g1, g2, rfl⟩ := tas_ok e
        obtain ⟨els, k1, k2, k3⟩ := h.arr g1
        have hW : m_W1 w (w.set (a - 512) (.inl (t, n, m_sel els i.toNatClampNeg (.ref b)))) a (.inl (t, n, m_sel els i.toNatClampNeg (.ref b))) := m_W1.set k1
        refine m_Rb.n0 hI (x_aastore hd k1 ht (of_decide_eq_true h6) g2.1 rfl g2.2 (h.obj hb).1 hc) (m_Rb.same rfl (kk _ (h.puta g1 hW (fun j => ?_) (fun j => ?_)) (hF.put hW (h.ndom g1)) (Nat.le_refl _)))
        · rw [m_el_set, k2]
        · split
          · exact h.okn hz
          · exact k3 j
      · cases e
    · cases e
theorem m_Rb.tcast (hI : m_bOk I) (hd : m_dn I pc (.checkcast k) 3 pc') (ho : m_oe I 6 k = some (ci, kk9)) (h : RT T w) (e : tcc T z ci = some ()) (kk : m_Rb l I (pc', lv, rv z :: r, w) P T T' f lo) : m_Rb l I (pc, lv, rv z :: r, w) P T T' f lo := by
  cases z with
  | none => exact m_Rb.n0 hI (x_cast0 hd) kk
  | some a =>
    obtain ⟨fs, h1⟩ := h.cls e
    exact m_Rb.n0 hI (x_cast hd ho h1) kk
theorem m_fd_ok : ∀ fs ∈ m_fd, fs.all (m_okv 0) = true := by decide
theorem m_Rb.tnew (hI : m_bOk I) (hd : m_dn I pc (.new k) 3 pc') (ho : m_oe I 0 k = some (ci, kk9)) (hok : m_okf (pc, lv, st, w) = true) (h : RT T w) (hF : m_Fm w0 w) (e : tnw T ci = some (a, T1)) (kk : ∀ w1, okr T1.2.1 (some a) → RT T1 w1 → m_Fm w0 w1 → T.2.1 ≤ T1.2.1 → m_Rb l I (pc', lv, .ref a :: st, w1) P T1 T' f lo) : m_Rb l I (pc, lv, st, w) P T T' f lo := by
  unfold tnw at e
  obtain ⟨fs, h1, h2⟩ := Option.map_eq_some_iff.mp e
  cases h2
  have hW : m_WA w (w ++ [.inr (ci, fs)]) (512 + w.length) (.inr (ci, fs)) := m_WA.of
  obtain ⟨g1, g2⟩ := h.new hW (okl_mono (m_fd_ok fs (List.mem_of_getElem? h1)) (Nat.zero_le _))
  refine m_Rb.grow (T1 := tadd T (.inl (ci, fs)) fs.length) (dc := 1) (ds := fs.length) rfl rfl (fun c s k9 => m_Rs.nx hI (x_new hd ho h1 hok) k9 (Nat.zero_le _) (Nat.zero_le _)) ?_
  rw [g1]
  exact kk _ (okr_some (Nat.lt_succ_self _)) g2 (hF.wa hW) (Nat.le_succ _)
theorem m_Rb.tnewa {t9 : ArrayType} (hI : m_bOk I) (hd : m_dn I pc (.newarray t9) 2 pc') (ht : m_aty t9 = some t) (hok : m_okf (pc, lv, .int x :: st, w) = true) (h : RT T w) (hF : m_Fm w0 w) (e : tna T t x = some (a, T1)) (kk : ∀ w1, okr T1.2.1 (some a) → RT T1 w1 → m_Fm w0 w1 → T.2.1 ≤ T1.2.1 → m_Rb l I (pc', lv, .ref a :: st, w1) P T1 T' f lo) : m_Rb l I (pc, lv, .int x :: st, w) P T T' f lo := by
  unfold tna at e
  split at e
  · cases e
  · rename_i h1
    cases e
    have hW : m_WA w (w ++ [.inl (t, x.toNatClampNeg, [])]) (512 + w.length) (.inl (t, x.toNatClampNeg, [])) := m_WA.of
    obtain ⟨g1, g2⟩ := h.newa hW
    refine m_Rb.grow (T1 := tadd T (.inr (.inl (t, x.toNatClampNeg, fun _ => m_zero t))) x.toNatClampNeg) (dc := 1) (ds := x.toNatClampNeg) rfl rfl (fun c s k9 => m_Rs.nx hI (x_newa hd ht (fun z => h1 (Or.inl z)) rfl (fun z => h1 (Or.inr z)) hok) k9 (Nat.zero_le _) (Nat.zero_le _)) ?_
    rw [g1]
    exact kk _ (okr_some (Nat.lt_succ_self _)) g2 (hF.wa hW) (Nat.le_succ _)
theorem m_Rb.toinit (hI : m_bOk I) (hd : m_dn I pc (.invokespecial k) 3 pc') (hc : m_ce I k = some (4, q1, q2)) (h8 : r.length ≤ 4) (kk : m_Rb l I (pc', lv, r, w) P T T' f lo) (hf : 1 ≤ f) (hl : 20 ≤ lo) : m_Rb l I (pc, lv, .ref a :: r, w) P T T' f lo :=
  m_Rb.nz hI (x_oinit hd hc (catL h8)) kk hf hl
theorem m_Rb.retb (hI : m_bOk I) (hd : m_dn I pc .ireturn 1 pc') (hty : I.2.2.2.2.1 = some .boolean) (e : bret x = some y) (hP : P (some (.int y)) w) : m_Rb l I (pc, lv, [.int x], w) P T T f lo :=
  ⟨Nat.le_refl _, Nat.le_refl _, m_Rs.retb hI hd hty e hP⟩
/-! lists -/
theorem RT.lst {n : Nat} {xs : List Nat} (h : RT T w) (e : tl T a = some (n, xs)) : ∃ own, RTo own T w ∧ m_AL w a (own a) n xs ∧ m_ALo w a xs ∧ T.1 a = some (.inr (.inr (n, xs))) := by
  obtain ⟨own, h⟩ := h
  have ha := tl_ok e
  obtain ⟨a1, a2, a3, a4⟩ := h.2.2.2.1 a n xs ha
  refine ⟨own, h, a2, fun b hb => ?_, ha⟩
  obtain ⟨ci, fs, k1, k2⟩ := a3 b hb
  refine ⟨ci, fs, (h.2.1 b ci fs k1).2.1, k2, fun e9 => ?_⟩
  rw [e9, ha] at k1
  cases k1
theorem RT.mem {n : Nat} {xs : List Nat} (h : RT T w) (e : tl T a = some (n, xs)) {b : Nat} (hb : b ∈ xs) : okr T.2.1 (some b) := by
  obtain ⟨own, h1, -, h3, -⟩ := h.lst e
  obtain ⟨ci, fs, k1, -⟩ := h3 b hb
  rw [h1.1.1]
  exact okr_some (m_at_lt k1).2
theorem RT.recvl {n : Nat} {xs : List Nat} (h : RT T w) (e : tl T a = some (n, xs)) : ∃ fs, m_at w a = some (.inr (2, fs)) := by
  obtain ⟨own, h1, ⟨mc, h2, -⟩, h3, -⟩ := h.lst e
  exact ⟨_, h2⟩
theorem m_Rb.tlsize (hI : m_bOk I) (hd : m_dn I pc (.invokevirtual k) 3 pc') (hc : m_ce I k = some (1, 17, 2)) (hok : m_okf (pc, lv, .ref a :: r, w) = true) (h8 : r.length ≤ 4) (h : RT T w) (e : tls T a = some x) (kk : m_Rb l I (pc', lv, .int x :: r, w) P T T' f lo) (hf : 1 ≤ f) (hl : 100 ≤ lo) : m_Rb l I (pc, lv, .ref a :: r, w) P T T' f lo := by
  unfold tls at e
  obtain ⟨⟨n, xs⟩, h1, h2⟩ := Option.map_eq_some_iff.mp e
  obtain ⟨fs, h3⟩ := h.recvl h1
  obtain ⟨own, g1, g2, g3, g4⟩ := h.lst h1
  subst h2
  exact m_Rb.callE hI (y_cv hd hc q_17 (m_isRecv_of rfl h3) (m_takeI_of rfl rfl rfl h8) hok rfl) (A_size g2) hd.2 kk hf (Nat.le_trans (by decide) hl)
theorem m_Rb.tlempty (hI : m_bOk I) (hd : m_dn I pc (.invokevirtual k) 3 pc') (hc : m_ce I k = some (1, 101, 2)) (hok : m_okf (pc, lv, .ref a :: r, w) = true) (h8 : r.length ≤ 4) (h : RT T w) (e : tle T a = some x) (kk : m_Rb l I (pc', lv, .int x :: r, w) P T T' f lo) (hf : 1 ≤ f) (hl : 100 ≤ lo) : m_Rb l I (pc, lv, .ref a :: r, w) P T T' f lo := by
  unfold tle at e
  obtain ⟨⟨n, xs⟩, h1, h2⟩ := Option.map_eq_some_iff.mp e
  obtain ⟨fs, h3⟩ := h.recvl h1
  obtain ⟨own, g1, g2, g3, g4⟩ := h.lst h1
  subst h2
  exact m_Rb.callE hI (y_cv hd hc q_101 (m_isRecv_of rfl h3) (m_takeI_of rfl rfl rfl h8) hok rfl) (A_empty g2) hd.2 kk hf (Nat.le_trans (by decide) hl)
theorem m_Rb.tlget (hI : m_bOk I) (hd : m_dn I pc (.invokevirtual k) 3 pc') (hc : m_ce I k = some (1, 77, 2)) (hok : m_okf (pc, lv, .int i :: .ref a :: r, w) = true) (h8 : r.length ≤ 4) (h : RT T w) (e : tlg T a i = some b) (kk : okr T.2.1 (some b) → m_Rb l I (pc', lv, .ref b :: r, w) P T T' f lo) (hf : 3 ≤ f) (hl : 300 ≤ lo) : m_Rb l I (pc, lv, .int i :: .ref a :: r, w) P T T' f lo := by
  unfold tlg at e
  obtain ⟨⟨n, xs⟩, h1, h2⟩ := bS e
  obtain ⟨fs, h3⟩ := h.recvl h1
  obtain ⟨own, g1, g2, g3, g4⟩ := h.lst h1
  split at h2
  · cases h2
  · rename_i hi
    have hA := A_get (l := l) g2 h2
    rw [i32_nc hi] at hA
    exact m_Rb.callE hI (y_cv hd hc q_77 (m_isRecv_of rfl h3) (m_takeI_of rfl rfl rfl h8) hok rfl) hA hd.2 (kk (h.mem h1 (List.mem_of_getElem? h2))) hf (Nat.le_trans (by decide) hl)
theorem m_Rb.tlrem (hI : m_bOk I) (hd : m_dn I pc (.invokevirtual k) 3 pc') (hc : m_ce I k = some (1, 95, 2)) (hok : m_okf (pc, lv, .int i :: .ref a :: r, w) = true) (h8 : r.length ≤ 4) (h : RT T w) (hF : m_Fm w0 w) (e : tlr T a i = some (b, T1)) (kk : ∀ w1, okr T1.2.1 (some b) → RT T1 w1 → m_Fm w0 w1 → T.2.1 ≤ T1.2.1 → m_Rb l I (pc', lv, .ref b :: r, w1) P T1 T' f lo) (hf : 4 ≤ f) (hl : 500 ≤ lo) : m_Rb l I (pc, lv, .int i :: .ref a :: r, w) P T T' f lo := by
  unfold tlr at e
  obtain ⟨⟨n, xs⟩, h1, h2⟩ := bS e
  obtain ⟨fs, h3⟩ := h.recvl h1
  obtain ⟨own, g1, g2, g3, g4⟩ := h.lst h1
  split at h2
  · cases h2
  · rename_i hi
    obtain ⟨b9, h4, h5⟩ := Option.map_eq_some_iff.mp h2
    cases h5
    have hA := A_rem (l := l) g2 g3 h4
    rw [i32_nc hi] at hA
    have hm := h.mem h1 (List.mem_of_getElem? h4)
    have hJ : m_Rb l M_95 (m_ent M_95 [.ref a, .int i] w) (fun v w' => v = some (rv (some b)) ∧ okr (tset T a (.inr (.inr (n, xs.eraseIdx i.toNatClampNeg)))).2.1 (some b) ∧ RT (tset T a (.inr (.inr (n, xs.eraseIdx i.toNatClampNeg)))) w' ∧ m_Fm w w') T (tset T a (.inr (.inr (n, xs.eraseIdx i.toNatClampNeg)))) 3 400 := by
      refine ⟨Nat.le_refl _, Nat.le_refl _, ?_⟩
      refine hA.mono (fun v w' g => ?_) (Nat.zero_le _) (Nat.zero_le _) (Nat.le_refl _) (Nat.le_refl _)
      obtain ⟨z1, z2, z3, z4⟩ := g
      refine ⟨z1, hm, ⟨_, g1.lst g4 z4 (fun c => rfl) (by rw [z3]; exact g1.1.1) z2 (Or.inl rfl) (fun c hc => ?_)⟩, g1.dom g4 z4⟩
      exact (g1.2.2.2.1 a n xs g4).2.2.1 c (List.mem_of_mem_eraseIdx hc)
    exact m_Rb.callR hI (y_cv hd hc q_95 (m_isRecv_of rfl h3) (m_takeI_of rfl rfl rfl h8) hok rfl) hJ hF hd.2 kk hf (Nat.le_trans (by decide) hl)
theorem m_Rb.tladd (hI : m_bOk I) (hd : m_dn I pc (.invokevirtual k) 3 pc') (hc : m_ce I k = some (1, 62, 2)) (hok : m_okf (pc, lv, .ref b :: .ref a :: r, w) = true) (h8 : r.length ≤ 4) (h : RT T w) (hF : m_Fm w0 w) (e : tla T a b = some T1) (kk : ∀ w1, RT T1 w1 → m_Fm w0 w1 → T.2.1 ≤ T1.2.1 → m_Rb l I (pc', lv, .int 1 :: r, w1) P T1 T' f lo) (hf : 8 ≤ f) (hl : 1300 ≤ lo) : m_Rb l I (pc, lv, .ref b :: .ref a :: r, w) P T T' f lo := by
  unfold tla at e
  obtain ⟨⟨n, xs⟩, h1, h2⟩ := bS e
  obtain ⟨fs, h3⟩ := h.recvl h1
  obtain ⟨own, g1, g2, g3, g4⟩ := h.lst h1
  simp only at h2
  split at h2
  · rename_i ci gs hb
    split at h2
    · rename_i hq
      cases h2
      have hba : ¬ b = a := fun z => by rw [z, g4] at hb; cases hb
      have hA := A_add (l := l) g2 g3 hq.1 (h.obj hb).1 hq.2 hba
      have hx : ∀ c ∈ xs ++ [b], ∃ ci fs, T.1 c = some (.inl (ci, fs)) ∧ (ci, 8) ∈ m_asl := by
        intro c hc
        rcases List.mem_append.mp hc with hc | hc
        · exact (g1.2.2.2.1 a n xs g4).2.2.1 c hc
        · rw [List.mem_singleton.mp hc]
          exact ⟨ci, gs, hb, hq.2⟩
      refine m_Rb.callI (x := 1) (f1 := 7) (l1 := 1200) hI (y_cv hd hc q_62 (m_isRecv_of rfl h3) (m_takeI_of rfl rfl rfl h8) hok rfl) ?_ hF hd.2 kk hf (Nat.le_trans (by decide) hl)
      refine ⟨Nat.le_add_right _ _, Nat.le_add_right _ _, ?_⟩
      refine hA.mono (fun v w' g => ?_) (by show _ ≤ _ + _ - _; omega) (by show _ ≤ _ + _ - _; omega) (Nat.le_refl _) (Nat.le_refl _)
      obtain ⟨z1, z2, z3, z4⟩ := g
      refine ⟨z1, ⟨_, g1.lst g4 z4 (fun c => rfl) (by show T.2.1 + _ = _; rw [z3, g1.1.1, Nat.add_assoc]) z2 ?_ hx⟩, g1.dom g4 z4⟩
      split
      · exact Or.inl rfl
      · exact Or.inr rfl
    · cases h2
  · cases h2
theorem m_Rb.tlclear (hI : m_bOk I) (hd : m_dn I pc (.invokevirtual k) 3 pc') (hc : m_ce I k = some (1, 154, 2)) (hok : m_okf (pc, lv, .ref a :: r, w) = true) (h8 : r.length ≤ 4) (h : RT T w) (hF : m_Fm w0 w) (e : tlc T a = some T1) (kk : ∀ w1, RT T1 w1 → m_Fm w0 w1 → T.2.1 ≤ T1.2.1 → m_Rb l I (pc', lv, r, w1) P T1 T' f lo) (hf : 2 ≤ f) (hl : 200 ≤ lo) : m_Rb l I (pc, lv, .ref a :: r, w) P T T' f lo := by
  unfold tlc at e
  obtain ⟨⟨n, xs⟩, h1, h2⟩ := Option.map_eq_some_iff.mp e
  obtain ⟨fs, h3⟩ := h.recvl h1
  obtain ⟨own, g1, g2, g3, g4⟩ := h.lst h1
  subst h2
  refine m_Rb.callV (f1 := 1) (l1 := 100) hI (y_cv hd hc q_154 (m_isRecv_of rfl h3) (m_takeI_of rfl rfl rfl h8) hok rfl) ?_ hF hd.2 kk hf (Nat.le_trans (by decide) hl)
  refine ⟨Nat.le_refl _, Nat.le_refl _, ?_⟩
  refine (A_clear (l := l) g2).mono (fun v w' g => ?_) (Nat.zero_le _) (Nat.zero_le _) (Nat.le_refl _) (Nat.le_refl _)
  obtain ⟨z1, z2, z3, z4⟩ := g
  exact ⟨z1, ⟨_, g1.lst g4 z4 (fun c => rfl) (by rw [z3]; exact g1.1.1) z2 (Or.inl rfl) (fun c hc => by cases hc)⟩, g1.dom g4 z4⟩
/-- two references of which one at least is the program's -/
def tao (a b : Nat) : Option Unit := if 512 ≤ a ∨ 512 ≤ b then some () else none
theorem tao_ok (e : tao a b = some ()) : 512 ≤ a ∨ 512 ≤ b := by
  unfold tao at e
  split at e
  · assumption
  · cases e
theorem x_acmpnt {ic : mI → mF → Option mR} {off : Int} {t : Nat} (hd : m_dn I pc (.if_acmp .ne off) 3 pc') (hj : m_jmp pc off = some t) (h5 : 512 ≤ a ∨ 512 ≤ b) (hc : decide (a = b) = true) (ha : m_okv w.length (.ref a) = true) (hb : m_okv w.length (.ref b) = true) : m_nx ic I (pc, lv, .ref b :: .ref a :: r, w) = some ((pc', lv, r, w), 0, 0, 0, 0) := by
  obtain rfl := of_decide_eq_true hc
  obtain ⟨hd1, rfl⟩ := hd
  refine x_br ⟨hd1, rfl⟩ rfl rfl ?_
  simp only [m_br, m_ba, m_rf, true_or, and_self, if_true, hj, Option.map_some, decide_true]
  rfl
theorem x_acmpnf {ic : mI → mF → Option mR} {off : Int} {t : Nat} (hd : m_dn I pc (.if_acmp .ne off) 3 pc') (hj : m_jmp pc off = some t) (h5 : 512 ≤ a ∨ 512 ≤ b) (hc : decide (a = b) = false) (ha : m_okv w.length (.ref a) = true) (hb : m_okv w.length (.ref b) = true) : m_nx ic I (pc, lv, .ref b :: .ref a :: r, w) = some ((t, lv, r, w), 0, 0, 0, 0) := by
  have h1 := of_decide_eq_false hc
  have h2 : ¬ (some a = some b) := fun e => h1 (Option.some.inj e)
  have h3 : m_apart w.length (some a) (some b) = true := by
    have k1 : a < 512 + w.length := of_decide_eq_true ha
    have k2 : b < 512 + w.length := of_decide_eq_true hb
    simp only [m_apart, Bool.and_eq_true, Bool.or_eq_true, decide_eq_true_eq]
    exact ⟨⟨h5, k1⟩, k2⟩
  refine x_br hd rfl rfl ?_
  simp only [m_br, m_ba, m_rf, h2, h3, false_or, and_self, if_true, hj, Option.map_some, decide_false]
theorem RT.out (h : RT T w) {k : Nat} (hk : k < 512) : okr T.2.1 (some k) := okr_some (by rw [h.len]; omega)
def cret (x : Int32) : Option Int32 := if narrow .char (.int x) = .int x then some x else none
theorem m_Rb.retc (hI : m_bOk I) (hd : m_dn I pc .ireturn 1 pc') (hty : I.2.2.2.2.1 = some .char) (e : cret x = some y) (hP : P (some (.int y)) w) : m_Rb l I (pc, lv, [.int x], w) P T T f lo := by
  unfold cret at e
  split at e
  · rename_i h1
    obtain rfl := Option.some.inj e
    exact m_Rb.ret hI (m_rt_ir hd hty h1) hP
  · cases e
end
theorem m_okv_n0 (n : Nat) : m_okv n (rv none) = true := rfl
