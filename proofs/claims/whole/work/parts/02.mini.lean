/-! A small machine of my own over lists (values, worlds), and how its worlds are read as the kit's worlds. A mini reference k: below 512 an outside cell X k, else place k - 512 of the world. -/
/-- a cell: an array (its type, its length, the places that were written), or an object (its class, its fields) -/
abbrev mM : Type := (Nat × Nat × List (Nat × Value)) ⊕ (Nat × List Value)
def m_zero (t : Nat) : Value := if t = 1 then .long 0 else if t < 6 then .int 0 else .null
def m_el (t : Nat) (els : List (Nat × Value)) (j : Nat) : Value := match els.find? (fun q => q.1 == j) with
  | some q => q.2
  | none => m_zero t
def m_sel (els : List (Nat × Value)) (j : Nat) (v : Value) : List (Nat × Value) := (j, v) :: els.filter (fun q => !(q.1 == j))
def m_ad (X : Nat → Nat) (L : List Nat) (k : Nat) : Nat := if k < 512 then X k else L.getD (k - 512) 0
/-- an outside value of which only 'a reference or null' is known: the small machine has .retAddr for it -/
def m_op (X : Nat → Nat) (n : Nat) : Value := if n = 0 then (if X 1000 = 0 then .null else .ref (X 1001)) else .ref (X 1002)
def m_tr (X : Nat → Nat) (L : List Nat) (v : Value) : Value := match v with
  | .ref k => .ref (m_ad X L k)
  | .retAddr n => m_op X n
  | v => v
def m_okv (n : Nat) (v : Value) : Bool := match v with
  | .ref k => decide (k < 512 + n)
  | _ => true
def m_toI (v : Value) : Int32 := match v with
  | .int x => x
  | _ => 0
def m_toL (v : Value) : Int64 := match v with
  | .long x => x
  | _ => 0
def m_toR (X : Nat → Nat) (L : List Nat) (v : Value) : Option Nat := match v with
  | .ref k => some (m_ad X L k)
  | _ => none
def m_arr (X : Nat → Nat) (L : List Nat) (t n : Nat) (els : List (Nat × Value)) : vp_A :=
  (n, if t = 1 then .inr (.inl fun j => m_toL (m_el t els j)) else if t < 6 then .inl (fun j => m_toI (m_el t els j)) else .inr (.inr (.inr (.inr fun j => m_toR X L (m_el t els j)))))
def m_cell (X : Nat → Nat) (L : List Nat) (dA : Nat → ClassId) (q : mM) : va_E := match q with
  | .inl a => .inl (dA a.1, m_arr X L a.1 a.2.1 a.2.2)
  | .inr o => .inr (o.1, o.2.map (m_tr X L))
def m_wd (X : Nat → Nat) (L : List Nat) (dA : Nat → ClassId) (w : List mM) : va_W := List.zipWith (fun a q => (a, m_cell X L dA q)) L w
def m_okc (n : Nat) (q : mM) : Bool := match q with
  | .inl a => decide (a.1 < 6) || a.2.2.all (fun q => m_okv n q.2)
  | .inr o => o.2.all (m_okv n)
def m_okw (n : Nat) (w : List mM) : Prop := ∀ q ∈ w, m_okc n q = true
def m_oks (n : Nat) (st : List Value) : Prop := ∀ v ∈ st, m_okv n v = true
def m_okl (n : Nat) (lv : List (Nat × Value)) : Prop := ∀ q ∈ lv, m_okv n q.2 = true

theorem m_tr_int (X : Nat → Nat) (L : List Nat) (x : Int32) : m_tr X L (.int x) = .int x := rfl
theorem m_tr_long (X : Nat → Nat) (L : List Nat) (x : Int64) : m_tr X L (.long x) = .long x := rfl
theorem m_tr_null (X : Nat → Nat) (L : List Nat) : m_tr X L .null = .null := rfl
theorem m_tr_ref (X : Nat → Nat) (L : List Nat) (k : Nat) : m_tr X L (.ref k) = .ref (m_ad X L k) := rfl
theorem m_op_or (X : Nat → Nat) (n : Nat) : m_op X n = .null ∨ ∃ a, m_op X n = .ref a := by
  unfold m_op
  split
  case isFalse => exact Or.inr ⟨_, rfl⟩
  split
  · exact Or.inl rfl
  · exact Or.inr ⟨_, rfl⟩
theorem m_tr_cat (X : Nat → Nat) (L : List Nat) (v : Value) : (m_tr X L v).category = v.category := by
  cases v with
  | retAddr n =>
    show (m_op X n).category = _
    rcases m_op_or X n with h | ⟨a, h⟩ <;> rw [h] <;> rfl
  | _ => rfl
theorem m_tr_fits (X : Nat → Nat) (L : List Nat) (ty : FieldType) (v : Value) (h : fits ty v = true) : fits ty (m_tr X L v) = true := by
  cases v with
  | retAddr n => cases ty <;> cases h
  | ref k => cases ty <;> first | rfl | cases h
  | _ => exact h
theorem m_tr_narrow (X : Nat → Nat) (L : List Nat) (ty : FieldType) (v : Value) (h : narrow ty v = v) : narrow ty (m_tr X L v) = m_tr X L v := by
  cases v with
  | ref k => cases ty <;> rfl
  | retAddr n =>
    show narrow ty (m_op X n) = m_op X n
    rcases m_op_or X n with h | ⟨a, h⟩ <;> rw [h] <;> cases ty <;> rfl
  | _ => exact h
theorem m_ad_ext {X : Nat → Nat} {L L2 : List Nat} {k : Nat} (h : k < 512 + L.length) : m_ad X (L ++ L2) k = m_ad X L k := by
  unfold m_ad
  split
  · rfl
  · rename_i h1
    rw [List.getD_eq_getElem?_getD, List.getD_eq_getElem?_getD, List.getElem?_append_left (by omega)]
theorem m_tr_ext {X : Nat → Nat} {L L2 : List Nat} {v : Value} (h : m_okv L.length v = true) : m_tr X (L ++ L2) v = m_tr X L v := by
  cases v with
  | ref k => exact congrArg Value.ref (m_ad_ext (of_decide_eq_true h))
  | _ => rfl
theorem m_toR_ext {X : Nat → Nat} {L L2 : List Nat} {v : Value} (h : m_okv L.length v = true) : m_toR X (L ++ L2) v = m_toR X L v := by
  cases v with
  | ref k => exact congrArg some (m_ad_ext (of_decide_eq_true h))
  | _ => rfl
theorem m_trs_ext {X : Nat → Nat} {L L2 : List Nat} {st : List Value} (h : m_oks L.length st) : st.map (m_tr X (L ++ L2)) = st.map (m_tr X L) :=
  List.map_congr_left (fun v hv => m_tr_ext (h v hv))
theorem m_okv_mono {n k : Nat} {v : Value} (h : m_okv n v = true) (hk : n ≤ k) : m_okv k v = true := by
  cases v with
  | ref a => exact decide_eq_true (Nat.lt_of_lt_of_le (of_decide_eq_true h) (by omega))
  | _ => rfl
theorem m_oks_mono {n k : Nat} {st : List Value} (h : m_oks n st) (hk : n ≤ k) : m_oks k st := fun v hv => m_okv_mono (h v hv) hk
theorem m_okl_mono {n k : Nat} {lv : List (Nat × Value)} (h : m_okl n lv) (hk : n ≤ k) : m_okl k lv := fun v hv => m_okv_mono (h v hv) hk
theorem m_okc_mono {n k : Nat} {q : mM} (h : m_okc n q = true) (hk : n ≤ k) : m_okc k q = true := by
  cases q with
  | inl a =>
    simp only [m_okc, Bool.or_eq_true, List.all_eq_true] at h ⊢
    exact h.imp id (fun h v hv => m_okv_mono (h v hv) hk)
  | inr o =>
    simp only [m_okc, List.all_eq_true] at h ⊢
    exact fun v hv => m_okv_mono (h v hv) hk
theorem m_okw_mono {n k : Nat} {w : List mM} (h : m_okw n w) (hk : n ≤ k) : m_okw k w := fun q hq => m_okc_mono (h q hq) hk
theorem m_zero_ok (n t : Nat) : m_okv n (m_zero t) = true := by
  unfold m_zero; split
  · rfl
  · split <;> rfl
theorem m_el_ok {n t j : Nat} {els : List (Nat × Value)} (h : els.all (fun q => m_okv n q.2) = true) : m_okv n (m_el t els j) = true := by
  unfold m_el
  cases hj : els.find? (fun q => q.1 == j) with
  | none => exact m_zero_ok n t
  | some q => exact List.all_eq_true.mp h q (List.mem_of_find?_eq_some hj)
theorem m_cell_ext {X : Nat → Nat} {L L2 : List Nat} {dA : Nat → ClassId} {q : mM} (h : m_okc L.length q = true) : m_cell X (L ++ L2) dA q = m_cell X L dA q := by
  cases q with
  | inl a =>
    simp only [m_okc, Bool.or_eq_true, decide_eq_true_eq] at h
    show Sum.inl (dA a.1, m_arr X (L ++ L2) a.1 a.2.1 a.2.2) = Sum.inl (dA a.1, m_arr X L a.1 a.2.1 a.2.2)
    have e : m_arr X (L ++ L2) a.1 a.2.1 a.2.2 = m_arr X L a.1 a.2.1 a.2.2 := by
      unfold m_arr
      by_cases h1 : a.1 = 1
      · simp [h1]
      · by_cases h6 : a.1 < 6
        · simp [h1, h6]
        · have h2 := h.resolve_left h6
          simp only [h1, h6, if_false]
          have : (fun j => m_toR X (L ++ L2) (m_el a.1 a.2.2 j)) = (fun j => m_toR X L (m_el a.1 a.2.2 j)) := funext fun j => m_toR_ext (m_el_ok h2)
          rw [this]
    rw [e]
  | inr o =>
    simp only [m_okc] at h
    show Sum.inr (o.1, o.2.map (m_tr X (L ++ L2))) = Sum.inr (o.1, o.2.map (m_tr X L))
    rw [m_trs_ext (fun v hv => List.all_eq_true.mp h v hv)]
theorem m_wd_get {X : Nat → Nat} {L : List Nat} {dA : Nat → ClassId} {w : List mM} {k a : Nat} {q : mM} (h1 : L[k]? = some a) (h2 : w[k]? = some q) : (m_wd X L dA w)[k]? = some (a, m_cell X L dA q) := by
  unfold m_wd
  rw [List.getElem?_zipWith, h1, h2]
theorem m_wd_of {X : Nat → Nat} {L : List Nat} {dA : Nat → ClassId} {w : List mM} {k : Nat} {r : Nat × va_E} (h : (m_wd X L dA w)[k]? = some r) : ∃ a q, L[k]? = some a ∧ w[k]? = some q ∧ r = (a, m_cell X L dA q) := by
  unfold m_wd at h
  rw [List.getElem?_zipWith] at h
  cases h1 : L[k]? with
  | none => rw [h1] at h; cases h
  | some a =>
    cases h2 : w[k]? with
    | none => rw [h1, h2] at h; cases h
    | some q => rw [h1, h2] at h; exact ⟨a, q, rfl, rfl, (Option.some.inj h).symm⟩
theorem m_wd_set {X : Nat → Nat} {L : List Nat} {dA : Nat → ClassId} {w : List mM} {k a : Nat} {q : mM} (h1 : L[k]? = some a) : m_wd X L dA (w.set k q) = (m_wd X L dA w).set k (a, m_cell X L dA q) := by
  apply List.ext_getElem?
  intro j
  by_cases hj : k = j
  · subst hj
    unfold m_wd
    rw [List.getElem?_zipWith, List.getElem?_set, List.getElem?_set, h1]
    have hL : k < L.length := (List.getElem?_eq_some_iff.mp h1).1
    by_cases hw : k < w.length
    · simp [hw, hL]; omega
    · simp [hw]; omega
  · unfold m_wd
    rw [List.getElem?_zipWith, List.getElem?_set_ne hj, List.getElem?_set_ne hj, List.getElem?_zipWith]
theorem m_wd_ext {X : Nat → Nat} {L L2 : List Nat} {dA : Nat → ClassId} {w : List mM} (hL : L.length = w.length) (hw : m_okw L.length w) : m_wd X (L ++ L2) dA w = m_wd X L dA w := by
  apply List.ext_getElem?
  intro j
  unfold m_wd
  rw [List.getElem?_zipWith, List.getElem?_zipWith]
  cases h2 : w[j]? with
  | none =>
    cases (L ++ L2)[j]? <;> cases L[j]? <;> rfl
  | some q =>
    have hj : j < L.length := by rw [hL]; exact (List.getElem?_eq_some_iff.mp h2).1
    rw [List.getElem?_append_left hj]
    cases h1 : L[j]? with
    | none => rfl
    | some a =>
      show some (a, m_cell X (L ++ L2) dA q) = some (a, m_cell X L dA q)
      rw [m_cell_ext (hw q (List.mem_of_getElem? h2))]
theorem m_wd_push {X : Nat → Nat} {L : List Nat} {dA : Nat → ClassId} {w : List mM} {a : Nat} {q : mM} (hL : L.length = w.length) (hw : m_okw L.length w) : m_wd X (L ++ [a]) dA (w ++ [q]) = m_wd X L dA w ++ [(a, m_cell X (L ++ [a]) dA q)] := by
  rw [← m_wd_ext (L2 := [a]) hL hw]
  unfold m_wd
  rw [List.zipWith_append hL]
  congr 1
  have : List.zipWith (fun a' q' => (a', m_cell X (L ++ [a]) dA q')) (L ++ [a]) w = List.zipWith (fun a' q' => (a', m_cell X (L ++ [a]) dA q')) L w := by
    apply List.ext_getElem?
    intro j
    rw [List.getElem?_zipWith, List.getElem?_zipWith]
    cases h2 : w[j]? with
    | none => cases (L ++ [a])[j]? <;> cases L[j]? <;> rfl
    | some q =>
      have hj : j < L.length := by rw [hL]; exact (List.getElem?_eq_some_iff.mp h2).1
      rw [List.getElem?_append_left hj]
  exact this.symm
theorem m_el_set {t j i : Nat} {els : List (Nat × Value)} {v : Value} : m_el t (m_sel els j v) i = if i = j then v else m_el t els i := by
  unfold m_el m_sel
  by_cases h : j = i
  · subst h; simp
  · have h2 : ¬ i = j := fun e => h e.symm
    rw [if_neg h2, List.find?_cons_of_neg (by simpa using h), List.find?_filter]
    have e : (fun a : Nat × Value => decide ((!(a.1 == j)) = true ∧ (a.1 == i) = true)) = (fun a => a.1 == i) := by
      funext a
      by_cases ha : a.1 = i
      · simp [ha, h2]
      · simp [ha]
    rw [e]
theorem m_arr_i {X : Nat → Nat} {L : List Nat} {t n : Nat} {els : List (Nat × Value)} (h1 : ¬ t = 1) (h6 : t < 6) : m_arr X L t n els = (n, .inl (fun j => m_toI (m_el t els j))) := by
  unfold m_arr; simp [h1, h6]
theorem m_arr_l {X : Nat → Nat} {L : List Nat} {n : Nat} {els : List (Nat × Value)} : m_arr X L 1 n els = (n, .inr (.inl (fun j => m_toL (m_el 1 els j)))) := by
  unfold m_arr; simp
theorem m_arr_q {X : Nat → Nat} {L : List Nat} {t n : Nat} {els : List (Nat × Value)} (h6 : ¬ t < 6) : m_arr X L t n els = (n, .inr (.inr (.inr (.inr (fun j => m_toR X L (m_el t els j)))))) := by
  have h1 : ¬ t = 1 := by omega
  unfold m_arr; simp [h1, h6]
theorem m_arr_seti {X : Nat → Nat} {L : List Nat} {t n j : Nat} {els : List (Nat × Value)} {x : Int32} (h1 : ¬ t = 1) (h6 : t < 6) : m_arr X L t n (m_sel els j (.int x)) = (n, .inl (upd (fun j => m_toI (m_el t els j)) j x)) := by
  rw [m_arr_i h1 h6]
  congr 2
  funext i
  rw [m_el_set]
  unfold upd
  split <;> rfl
theorem m_arr_setl {X : Nat → Nat} {L : List Nat} {n j : Nat} {els : List (Nat × Value)} {x : Int64} : m_arr X L 1 n (m_sel els j (.long x)) = (n, .inr (.inl (vp_updL (fun j => m_toL (m_el 1 els j)) j x))) := by
  rw [m_arr_l]
  congr 3
  funext i
  rw [m_el_set]
  unfold vp_updL
  split <;> rfl
theorem m_arr_setq {X : Nat → Nat} {L : List Nat} {t n j : Nat} {els : List (Nat × Value)} {v : Value} (h6 : ¬ t < 6) : m_arr X L t n (m_sel els j v) = (n, .inr (.inr (.inr (.inr (va_up (fun j => m_toR X L (m_el t els j)) j (m_toR X L v)))))) := by
  rw [m_arr_q h6]
  congr 5
  funext i
  rw [m_el_set]
  unfold va_up
  split <;> rfl
theorem m_okc_set {n k : Nat} {ci : Nat} {fs : List Value} {v : Value} (h : m_okc n (.inr (ci, fs)) = true) (hv : m_okv n v = true) : m_okc n (.inr (ci, fs.set k v)) = true := by
  simp only [m_okc, List.all_eq_true] at h ⊢
  intro x hx
  rcases List.mem_or_eq_of_mem_set hx with h1 | h1
  · exact h x h1
  · rw [h1]; exact hv
theorem m_okc_seta {n k : Nat} {t N : Nat} {els : List (Nat × Value)} {v : Value} (h : m_okc n (.inl (t, N, els)) = true) (hv : m_okv n v = true) : m_okc n (.inl (t, N, m_sel els k v)) = true := by
  simp only [m_okc, Bool.or_eq_true, List.all_eq_true] at h ⊢
  refine h.imp id (fun h x hx => ?_)
  rcases List.mem_cons.mp hx with h1 | h1
  · rw [h1]; exact hv
  · exact h x (List.mem_filter.mp h1).1
theorem m_okw_set {n k : Nat} {w : List mM} {q : mM} (h : m_okw n w) (hq : m_okc n q = true) : m_okw n (w.set k q) := by
  intro x hx
  rcases List.mem_or_eq_of_mem_set hx with h1 | h1
  · exact h x h1
  · rw [h1]; exact hq
theorem m_okw_push {n : Nat} {w : List mM} {q : mM} (h : m_okw n w) (hq : m_okc (n + 1) q = true) : m_okw (n + 1) (w ++ [q]) := by
  intro x hx
  rcases List.mem_append.mp hx with h1 | h1
  · exact m_okc_mono (h x h1) (Nat.le_succ n)
  · rw [List.mem_singleton.mp h1]; exact hq
