/-! The pure layer: what both machines' functions read and write. -/
/-- a place of an array of the reference -/
def rd (S : mS) (a k : Nat) : Int32 := m_toI (m_el 0 (S.2 a) k)
theorem m_el_4 {els : List (Nat × Value)} {j : Nat} : m_el 4 els j = m_el 0 els j := by
  unfold m_el
  rfl
theorem rd_up2 {S : mS} {a b j k : Nat} {x : Int32} : rd (up2 S a j x) b k = if b = a ∧ k = j then x else rd S b k := by
  unfold rd up2
  by_cases h : b = a
  · subst h
    simp only [if_true, true_and]
    rw [m_el_set]
    split <;> rfl
  · simp only [h, if_false, false_and]
theorem rd_up1 {S : mS} {j b k : Nat} {x : Int32} : rd (up1 S j x) b k = rd S b k := rfl
theorem up1_1 {S : mS} {j i : Nat} {x : Int32} : (up1 S j x).1 i = if i = j then x else S.1 i := rfl
theorem up2_1 {S : mS} {a j i : Nat} {x : Int32} : (up2 S a j x).1 i = S.1 i := rfl
theorem aget_n {t N : Nat} {S : mS} {a k : Nat} (ht : t = 0 ∨ t = 4) (hk : k < N) (hN : N < 2147483648) : aget t N S a (Int32.ofNat k) = some (rd S a k) := by
  unfold aget
  rw [if_pos ⟨m_n_neg (by omega), by rw [m_n_cl (by omega)]; exact hk⟩]
  unfold m_rd rd
  rw [m_n_cl (by omega)]
  rcases ht with rfl | rfl
  · rfl
  · rw [m_el_4]
theorem aput_n {N : Nat} {S : mS} {a k : Nat} {x : Int32} (hk : k < N) (hN : N < 2147483648) : aput N S a (Int32.ofNat k) x = some (up2 S a k x) := by
  unfold aput
  rw [if_pos ⟨m_n_neg (by omega), by rw [m_n_cl (by omega)]; exact hk⟩, m_n_cl (by omega)]
theorem bput_n {N : Nat} {S : mS} {a k : Nat} {x : Int32} (hk : k < N) (hN : N < 2147483648) (hx : x = 0 ∨ x = 1) : bput N S a (Int32.ofNat k) x = some (up2 S a k x) := by
  unfold bput
  rw [if_pos ⟨⟨m_n_neg (by omega), by rw [m_n_cl (by omega)]; exact hk⟩, hx⟩, m_n_cl (by omega)]
/-! the class's cells -/
theorem tset_1 {T : tT} {a b : Nat} {c : tC} : (tset T a c).1 b = if b = a then some c else T.1 b := rfl
theorem tset_2 {T : tT} {a : Nat} {c : tC} : (tset T a c).2 = T.2 := rfl
theorem tset_tset {T : tT} {a : Nat} {c d : tC} : tset (tset T a c) a d = tset T a d := by
  unfold tset
  simp only [Prod.mk.injEq, and_true]
  funext b
  split <;> rfl
theorem tadd_1 {T : tT} {b k : Nat} {c : tC} : (tadd T c k).1 b = if b = T.2.1 then some c else T.1 b := rfl
theorem tadd_2 {T : tT} {k : Nat} {c : tC} : (tadd T c k).2 = (T.2.1 + 1, T.2.2 + k) := rfl
theorem tgi_o {T : tT} {a ci k : Nat} {fs : List Value} {x : Int32} (h : T.1 a = some (.inl (ci, fs))) (hx : fs[k]? = some (.int x)) : tgi T a ci k = some x := by
  simp only [tgi, tg, h, if_true, hx, Option.bind_some, vi]
theorem tgr_o {T : tT} {a ci k : Nat} {fs : List Value} {x : Option Nat} (h : T.1 a = some (.inl (ci, fs))) (hx : fs[k]? = some (rv x)) : tgr T a ci k = some x := by
  simp only [tgr, tg, h, if_true, hx, Option.bind_some]
  cases x <;> rfl
theorem tcl_o {T : tT} {a ci : Nat} {fs : List Value} (h : T.1 a = some (.inl (ci, fs))) : tcl T a ci = some () := by
  simp only [tcl, h, if_true]
theorem tp_o {T : tT} {a ci k : Nat} {fs : List Value} {v : Value} (h : T.1 a = some (.inl (ci, fs))) (hk : k < fs.length) : tp T a ci k v = some (tset T a (.inl (ci, fs.set k v))) := by
  simp only [tp, h]
  rw [if_pos ⟨trivial, hk⟩]
theorem tl_o {T : tT} {a n : Nat} {xs : List Nat} (h : T.1 a = some (.inr (.inr (n, xs)))) : tl T a = some (n, xs) := by
  simp only [tl, h]
theorem ta_o {T : tT} {a t n k : Nat} {f : Nat → Value} (h : T.1 a = some (.inr (.inl (t, n, f)))) (hk : k < n) (hn : n < 2147483648) : ta T a t (Int32.ofNat k) = some (f k) := by
  simp only [ta, h]
  rw [m_n_cl (by omega), if_pos ⟨trivial, m_n_neg (by omega), hk⟩]
theorem tas_o {T : tT} {a t n k : Nat} {f : Nat → Value} {v : Value} (h : T.1 a = some (.inr (.inl (t, n, f)))) (hk : k < n) (hn : n < 2147483648) : tas T a t (Int32.ofNat k) v = some (tset T a (.inr (.inl (t, n, fun j => if j = k then v else f j)))) := by
  simp only [tas, h]
  rw [m_n_cl (by omega), if_pos ⟨trivial, m_n_neg (by omega), hk⟩]
/-- kinds of cells: an object's class; 20 an array; 21 a list -/
def kd (c : tC) : Nat := match c with
  | .inl q => q.1
  | .inr (.inl _) => 20
  | .inr (.inr _) => 21
/-- cells of these kinds stand as they were -/
def Same (K : List Nat) (T T' : tT) : Prop := ∀ x c, T.1 x = some c → kd c ∈ K → T'.1 x = some c
theorem Same.refl {K : List Nat} {T : tT} : Same K T T := fun _ _ h _ => h
theorem Same.trans {K : List Nat} {T T1 T2 : tT} (h : Same K T T1) (h2 : Same K T1 T2) : Same K T T2 := fun x c hx hk => h2 x c (h x c hx hk) hk
theorem Same.set {K : List Nat} {T : tT} {a : Nat} {c d : tC} (h : T.1 a = some c) (hk : kd c ∉ K) : Same K T (tset T a d) := by
  intro x e hx hk2
  rw [tset_1, if_neg]
  · exact hx
  · rintro rfl
    rw [h] at hx
    cases hx
    exact hk hk2
theorem Same.add {K : List Nat} {T : tT} {c : tC} {k : Nat} (h : T.1 T.2.1 = none) : Same K T (tadd T c k) := by
  intro x e hx _
  rw [tadd_1, if_neg]
  · exact hx
  · rintro rfl
    rw [h] at hx
    cases hx
theorem Same.sub {K L : List Nat} {T T' : tT} (h : Same K T T') (hs : ∀ k ∈ L, k ∈ K) : Same L T T' := fun x c hx hk => h x c hx (hs _ hk)
/-! small numbers as ints -/
theorem lt_n {a b : Nat} (ha : a < 2147483648) (hb : b < 2147483648) : m_c2 .lt (Int32.ofNat a) (Int32.ofNat b) = decide (a < b) := m_c2n ha hb rfl
theorem ge_n {a b : Nat} (ha : a < 2147483648) (hb : b < 2147483648) : m_c2 .ge (Int32.ofNat a) (Int32.ofNat b) = decide (b ≤ a) := m_c2n ha hb rfl
theorem gt_n {a b : Nat} (ha : a < 2147483648) (hb : b < 2147483648) : m_c2 .gt (Int32.ofNat a) (Int32.ofNat b) = decide (b < a) := m_c2n ha hb rfl
theorem le_n {a b : Nat} (ha : a < 2147483648) (hb : b < 2147483648) : m_c2 .le (Int32.ofNat a) (Int32.ofNat b) = decide (a ≤ b) := m_c2n ha hb rfl
