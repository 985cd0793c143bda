/-! A request waits. -/
theorem cFetch_g {g g' : Nat → Int32} {h t h' t' : Option Nat} (e : cFetch g h t = cFetch g' h' t') : ∀ i, i < 12 → g i = g' i := by
  unfold cFetch at e
  simp only [Sum.inl.injEq, Prod.mk.injEq, List.cons.injEq, Value.int.injEq, true_and, and_true] at e
  obtain ⟨e0, e1, e2, e3, e4, e5, e6, e7, e8, e9, e10, e11, _⟩ := e
  intro i hi
  match i, hi with
  | 0, _ => exact e0
  | 1, _ => exact e1
  | 2, _ => exact e2
  | 3, _ => exact e3
  | 4, _ => exact e4
  | 5, _ => exact e5
  | 6, _ => exact e6
  | 7, _ => exact e7
  | 8, _ => exact e8
  | 9, _ => exact e9
  | 10, _ => exact e10
  | 11, _ => exact e11
theorem cReq_b {g g' : Nat → Int32} {c r b c' r' b' : Option Nat} (e : cReq g c r b = cReq g' c' r' b') (y : Option Nat) : cReq g c r y = cReq g' c' r' y := by
  unfold cReq at e ⊢
  simp only [Sum.inl.injEq, Prod.mk.injEq, List.cons.injEq, Value.int.injEq, true_and, and_true] at e
  simp only [e]
theorem ch_app {Q : List Rq} {z : Rq} {f : Nat} : ch (Q ++ [z]) f = ch Q f ++ (if z.2.1 = f then [z.1] else []) := by
  unfold ch
  rw [List.filter_append, List.map_append]
  congr 1
  by_cases h : z.2.1 = f
  · simp [h]
  · simp [h]
theorem ch_mem {Q : List Rq} {a f : Nat} (h : a ∈ ch Q f) : ∃ z ∈ Q, z.1 = a ∧ z.2.1 = f := by
  obtain ⟨z, hz, e⟩ := List.mem_map.mp h
  obtain ⟨h1, h2⟩ := List.mem_filter.mp hz
  exact ⟨z, h1, e, of_decide_eq_true h2⟩
theorem ch_nodup {Q : List Rq} {f : Nat} (h : (Q.map Prod.fst).Nodup) : (ch Q f).Nodup := h.sublist (List.Sublist.map _ List.filter_sublist)
theorem lnk.ext {T T' : tT} : ∀ {L : List Nat}, lnk T L → (∀ x ∈ L, ∀ c, T.1 x = some c → T'.1 x = some c) → lnk T' L
  | [], _, _ => trivial
  | x :: L, ⟨⟨g, c, r, h⟩, h2⟩, hx => ⟨⟨g, c, r, hx x List.mem_cons_self _ h⟩, lnk.ext h2 (fun y hy => hx y (List.mem_cons_of_mem _ hy))⟩
theorem lnk.snoc {T T' : tT} {q : Nat} (hq : ∃ g c r, T'.1 q = some (cReq g c r none)) : ∀ {L : List Nat}, lnk T L → L.Nodup → (∀ x ∈ L, ¬ L.getLast? = some x → ∀ c, T.1 x = some c → T'.1 x = some c) → (∀ x, L.getLast? = some x → ∀ g c r b, T.1 x = some (cReq g c r b) → T'.1 x = some (cReq g c r (some q))) → lnk T' (L ++ [q])
  | [], _, _, _, _ => ⟨hq, trivial⟩
  | [x], ⟨⟨g, c, r, h⟩, _⟩, _, _, hl => ⟨⟨g, c, r, hl x rfl _ _ _ _ h⟩, hq, trivial⟩
  | x :: y :: L, ⟨⟨g, c, r, h⟩, h2⟩, hn, hx, hl => by
    obtain ⟨n1, n2⟩ := List.nodup_cons.mp hn
    have gl : (x :: y :: L).getLast? = (y :: L).getLast? := by rw [List.getLast?_cons_cons]
    have nx : ¬ (x :: y :: L).getLast? = some x := fun w => by
      rw [gl] at w
      exact n1 (List.mem_of_getLast? w)
    exact ⟨⟨g, c, r, hx x List.mem_cons_self nx _ h⟩, lnk.snoc hq h2 n2 (fun a ha w => hx a (List.mem_cons_of_mem _ ha) (by rw [gl]; exact w)) (fun a w => hl a (by rw [gl]; exact w))⟩
section
variable {T : tT} {F : Nat}
theorem c_join {fa q : Nat} {gy g : Nat → Int32} {c r b : Option Nat} {L : List Nat} (hf : T.1 fa = some (cFetch (fup gy 11 (Int32.ofNat L.length)) L.head? L.getLast?)) (hq : T.1 q = some (cReq g c r b)) (hx : ∀ x, L.getLast? = some x → ∃ gx cx rx bx, T.1 x = some (cReq gx cx rx bx)) (hn : q ∉ L) : ∃ T', D_c_Fetch_join F fa (some q) T = some T' ∧ T'.1 fa = some (cFetch (fup gy 11 (Int32.ofNat (L ++ [q]).length)) (L ++ [q]).head? (L ++ [q]).getLast?) ∧ T'.1 q = some (cReq g c r none) ∧ (∀ x gx cx rx bx, L.getLast? = some x → T.1 x = some (cReq gx cx rx bx) → T'.1 x = some (cReq gx cx rx (some q))) ∧ (∀ b c, T.1 b = some c → ¬ b = fa → ¬ b = q → ¬ L.getLast? = some b → T'.1 b = some c) ∧ T'.2 = T.2 := by
  have n1 : ¬ fa = q := kd_ne hf hq (show ¬ (10 : Nat) = 6 by decide)
  have q1' : tpr T q 6 18 none = some (tset T q (cReq g c r none)) := Qw18 hq
  have hf4 : (tset T q (cReq g c r none)).1 fa = some (cFetch (fup gy 11 (Int32.ofNat L.length)) L.head? L.getLast?) := tset_o hf n1
  have up : ∀ x : Int32, fup (fup gy 11 (Int32.ofNat L.length)) 11 x = fup gy 11 x := fun x => by funext i; unfold fup; split <;> rfl
  have ln : Int32.ofNat L.length + (1 : Int32) = Int32.ofNat (L ++ [q]).length := by rw [p1, List.length_append]; rfl
  have lst : (L ++ [q]).getLast? = some q := by simp
  cases hL : L.getLast? with
  | none =>
    have hL0 : L = [] := List.getLast?_eq_none_iff.mp hL
    subst hL0
    refine ⟨tset (tset T q (cReq g c r none)) fa (cFetch (fup gy 11 (Int32.ofNat ([] ++ [q]).length)) (some q) (some q)), ?_, tset_at, ?_, fun x _ _ _ _ w => (by cases w), fun b c hb b1 b2 _ => ?_, rfl⟩
    · simp only [D_c_Fetch_join, Option.bind_some, q1', Fr13 hf4, List.getLast?_nil, nc, Fw12 hf4, D_c_Fetch_join_28, Fw13 tset_at, Fg11 tset_at, Fp11 tset_at, tset_tset, up, ln, fup_eq]
    · exact tset_o tset_at (fun w => n1 w.symm)
    · exact tset_o (tset_o hb b2) b1
  | some x =>
    obtain ⟨gx, cx, rx, bx, hx0⟩ := hx x hL
    have xm : x ∈ L := List.mem_of_getLast? hL
    have nxq : ¬ x = q := fun w => hn (w ▸ xm)
    have nxf : ¬ fa = x := kd_ne hf hx0 (show ¬ (10 : Nat) = 6 by decide)
    have hx4 : (tset T q (cReq g c r none)).1 x = some (cReq gx cx rx bx) := tset_o hx0 nxq
    have hf5 : (tset (tset T q (cReq g c r none)) x (cReq gx cx rx (some q))).1 fa = some (cFetch (fup gy 11 (Int32.ofNat L.length)) L.head? (some x)) := by rw [← hL]; exact tset_o hf4 nxf
    rw [hL] at hf4
    have hh : (L ++ [q]).head? = L.head? := by
      cases L with
      | nil => cases hL
      | cons a L => rfl
    refine ⟨tset (tset (tset T q (cReq g c r none)) x (cReq gx cx rx (some q))) fa (cFetch (fup gy 11 (Int32.ofNat (L ++ [q]).length)) L.head? (some q)), ?_, ?_, ?_, fun x' gx' cx' rx' bx' w hx' => ?_, fun b c hb b1 b2 b3 => ?_, rfl⟩
    · simp only [D_c_Fetch_join, Option.bind_some, q1', Fr13 hf4, nc, Qw18 hx4, D_c_Fetch_join_28, Fw13 hf5, Fg11 tset_at, Fp11 tset_at, tset_tset, up, ln, fup_eq]
    · rw [hh, lst]; exact tset_at
    · exact tset_o (tset_o tset_at (fun w => nxq w.symm)) (fun w => n1 w.symm)
    · cases w
      rw [hx0] at hx'
      simp only [Option.some.injEq] at hx'
      rw [← cReq_b hx' (some q)]
      exact tset_o tset_at (fun w => nxf w.symm)
    · exact tset_o (tset_o (tset_o hb b2) (fun w => b3 (by rw [w]))) b1
end
