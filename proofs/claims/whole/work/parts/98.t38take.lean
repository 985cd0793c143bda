/-! Those that wait for a fetch are taken. -/
theorem filter_ix {α : Type} (p : α → Bool) : ∀ (L : List α) (s : Nat) (p' : Nat → Bool), (∀ (k : Nat) (z : α), L[k]? = some z → p' (s + k) = p z) → ((List.range' s L.length).filter p').length = (L.filter p).length ∧ ∀ (j : Nat) (z : α), (L.filter p)[j]? = some z → ∃ r : Nat, ((List.range' s L.length).filter p')[j]? = some (s + r) ∧ L[r]? = some z
  | [], _, _, _ => ⟨rfl, fun j z h => by simp at h⟩
  | a :: L, s, p', h => by
    obtain ⟨i1, i2⟩ := filter_ix p L (s + 1) p' (fun k z hk => by
      have := h (k + 1) z (by rw [List.getElem?_cons_succ]; exact hk)
      rw [← this]
      congr 1
      omega)
    have h0 : p' s = p a := h 0 a rfl
    rw [List.length_cons, List.range'_succ]
    cases hp : p a with
    | true =>
      rw [List.filter_cons_of_pos (by rw [h0, hp]), List.filter_cons_of_pos hp]
      refine ⟨by rw [List.length_cons, List.length_cons, i1], fun j z hj => ?_⟩
      cases j with
      | zero =>
        rw [List.getElem?_cons_zero] at hj
        cases hj
        exact ⟨0, rfl, rfl⟩
      | succ j =>
        rw [List.getElem?_cons_succ] at hj
        obtain ⟨r, r1, r2⟩ := i2 j z hj
        exact ⟨r + 1, by rw [List.getElem?_cons_succ, r1, show s + 1 + r = s + (r + 1) by omega], by rw [List.getElem?_cons_succ]; exact r2⟩
    | false =>
      rw [List.filter_cons_of_neg (by rw [h0, hp]; decide), List.filter_cons_of_neg (by rw [hp]; decide)]
      refine ⟨i1, fun j z hj => ?_⟩
      obtain ⟨r, r1, r2⟩ := i2 j z hj
      exact ⟨r + 1, by rw [r1, show s + 1 + r = s + (r + 1) by omega], by rw [List.getElem?_cons_succ]; exact r2⟩
theorem filter_nodup_parts {α β : Type} [DecidableEq β] {f : α → β} {p : α → Bool} : ∀ {L : List α}, (L.map f).Nodup → ((L.filter (fun x => !p x) ++ L.filter p).map f).Nodup := by
  intro L h
  rw [List.map_append, List.nodup_append]
  refine ⟨h.sublist (List.Sublist.map _ List.filter_sublist), h.sublist (List.Sublist.map _ List.filter_sublist), fun a ha b hb e => ?_⟩
  obtain ⟨x, x1, x2⟩ := List.mem_map.mp ha
  obtain ⟨z, z1, z2⟩ := List.mem_map.mp hb
  obtain ⟨x3, x4⟩ := List.mem_filter.mp x1
  obtain ⟨z3, z4⟩ := List.mem_filter.mp z1
  have : x = z := by
    obtain ⟨i, hi⟩ := List.mem_iff_getElem?.mp x3
    obtain ⟨j, hj⟩ := List.mem_iff_getElem?.mp z3
    obtain ⟨i1, i2⟩ := List.getElem?_eq_some_iff.mp hi
    obtain ⟨j1, j2⟩ := List.getElem?_eq_some_iff.mp hj
    have : (L.map f)[i]'(by rw [List.length_map]; exact i1) = (L.map f)[j]'(by rw [List.length_map]; exact j1) := by
      rw [List.getElem_map, List.getElem_map, i2, j2, x2, z2, e]
    have hij := (List.getElem_inj h).mp this
    subst hij
    rw [hj] at hi
    cases hi
    rfl
  subst this
  rw [z4] at x4
  cases x4
theorem filterMap_nodup_parts {α : Type} {f : α → Option Nat} {p : α → Bool} : ∀ {L : List α}, (L.filterMap f).Nodup → ((L.filter (fun x => !p x) ++ L.filter p).filterMap f).Nodup
  | [], _ => List.nodup_nil
  | a :: L, h => by
    have ih := fun h => filterMap_nodup_parts (f := f) (p := p) (L := L) h
    have mm : ∀ q : α → Bool, ∀ x, x ∈ (L.filter q).filterMap f → x ∈ L.filterMap f := fun q x hx => by
      obtain ⟨z, z1, z2⟩ := List.mem_filterMap.mp hx
      exact List.mem_filterMap.mpr ⟨z, (List.mem_filter.mp z1).1, z2⟩
    cases ha : f a with
    | none =>
      rw [List.filterMap_cons_none ha] at h
      have ih := ih h
      cases hp : p a with
      | true =>
        rw [List.filter_cons_of_neg (by rw [hp]; decide), List.filter_cons_of_pos hp, List.filterMap_append, List.filterMap_cons_none ha, ← List.filterMap_append]
        exact ih
      | false =>
        rw [List.filter_cons_of_pos (by rw [hp]; rfl), List.filter_cons_of_neg (by rw [hp]; decide), List.filterMap_append, List.filterMap_cons_none ha, ← List.filterMap_append]
        exact ih
    | some r =>
      rw [List.filterMap_cons_some ha] at h
      obtain ⟨h1, h2⟩ := List.nodup_cons.mp h
      have ih := ih h2
      rw [List.filterMap_append, List.nodup_append] at ih
      obtain ⟨i1, i2, i3⟩ := ih
      cases hp : p a with
      | true =>
        rw [List.filter_cons_of_neg (by rw [hp]; decide), List.filter_cons_of_pos hp, List.filterMap_append, List.filterMap_cons_some ha, List.nodup_append]
        refine ⟨i1, List.nodup_cons.mpr ⟨fun w => h1 (mm _ _ w), i2⟩, fun x hx z hz e => ?_⟩
        rcases List.mem_cons.mp hz with w | w
        · rw [e, w] at hx
          exact h1 (mm _ _ hx)
        · exact i3 x hx z w e
      | false =>
        rw [List.filter_cons_of_pos (by rw [hp]; rfl), List.filter_cons_of_neg (by rw [hp]; decide), List.filterMap_append, List.filterMap_cons_some ha, List.nodup_append]
        refine ⟨List.nodup_cons.mpr ⟨fun w => h1 (mm _ _ w), i1⟩, i2, fun x hx z hz e => ?_⟩
        rcases List.mem_cons.mp hx with w | w
        · rw [← e, w] at hz
          exact h1 (mm _ _ hz)
        · exact i3 x w z hz e
theorem filter_len {α : Type} (p : α → Bool) : ∀ (L : List α), (L.filter (fun x => !p x)).length + (L.filter p).length = L.length
  | [] => rfl
  | a :: L => by
    have := filter_len p L
    cases hp : p a with
    | true =>
      rw [List.filter_cons_of_neg (by rw [hp]; decide), List.filter_cons_of_pos hp, List.length_cons, List.length_cons]
      omega
    | false =>
      rw [List.filter_cons_of_pos (by rw [hp]; rfl), List.filter_cons_of_neg (by rw [hp]; decide), List.length_cons, List.length_cons]
      omega
/-- those that wait at a place, and the others -/
def qIn (Q : List Rq) (f : Nat) : List Rq := Q.filter (fun z => decide (z.2.1 = f))
def qOut (Q : List Rq) (f : Nat) : List Rq := Q.filter (fun z => !decide (z.2.1 = f))
theorem ch_in {Q : List Rq} {f : Nat} : (qIn Q f).map Prod.fst = ch Q f := rfl
theorem ch_out {Q : List Rq} {f g : Nat} (h : ¬ g = f) : ch (qOut Q f) g = ch Q g := by
  unfold ch qOut
  rw [List.filter_filter]
  congr 1
  refine List.filter_congr (fun z _ => ?_)
  by_cases w : z.2.1 = g
  · rw [w]; simp [h]
  · simp [w]
theorem ch_out0 {Q : List Rq} {f : Nat} : ch (qOut Q f) f = [] := by
  unfold ch qOut
  rw [List.filter_filter, List.filter_eq_nil_iff.mpr (fun z _ => by by_cases w : z.2.1 = f <;> simp [w])]
  rfl
section
variable {T : tT} {S : mS} {X Y : Nat → List (Nat × Nat)} {Z : Nat → List Fz} {Q : List Rq} {c F n : Nat} {rs : List Nat}
theorem RBx.take (hF : 4001 ≤ F) {p v : Nat} (hp : p < 32) (hv : v < 4) (h1 : 1 ≤ n) (h2 : n < 7) (h : RBx T S X Y Z Q rs c (128 * n + (4 * p + v))) (h0 : rd S 609 (128 * n + (4 * p + v)) = 0) (hno : ∀ m, 1 ≤ m → m < 7 → ∀ x ∈ Z m, ¬ x.2.1 = 128 * n + (4 * p + v)) : ∃ S', D_m_take F (Int32.ofNat n) (Int32.ofNat (4 * p + v)) S = some (Int32.ofNat (qIn Q (128 * n + (4 * p + v))).length, S') ∧ RB T S' X Y Z (qOut Q (128 * n + (4 * p + v))) [] (qIn Q (128 * n + (4 * p + v))) 0 rs c ∧ vM S' = vM S ∧ vE S' = vE S ∧ vS S' = vS S ∧ (∀ i, ¬ i = 74 → S'.1 i = S.1 i) ∧ ∀ a k, ¬ a = 622 → ¬ a = 623 → rd S' a k = rd S a k := by
  obtain ⟨⟨r1, r2, r3, r4, r5, r6, r9, r10⟩, r7, ⟨⟨a1, a2⟩, b1, c1, c2, d1, d2⟩⟩ := id h
  let f : Nat := 128 * n + (4 * p + v)
  obtain ⟨S', s1, s2, s3, s4, s5⟩ := m_take (F := F) (S := S) (n := Q.length) (x1 := Int32.ofNat n) (x2 := Int32.ofNat (4 * p + v)) hF a1 (by omega)
  have tk : ∀ k z, Q[k]? = some z → isTk S (Int32.ofNat n) (Int32.ofNat (4 * p + v)) (0 + k) = decide (z.2.1 = f) := by
    intro k z hk
    obtain ⟨_, m, ⟨m1, ⟨p', v', x1, x2, x3, x4, x5, x6, x7⟩, _⟩, _⟩ := b1 k z hk
    have y0 : rd S 622 (12 * k) = Int32.ofNat m := x6
    have y1 : rd S 622 (12 * k + 1) = Int32.ofNat (4 * p' + v') := x7
    unfold isTk
    rw [Nat.zero_add, y0, y1]
    have e1 : (Int32.ofNat m = Int32.ofNat n) ↔ m = n := ⟨fun w => by have := congrArg Int32.toNatClampNeg w; rw [m_n_cl (by omega), m_n_cl (by omega)] at this; exact this, fun w => by rw [w]⟩
    have e2 : (Int32.ofNat (4 * p' + v') = Int32.ofNat (4 * p + v)) ↔ 4 * p' + v' = 4 * p + v := ⟨fun w => by have := congrArg Int32.toNatClampNeg w; rw [m_n_cl (by omega), m_n_cl (by omega)] at this; exact this, fun w => by rw [w]⟩
    have e3 : ¬ Int32.ofNat (4 * p + v) = -1 := fun q => by have := ofNat_ne_m1 (show 4 * p + v < 2147483648 by omega); rw [q] at this; exact absurd this (by decide)
    simp only [e1, e2, e3, decide_false, Bool.false_or]
    by_cases w : z.2.1 = f
    · have w' : z.2.1 = 128 * n + (4 * p + v) := w
      have : m = n ∧ 4 * p' + v' = 4 * p + v := by omega
      simp [w, this.1, this.2]
    · have w' : ¬ z.2.1 = 128 * n + (4 * p + v) := w
      have : ¬ (m = n ∧ 4 * p' + v' = 4 * p + v) := fun q => w' (by rw [x3]; omega)
      by_cases q : m = n
      · have q2 : ¬ 4 * p' + v' = 4 * p + v := fun q2 => this ⟨q, q2⟩
        simp [w, q2]
      · simp [w, q]
  obtain ⟨i1, i2⟩ := filter_ix (fun z : Rq => decide (z.2.1 = f)) Q 0 (fun r => isTk S (Int32.ofNat n) (Int32.ofNat (4 * p + v)) r) tk
  obtain ⟨j1, j2⟩ := filter_ix (fun z : Rq => !decide (z.2.1 = f)) Q 0 (fun r => !isTk S (Int32.ofNat n) (Int32.ofNat (4 * p + v)) r) (fun k z hk => by rw [tk k z hk])
  rw [← List.range_eq_range'] at i1 i2 j1 j2
  rw [i1] at s1
  have hag : ∀ as is, (∀ a ∈ as, ¬ a = 622 ∧ ¬ a = 623) → (∀ i ∈ is, ¬ i = 74) → Ag as is S S' := fun as is q q2 => ⟨fun a ha k => s3 a k (q a ha).1 (q a ha).2, fun i hi => by rw [s2, if_neg (q2 i hi)]⟩
  have frx : ∀ (x : Rq) row row', isQr T S rs x row → (∀ i, i < 12 → row' i = row i) → isQr T S' rs x row' := fun x row row' hx hrr => hx.fr Kq.refl (hag _ _ (by decide) (by decide)) (fun r _ => s3 621 r (by decide) (by decide)) hrr
  have fl := filter_len (fun z : Rq => decide (z.2.1 = f)) Q
  refine ⟨S', s1, ⟨r1, r2.fr Kq.refl (hag _ _ (by decide) (by decide)), r3.fr Kq.refl (hag _ _ (by decide) (by decide)), r4, r5.fr Kq.refl (hag _ _ (by decide) (by decide)), r6.fr Kq.refl (hag _ _ (by decide) (by decide)), ?_, ?_, r9.fr Kq.refl (hag _ _ (by decide) (by decide)), r10.fr Kq.refl (hag _ _ (by decide) (by decide)) (fun k x1 x2 x3 => ?_)⟩, vM_ag (hag _ _ (by decide) (by decide)), vE_ag (hag _ _ (by decide) (by decide)), vS_ag (hag _ _ (by decide) (by decide)), fun i hi => by rw [s2, if_neg hi], s3⟩
  · refine ((r7.toF h0).fr Kq.refl (hag _ _ (by decide) (by decide))).ext (fun m m1 m2 x hx => ?_)
    exact (ch_out (hno m m1 m2 x hx)).symm
  · refine ⟨⟨by rw [s2, if_pos rfl, j1]; rfl, ?_, ?_, by simp⟩, fun k x hk => ?_, fun x hx => (by cases hx), fun k x hk => ?_, ?_, ?_, fun g => ?_, ?_, fun x hx => ?_⟩
    · rw [List.nil_append, List.length_append]
      have : (qOut Q (128 * n + (4 * p + v))).length + (qIn Q (128 * n + (4 * p + v))).length = Q.length := fl
      omega
    · have : (qOut Q (128 * n + (4 * p + v))).length + (qIn Q (128 * n + (4 * p + v))).length = Q.length := fl
      omega
    · obtain ⟨r, y1, y2⟩ := j2 k x hk
      rw [Nat.zero_add] at y1
      exact frx x _ _ (b1 r x y2) (fun i hi => s5 k r y1 i hi)
    · obtain ⟨r, y1, y2⟩ := i2 k x hk
      rw [Nat.zero_add] at y1
      refine frx x _ _ (b1 r x y2) (fun i hi => ?_)
      rw [Nat.zero_add]
      exact s4 k r y1 i hi
    · rw [List.nil_append]
      exact filter_nodup_parts c1
    · rw [List.nil_append]
      exact filterMap_nodup_parts c2
    · by_cases e : g = f
      · subst e
        rw [ch_out0]
        exact trivial
      · rw [ch_out e]
        exact d1 g
    · rw [ch_in]
      exact d1 f
    · have hx' := List.mem_filter.mp hx
      rw [s3 609 _ (by decide) (by decide)]
      exact d2 x hx'.1 (by simpa using hx'.2)
  · have e9 : ∀ i, mRow S' k i = mRow S k i := fun i => s3 _ _ (by decide) (by decide)
    exact ⟨k, ⟨by rw [s2, if_neg (by decide)] at x1; exact x1, x2⟩, (e9 0).symm.trans x3, e9 3, e9 5, e9 4⟩
/-- the reference lets a fetch go -/
theorem RBx.off {f : Nat} (h : RBx T S X Y Z Q rs c f) (hf : f < 896) (hno : ∀ m, 1 ≤ m → m < 7 → ∀ x ∈ Z m, ¬ x.2.1 = f) : bput 896 S 609 (Int32.ofNat f) 0 = some (up2 S 609 f 0) ∧ RBx T (up2 S 609 f 0) X Y Z Q rs c f ∧ rd (up2 S 609 f 0) 609 f = 0 ∧ vM (up2 S 609 f 0) = vM S ∧ vE (up2 S 609 f 0) = vE S ∧ vS (up2 S 609 f 0) = vS S := by
  obtain ⟨⟨r1, r2, r3, r4, r5, r6, r9, r10⟩, r7, ⟨⟨a1, a2⟩, b1, c1, c2, d1, d2⟩⟩ := id h
  have hr : ∀ a k, ¬ (a = 609 ∧ k = f) → rd (up2 S 609 f 0) a k = rd S a k := fun a k w => by rw [rd_up2, if_neg w]
  have hag : ∀ as is, (∀ a ∈ as, ¬ a = 609) → Ag as is S (up2 S 609 f 0) := fun as is q => ⟨fun a ha k => hr a k (fun w => q a ha w.1), fun i _ => by rw [up2_1]⟩
  have frx : ∀ (x : Rq) row row', isQr T S rs x row → (∀ i, i < 12 → row' i = row i) → isQr T (up2 S 609 f 0) rs x row' := fun x row row' hx hrr => hx.fr Kq.refl (hag _ _ (by decide)) (fun r _ => hr 621 r (by omega)) hrr
  refine ⟨bput_n hf (by decide) (Or.inl rfl), ⟨⟨r1, r2.fr Kq.refl (hag _ _ (by decide)), r3.fr Kq.refl (hag _ _ (by decide)), r4, r5.fr Kq.refl (hag _ _ (by decide)), r6.fr Kq.refl (hag _ _ (by decide)), r9.fr Kq.refl (hag _ _ (by decide)), r10.fr Kq.refl (hag _ _ (by decide)) (fun k x1 x2 x3 => ?_)⟩, ?_, ⟨⟨by rw [up2_1]; exact a1, a2⟩, fun k z hk => frx z _ _ (b1 k z hk) (fun i _ => hr _ _ (by omega)), c1, c2, d1, fun z hz hne => by rw [hr 609 _ (fun w => hne w.2)]; exact d2 z hz hne⟩⟩, by rw [rd_up2, if_pos ⟨rfl, rfl⟩], vM_ag (hag _ _ (by decide)), vE_ag (hag _ _ (by decide)), vS_ag (hag _ _ (by decide))⟩
  · have e9 : ∀ i, mRow (up2 S 609 f 0) k i = mRow S k i := fun i => hr _ _ (by omega)
    exact ⟨k, ⟨by rw [up2_1] at x1; exact x1, x2⟩, (e9 0).symm.trans x3, e9 3, e9 5, e9 4⟩
  · refine ⟨fun m m1 m2 => ?_, r7.2⟩
    obtain ⟨y1, y2, y3, y4⟩ := r7.1 m m1 m2
    refine ⟨y1, fun z hz => ?_, y3, fun g g1 g2 g3 g4 => y4 g g1 g2 g3 (by rw [hr 609 g (fun w => g3 w.2)] at g4; exact g4)⟩
    have old := y2 z hz
    refine old.congr rfl (fun a ha => ?_)
    exact hr a _ (fun q => hno m m1 m2 z hz q.2)
end
