/-! A store of the class beside that of the reference: an entry is a pair of a cell's address and a place. -/
def isEnt (T : tT) (S : mS) (n : Nat) (q : Nat × Nat) (k : Int32) : Prop := ∃ p v h t, p < 32 ∧ v < 4 ∧ h < 8 ∧ q.2 = 8 * (128 * n + (4 * p + v)) + h ∧ T.1 q.1 = some (cEntry (Int32.ofNat p) (Int32.ofNat v) t (Int32.ofNat h) (rd S 604 q.2) (rd S 605 q.2) (rd S 606 q.2) (rd S 607 q.2) k) ∧ T.1 t = some (cTold (Int32.ofNat p) (eT S q.2)) ∧ okT (eT S q.2) ∧ ¬ rd S 601 q.2 = 0 ∧ rd S 602 q.2 = k
def RS (T : tT) (S : mS) (n : Nat) (X Y : List (Nat × Nat)) : Prop :=
  (1 ≤ n ∧ n < 7) ∧
  T.1 (528 + 8 * n) = some (.inl (5, [.ref (529 + 8 * n), .ref (530 + 8 * n), .int (rd S 592 n)])) ∧
  (∃ c, T.1 (529 + 8 * n) = some (.inr (.inr (c, X.map Prod.fst)))) ∧ (∃ c, T.1 (530 + 8 * n) = some (.inr (.inr (c, Y.map Prod.fst)))) ∧
  (∀ q ∈ X, isEnt T S n q 0) ∧ (∀ q ∈ Y, isEnt T S n q 1) ∧
  X.Pairwise (fun a b => tn S a.2 < tn S b.2) ∧ Y.Pairwise (fun a b => tn S a.2 < tn S b.2) ∧
  (∀ e, 1024 * n ≤ e → e < 1024 * n + 1024 → ¬ rd S 601 e = 0 → ∃ q, (q ∈ X ∨ q ∈ Y) ∧ q.2 = e) ∧
  ∃ b, 32 ≤ b ∧ b ≤ 2000 ∧ rd S 592 n = Int32.ofNat b
/-- turns are numbered up to U -/
def RTn (S : mS) (U : Nat) : Prop := S.1 58 = Int32.ofNat U ∧ ∀ e, e < 7168 → ¬ rd S 601 e = 0 → ∃ t, t ≤ U ∧ rd S 608 e = Int32.ofNat t
/-- what stands as it was in the class: all but the two lists of node n, and of the entries in Z what is kept -/
def FrT (n : Nat) (Z : List Nat) (T T' : tT) : Prop := (∀ b c, T.1 b = some c → ¬ b = 529 + 8 * n → ¬ b = 530 + 8 * n → b ∉ Z → T'.1 b = some c) ∧ (∀ a, a ∈ Z → ∀ p v t wh mk ag cm bl kp, T.1 a = some (cEntry p v t wh mk ag cm bl kp) → ∃ kp', T'.1 a = some (cEntry p v t wh mk ag cm bl kp')) ∧ ((∀ b c, T.1 b = some c → b < T.2.1) → ∀ b c, T'.1 b = some c → b < T'.2.1) ∧ T.2.1 ≤ T'.2.1 ∧ T.2.2 ≤ T'.2.2
/-- and in the reference: node n's flags and turns alone change -/
def FrS (n : Nat) (S S' : mS) : Prop := (∀ i, ¬ i = 58 → S'.1 i = S.1 i) ∧ (∀ a k, ¬ (a = 601 ∨ a = 602 ∨ a = 608) → rd S' a k = rd S a k) ∧ ∀ a k, ¬ (1024 * n ≤ k ∧ k < 1024 * n + 1024) → rd S' a k = rd S a k
theorem FrT.refl {n : Nat} {Z : List Nat} {T : tT} : FrT n Z T T := ⟨fun _ _ h _ _ _ => h, fun _ _ _ _ _ _ _ _ _ _ kp h => ⟨kp, h⟩, id, Nat.le_refl _, Nat.le_refl _⟩
theorem FrT.trans {n : Nat} {Z : List Nat} {T T1 T2 : tT} (h : FrT n Z T T1) (h2 : FrT n Z T1 T2) : FrT n Z T T2 :=
  ⟨fun b c k1 k2 k3 k4 => h2.1 b c (h.1 b c k1 k2 k3 k4) k2 k3 k4, fun a ha p v t wh mk ag cm bl kp k => by
    obtain ⟨kp1, k1⟩ := h.2.1 a ha p v t wh mk ag cm bl kp k
    exact h2.2.1 a ha p v t wh mk ag cm bl kp1 k1, fun k => h2.2.2.1 (h.2.2.1 k), Nat.le_trans h.2.2.2.1 h2.2.2.2.1, Nat.le_trans h.2.2.2.2 h2.2.2.2.2⟩
theorem FrT.mono {n : Nat} {Z Z' : List Nat} {T T' : tT} (h : FrT n Z T T') (hz : ∀ a ∈ Z, a ∈ Z') (hl : ∀ a ∈ Z', a ∉ Z → ¬ a = 529 + 8 * n ∧ ¬ a = 530 + 8 * n) : FrT n Z' T T' :=
  ⟨fun b c k1 k2 k3 k4 => h.1 b c k1 k2 k3 (fun z => k4 (hz b z)), fun a ha p v t wh mk ag cm bl kp k => by
    by_cases hz2 : a ∈ Z
    · exact h.2.1 a hz2 p v t wh mk ag cm bl kp k
    · exact ⟨kp, h.1 a _ k (hl a ha hz2).1 (hl a ha hz2).2 hz2⟩, h.2.2⟩
theorem FrS.refl {n : Nat} {S : mS} : FrS n S S := ⟨fun _ _ => rfl, fun _ _ _ => rfl, fun _ _ _ => rfl⟩
theorem FrS.trans {n : Nat} {S S1 S2 : mS} (h : FrS n S S1) (h2 : FrS n S1 S2) : FrS n S S2 :=
  ⟨fun i hi => (h2.1 i hi).trans (h.1 i hi), fun a k hk => (h2.2.1 a k hk).trans (h.2.1 a k hk), fun a k hk => (h2.2.2 a k hk).trans (h.2.2 a k hk)⟩
def sumz (S : mS) (Z : List (Nat × Nat)) : Nat := (Z.map (fun q => sz (rd S 607 q.2))).sum
theorem sumz_cons {S : mS} {q : Nat × Nat} {Z : List (Nat × Nat)} : sumz S (q :: Z) = sz (rd S 607 q.2) + sumz S Z := by
  unfold sumz
  rw [List.map_cons, List.sum_cons]
theorem sumz_app {S : mS} {Z W : List (Nat × Nat)} : sumz S (Z ++ W) = sumz S Z + sumz S W := by
  unfold sumz
  rw [List.map_append, List.sum_append_nat]
theorem sumz_le {S : mS} : ∀ {Z : List (Nat × Nat)}, sumz S Z ≤ 1024 * Z.length ∧ 16 * Z.length ≤ sumz S Z := by
  intro Z
  induction Z with
  | nil => exact ⟨Nat.le_refl _, Nat.le_refl _⟩
  | cons q Z ih =>
    have := (sz_eq (rd S 607 q.2)).2
    rw [sumz_cons, List.length_cons]
    omega
theorem sumz_ext {S S' : mS} {Z : List (Nat × Nat)} (h : ∀ k, rd S' 607 k = rd S 607 k) : sumz S' Z = sumz S Z := by
  unfold sumz
  simp only [h]
section
variable {T : tT} {S : mS} {F n : Nat} {X Y : List (Nat × Nat)} {q r : Nat × Nat} {k k' : Int32}
theorem isEnt.rng (h : isEnt T S n q k) (hn : n < 7) : 1024 * n ≤ q.2 ∧ q.2 < 1024 * n + 1024 ∧ q.2 < 7168 := by
  obtain ⟨p, v, hh, t, h1, h2, h3, h4, -⟩ := h
  omega
theorem isEnt.inj (h : isEnt T S n q k) (h' : isEnt T S n r k') (e : q.1 = r.1) : q.2 = r.2 := by
  obtain ⟨p, v, hh, t, h1, h2, h3, h4, h5, -⟩ := h
  obtain ⟨p', v', hh', t', g1, g2, g3, g4, g5, -⟩ := h'
  rw [e, g5] at h5
  have := (Sum.inl.inj (Option.some.inj h5))
  simp only [Prod.mk.injEq, List.cons.injEq, true_and] at this
  have z1 := (m_n_eq (i := p') (j := p) (by omega) (by omega)).mp (Value.int.inj this.1)
  have z2 := (m_n_eq (i := v') (j := v) (by omega) (by omega)).mp (Value.int.inj this.2.1)
  have z3 := (m_n_eq (i := hh') (j := hh) (by omega) (by omega)).mp (Value.int.inj this.2.2.2.1)
  omega
theorem RS.ne (h : RS T S n X Y) {q r : Nat × Nat} (hq : q ∈ X ∨ q ∈ Y) (hr : r ∈ X ∨ r ∈ Y) (e : q.2 = r.2) : q.1 = r.1 → q = r := fun z => Prod.ext z e
theorem c_sizeOf (l a : Nat) (c : Nat) (hl : T.1 l = some (.inr (.inr (c, X.map Prod.fst)))) (hX : ∀ q ∈ X, isEnt T S n q k) (hlen : X.length < 400) : ∀ (m j s : Nat), j + m = X.length → s ≤ 1024 * j → ∀ f, m < f → D_c_Store_sizeOf_4 F f a (some l) (Int32.ofNat s) (Int32.ofNat j) T = some (Int32.ofNat (s + sumz S (X.drop j))) := by
  intro m
  induction m with
  | zero =>
    intro j s h1 h2 f hf
    obtain ⟨f, rfl⟩ : ∃ f9, f = f9 + 1 := ⟨f - 1, by omega⟩
    rw [D_c_Store_sizeOf_4]
    simp only [Option.bind_some, tls, tl, hl, Option.map_some, List.length_map]
    rw [ge_n (by omega) (by omega), decide_eq_true (by omega), cond_true, List.drop_of_length_le (by omega)]
    rfl
  | succ m ih =>
    intro j s h1 h2 f hf
    obtain ⟨f, rfl⟩ : ∃ f9, f = f9 + 1 := ⟨f - 1, by omega⟩
    have hj : j < X.length := by omega
    obtain ⟨p, v, hh, t, g1, g2, g3, g4, g5, -⟩ := hX X[j] (List.getElem_mem hj)
    have e1 : tlg T l (Int32.ofNat j) = some X[j].1 := by
      simp only [tlg, tl, hl, Option.bind_some]
      rw [if_neg (m_n_neg (by omega)), m_n_cl (by omega), List.getElem?_map, List.getElem?_eq_getElem hj]
      rfl
    rw [D_c_Store_sizeOf_4]
    simp only [Option.bind_some, tls, tl, hl, Option.map_some, List.length_map]
    rw [ge_n (by omega) (by omega), decide_eq_false (by omega), cond_false, e1]
    simp only [Option.bind_some, tcc, tcl_o g5, c_esize g5, (sz_eq _).1]
    rw [m_n_add, q1, ih (j + 1) _ (by omega) (by have := (sz_eq (rd S 607 X[j].2)).2.2; omega) f (by omega), List.drop_eq_getElem_cons hj, sumz_cons, Nat.add_assoc]
theorem c_sizeOf0 {l a c : Nat} (hF : 401 ≤ F) (hl : T.1 l = some (.inr (.inr (c, X.map Prod.fst)))) (hX : ∀ q ∈ X, isEnt T S n q k) (hlen : X.length < 400) : D_c_Store_sizeOf F a (some l) T = some (Int32.ofNat (sumz S X)) := by
  unfold D_c_Store_sizeOf
  have := c_sizeOf (F := F) l a c hl hX hlen X.length 0 0 (by omega) (by omega) F (by omega)
  rw [Nat.zero_add, List.drop_zero] at this
  exact this
theorem RS.nodup (h : RS T S n X Y) : (X.map Prod.snd).Nodup ∧ (Y.map Prod.snd).Nodup ∧ ∀ q ∈ X, ∀ r ∈ Y, ¬ q.2 = r.2 := by
  obtain ⟨hn, -, -, -, h5, h6, h7, h8, -⟩ := h
  refine ⟨?_, ?_, ?_⟩
  · exact List.pairwise_map.mpr (h7.imp (fun {a b} z e => by rw [e] at z; omega))
  · exact List.pairwise_map.mpr (h8.imp (fun {a b} z e => by rw [e] at z; omega))
  · intro q hq r hr e
    obtain ⟨-, -, -, -, -, -, -, -, -, -, -, -, z1⟩ := h5 q hq
    obtain ⟨-, -, -, -, -, -, -, -, -, -, -, -, z2⟩ := h6 r hr
    rw [e, z2] at z1
    exact absurd z1 (by decide)
theorem isEnt.there (h : isEnt T S n q k) : ¬ rd S 601 q.2 = 0 ∧ rd S 602 q.2 = k := by
  obtain ⟨-, -, -, -, -, -, -, -, -, -, -, z1, z2⟩ := h
  exact ⟨z1, z2⟩
/-- the sizes that the reference counts -/
theorem RS.sizes (h : RS T S n X Y) : ((List.range' (1024 * n) 1024).map (cnt S true)).sum = sumz S Y ∧ ((List.range' (1024 * n) 1024).map (cnt S false)).sum = sumz S X + sumz S Y := by
  obtain ⟨n1, n2, n3⟩ := h.nodup
  obtain ⟨hn, -, -, -, h5, h6, -, -, h9, -⟩ := h
  constructor
  · rw [sum_rng (L := Y.map Prod.snd) n2]
    · unfold sumz
      rw [List.map_map]
      congr 1
      apply List.map_congr_left
      intro q hq
      have := (h6 q hq).there
      simp only [Function.comp, cnt]
      rw [if_neg this.1, if_neg (fun z => by rw [this.2] at z; exact absurd z.2 (by decide))]
    · intro e he
      obtain ⟨q, hq, rfl⟩ := List.mem_map.mp he
      have := (h6 q hq).rng hn.2
      exact ⟨this.1, this.2.1⟩
    · intro e e1 e2 e3
      unfold cnt
      split
      · rfl
      · rename_i z
        obtain ⟨q, hq, rfl⟩ := h9 e e1 e2 z
        rcases hq with hq | hq
        · rw [if_pos ⟨rfl, (h5 q hq).there.2⟩]
        · exact absurd (List.mem_map.mpr ⟨q, hq, rfl⟩) e3
  · rw [sum_rng (L := X.map Prod.snd ++ Y.map Prod.snd)]
    · rw [List.map_append, List.sum_append_nat]
      unfold sumz
      rw [List.map_map, List.map_map]
      have e : ∀ Z : List (Nat × Nat), (∀ q ∈ Z, ¬ rd S 601 q.2 = 0) → Z.map (cnt S false ∘ Prod.snd) = Z.map (fun q => sz (rd S 607 q.2)) := by
        intro Z hZ
        apply List.map_congr_left
        intro q hq
        simp only [Function.comp, cnt]
        rw [if_neg (hZ q hq), if_neg (fun z => by cases z.1)]
      rw [e X (fun q hq => (h5 q hq).there.1), e Y (fun q hq => (h6 q hq).there.1)]
    · refine List.nodup_append.mpr ⟨n1, n2, ?_⟩
      intro a ha b hb e
      obtain ⟨q, hq, rfl⟩ := List.mem_map.mp ha
      obtain ⟨r, hr, rfl⟩ := List.mem_map.mp hb
      exact n3 q hq r hr e
    · intro e he
      rcases List.mem_append.mp he with he | he
      · obtain ⟨q, hq, rfl⟩ := List.mem_map.mp he
        have := (h5 q hq).rng hn.2
        exact ⟨this.1, this.2.1⟩
      · obtain ⟨q, hq, rfl⟩ := List.mem_map.mp he
        have := (h6 q hq).rng hn.2
        exact ⟨this.1, this.2.1⟩
    · intro e e1 e2 e3
      unfold cnt
      split
      · rfl
      · rename_i z
        obtain ⟨q, hq, rfl⟩ := h9 e e1 e2 z
        exfalso
        apply e3
        rcases hq with hq | hq
        · exact List.mem_append_left _ (List.mem_map.mpr ⟨q, hq, rfl⟩)
        · exact List.mem_append_right _ (List.mem_map.mpr ⟨q, hq, rfl⟩)
theorem RTn.t {U : Nat} (h : RTn S U) (hU : U < 2147483648) {k : Int32} : ∀ e, e < 7168 → cand S k e → ∃ t, t < 2147483648 ∧ rd S 608 e = Int32.ofNat t := by
  intro e he hc
  obtain ⟨t, h1, h2⟩ := h.2 e he hc.1
  exact ⟨t, by omega, h2⟩
/-- the oldest that the reference finds is the head of the list -/
theorem RS.oldK (h : RS T S n X Y) {U : Nat} (hU : RTn S U) (hU2 : U < 2147483648) (hF : 1025 ≤ F) : D_m_oldest F (Int32.ofNat n) 1 S = some (oI (Y.head?.map Prod.snd)) := by
  obtain ⟨hn, -, -, -, h5, h6, h7, h8, h9, -⟩ := h
  obtain ⟨o, g1, g2, g3⟩ := m_oldest (S := S) (F := F) hF hn.2 1 (hU.t hU2)
  rw [g1]
  congr 2
  have inY : ∀ c, 1024 * n ≤ c → c < 1024 * n + 1024 → cand S 1 c → ∃ q ∈ Y, q.2 = c := by
    intro c c1 c2 c3
    obtain ⟨q, hq, e⟩ := h9 c c1 c2 c3.1
    rcases hq with hq | hq
    · have := (h5 q hq).there.2
      rw [e, c3.2] at this
      exact absurd this (by decide)
    · exact ⟨q, hq, e⟩
  cases Y with
  | nil =>
    cases o with
    | none => rfl
    | some c =>
      obtain ⟨c1, c2, c3⟩ := g2 c rfl
      obtain ⟨q, hq, -⟩ := inY c c1 c2 c3
      cases hq
  | cons q Y =>
    have hq := (h6 q List.mem_cons_self).rng hn.2
    obtain ⟨c, rfl, hc⟩ := g3 q.2 hq.1 hq.2.1 (h6 q List.mem_cons_self).there
    obtain ⟨c1, c2, c3⟩ := g2 c rfl
    obtain ⟨r, hr, rfl⟩ := inY c c1 c2 c3
    rcases List.mem_cons.mp hr with rfl | hr
    · rfl
    · have := (List.pairwise_cons.mp h8).1 r hr
      omega
theorem RS.oldN (h : RS T S n X Y) {U : Nat} (hU : RTn S U) (hU2 : U < 2147483648) (hF : 1025 ≤ F) : D_m_oldest F (Int32.ofNat n) 0 S = some (oI (X.head?.map Prod.snd)) := by
  obtain ⟨hn, -, -, -, h5, h6, h7, h8, h9, -⟩ := h
  obtain ⟨o, g1, g2, g3⟩ := m_oldest (S := S) (F := F) hF hn.2 0 (hU.t hU2)
  rw [g1]
  congr 2
  have inX : ∀ c, 1024 * n ≤ c → c < 1024 * n + 1024 → cand S 0 c → ∃ q ∈ X, q.2 = c := by
    intro c c1 c2 c3
    obtain ⟨q, hq, e⟩ := h9 c c1 c2 c3.1
    rcases hq with hq | hq
    · exact ⟨q, hq, e⟩
    · have := (h6 q hq).there.2
      rw [e, c3.2] at this
      exact absurd this (by decide)
  cases X with
  | nil =>
    cases o with
    | none => rfl
    | some c =>
      obtain ⟨c1, c2, c3⟩ := g2 c rfl
      obtain ⟨q, hq, -⟩ := inX c c1 c2 c3
      cases hq
  | cons q X =>
    have hq := (h5 q List.mem_cons_self).rng hn.2
    obtain ⟨c, rfl, hc⟩ := g3 q.2 hq.1 hq.2.1 (h5 q List.mem_cons_self).there
    obtain ⟨c1, c2, c3⟩ := g2 c rfl
    obtain ⟨r, hr, rfl⟩ := inX c c1 c2 c3
    rcases List.mem_cons.mp hr with rfl | hr
    · rfl
    · have := (List.pairwise_cons.mp h7).1 r hr
      omega
end
