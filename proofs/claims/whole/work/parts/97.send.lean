/-! Messages that go out. -/
/-- the cells lie below the next address -/
def okN (T : tT) : Prop := ∀ b c, T.1 b = some c → b < T.2.1
/-- all cells but those of L stand as they were -/
def FrC (L : List Nat) (T T' : tT) : Prop := (∀ b c, T.1 b = some c → b ∉ L → T'.1 b = some c) ∧ (okN T → okN T') ∧ T.2.1 ≤ T'.2.1 ∧ T.2.2 ≤ T'.2.2
theorem FrC.refl {L : List Nat} {T : tT} : FrC L T T := ⟨fun _ _ h _ => h, id, Nat.le_refl _, Nat.le_refl _⟩
theorem FrC.trans {L L' : List Nat} {T T1 T2 : tT} (h : FrC L T T1) (h2 : FrC L' T1 T2) : FrC (L ++ L') T T2 :=
  ⟨fun b c k1 k2 => h2.1 b c (h.1 b c k1 (fun z => k2 (List.mem_append_left _ z))) (fun z => k2 (List.mem_append_right _ z)), fun k => h2.2.1 (h.2.1 k), Nat.le_trans h.2.2.1 h2.2.2.1, Nat.le_trans h.2.2.2 h2.2.2.2⟩
theorem FrC.mono {L L' : List Nat} {T T' : tT} (h : FrC L T T') (hl : ∀ b ∈ L, b ∈ L' ∨ T.1 b = none) : FrC L' T T' :=
  ⟨fun b c k1 k2 => h.1 b c k1 (fun z => by
    rcases hl b z with w | w
    · exact k2 w
    · rw [k1] at w
      cases w), h.2⟩
theorem FrC.set {T : tT} {a : Nat} {c d : tC} (h : T.1 a = some d) : FrC [a] T (tset T a c) :=
  ⟨fun b e k1 k2 => by rw [tset_1, if_neg (fun z => k2 (List.mem_singleton.mpr z))]; exact k1, fun k b e k1 => by
    rw [tset_1] at k1
    split at k1
    · rename_i z
      rw [z]
      exact k a d h
    · exact k b e k1, Nat.le_refl _, Nat.le_refl _⟩
theorem FrC.add {T : tT} {c : tC} {k : Nat} (h : okN T) : FrC [] T (tadd T c k) :=
  ⟨fun b e k1 _ => by rw [tadd_1, if_neg (fun z => by have := h b e k1; omega)]; exact k1, fun _ b e k1 => by
    rw [tadd_1] at k1
    split at k1
    · rename_i z
      rw [z]
      exact Nat.lt_succ_self _
    · exact Nat.lt_succ_of_lt (h b e k1), Nat.le_succ _, Nat.le_add_right _ _⟩
theorem FrC.at {L : List Nat} {T T' : tT} (h : FrC L T T') {b : Nat} {c : tC} (hb : T.1 b = some c) (hn : b ∉ L) : T'.1 b = some c := h.1 b c hb hn
theorem FrC.same {L K : List Nat} {T T' : tT} (h : FrC L T T') (hk : ∀ b ∈ L, ∀ c, T.1 b = some c → kd c ∉ K) : Same K T T' := fun x c hx hc => h.1 x c hx (fun z => hk x z c hx hc)
theorem FrC.list {T T' : tT} {a n n' : Nat} {xs xs' : List Nat} (ha : T.1 a = some (.inr (.inr (n, xs)))) (hT : ∀ b, T'.1 b = if b = a then some (.inr (.inr (n', xs'))) else T.1 b) (h1 : T.2.1 ≤ T'.2.1) (h2 : T.2.2 ≤ T'.2.2) : FrC [a] T T' :=
  ⟨fun b e k1 k2 => by rw [hT, if_neg (fun z => k2 (List.mem_singleton.mpr z))]; exact k1, fun k b e k1 => by
    rw [hT] at k1
    split at k1
    · rename_i z
      rw [z]
      exact Nat.lt_of_lt_of_le (k a _ ha) h1
    · exact Nat.lt_of_lt_of_le (k b e k1) h1, h1, h2⟩
section
variable {T : tT} {S : mS} {F a : Nat} {g : Nat → Int32} {t : Option Nat}
theorem new_msg (hN : okN T) : tnw T 9 = some (T.2.1, tadd T (cMsg (fun _ => 0) none) 19) ∧ (tadd T (cMsg (fun _ => 0) none) 19).1 T.2.1 = some (cMsg (fun _ => 0) none) ∧ T.1 T.2.1 = none := by
  refine ⟨rfl, if_pos rfl, ?_⟩
  cases e : T.1 T.2.1 with
  | none => rfl
  | some c => exact absurd (hN _ _ e) (Nat.lt_irrefl _)
/-- a row is posted, or lost -/
def pst (S S' : mS) (row : Nat → Int32) : Prop := ∃ n, S.1 77 = Int32.ofNat n ∧ ((n < 100 ∧ S'.1 77 = Int32.ofNat (n + 1) ∧ ∀ k, rd S' 624 k = if 22 * n ≤ k ∧ k < 22 * n + 22 then row (k - 22 * n) else rd S 624 k) ∨ (n = 100 ∧ S'.1 77 = S.1 77 ∧ ∀ k, rd S' 624 k = rd S 624 k))
theorem pst.of {S0 S1 S2 : mS} {row row' : Nat → Int32} (h : pst S1 S2 row) (h7 : S1.1 77 = S0.1 77) (h4 : ∀ k, rd S1 624 k = rd S0 624 k) (hr : ∀ i, i < 22 → row i = row' i) : pst S0 S2 row' := by
  obtain ⟨n, a, b | b⟩ := h
  · refine ⟨n, h7.symm.trans a, Or.inl ⟨b.1, b.2.1, fun k => ?_⟩⟩
    rw [b.2.2 k, h4]
    by_cases z : 22 * n ≤ k ∧ k < 22 * n + 22
    · rw [if_pos z, if_pos z, hr _ (by omega)]
    · rw [if_neg z, if_neg z]
  · exact ⟨n, h7.symm.trans a, Or.inr ⟨b.1, b.2.1.trans h7, fun k => (b.2.2 k).trans (h4 k)⟩⟩
theorem send_both (hF : 23 ≤ F) (hH : RHouse T S) (hP : RPost T S) (ha : T.1 a = some (cMsg g t)) (hfr : ∀ cap ms, T.1 523 = some (.inr (.inr (cap, ms))) → a ∉ ms) (hm : ∀ T2 : tT, T2.1 a = some (cMsg (fup g 18 (S.1 36)) t) → Same [13] T T2 → isMsg T2 a (fun i => rd S 625 i)) : ∃ T' S', D_c_EdgeHouse_send F 512 (some a) T = some T' ∧ D_m_post F S = some S' ∧ RHouse T' S' ∧ RPost T' S' ∧ FrC [512, 523, a] T T' ∧ (∀ i, ¬ i = 77 → ¬ i = 39 → S'.1 i = S.1 i) ∧ (∀ b k, ¬ b = 624 → rd S' b k = rd S b k) ∧ pst S S' (fun i => rd S 625 i) := by
  obtain ⟨n, cap, ms, h1, h2, h3, h4, h5⟩ := id hP
  have hH' : T.1 512 = some (house S.1) := hH
  have ne1 : ¬ a = 512 := kd_ne ha hH' (show ¬ (9 : Nat) = 0 by decide)
  have ne2 : ¬ a = 523 := kd_ne ha h3 (show ¬ (9 : Nat) = 21 by decide)
  have ls : tls T 523 = some (Int32.ofNat n) := by simp only [tls, tl, h3, Option.map_some, h4]
  by_cases hn : n = 100
  · subst hn
    refine ⟨tset T 512 (house (fup S.1 39 (S.1 39 + 1))), up1 S 39 (S.1 39 + 1), ?_, m_post_full h1, ?_, ?_, ?_, ?_, ?_, ⟨100, h1, Or.inr ⟨rfl, by rw [up1_1, if_neg (by decide)], fun k => rd_up1⟩⟩⟩
    · simp only [D_c_EdgeHouse_send, Hr7 hH', Option.bind_some, ls, show m_c2 .lt (Int32.ofNat 100) (100 : Int32) = false from by decide, cond_false, Hg11 hH', Hp11 hH']
    · exact tset_at
    · refine ⟨100, cap, ms, by rw [up1_1, if_neg (by decide)]; exact h1, h2, tset_o h3 (by decide), h4, fun k b hb => ?_⟩
      exact (h5 k b hb).same (Same.set hH' (show (0 : Nat) ∉ [9, 13] by decide))
    · exact (FrC.set hH').mono (fun b hb => Or.inl (by rw [List.mem_singleton.mp hb]; simp))
    · exact fun i i1 i2 => by rw [up1_1, if_neg i2]
    · exact fun b k _ => rd_up1
  · have hn9 : n < 100 := by omega
    obtain ⟨S', p1', p2', p3'⟩ := m_post (F := F) hF h1 hn9
    have k1 : (tset T a (cMsg (fup g 18 (S.1 36)) t)).1 523 = some (.inr (.inr (cap, ms))) := tset_o h3 (fun z => ne2 z.symm)
    have k2 : (tset T a (cMsg (fup g 18 (S.1 36)) t)).1 512 = some (house S.1) := tset_o hH' (fun z => ne1 z.symm)
    let T1 : tT := tset T a (cMsg (fup g 18 (S.1 36)) t)
    let T2 : tT := ((tset T1 523 (.inr (.inr (l_cap cap ms.length, ms ++ [a])))).1, T1.2.1 + (if ms.length < cap then 0 else 1), T1.2.2 + (if ms.length < cap then 0 else l_cap cap ms.length))
    have e2 : ∀ b, T2.1 b = if b = 523 then some (.inr (.inr (l_cap cap ms.length, ms ++ [a]))) else T1.1 b := fun b => rfl
    have fr : FrC [a, 523] T T2 := (FrC.set ha).trans (FrC.list (T := T1) (T' := T2) k1 e2 (Nat.le_add_right _ _) (Nat.le_add_right _ _))
    have sm : Same [13] T T2 := fr.same (fun b hb c hc => by
      simp only [List.mem_cons, List.mem_nil_iff, or_false] at hb
      rcases hb with rfl | rfl
      · rw [ha] at hc
        cases hc
        exact (show (9 : Nat) ∉ [13] by decide)
      · rw [h3] at hc
        cases hc
        exact (show (21 : Nat) ∉ [13] by decide))
    have ta : T2.1 a = some (cMsg (fup g 18 (S.1 36)) t) := by rw [e2, if_neg ne2]; exact tset_at
    refine ⟨T2, S', ?_, p1', ?_, ?_, fr.mono (fun b hb => Or.inl (by simp at hb ⊢; rcases hb with hb | hb <;> simp [hb])), ?_, ?_, ⟨n, h1, Or.inl ⟨hn9, by rw [p2', if_pos rfl], fun k => by rw [p3']; simp only [true_and]⟩⟩⟩
    · have la : tla T1 523 a = some T2 := by
        have : T1.1 a = some (.inl (9, _)) := tset_at
        simp only [tla, tl, show T1.1 523 = some (.inr (.inr (cap, ms))) from k1, Option.bind_some, this]
        rw [if_pos ⟨by omega, by decide⟩]
      simp only [D_c_EdgeHouse_send, Hr7 hH', Option.bind_some, ls, lt_n (show n < 2147483648 by omega) (show 100 < 2147483648 by decide), show m_c2 .lt (Int32.ofNat n) (100 : Int32) = decide (n < 100) from lt_n (by omega) (by decide), decide_eq_true hn9, cond_true, Hg14 hH', Mp18 ha, Hr7 k2]
      show ((tla T1 523 a).bind fun T30 => some T30) = some T2
      rw [la]
      rfl
    · show T2.1 512 = some (house S'.1)
      rw [e2, if_neg (by decide)]
      show T1.1 512 = _
      rw [k2]
      congr 1
      unfold house
      simp only [p2', show ¬ (71 = 77) by decide, show ¬ (39 = 77) by decide, show ¬ (38 = 77) by decide, show ¬ (37 = 77) by decide, show ¬ (36 = 77) by decide, if_false]
    · refine ⟨n + 1, l_cap cap ms.length, ms ++ [a], by rw [p2', if_pos rfl], by omega, by rw [e2, if_pos rfl], by rw [List.length_append, h4]; rfl, fun k b hb => ?_⟩
      by_cases hk : k < ms.length
      · rw [List.getElem?_append_left hk] at hb
        have hba : ¬ b = a := fun z => hfr cap ms h3 (by rw [← z]; exact List.mem_of_getElem? hb)
        have hb0 := h5 k b hb
        have s9 : isMsg T2 b (mRow S k) := by
          obtain ⟨g', t', q1, q2, q3, q4, q5⟩ := hb0
          have hb523 : ¬ b = 523 := kd_ne q1 h3 (show ¬ (9 : Nat) = 21 by decide)
          refine ⟨g', t', fr.at q1 (by simp; exact ⟨hba, hb523⟩), q2, q3, q4, ?_⟩
          rcases q5 with q5 | q5 | q5
          · exact Or.inl q5
          · refine Or.inr (Or.inl ?_)
            obtain ⟨z1, z2, z3, z4, z5, z6, z7, z8, z9⟩ := q5
            refine ⟨z1, z2, z3, z4, z5, z6, z7, z8, z9.imp id ?_⟩
            rintro ⟨c, w1, w2, w3⟩
            exact ⟨c, w1, sm c _ w2 (show (13 : Nat) ∈ [13] by decide), w3⟩
          · exact Or.inr (Or.inr q5)
        refine s9.ext (fun i hi => ?_)
        show rd S' 624 (22 * k + i) = rd S 624 (22 * k + i)
        rw [p3', if_neg (by omega)]
      · have hk2 : k = ms.length := by
          have := (List.getElem?_eq_some_iff.mp hb).1
          rw [List.length_append] at this
          simp at this
          omega
        rw [hk2, List.getElem?_append_right (Nat.le_refl _), Nat.sub_self] at hb
        have : b = a := by simpa using hb.symm
        subst this
        refine (hm T2 ta sm).ext (fun i hi => ?_)
        show rd S' 624 (22 * k + i) = rd S 625 i
        rw [p3', if_pos (by omega)]
        congr 1
        omega
    · exact fun i i1 i2 => by rw [p2', if_neg i1]
    · exact fun b k hb => by rw [p3', if_neg (fun z => hb z.1)]
end
