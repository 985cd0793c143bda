/-! Those that waited are looked at again. -/
def ag1 (z : Rq) : Rq := (z.1, z.2.1, z.2.2.1, fup z.2.2.2.1 12 1, z.2.2.2.2)
section
variable {I : Iv} {T T1 : tT} {S S2 : mS} {X Y : Nat → List (Nat × Nat)} {Z : Nat → List Fz} {Q Pd : List Rq} {j0 c F n k1 k2 : Nat} {rs : List Nat} {z : Rq}
theorem isQr.ag1 {row row' : Nat → Int32} {T' : tT} {S' : mS} (h : isQr T S rs z row) (hr : ∀ i, i < 12 → ¬ i = 10 → row' i = row i) (h10 : row' 10 = 1) (hS : ∀ a k, a = 620 ∨ a = 621 → rd S' a k = rd S a k) (hk : Kq [] [7, 20] T T') (hq : ∀ cc rr bb, T.1 z.1 = some (cReq z.2.2.2.1 cc rr bb) → ∃ bb', T'.1 z.1 = some (cReq (fup z.2.2.2.1 12 1) cc rr bb')) : isQr T' S' rs (ag1 z) row' := by
  obtain ⟨q, f, ro, g, cd⟩ := z
  obtain ⟨x1, m, x2, x3⟩ := h
  have e20 : ∀ j, rd S' 620 j = rd S 620 j := fun j => hS 620 j (Or.inl rfl)
  refine ⟨?_, m, ?_, ?_⟩
  · cases ro with
    | none =>
      cases cd with
      | none => obtain ⟨b, x1⟩ := x1; exact hq _ _ _ x1
      | some k => exact x1
    | some r =>
      cases cd with
      | none => exact x1
      | some k =>
        obtain ⟨⟨ca, ra, s, b, e1, e2, e3, e4⟩, e5⟩ := x1
        obtain ⟨b', e1'⟩ := hq _ _ _ e1
        exact ⟨⟨ca, ra, s, b', e1', hk.k e2 (show (7 : Nat) ∈ [7, 20] by decide), e3.ag (hk.mono (fun _ hx => by cases hx) (by decide)) e20, e4⟩, (hS 621 r (Or.inr rfl)).trans e5⟩
  · obtain ⟨y1, ⟨p, v, p1', p2', p3', p4', p5', p6', p7'⟩, ⟨la, fo, l1, l2, l3, l4, l5⟩, y2, y3, y4, y5, y6⟩ := x2
    exact ⟨y1, ⟨p, v, p1', p2', p3', p4', p5', (hr 0 (by decide) (by decide)).trans p6', (hr 1 (by decide) (by decide)).trans p7'⟩, ⟨la, fo, l1, l2, l3, l4, (hr 11 (by decide) (by decide)).trans l5⟩, Or.inr rfl, h10, y4, y5, y6⟩
  · cases ro with
    | none =>
      cases cd with
      | none =>
        unfold isQs isQf at x3 ⊢
        simp only [hr 2 (by decide) (by decide), hr 3 (by decide) (by decide), hr 4 (by decide) (by decide), hr 5 (by decide) (by decide), hr 6 (by decide) (by decide), hr 7 (by decide) (by decide), hr 8 (by decide) (by decide), hr 9 (by decide) (by decide)]
        exact x3
      | some k => exact x3
    | some r =>
      cases cd with
      | none => exact x3
      | some k =>
        unfold isQs isQc isBl isCl at x3 ⊢
        simp only [hr 2 (by decide) (by decide), hr 7 (by decide) (by decide), hr 8 (by decide) (by decide), e20]
        exact x3
/-- the one that is looked at is marked as one that is looked at again -/
theorem RB.flagz (h : RB T S X Y Z Q [z] Pd j0 rs c) (hL : okL T1) (hst : ∀ b x, T.1 b = some x → ¬ b = z.1 → T1.1 b = some x) (hq : ∀ cc rr bb, T.1 z.1 = some (cReq z.2.2.2.1 cc rr bb) → T1.1 z.1 = some (cReq (fup z.2.2.2.1 12 1) cc rr none)) (hi : ∀ i, S2.1 i = S.1 i) (hr : ∀ a k, ¬ (a = 622 ∧ k = wOf Q + 10) → rd S2 a k = rd S a k) (h10 : rd S2 622 (wOf Q + 10) = 1) : RB T1 S2 X Y Z Q [ag1 z] Pd j0 rs c := by
  obtain ⟨r1, r2, r3, r4, r5, r6, r7, r8, r9, r10⟩ := id h
  obtain ⟨⟨a1, a2, a3, a4⟩, b1, b2, b3, c1, c2, d1, dP, d2⟩ := id r8
  obtain ⟨cc, rr, bb, hz0⟩ := h.cur.1.cell
  have st : ∀ b x, T.1 b = some x → ¬ kd x = 6 → T1.1 b = some x := fun b x hb hk => hst b x hb (fun w => by rw [w, hz0] at hb; cases hb; exact hk rfl)
  have kq : ∀ {A K : List Nat}, 6 ∉ K → (∀ b ∈ A, ∀ x, T.1 b = some x → ¬ kd x = 6) → Kq A K T T1 := by
    intro A K hK hA b x hb hk
    rcases hk with hk | hk
    · exact st b x hb (fun w => hK (w ▸ hk))
    · exact st b x hb (hA b hk x hb)
  have ag : ∀ as is, (∀ a ∈ as, ¬ a = 622) → Ag as is S S2 := fun as is q => ⟨fun a ha k => hr a k (fun w => q a ha w.1), fun i _ => hi i⟩
  have aset : ∀ b k, T.1 b = some (.inr (.inr k)) → ∀ x, T.1 b = some x → ¬ kd x = 6 := fun b k hb x hx => by rw [hb] at hx; cases hx; exact (show ¬ (21 : Nat) = 6 by decide)
  have aarr : ∀ b k, T.1 b = some (.inr (.inl k)) → ∀ x, T.1 b = some x → ¬ kd x = 6 := fun b k hb x hx => by rw [hb] at hx; cases hx; exact (show ¬ (20 : Nat) = 6 by decide)
  have k523 : Kq [523] [9, 13] T T1 := by
    obtain ⟨_, _, _, _, _, e3, _⟩ := id r3
    exact kq (by decide) (fun b hb => by rw [List.mem_singleton.mp hb]; exact aset _ _ e3)
  have k513 : Kq [513] [13, 20] T T1 := by
    obtain ⟨f1, f2, f3, L, x2, x5, x6, x7, x8, x9, x10, x11, y13, y14, y15, e1, _⟩ := r10.2.2.2.1
    exact kq (by decide) (fun b hb x hx => by rw [List.mem_singleton.mp hb, e1] at hx; cases hx; exact (show ¬ (1 : Nat) = 6 by decide))
  have kSt : Kq [537, 538, 545, 546, 553, 554, 561, 562, 569, 570, 577, 578] [5, 11, 13] T T1 := by
    refine kq (by decide) (fun b hb => ?_)
    have : ∃ n, 1 ≤ n ∧ n < 7 ∧ (b = 529 + 8 * n ∨ b = 530 + 8 * n) := by
      simp only [List.mem_cons, List.mem_nil_iff, or_false] at hb
      exact ⟨(b - 529) / 8, by omega, by omega, by omega⟩
    obtain ⟨m, m1, m2, m3⟩ := this
    obtain ⟨⟨_, _, ⟨cX, e1⟩, ⟨cY, e2⟩, _⟩, _⟩ := r6.1 m m1 m2
    rcases m3 with m3 | m3
    · rw [m3]; exact aset _ _ e1
    · rw [m3]; exact aset _ _ e2
  have kF : Kq [539, 547, 555, 563, 571, 579] [10] T T1 := by
    refine kq (by decide) (fun b hb => ?_)
    have : ∃ n, 1 ≤ n ∧ n < 7 ∧ b = 531 + 8 * n := by
      simp only [List.mem_cons, List.mem_nil_iff, or_false] at hb
      exact ⟨(b - 531) / 8, by omega, by omega, by omega⟩
    obtain ⟨m, m1, m2, m3⟩ := this
    obtain ⟨⟨cp, e1⟩, _⟩ := r7.1 m m1 m2
    rw [m3]; exact aset _ _ e1
  have e20 := (ag [620] [] (by decide)).1 620 (by decide)
  have e21 := (ag [621] [] (by decide)).1 621 (by decide)
  have qk := r8.cells
  have oth : ∀ x ∈ Q ++ Pd, ¬ x.1 = z.1 := by
    intro x hx e
    rw [List.map_append, List.nodup_append, List.map_append, List.nodup_append] at c1
    rcases List.mem_append.mp hx with w | w
    · exact c1.2.2 x.1 (List.mem_map.mpr ⟨x, w, rfl⟩) z.1 (by simp) e
    · exact c1.2.1.2.2 z.1 (by simp) x.1 (List.mem_map.mpr ⟨x, w, rfl⟩) e.symm
  have isq : ∀ x ∈ Q ++ Pd, ∀ row, isQr T S rs x row → ∀ row', (∀ i, i < 12 → row' i = row i) → isQr T1 S2 rs x row' := by
    intro x hm row hx row' hrr
    obtain ⟨x1, m, x2, x3⟩ := hx
    refine ⟨?_, m, ?_, x3.fr e20 hrr⟩
    · have hne := oth x hm
      obtain ⟨q, f, ro, g, cd⟩ := x
      cases ro with
      | none =>
        cases cd with
        | none => obtain ⟨b, x1⟩ := x1; exact ⟨b, hst _ _ x1 hne⟩
        | some k => exact x1
      | some r =>
        cases cd with
        | none => exact x1
        | some k =>
          obtain ⟨⟨ca, ra, s, b, e1, e2, e3, e4⟩, e5⟩ := x1
          exact ⟨⟨ca, ra, s, b, hst _ _ e1 hne, st _ _ e2 (show ¬ (7 : Nat) = 6 by decide), e3.ag (kq (by decide) (fun b hb => by cases hb)) e20, e4⟩, (e21 r).trans e5⟩
    · unfold isQa at x2 ⊢
      simp only [hrr 0 (by decide), hrr 1 (by decide), hrr 10 (by decide), hrr 11 (by decide)]
      exact x2
  refine ⟨hL, r2.fr (kq (by decide) (fun b hb x hx => by rw [List.mem_singleton.mp hb, show T.1 512 = some (house S.1) from r2] at hx; cases hx; exact (show ¬ (0 : Nat) = 6 by decide))) (ag _ _ (by decide)), r3.fr k523 (ag _ _ (by decide)), r4.fr (kq (by decide) (fun b hb => by rw [List.mem_singleton.mp hb]; exact aarr _ _ r4.choose_spec.1)), r5.fr (kq (by decide) (fun b hb => by rw [List.mem_singleton.mp hb]; exact aarr _ _ r5.1.choose_spec.1)) (ag _ _ (by decide)), r6.fr kSt (ag _ _ (by decide)), r7.fr kF (ag _ _ (by decide)), ?_, r9.fr (kq (by decide) (fun b hb => by rw [List.mem_singleton.mp hb]; exact aset _ _ r9.1.choose_spec)) (ag _ _ (by decide)), r10.fr k513 (ag _ _ (by decide)) (fun k k1 k2 k3 => ?_)⟩
  · have l1 : (Q ++ ([ag1 z] ++ Pd)).length ≤ 700 := by
      rw [List.length_append] at a2 ⊢
      exact a2
    have l2 : ((Q ++ ([ag1 z] ++ Pd)).map Prod.fst).Nodup := by
      rw [List.map_append] at c1 ⊢
      exact c1
    have l3 : ((Q ++ ([ag1 z] ++ Pd)).filterMap (fun z => z.2.2.1)).Nodup := by
      rw [List.filterMap_append] at c2 ⊢
      exact c2
    refine ⟨⟨(hi 74).trans a1, l1, a3, by simp⟩, fun k x hk => isq x (List.mem_append_left _ (List.mem_of_getElem? hk)) _ (b1 k x hk) _ (fun i hx => ?_), fun x hx => ?_, fun k x hk => isq x (List.mem_append_right _ (List.mem_of_getElem? hk)) _ (b3 k x hk) _ (fun i _ => hr _ _ (by omega)), l2, l3, fun f => (d1 f).ext (fun x hx y hy => ?_), dP.ext (fun x hx y hy => ?_), fun x hx => by rw [hr 609 _ (by omega)]; exact d2 x hx⟩
    · have := (List.getElem?_eq_some_iff.mp hk).1
      exact hr 622 (12 * k + i) (by unfold wOf; omega)
    · rw [List.mem_singleton.mp hx]
      exact h.cur.ag1 (fun i i1 i2 => hr 622 (12 * (Q.length + 1) + i) (by unfold wOf; omega)) h10 (fun a k ha => hr a k (by omega)) (kq (by decide) (fun b hb => by cases hb)) (fun cc rr bb hb => ⟨none, hq cc rr bb hb⟩)
    · obtain ⟨x', x1, x2, _⟩ := ch_mem hx
      subst x2
      exact hst _ _ hy (oth x' (List.mem_append_left _ x1))
    · obtain ⟨x', x1, x2⟩ := List.mem_map.mp hx
      subst x2
      exact hst _ _ hy (oth x' (List.mem_append_right _ x1))
  · have e9 : ∀ i, mRow S2 k i = mRow S k i := fun i => hr _ _ (by omega)
    exact ⟨k, ⟨by rw [← hi 77]; exact k1, k2⟩, (e9 0).symm.trans k3, e9 3, e9 5, e9 4⟩
def ClG (I : Iv) : Prop := ∀ M Q Pd Z E N k1 k2 z, I M Q (z :: Pd) Z E N k1 k2 → z.2.1 < 896 → I M Q (lk1 (ag1 z) :: Pd) Z E N k1 k2
/-- what is needed of a request as it is laid out, in the reference -/
theorem r_needs (hF : 17 ≤ F) (h : RB T S X Y Z Q [z] Pd j0 rs c) : ∃ v72 v74 v76, aget 0 9 S 626 1 = some v72 ∧ D_m_nowTag F S = some v74 ∧ D_m_needs F (Int32.ofNat (wOf Q)) v72 v74 S = some v76 := by
  obtain ⟨zl, z1, z2⟩ := h.2.2.2.2.2.2.2.2.2.2.2.2.2
  have a1 : aget 0 9 S 626 1 = some (rd S 626 1) := aget_n (k := 1) (Or.inl rfl) (by decide) (by decide)
  have a0 : aget 0 9 S 626 0 = some (rd S 626 0) := aget_n (k := 0) (Or.inl rfl) (by decide) (by decide)
  have nd := m_needs (F := F) (tag := 8 * rd S 626 0 + S.1 87) hF h.rw.isRow z1
  rw [← z2] at nd
  refine ⟨_, _, _, a1, ?_, nd⟩
  unfold D_m_nowTag
  rw [a0]
  rfl
theorem again_loop (hF : 1100 ≤ F) (hI : Clo I) (hG : ClG I) : ∀ (Pd : List Rq) (T : tT) (S : mS) (X Y : Nat → List (Nat × Nat)) (Z : Nat → List Fz) (Q : List Rq) (j0 c k1 k2 : Nat) (x4 : Int32), RA I T S X Y Z Q [] Pd j0 rs c k1 k2 → (∀ z ∈ Pd, z.2.1 / 128 = n) → c + 2 * Pd.length + 10 < 2147483648 → 1 ≤ j0 → ∀ f g, Pd.length < f → Pd.length < g → ∃ T' S' X' Y' Z' Q' k1' k2', D_c_EdgeHouse_carry_101 F f 512 (some (527 + 8 * n)) 1 (Pd.map Prod.fst).head? T = some T' ∧ D_m_takeIn_359 F g x4 (Int32.ofNat (j0 + Pd.length)) (Int32.ofNat j0) S = some S' ∧ RA I T' S' X' Y' Z' Q' [] [] (j0 + Pd.length) rs (c + 2 * Pd.length) k1' k2' := by
  intro Pd
  induction Pd with
  | nil =>
    intro T S X Y Z Q j0 c k1 k2 x4 h hn hc hj f g hf hg
    obtain ⟨f, rfl⟩ : ∃ x, f = x + 1 := ⟨f - 1, by omega⟩
    obtain ⟨g, rfl⟩ : ∃ x, g = x + 1 := ⟨g - 1, by omega⟩
    have j700 : j0 ≤ 700 := by have := h.1.2.2.2.2.2.2.2.1.1.2.2.1; simpa using this
    refine ⟨T, S, X, Y, Z, Q, k1, k2, rfl, ?_, h⟩
    unfold D_m_takeIn_359
    rw [ge_n (by omega) (by show j0 + 0 < 2147483648; omega), decide_eq_true (by show j0 + 0 ≤ j0; omega)]
    rfl
  | cons z Pd ih =>
    intro T S X Y Z Q j0 c k1 k2 x4 h hn hc hj f g hf hg
    obtain ⟨f, rfl⟩ : ∃ x, f = x + 1 := ⟨f - 1, by omega⟩
    obtain ⟨g, rfl⟩ : ∃ x, g = x + 1 := ⟨g - 1, by omega⟩
    obtain ⟨hR, hcost, hIv⟩ := h
    have jl : j0 + (z :: Pd).length ≤ 700 := hR.2.2.2.2.2.2.2.1.1.2.2.1
    have ll : (z :: Pd).length = Pd.length + 1 := rfl
    obtain ⟨S1, a1, a2, a3, a4, a5, a6, a7, a8, _⟩ := hR.again (F := F) (by omega)
    have z896 : z.2.1 < 896 := by
      obtain ⟨_, n9, ⟨⟨b1, b2⟩, ⟨p9, v9, b3, b4, b5, _⟩, _⟩, _⟩ := hR.2.2.2.2.2.2.2.1.2.2.2.1 0 z rfl
      omega
    obtain ⟨cc, rr, hq⟩ := hR.lnk1
    obtain ⟨v72, v74, v76, n1, n2, n3⟩ := r_needs (F := F) (by omega) a2
    have hH : T.1 512 = some (house S.1) := hR.2.1
    -- the class marks it
    have p18 : tpr T z.1 6 18 none = some (tset T z.1 (cReq z.2.2.2.1 cc rr none)) := Qw18 hq
    have p12 : tpz (tset T z.1 (cReq z.2.2.2.1 cc rr none)) z.1 6 12 1 = some (tset T z.1 (cReq (fup z.2.2.2.1 12 1) cc rr none)) := by
      unfold tpz
      rw [if_pos (Or.inr rfl)]
      have := Qp12 (x := 1) (tset_at (T := T) (a := z.1) (c := cReq z.2.2.2.1 cc rr none))
      rw [tset_tset] at this
      exact this
    let T1 : tT := tset T z.1 (cReq (fup z.2.2.2.1 12 1) cc rr none)
    have cs1 : Cs T T1 0 0 := ((K_tpr _ p18).trans (K_tpz _ p12)).mono (by decide) (by decide)
    have p10' : aput 48000 S1 622 (Int32.ofNat (wOf Q) + 10) 1 = some (up2 S1 622 (wOf Q + 10) 1) := by
      rw [p10]
      exact aput_n (by have := a2.w.1; omega) (by decide)
    have n512 : ¬ 512 = z.1 := fun w => by rw [← w, hH] at hq; cases hq
    have hR2 : RB T1 (up2 S1 622 (wOf Q + 10) 1) X Y Z Q [ag1 z] Pd (j0 + 1) rs c := by
      refine a2.flagz (cs1 hR.1).1 (fun b x hb hne => tset_o hb hne) (fun cc' rr' bb' hb => ?_) (fun i => by rw [up2_1]) (fun a k hak => by rw [rd_up2, if_neg hak]) (by rw [rd_up2, if_pos ⟨rfl, rfl⟩])
      rw [hq] at hb
      have e := Option.some.inj hb
      show (tset T z.1 _).1 z.1 = _
      rw [tset_at]
      congr 1
      unfold cReq at e ⊢
      simp only [Sum.inl.injEq, Prod.mk.injEq, List.cons.injEq, Value.int.injEq, true_and, and_true] at e
      simp only [e]
    obtain ⟨w1, w2, w3⟩ : vM (up2 S1 622 (wOf Q + 10) 1) = vM S1 ∧ vE (up2 S1 622 (wOf Q + 10) 1) = vE S1 ∧ vS (up2 S1 622 (wOf Q + 10) 1) = vS S1 := by
      have hag : ∀ as is, (∀ a ∈ as, ¬ a = 622) → Ag as is S1 (up2 S1 622 (wOf Q + 10) 1) := fun as is q => ⟨fun a ha k => by rw [rd_up2, if_neg (fun w => q a ha w.1)], fun i _ => by rw [up2_1]⟩
      exact ⟨vM_ag (hag _ _ (by decide)), vE_ag (hag _ _ (by decide)), vS_ag (hag _ _ (by decide))⟩
    have hRA : RA I T1 (up2 S1 622 (wOf Q + 10) 1) X Y Z Q [ag1 z] Pd (j0 + 1) rs c k1 k2 := by
      refine ⟨hR2, (by have := cost_step hcost cs1 hR.1; exact ⟨by omega, by omega⟩), ?_⟩
      rw [w1, w2, w3, a3, a4, a5]
      exact hG _ _ _ _ _ _ _ _ _ hIv z896
    obtain ⟨T2, S3, X2, Y2, Z2, Q2, m1, m2, u1, u2, u3⟩ := look_both (F := F) hF hI hRA (by omega) (show (ag1 z).2.1 / 128 = n from hn z List.mem_cons_self) ⟨cc, rr, tset_at⟩
    obtain ⟨T3, S4, X3, Y3, Z3, Q3, m3, m4, y1, y2, y3⟩ := ih T2 S3 X2 Y2 Z2 Q2 (j0 + 1) (c + 2) m1 m2 x4 u3 (fun y hy => hn y (List.mem_cons_of_mem _ hy)) (by omega) (by omega) f g (by omega) (by omega)
    have jj : j0 + 1 + Pd.length = j0 + (z :: Pd).length := by omega
    have kk : c + 2 + 2 * Pd.length = c + 2 * (z :: Pd).length := by omega
    refine ⟨T3, S4, X3, Y3, Z3, Q3, m3, m4, ?_, ?_, by rw [← jj, ← kk]; exact y3⟩
    · show D_c_EdgeHouse_carry_101 F (f + 1) 512 (some (527 + 8 * n)) 1 (some z.1) T = some T3
      unfold D_c_EdgeHouse_carry_101
      have u1' : D_c_EdgeHouse_look F 512 (some (527 + 8 * n)) (some z.1) T1 = some T2 := u1
      simp only [nc, Qr18 hq, Option.bind_some, p18, p12]
      show ((tcl T1 512 0).bind fun _ => (D_c_EdgeHouse_look F 512 (some (527 + 8 * n)) (some z.1) T1).bind fun T132 => D_c_EdgeHouse_carry_101 F f 512 (some (527 + 8 * n)) 1 (Pd.map Prod.fst).head? T132) = some T3
      rw [tcl_o (show T1.1 512 = some (house S.1) from tset_o hH n512), Option.bind_some, u1', Option.bind_some]
      exact y1
    · unfold D_m_takeIn_359
      rw [ge_n (by omega) (by omega), decide_eq_false (by omega), cond_false, a1, Option.bind_some]
      simp only [n1, n2, n3, Option.bind_some]
      rw [show m_c1 .ne (Int32.ofNat j0) = true from (ne_n (a := j0) (b := 0) (by omega) (by decide)).trans (decide_eq_true (by omega)), cond_true]
      simp only [Option.bind_some, p10', show m_c1 .eq (0 : Int32) = true from rfl, cond_true, u2, D_m_takeIn_493, q1]
      rw [← jj]
      exact y2
end
