/-! A FETCH that goes out: the whole relation stands. -/
/-- fetches that are out, but for what the reference holds at one place -/
def RFx (T : tT) (S : mS) (Z : Nat → List Fz) (C : Nat → List Nat) (f0 : Nat) : Prop :=
  (∀ n, 1 ≤ n → n < 7 → (∃ c, T.1 (531 + 8 * n) = some (.inr (.inr (c, (Z n).map Prod.fst)))) ∧ (∀ z ∈ Z n, isFe T S n z (C z.2.1)) ∧ (Z n).Pairwise (fun a b => nmb a < nmb b) ∧ ∀ f, 128 * n ≤ f → f < 128 * n + 128 → ¬ f = f0 → ¬ rd S 609 f = 0 → ∃ z ∈ Z n, z.2.1 = f) ∧
  ∀ n m z y, 1 ≤ n → n < 7 → 1 ≤ m → m < 7 → z ∈ Z n → y ∈ Z m → z.1 = y.1 → n = m
theorem RF.x {T : tT} {S : mS} {Z : Nat → List Fz} {C : Nat → List Nat} (h : RF T S Z C) (f0 : Nat) : RFx T S Z C f0 := ⟨fun n a b => ⟨(h.1 n a b).1, (h.1 n a b).2.1, (h.1 n a b).2.2.1, fun f f1 f2 _ => (h.1 n a b).2.2.2 f f1 f2⟩, h.2⟩
theorem RFx.toF {T : tT} {S : mS} {Z : Nat → List Fz} {C : Nat → List Nat} {f0 : Nat} (h : RFx T S Z C f0) (h0 : rd S 609 f0 = 0) : RF T S Z C := ⟨fun n a b => ⟨(h.1 n a b).1, (h.1 n a b).2.1, (h.1 n a b).2.2.1, fun f f1 f2 f3 => (h.1 n a b).2.2.2 f f1 f2 (fun w => f3 (w ▸ h0)) f3⟩, h.2⟩
theorem isFe.congr {T : tT} {S : mS} {n : Nat} {z : Fz} {L : List Nat} (h : isFe T S n z L) {T' : tT} {S' : mS} (h1 : T'.1 z.1 = T.1 z.1) (h2 : ∀ a, 609 ≤ a ∧ a ≤ 617 → rd S' a z.2.1 = rd S a z.2.1) : isFe T' S' n z L := by
  unfold isFe at h ⊢
  rw [h1, h2 609 (by omega), h2 610 (by omega), h2 611 (by omega), h2 612 (by omega), h2 613 (by omega), h2 614 (by omega), h2 615 (by omega), h2 616 (by omega), h2 617 (by omega)]
  exact h
def zAdd (Z : Nat → List Fz) (n : Nat) (y : Fz) : Nat → List Fz := fun m => if m = n then Z n ++ [y] else Z m
def cAdd (C : Nat → List Nat) (f : Nat) (L : List Nat) : Nat → List Nat := fun k => if k = f then L else C k
section
variable {T : tT} {S : mS} {X Y : Nat → List (Nat × Nat)} {Z : Nat → List Fz} {C : Nat → List Nat} {Q cz Pd : List Rq} {j0 c F n : Nat} {rs : List Nat}
/-- what a FETCH that went out leaves -/
def Went (F : Nat) (T : tT) (S : mS) (X Y : Nat → List (Nat × Nat)) (Z : Nat → List Fz) (C : Nat → List Nat) (Q cz Pd : List Rq) (j0 : Nat) (rs : List Nat) (c n fa f la fo : Nat) (g : Nat → Int32) (L : List Nat) : Prop :=
  ∃ (o : Option Nat) (to0 : Nat) (T' : tT) (S' : mS), (∀ e, o = some e → suitE S f la fo e) ∧ (o = none → ∀ e, ¬ suitE S f la fo e) ∧ ((n ≤ 2 ∧ to0 = 0) ∨ (3 ≤ n ∧ 1 ≤ to0 ∧ to0 ≤ 2)) ∧ D_c_EdgeHouse_sendFetch F 512 (some (527 + 8 * n)) (some fa) T = some (1, T') ∧ D_m_send F (Int32.ofNat f) S = some (1, S') ∧
    (okL T' ∧ RHouse T' S' ∧ RPost T' S' ∧ RPts T' ∧ RNodes T' S' ∧ RSt T' S' X Y c ∧ RF T' S' (zAdd Z n (fa, f, fup (fup (fup (fup g 7 (rd S 596 n + 1)) 8 (Int32.ofNat to0)) 9 (rd S 593 n)) 10 (S.1 36))) (cAdd C f L) ∧ RQ T' S' rs Q cz Pd j0 ∧ RRep T' S' rs ∧ RX T' S') ∧
    vM S' = psh (vM S) (cut (fetRow n to0 (rd S 596 n + 1) (rd S 593 n) g (Int32.ofNat (la + 4 * fo)) (v_hadG S n g o))) ∧ vE S' = vE S ∧ (vS S' = fun j k => if j = 1 ∧ k = n then rd S 596 n + 1 else vS S j k) ∧ (∀ a k, ¬ a = 596 → ¬ (609 ≤ a ∧ a ≤ 617) → ¬ a = 624 → ¬ a = 625 → rd S' a k = rd S a k) ∧ (∀ i, ¬ i = 77 → ¬ i = 39 → S'.1 i = S.1 i) ∧ rd S' 609 f = 1 ∧ Kq [] [1, 2, 3, 5, 6, 7, 8, 11, 12, 13, 20] T T' ∧ Cs T T' 1 19
theorem sent_all (hF : 400 ≤ F) (hL : okL T) (hH : RHouse T S) (hP : RPost T S) (hPt : RPts T) (hNd : RNodes T S) (hSt : RSt T S X Y c) {f : Nat} (hRF : RFx T S Z C f) (hQ : RQ T S rs Q cz Pd j0) (hRp : RRep T S rs) (hX : RX T S) (h1 : 1 ≤ n) (h2 : n < 7) {fa p v la fo : Nat} (hff : f = 128 * n + (4 * p + v)) {g : Nat → Int32} {L : List Nat} (hfa : T.1 fa = some (cFetch (fup g 11 (Int32.ofNat L.length)) L.head? L.getLast?)) (hnew : ∀ m y, 1 ≤ m → m < 7 → y ∈ Z m → ¬ y.1 = fa) (hno : ∀ y ∈ Z n, ¬ y.2.1 = f) (hp : p < 32) (hv : v < 4) (hla : la < 4) (hfo : fo < 2) (g0 : g 0 = Int32.ofNat p) (g1 : g 1 = Int32.ofNat v) (g2 : g 2 = Int32.ofNat la) (g3 : g 3 = Int32.ofNat fo) (g4 : flag (g 4)) (g5 : few 16 (g 5)) (g6 : few 16 (g 6)) (s10 : rd S 610 f = g 4) (s13 : rd S 613 f = g 5) (s14 : rd S 614 f = g 6) (s16 : rd S 616 f = Int32.ofNat (la + 4 * fo)) {J : Nat} (hJ : rd S 596 n = Int32.ofNat J) (hJ1 : J + 1 < 1000000000) (hJ2 : ∀ y ∈ Z n, nmb y ≤ J) (hO : RQ T (up2 S 609 f 1) rs Q cz Pd j0) :
    (n ≥ 3 ∧ D_c_EdgeHouse_sendFetch F 512 (some (527 + 8 * n)) (some fa) T = some (0, T) ∧ D_m_send F (Int32.ofNat f) S = some (0, up2 S 609 f 0)) ∨ Went F T S X Y Z C Q cz Pd j0 rs c n fa f la fo g L := by
  subst hff
  obtain ⟨⟨cp, l1⟩, l2, l3, l4⟩ := hRF.1 n h1 h2
  obtain ⟨hRS, hSl, _⟩ := hSt.1 n h1 h2
  have len : (Z n).length < 366 := by
    have := nodup_len 128 (128 * n) ((Z n).map (fun z => z.2.1)) (by
      refine List.pairwise_map.mpr ?_
      have : (Z n).Pairwise (fun a b => a ∈ Z n ∧ b ∈ Z n ∧ nmb a < nmb b) := List.Pairwise.imp_of_mem (fun ha hb hab => ⟨ha, hb, hab⟩) l3
      refine this.imp ?_
      rintro a b ⟨ha, hb, hab⟩ e
      have na := (l2 a ha).num
      have nb := (l2 b hb).num
      rw [e, nb.1] at na
      have := congrArg Int32.toNatClampNeg na.1
      rw [m_n_cl (by omega), m_n_cl (by omega)] at this
      omega) (fun x hx => by
      obtain ⟨z, hz, e⟩ := List.mem_map.mp hx
      obtain ⟨_, ⟨p, v, p1, p2, p3, _⟩, _⟩ := l2 z hz
      omega)
    rw [List.length_map] at this
    omega
  have fu : ∀ i, ¬ i = 11 → fup g 11 (Int32.ofNat L.length) i = g i := fun i hi => fup_ne hi
  rcases sendF_both (F := F) (n := n) (X := X n) (Y := Y n) hF hL.1 hH hP hPt hNd hRS hSt.2.2.1 (by omega) l1 (by rw [List.length_map]; exact len) hfa hp hv hla hfo ((fu 0 (by decide)).trans g0) ((fu 1 (by decide)).trans g1) ((fu 2 (by decide)).trans g2) ((fu 3 (by decide)).trans g3) (by rw [fu 4 (by decide)]; exact g4) (by rw [fu 5 (by decide)]; exact g5) (by rw [fu 6 (by decide)]; exact g6) (by rw [fu 4 (by decide)]; exact s10) (by rw [fu 5 (by decide)]; exact s13) (by rw [fu 6 (by decide)]; exact s14) s16 with w | w
  · exact Or.inl w
  · right
    obtain ⟨o, to0, c', T', S', o1, o2, ht, e1, e2, e3, e4, e5, e6, e7, e8, i1, r1, a596, a609, a611, a612, a615, a617, hpst⟩ := w
    have hH' : T.1 512 = some (house S.1) := hH
    have hnode := (hNd.2.1 n h1 h2).1
    obtain ⟨np, capP, ms, _, _, q523, _⟩ := id hP
    have cs : Cs T T' 1 19 := K_c_EdgeHouse_sendFetch (F := F) _ e1
    have st : ∀ b x, T.1 b = some x → ¬ kd x = 0 → ¬ kd x = 4 → ¬ kd x = 10 → ¬ kd x = 21 → T'.1 b = some x := by
      intro b x hb k0 k4 k10 k21
      refine e8 b x hb (fun w => ?_) (fun w => ?_) (fun w => ?_) (fun w => ?_) (fun w => ?_)
      · rw [w, hH'] at hb; cases hb; exact k0 rfl
      · rw [w, q523] at hb; cases hb; exact k21 rfl
      · rw [w, hnode] at hb; cases hb; exact k4 rfl
      · rw [w, hfa] at hb; cases hb; exact k10 rfl
      · rw [w, l1] at hb; cases hb; exact k21 rfl
    have stL : ∀ b k xs, T.1 b = some (.inr (.inr (k, xs))) → ¬ b = 523 → ¬ b = 531 + 8 * n → T'.1 b = some (.inr (.inr (k, xs))) := by
      intro b k xs hb b1 b2
      exact e8 b _ hb (fun w => by rw [w, hH'] at hb; cases hb) b1 (fun w => by rw [w, hnode] at hb; cases hb) (fun w => by rw [w, hfa] at hb; cases hb) b2
    have kq : ∀ {K : List Nat}, (0 ∉ K ∧ 4 ∉ K ∧ 10 ∉ K ∧ 21 ∉ K) → Kq [] K T T' := by
      intro K hK b x hb hk
      rcases hk with hk | hk
      · exact st b x hb (fun w => hK.1 (w ▸ hk)) (fun w => hK.2.1 (w ▸ hk)) (fun w => hK.2.2.1 (w ▸ hk)) (fun w => hK.2.2.2 (w ▸ hk))
      · cases hk
    have kqA : ∀ {A K : List Nat}, (0 ∉ K ∧ 4 ∉ K ∧ 10 ∉ K ∧ 21 ∉ K) → (∀ b ∈ A, ∀ x, T.1 b = some x → T'.1 b = some x) → Kq A K T T' := by
      intro A K hK hA b x hb hk
      rcases hk with hk | hk
      · exact kq hK b x hb (Or.inl hk)
      · exact hA b hk x hb
    have hag : ∀ as is, (∀ a ∈ as, ¬ a = 596 ∧ ¬ (609 ≤ a ∧ a ≤ 617) ∧ ¬ a = 624 ∧ ¬ a = 625) → (∀ i ∈ is, ¬ i = 77 ∧ ¬ i = 39) → Ag as is S S' := fun as is x y => ⟨fun a ha k => by
      obtain ⟨x1, x2, x3, x4⟩ := x a ha
      exact r1 a k x1 (by omega) (by omega) (by omega) (by omega) (by omega) x3 x4, fun i hi => i1 i (y i hi).1 (y i hi).2⟩
    have rest : ∀ a, ¬ a = 596 → ¬ a = 609 → ¬ a = 611 → ¬ a = 612 → ¬ a = 615 → ¬ a = 617 → ¬ a = 624 → ¬ a = 625 → ∀ k, rd S' a k = rd S a k := fun a x1 x2 x3 x4 x5 x6 x7 x8 k => r1 a k x1 x2 x3 x4 x5 x6 x7 x8
    have hx : ∀ b x, T.1 b = some (.inr (.inl x)) → ∀ y, T.1 b = some y → T'.1 b = some y := fun b x hb y hy => by
      rw [hb] at hy; cases hy
      exact st b _ hb (show ¬ (20 : Nat) = 0 by decide) (show ¬ (20 : Nat) = 4 by decide) (show ¬ (20 : Nat) = 10 by decide) (show ¬ (20 : Nat) = 21 by decide)
    have node' : ∀ m, 1 ≤ m → m < 7 → T'.1 (527 + 8 * m) = some (nodeC S' m) := by
      intro m m1 m2
      by_cases e : m = n
      · subst e
        rw [e6]
        unfold nodeX nodeC
        rw [rest 591 (by decide) (by decide) (by decide) (by decide) (by decide) (by decide) (by decide) (by decide), rest 593 (by decide) (by decide) (by decide) (by decide) (by decide) (by decide) (by decide) (by decide), rest 594 (by decide) (by decide) (by decide) (by decide) (by decide) (by decide) (by decide) (by decide), rest 595 (by decide) (by decide) (by decide) (by decide) (by decide) (by decide) (by decide) (by decide), a596, if_pos rfl]
      · have hm := (hNd.2.1 m m1 m2).1
        have : nodeC S' m = nodeC S m := by
          unfold nodeC
          rw [rest 591 (by decide) (by decide) (by decide) (by decide) (by decide) (by decide) (by decide) (by decide), rest 593 (by decide) (by decide) (by decide) (by decide) (by decide) (by decide) (by decide) (by decide), rest 594 (by decide) (by decide) (by decide) (by decide) (by decide) (by decide) (by decide) (by decide), rest 595 (by decide) (by decide) (by decide) (by decide) (by decide) (by decide) (by decide) (by decide), a596, if_neg e]
        rw [this]
        exact e8 _ _ hm (by omega) (by omega) (by omega) (fun w => by rw [w, hfa] at hm; cases hm) (by omega)
    refine ⟨o, to0, T', S', o1, o2, ht, e1, e2, ⟨(cs hL).1, e3, e4, ?_, ?_, ?_, ?_, ?_, ?_, ?_⟩, ?_, ?_, ?_, fun a k x1 x2 x3 x4 => r1 a k x1 (by omega) (by omega) (by omega) (by omega) (by omega) x3 x4, i1, by rw [a609, if_pos rfl], kq (by decide), cs⟩
    · obtain ⟨f9, y1, y2⟩ := hPt
      exact ⟨f9, hx _ _ y1 _ y1, y2⟩
    · obtain ⟨⟨f9, y1, y2⟩, y3, y4⟩ := hNd
      refine ⟨⟨f9, hx _ _ y1 _ y1, y2⟩, fun m m1 m2 => ⟨node' m m1 m2, by rw [rest 591 (by decide) (by decide) (by decide) (by decide) (by decide) (by decide) (by decide) (by decide)]; exact (y3 m m1 m2).2⟩, fun m m1 m2 => ?_⟩
      obtain ⟨f8, z1, z2, z3⟩ := y4 m m1 m2
      exact ⟨f8, hx _ _ z1 _ z1, by rw [rest 619 (by decide) (by decide) (by decide) (by decide) (by decide) (by decide) (by decide) (by decide)]; exact z2, by rw [rest 619 (by decide) (by decide) (by decide) (by decide) (by decide) (by decide) (by decide) (by decide)]; exact z3⟩
    · refine hSt.fr (kqA (by decide) (fun b hb x hbx => ?_)) (hag _ _ (by decide) (by decide))
      have : ∃ m, 1 ≤ m ∧ m < 7 ∧ (b = 529 + 8 * m ∨ b = 530 + 8 * m) := by
        simp only [List.mem_cons, List.mem_nil_iff, or_false] at hb
        exact ⟨(b - 529) / 8, by omega, by omega, by omega⟩
      obtain ⟨m, m1, m2, m3⟩ := this
      obtain ⟨⟨_, _, ⟨cX, x1⟩, ⟨cY, x2⟩, _⟩, _⟩ := hSt.1 m m1 m2
      rcases m3 with m3 | m3
      · rw [m3, x1] at hbx; cases hbx; rw [m3]; exact stL _ _ _ x1 (by omega) (by omega)
      · rw [m3, x2] at hbx; cases hbx; rw [m3]; exact stL _ _ _ x2 (by omega) (by omega)
    · -- fetches
      have gl : (fup (fup (fup (fup (fup g 11 (Int32.ofNat L.length)) 7 (rd S 596 n + 1)) 8 (Int32.ofNat to0)) 9 (rd S 593 n)) 10 (S.1 36)) = fup (fup (fup (fup (fup g 7 (rd S 596 n + 1)) 8 (Int32.ofNat to0)) 9 (rd S 593 n)) 10 (S.1 36)) 11 (Int32.ofNat L.length) := by
        funext i
        unfold fup
        by_cases z7 : i = 7
        · subst z7; rfl
        · by_cases z8 : i = 8
          · subst z8; rfl
          · by_cases z9 : i = 9
            · subst z9; rfl
            · by_cases z10 : i = 10
              · subst z10; rfl
              · simp only [z7, z8, z9, z10, if_false]
      have nJ : rd S 596 n + 1 = Int32.ofNat (J + 1) := by rw [hJ]; exact p1 J
      refine ⟨fun m m1 m2 => ?_, ?_⟩
      · by_cases e : m = n
        · subst e
          unfold zAdd
          simp only [if_true]
          refine ⟨⟨c', by rw [List.map_append]; exact e7⟩, fun z hz => ?_, ?_, fun f f1 f2 f3 => ?_⟩
          · rcases List.mem_append.mp hz with hz | hz
            · have old := l2 z hz
              rw [show cAdd C (128 * m + (4 * p + v)) L z.2.1 = C z.2.1 from if_neg (hno z hz)]
              refine old.congr ?_ (fun a ha => ?_)
              · rw [old.1]
                exact e8 _ _ old.1 (fun w => by have := old.1; rw [w, hH'] at this; cases this) (fun w => by have := old.1; rw [w, q523] at this; cases this) (fun w => by have := old.1; rw [w, hnode] at this; cases this) (hnew m z m1 m2 hz) (fun w => by have := old.1; rw [w, l1] at this; cases this)
              · have hz9 := hno z hz
                by_cases y9 : a = 609
                · rw [y9, a609, if_neg hz9]
                · by_cases y11 : a = 611
                  · rw [y11, a611, if_neg hz9]
                  · by_cases y12 : a = 612
                    · rw [y12, a612, if_neg hz9]
                    · by_cases y15 : a = 615
                      · rw [y15, a615, if_neg hz9]
                      · by_cases y17 : a = 617
                        · rw [y17, a617, if_neg hz9]
                        · exact rest a (by omega) y9 y11 y12 y15 y17 (by omega) (by omega) _
            · rw [List.mem_singleton.mp hz]
              rw [show cAdd C (128 * m + (4 * p + v)) L (128 * m + (4 * p + v)) = L from if_pos rfl]
              refine ⟨by rw [e5, gl], ⟨p, v, hp, hv, rfl, g0, g1⟩, ⟨la, fo, hla, hfo, g2, g3, ?_⟩, g4, ?_, g5, ?_, g6, ?_, ?_, ⟨J + 1, by omega, nJ⟩, ?_, ?_, ?_, ?_, ?_⟩
              · exact (rest 616 (by decide) (by decide) (by decide) (by decide) (by decide) (by decide) (by decide) (by decide) _).trans s16
              · exact (rest 610 (by decide) (by decide) (by decide) (by decide) (by decide) (by decide) (by decide) (by decide) _).trans s10
              · exact (rest 613 (by decide) (by decide) (by decide) (by decide) (by decide) (by decide) (by decide) (by decide) _).trans s13
              · exact (rest 614 (by decide) (by decide) (by decide) (by decide) (by decide) (by decide) (by decide) (by decide) _).trans s14
              · exact (a611 _).trans (if_pos rfl)
              · exact (a617 _).trans (if_pos rfl)
              · rcases ht with ht | ht
                · exact Or.inl ht.1
                · have : to0 = 1 ∨ to0 = 2 := by omega
                  rcases this with w | w
                  · exact Or.inr (Or.inl (by show Int32.ofNat to0 = 1; rw [w]; rfl))
                  · exact Or.inr (Or.inr (by show Int32.ofNat to0 = 2; rw [w]; rfl))
              · exact (a615 _).trans (if_pos rfl)
              · exact (a612 _).trans (if_pos rfl)
              · exact (a609 _).trans (if_pos rfl)
          · refine List.pairwise_append.mpr ⟨l3, List.pairwise_singleton _ _, fun a ha b hb => ?_⟩
            rw [List.mem_singleton.mp hb]
            have : nmb (fa, 128 * m + (4 * p + v), fup (fup (fup (fup g 7 (rd S 596 m + 1)) 8 (Int32.ofNat to0)) 9 (rd S 593 m)) 10 (S.1 36)) = J + 1 := by
              show (rd S 596 m + 1).toNatClampNeg = J + 1
              rw [nJ]
              exact m_n_cl (by omega)
            rw [this]
            have := hJ2 a ha
            omega
          · by_cases ef : f = 128 * m + (4 * p + v)
            · exact ⟨_, List.mem_append_right _ (List.mem_singleton.mpr rfl), ef.symm⟩
            · rw [a609, if_neg ef] at f3
              obtain ⟨z, hz, hz2⟩ := l4 f f1 f2 ef f3
              exact ⟨z, List.mem_append_left _ hz, hz2⟩
        · obtain ⟨⟨cm, m3⟩, m4, m5, m6⟩ := hRF.1 m m1 m2
          unfold zAdd
          simp only [if_neg e]
          refine ⟨⟨cm, stL _ _ _ m3 (by omega) (by omega)⟩, fun z hz => ?_, m5, fun f f1 f2 f3 => ?_⟩
          · have old := m4 z hz
            have hz9 : ¬ z.2.1 = 128 * n + (4 * p + v) := by
              obtain ⟨_, ⟨p', v', x1, x2, x3, _⟩, _⟩ := old
              omega
            rw [show cAdd C (128 * n + (4 * p + v)) L z.2.1 = C z.2.1 from if_neg hz9]
            refine old.congr ?_ (fun a ha => ?_)
            · rw [old.1]
              exact e8 _ _ old.1 (fun w => by have := old.1; rw [w, hH'] at this; cases this) (fun w => by have := old.1; rw [w, q523] at this; cases this) (fun w => by have := old.1; rw [w, hnode] at this; cases this) (hnew m z m1 m2 hz) (fun w => by have := old.1; rw [w, l1] at this; cases this)
            · by_cases y9 : a = 609
              · rw [y9, a609, if_neg hz9]
              · by_cases y11 : a = 611
                · rw [y11, a611, if_neg hz9]
                · by_cases y12 : a = 612
                  · rw [y12, a612, if_neg hz9]
                  · by_cases y15 : a = 615
                    · rw [y15, a615, if_neg hz9]
                    · by_cases y17 : a = 617
                      · rw [y17, a617, if_neg hz9]
                      · exact rest a (by omega) y9 y11 y12 y15 y17 (by omega) (by omega) _
          · rw [a609, if_neg (by omega)] at f3
            exact m6 f f1 f2 (by omega) f3
      · intro m k z y m1 m2 k1 k2 hz hy ezy
        unfold zAdd at hz hy
        by_cases em : m = n
        · by_cases ek : k = n
          · rw [em, ek]
          · rw [if_neg ek] at hy
            rw [if_pos em] at hz
            rcases List.mem_append.mp hz with hz | hz
            · exact hRF.2 m k z y m1 m2 k1 k2 (em ▸ hz) hy ezy
            · rw [List.mem_singleton.mp hz] at ezy
              exact absurd ezy.symm (hnew k y k1 k2 hy)
        · rw [if_neg em] at hz
          by_cases ek : k = n
          · rw [if_pos ek] at hy
            rcases List.mem_append.mp hy with hy | hy
            · exact hRF.2 m k z y m1 m2 k1 k2 hz (ek ▸ hy) ezy
            · rw [List.mem_singleton.mp hy] at ezy
              exact absurd ezy (hnew m z m1 m2 hz)
          · rw [if_neg ek] at hy
            exact hRF.2 m k z y m1 m2 k1 k2 hz hy ezy
    · refine hO.fr (kq (by decide)) ⟨fun a ha k => ?_, fun i hi => ?_⟩ (fun z _ r _ => ?_) (fun k _ => ?_)
      · rw [rd_up2]
        by_cases e : a = 609
        · rw [e, a609]
          by_cases ek : k = 128 * n + (4 * p + v)
          · rw [if_pos ek, if_pos ⟨rfl, ek⟩]
          · rw [if_neg ek, if_neg (fun w => ek w.2)]
        · rw [if_neg (fun w => e w.1)]
          have : a = 620 ∨ a = 623 := by
            simp only [List.mem_cons, List.mem_nil_iff, or_false] at ha
            omega
          rcases this with w | w <;> (rw [w]; exact rest _ (by decide) (by decide) (by decide) (by decide) (by decide) (by decide) (by decide) (by decide) _)
      · rw [up2_1, List.mem_singleton.mp hi]
        exact i1 74 (by decide) (by decide)
      · rw [rd_up2, if_neg (by omega)]
        exact rest 621 (by decide) (by decide) (by decide) (by decide) (by decide) (by decide) (by decide) (by decide) _
      · rw [rd_up2, if_neg (by omega)]
        exact rest 622 (by decide) (by decide) (by decide) (by decide) (by decide) (by decide) (by decide) (by decide) _
    · refine hRp.fr (kqA (by decide) (fun b hb x hbx => ?_)) (hag _ _ (by decide) (by decide))
      obtain ⟨⟨cR, y1⟩, _⟩ := id hRp
      rw [List.mem_singleton.mp hb, y1] at hbx
      cases hbx
      rw [List.mem_singleton.mp hb]
      exact stL _ _ _ y1 (by omega) (by omega)
    · refine hX.fr (kqA (by decide) (fun b hb x hbx => ?_)) (hag _ _ (by decide) (by decide)) (fun k k1 k2 k3 => ?_)
      · obtain ⟨f1, f2, f3, L9, x2, x5, x6, x7, x8, x9, x10, x11, y13, y14, y15, y1, _⟩ := hX.2.2.2.1
        rw [List.mem_singleton.mp hb, y1] at hbx
        cases hbx
        rw [List.mem_singleton.mp hb]
        exact st _ _ y1 (show ¬ (1 : Nat) = 0 by decide) (show ¬ (1 : Nat) = 4 by decide) (show ¬ (1 : Nat) = 10 by decide) (show ¬ (1 : Nat) = 21 by decide)
      · obtain ⟨n9, p1', ⟨p2', p3', p4'⟩ | ⟨p2', p3', p4'⟩⟩ := hpst
        · have hk : k < n9 + 1 := by
            rw [p3'] at k1
            exact (i_lt (by show k < 2147483648; omega) (by show n9 + 1 < 2147483648; omega)).mp k1
          by_cases e : k = n9
          · exfalso
            have : mRow S' k 0 = 0 := by
              show rd S' 624 (22 * k + 0) = 0
              rw [p4', if_pos (by omega), show 22 * k + 0 - 22 * n9 = 0 by omega]
              rfl
            rw [this] at k3
            cases k3
          · have e9 : ∀ i, i < 22 → mRow S' k i = mRow S k i := fun i hi => by
              show rd S' 624 (22 * k + i) = rd S 624 (22 * k + i)
              rw [p4', if_neg (by omega)]
            refine ⟨k, ⟨?_, k2⟩, (e9 0 (by decide)).symm.trans k3, e9 3 (by decide), e9 5 (by decide), e9 4 (by decide)⟩
            rw [p1']
            exact (i_lt (by show k < 2147483648; omega) (by show n9 < 2147483648; omega)).mpr (by omega)
        · have e9 : ∀ i, mRow S' k i = mRow S k i := fun i => p4' _
          exact ⟨k, ⟨by rw [← p3']; exact k1, k2⟩, (e9 0).symm.trans k3, e9 3, e9 5, e9 4⟩
    · rw [hpst.view]
      rfl
    · exact vE_ag (hag _ _ (by decide) (by decide))
    · funext j k
      unfold vS
      by_cases ej : j = 1
      · subst ej
        simp only [show ¬ (1 : Nat) = 0 by decide, if_false, if_true, true_and, a596]
      · simp only [ej, false_and, if_false, rest 593 (by decide) (by decide) (by decide) (by decide) (by decide) (by decide) (by decide) (by decide), rest 589 (by decide) (by decide) (by decide) (by decide) (by decide) (by decide) (by decide) (by decide), rest 590 (by decide) (by decide) (by decide) (by decide) (by decide) (by decide) (by decide) (by decide), rest 597 (by decide) (by decide) (by decide) (by decide) (by decide) (by decide) (by decide) (by decide), i1 37 (by decide) (by decide), i1 70 (by decide) (by decide), i1 36 (by decide) (by decide)]
end
