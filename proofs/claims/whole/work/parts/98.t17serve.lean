/-! A request is served from the store. -/
def gvM (M : List (Nat → Int32)) (z : Rq) (m : Nat → Int32) : List (Nat → Int32) := match z.2.2.1 with
  | none => psh M m
  | some _ => M
def gvC (z : Rq) : Nat := match z.2.2.1 with
  | none => 1
  | some _ => 0
section
variable {T T' : tT} {S S' : mS} {X Y : Nat → List (Nat × Nat)} {Z : Nat → List Fz} {Q cz Pd : List Rq} {j0 c F : Nat} {rs : List Nat} {z : Rq}
/-- what is only the reference's has no weight -/
theorem RB.now (h : RB T S X Y Z Q cz Pd j0 rs c) (hi : ∀ i, ¬ (84 ≤ i ∧ i ≤ 87) → ¬ i = 0 → S'.1 i = S.1 i) (hr : ∀ b k, ¬ b = 625 → ¬ b = 626 → ¬ b = 628 → rd S' b k = rd S b k) (hN : few 256 (rd S' 626 1)) : RB T S' X Y Z Q cz Pd j0 rs c := by
  obtain ⟨h1, h2, h3, h4, h5, h6, h7, h8, h9, h10⟩ := h
  have ag : ∀ as is, (∀ a ∈ as, ¬ a = 625 ∧ ¬ a = 626 ∧ ¬ a = 628) → (∀ i ∈ is, ¬ (84 ≤ i ∧ i ≤ 87) ∧ ¬ i = 0) → Ag as is S S' := fun as is p q => ⟨fun a ha k => hr a k (p a ha).1 (p a ha).2.1 (p a ha).2.2, fun i hi' => hi i (q i hi').1 (q i hi').2⟩
  refine ⟨h1, h2.fr Kq.refl (ag _ _ (by decide) (by decide)), h3.fr Kq.refl (ag _ _ (by decide) (by decide)), h4, h5.fr Kq.refl (ag _ _ (by decide) (by decide)), h6.fr Kq.refl (ag _ _ (by decide) (by decide)), h7.fr Kq.refl (ag _ _ (by decide) (by decide)), h8.fr Kq.refl (ag _ _ (by decide) (by decide)) (fun z _ r _ => hr _ _ (by decide) (by decide) (by decide)) (fun k _ => hr _ _ (by decide) (by decide) (by decide)), h9.fr Kq.refl (ag _ _ (by decide) (by decide)), h10.fr9 Kq.refl (ag _ _ (by decide) (by decide)) (fun k a b d => ?_) hN⟩
  have e9 : ∀ i, mRow S' k i = mRow S k i := fun i => hr _ _ (by decide) (by decide) (by decide)
  exact ⟨k, ⟨by rw [← hi 77 (by decide) (by decide)]; exact a, b⟩, (e9 0).symm.trans d, e9 3, e9 5, e9 4⟩
theorem now_views (hi : ∀ i, ¬ (84 ≤ i ∧ i ≤ 87) → ¬ i = 0 → S'.1 i = S.1 i) (hr : ∀ b k, ¬ b = 625 → ¬ b = 626 → ¬ b = 628 → rd S' b k = rd S b k) : vM S' = vM S ∧ vE S' = vE S ∧ vS S' = vS S := by
  have ag : ∀ as is, (∀ a ∈ as, ¬ a = 625 ∧ ¬ a = 626 ∧ ¬ a = 628) → (∀ i ∈ is, ¬ (84 ≤ i ∧ i ≤ 87) ∧ ¬ i = 0) → Ag as is S S' := fun as is p q => ⟨fun a ha k => hr a k (p a ha).1 (p a ha).2.1 (p a ha).2.2, fun i hi' => hi i (q i hi').1 (q i hi').2⟩
  exact ⟨vM_ag (ag _ _ (by decide) (by decide)), vE_ag (ag _ _ (by decide) (by decide)), vS_ag (ag _ _ (by decide) (by decide))⟩
/-- the node of the one that is looked at -/
theorem RB.nd (h : RB T S X Y Z Q [z] Pd j0 rs c) : ∃ n p v la fo, (1 ≤ n ∧ n < 7) ∧ p < 32 ∧ v < 4 ∧ la < 4 ∧ fo < 2 ∧ z.2.1 = 128 * n + (4 * p + v) ∧ z.2.1 / 128 = n ∧ z.2.2.2.1 0 = Int32.ofNat p ∧ z.2.2.2.1 1 = Int32.ofNat v ∧ z.2.2.2.1 2 = Int32.ofNat la ∧ z.2.2.2.1 3 = Int32.ofNat fo ∧ rd S 622 (wOf Q) = Int32.ofNat n ∧ rd S 622 (wOf Q + 1) = Int32.ofNat (4 * p + v) ∧ rd S 622 (wOf Q + 11) = Int32.ofNat (la + 4 * fo) ∧ rd S 622 (wOf Q + 10) = z.2.2.2.1 12 ∧ flag (z.2.2.2.1 12) ∧ flag (z.2.2.2.1 6) ∧ (z.2.2.1 = none → n ≤ 2) ∧ ∀ r, z.2.2.1 = some r → 3 ≤ n := by
  obtain ⟨h1, n, h2, h3⟩ := h.cur
  obtain ⟨hn, ⟨p, v, p1, p2, p3, p4, p5, p6, p7⟩, ⟨la, fo, l1, l2, l3, l4, l5⟩, g1, g2, g3, _⟩ := id h2
  refine ⟨n, p, v, la, fo, hn, p1, p2, l1, l2, p3, by omega, p4, p5, l3, l4, p6, p7, l5, g2, g1, g3, fun w => ?_, fun r w => ?_⟩
  · obtain ⟨q, f, ro, g, cd⟩ := z
    cases w
    cases cd with
    | none => exact h3.1
    | some k => exact absurd h1 (fun w => w)
  · obtain ⟨q, f, ro, g, cd⟩ := z
    cases w
    cases cd with
    | none => exact absurd h1 (fun w => w)
    | some k => exact h3.1
/-- an entry that suits has the key's path and variant -/
theorem suit_pv {f la fo e n p v : Nat} (h : suitE S f la fo e) (hf : f = 128 * n + (4 * p + v)) (hp : p < 32) (hv : v < 4) (hn : n < 7) : eP e = p ∧ eV e = v ∧ e < 7168 ∧ e / 8 = f := by
  obtain ⟨h1, _⟩ := h
  unfold eP eV
  refine ⟨by omega, by omega, by omega, h1⟩
theorem P_give {e t n : Nat} {d : Nat → Int32} {wh mk ag cm bl kp how : Int32} (hF : 30 ≤ F) (h : RB T S X Y Z Q [z] Pd j0 rs c) (hn : z.2.1 / 128 = n) (he : T.1 e = some (cEntry (z.2.2.2.1 0) (z.2.2.2.1 1) t wh mk ag cm bl kp)) (ht : T.1 t = some (cTold (z.2.2.2.1 0) d)) (hd : okT d) (hwh : few 8 wh) (hag : few 100000 ((ag + S.1 36) - cm)) (hnow : isNow S d wh mk ((ag + S.1 36) - cm) bl) (hhow : how = 0 ∨ how = 1 ∨ how = 2) : ∃ T' S', D_c_EdgeHouse_serve F 512 (some (527 + 8 * n)) (some z.1) (some e) how T = some T' ∧ D_m_give F (Int32.ofNat (wOf Q)) how S = some S' ∧ RB T' S' X Y Z Q [] Pd j0 rs c ∧ vM S' = gvM (vM S) z (cut (fiRow n z.2.2.2.1 d wh mk (((ag + S.1 36) - cm) - S.1 36) bl)) ∧ vE S' = vE S ∧ vS S' = vS S ∧ Kq [] kX T T' ∧ Cs T T' (gvC z) (19 * gvC z) ∧ FrA S S' := by
  unfold gvM gvC
  cases hz : z.2.2.1 with
  | none =>
    obtain ⟨T', S', n', s0, s1, s2, s3, s4, s5, s6, s7, s8, s9⟩ := P_givef (F := F) (how := how) hF h hz he ht hd hnow
    rw [hn] at s0
    subst s0
    exact ⟨T', S', s1, s2, s3, s4, s5, s6, s7, s8, s9⟩
  | some r =>
    obtain ⟨T', S', s1, s2, s3, s4, s5, s6, s7, s8, s9⟩ := P_givec (F := F) (how := how) (nd := 527 + 8 * n) hF h hz he ht hd hwh hag hnow hhow
    exact ⟨T', S', s1, s2, s3, s4, s5, s6, s7, s8, s9⟩
/-- an entry's data -/
def hE (S : mS) (e : Nat) : Nat → Int32 := fun i => if i < 9 then rd S 603 (9 * e + i) else if i = 9 then rd S 604 e else if i = 10 then rd S 607 e else if i = 11 then rd S 605 e else if i = 12 then rd S 606 e else 0
theorem vE_some {e : Nat} (he : e < 7168) (h : ¬ rd S 601 e = 0) : vE S e = some (hE S e) := by
  unfold vE
  rw [if_pos ⟨he, h⟩]
  rfl
theorem P_serve {q : Nat × Nat} {n la fo p v : Nat} {how : Int32} (hF : 30 ≤ F) (h : RB T S X Y Z Q [z] Pd j0 rs c) (hn : 1 ≤ n ∧ n < 7) (hf : z.2.1 = 128 * n + (4 * p + v)) (hp : p < 32) (hv : v < 4) (g0 : z.2.2.2.1 0 = Int32.ofNat p) (g1 : z.2.2.2.1 1 = Int32.ofNat v) (hq : q ∈ X n ++ Y n) (hs : suitE S z.2.1 la fo q.2) (hag : few 100000 ((rd S 605 q.2 + S.1 36) - rd S 606 q.2)) (hhow : how = 0 ∨ how = 1 ∨ how = 2) : ∃ T' S', D_c_EdgeHouse_serve F 512 (some (527 + 8 * n)) (some z.1) (some q.1) how T = some T' ∧ D_m_serve F (Int32.ofNat (wOf Q)) (Int32.ofNat q.2) how S = some S' ∧ RB T' S' X Y Z Q [] Pd j0 rs c ∧ vM S' = gvM (vM S) z (cut (fiRow n z.2.2.2.1 (eT S q.2) (Int32.ofNat (q.2 % 8)) (rd S 604 q.2) (((rd S 605 q.2 + S.1 36) - rd S 606 q.2) - S.1 36) (rd S 607 q.2))) ∧ vE S' = vE S ∧ vS S' = vS S ∧ Kq [] kX T T' ∧ Cs T T' (gvC z) (19 * gvC z) ∧ FrA S S' := by
  obtain ⟨e1, e2, e3, e4⟩ := suit_pv hs hf hp hv hn.2
  obtain ⟨k, hk⟩ := (h.2.2.2.2.2.1.1 n hn.1 hn.2).1.ent hq
  obtain ⟨t, t1, t2, t3⟩ := hk.full
  rw [e1, e2, ← g0, ← g1] at t1
  rw [e1, ← g0] at t2
  obtain ⟨S2, m1, m2, m3, m4⟩ := m_serveS (F := F) (S := S) (w := Int32.ofNat (wOf Q)) (how := how) (by omega) e3
  have hi : ∀ i, ¬ (84 ≤ i ∧ i ≤ 87) → ¬ i = 0 → S2.1 i = S.1 i := fun i i1 _ => m3 i i1
  have hr : ∀ b k, ¬ b = 625 → ¬ b = 626 → ¬ b = 628 → rd S2 b k = rd S b k := fun b k _ b2 _ => m4 b k b2
  have h2 := h.now hi hr (by rw [m2.1 1 (by decide)]; exact t3.2.2.1)
  obtain ⟨v1, v2, v3⟩ := now_views hi hr
  have c36 : S2.1 36 = S.1 36 := hi 36 (by decide) (by decide)
  rw [← c36] at m2 hag
  obtain ⟨T', S', s1, s2, s3, s4, s5, s6, s7, s8, s9⟩ := P_give (F := F) (how := how) (n := n) hF h2 (by omega) t1 t2 t3 ⟨q.2 % 8, by omega, rfl⟩ hag m2 hhow
  rw [c36] at s4
  refine ⟨T', S', s1, ?_, s3, by rw [s4, v1], s5.trans v2, s6.trans v3, s7, s8, FrA.trans ⟨fun a k ha => m4 a k (by omega), fun i hi => m3 i (by omega)⟩ s9⟩
  rw [m1, s2]
  rfl
end
