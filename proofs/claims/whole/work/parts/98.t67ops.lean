/-! The small calls: lose, drop, fault, total, message. -/
section
variable {I : Iv} {T T' : tT} {S S' : mS} {X Y : Nat → List (Nat × Nat)} {Z : Nat → List Fz} {Q cz Pd : List Rq} {j0 c F n k k1 k2 : Nat} {rs : List Nat}
theorem cs_house {x y : Nat → Int32} (h : T.1 512 = some (house y)) : Cs T (tset T 512 (house x)) 0 0 := by
  have e1 : tpi T 512 0 10 (x 71) = some (tset T 512 (house (fup y 71 (x 71)))) := Hp10 h
  have e2 : tpi (tset T 512 (house (fup y 71 (x 71)))) 512 0 11 (x 39) = some (tset T 512 (house (fup (fup y 71 (x 71)) 39 (x 39)))) := (Hp11 tset_at).trans (by rw [tset_tset])
  have e3 : tpi (tset T 512 (house (fup (fup y 71 (x 71)) 39 (x 39)))) 512 0 12 (x 38) = some (tset T 512 (house (fup (fup (fup y 71 (x 71)) 39 (x 39)) 38 (x 38)))) := (Hp12 tset_at).trans (by rw [tset_tset])
  have e4 : tpi (tset T 512 (house (fup (fup (fup y 71 (x 71)) 39 (x 39)) 38 (x 38)))) 512 0 13 (x 37) = some (tset T 512 (house (fup (fup (fup (fup y 71 (x 71)) 39 (x 39)) 38 (x 38)) 37 (x 37)))) := (Hp13 tset_at).trans (by rw [tset_tset])
  have e5 : tpi (tset T 512 (house (fup (fup (fup (fup y 71 (x 71)) 39 (x 39)) 38 (x 38)) 37 (x 37)))) 512 0 14 (x 36) = some (tset T 512 (house x)) := (Hp14 tset_at).trans (by rw [tset_tset]; rfl)
  exact (((((K_tpi _ e1).trans (K_tpi _ e2)).trans (K_tpi _ e3)).trans (K_tpi _ e4)).trans (K_tpi _ e5)).mono (by decide) (by decide)
/-- the house's numbers change -/
theorem RB.hs (h : RB T S X Y Z Q cz Pd j0 rs c) (hi : ∀ i, ¬ (i = 0 ∨ i = 36 ∨ i = 38 ∨ i = 39 ∨ i = 71) → S'.1 i = S.1 i) (hr : ∀ a k, rd S' a k = rd S a k) : RB (tset T 512 (house S'.1)) S' X Y Z Q cz Pd j0 rs c := by
  obtain ⟨r1, r2, r3, r4, r5, r6, r7, r8, r9, r10⟩ := id h
  have hH : T.1 512 = some (house S.1) := r2
  have kq : ∀ {A K : List Nat}, 512 ∉ A → 0 ∉ K → Kq A K T (tset T 512 (house S'.1)) := by
    intro A K hA hK x c9 hx hk'
    refine tset_o hx (fun q => ?_)
    rcases hk' with w | w
    · rw [q, hH] at hx
      cases hx
      exact hK w
    · exact hA (q ▸ w)
  have ag : ∀ as is, (∀ i ∈ is, ¬ (i = 0 ∨ i = 36 ∨ i = 38 ∨ i = 39 ∨ i = 71)) → Ag as is S S' := fun as is q => ⟨fun a ha k => hr a k, fun i hi' => hi i (q i hi')⟩
  refine ⟨(cs_house hH r1).1, tset_at, r3.fr (kq (by decide) (by decide)) (ag _ _ (by decide)), r4.fr (kq (by decide) (by decide)), r5.fr (kq (by decide) (by decide)) (ag _ _ (by decide)), r6.fr (kq (by decide) (by decide)) (ag _ _ (by decide)), r7.fr (kq (by decide) (by decide)) (ag _ _ (by decide)), r8.fr (kq (by decide) (by decide)) (ag _ _ (by decide)) (fun z _ r _ => hr _ _) (fun k _ => hr _ _), r9.fr (kq (by decide) (by decide)) (ag _ _ (by decide)), r10.fr (kq (by decide) (by decide)) (ag _ _ (by decide)) (fun k a b d => ?_)⟩
  have e9 : ∀ i, mRow S' k i = mRow S k i := fun i => hr _ _
  exact ⟨k, ⟨by rw [← hi 77 (by decide)]; exact a, b⟩, (e9 0).symm.trans d, e9 3, e9 5, e9 4⟩
/-- what a call begins with in the reference -/
theorem RA.zero (h : RA I T S X Y Z Q [] [] j0 rs c k1 k2) : RA I T (up1 S 0 0) X Y Z Q [] [] j0 rs c k1 k2 := by
  obtain ⟨hR, hcost, hIv⟩ := id h
  have hi : ∀ i, ¬ (84 ≤ i ∧ i ≤ 87) → ¬ i = 0 → (up1 S 0 0).1 i = S.1 i := fun i _ w => by rw [up1_1, if_neg w]
  have hr : ∀ b k, ¬ b = 625 → ¬ b = 626 → ¬ b = 628 → rd (up1 S 0 0) b k = rd S b k := fun b k _ _ _ => rd_up1
  obtain ⟨v1, v2, v3⟩ := now_views hi hr
  exact ⟨hR.now hi hr (by rw [rd_up1]; exact hR.2.2.2.2.2.2.2.2.2.2.2.2.2), hcost, by rw [v1, v2, v3]; exact hIv⟩
/-- a message goes out of the lists -/
theorem RB.rem {cap : Nat} {ms : List Nat} {S1 : mS} (h : RB T S X Y Z Q [] [] j0 rs c) (h1 : S.1 77 = Int32.ofNat (n + 1)) (h2 : n + 1 ≤ 100) (h3 : T.1 523 = some (.inr (.inr (cap, ms)))) (hk : k ≤ n) (i1 : ∀ i, ¬ i = 77 → S1.1 i = S.1 i) (i77 : S1.1 77 = Int32.ofNat n) (r1' : ∀ a i, ¬ a = 624 → rd S1 a i = rd S a i) (r624 : ∀ i, rd S1 624 i = if 22 * k ≤ i ∧ i < 22 * n then rd S 624 (i + 22) else rd S 624 i) : RB (tset T 523 (.inr (.inr (cap, ms.eraseIdx k)))) S1 X Y Z Q [] [] j0 rs c ∧ ∃ M1 m M2, vM S = M1 ++ m :: M2 ∧ vM S1 = M1 ++ M2 := by
  obtain ⟨r1, r2, r3, r4, r5, r6, r7, r8, r9, r10⟩ := id h
  obtain ⟨n', cap', ms', h1', h2', h3', h4, h5⟩ := id r3
  have nn : n' = n + 1 := by
    rw [h1] at h1'
    have := congrArg Int32.toNatClampNeg h1'
    rw [m_n_cl (by omega), m_n_cl (by omega)] at this
    exact this.symm
  have e1 : cap' = cap ∧ ms' = ms := by rw [h3] at h3'; cases h3'; exact ⟨rfl, rfl⟩
  obtain ⟨rfl, rfl⟩ := e1
  subst nn
  obtain ⟨b, hb⟩ : ∃ b, ms'[k]? = some b := ⟨_, List.getElem?_eq_getElem (by omega)⟩
  obtain ⟨T1, hT1⟩ : ∃ x, x = tset T 523 (.inr (.inr (cap', ms'.eraseIdx k))) := ⟨_, rfl⟩
  rw [← hT1]
  have e9 : tlr T 523 (Int32.ofNat k) = some (b, T1) := by
    simp only [tlr, tl, h3, Option.bind_some]
    rw [if_neg (m_n_neg (by omega)), m_n_cl (by omega), hb, hT1]
    rfl
  have st : ∀ x c9, T.1 x = some c9 → ¬ x = 523 → T1.1 x = some c9 := fun x c9 hx w => by rw [hT1]; exact tset_o hx w
  have st9 : ∀ x c9, T.1 x = some c9 → ¬ kd c9 = 21 → T1.1 x = some c9 := fun x c9 hx w => st x c9 hx (fun q => by rw [q, h3] at hx; cases hx; exact w rfl)
  have kq : ∀ {A K : List Nat}, 523 ∉ A → 21 ∉ K → Kq A K T T1 := by
    intro A K hA hK x c9 hx hk'
    rcases hk' with w | w
    · exact st9 x c9 hx (fun q => hK (q ▸ w))
    · exact st x c9 hx (fun q => hA (q ▸ w))
  have ag : ∀ as is, (∀ a ∈ as, ¬ a = 624) → (∀ i ∈ is, ¬ i = 77) → Ag as is S S1 := fun as is p q => ⟨fun a ha i => r1' a i (p a ha), fun i hi => i1 i (q i hi)⟩
  have cs : Cs T T1 0 0 := K_tlr _ e9
  have sm : Same [9, 13] T T1 := fun x c9 hx hk' => st9 x c9 hx (fun q => by rw [q] at hk'; revert hk'; decide)
  have hP : RPost T1 S1 := RPost.rem (n := n) (j := k) (cap := cap') h1 (by omega) h4 h5 sm (by omega) (by rw [hT1]; exact tset_at) i77 r624
  have rowS : ∀ k', k' < n → ∀ i, i < 22 → mRow S1 k' i = mRow S (if k' < k then k' else k' + 1) i := fun k' hk' i hi => by
    show rd S1 624 (22 * k' + i) = rd S 624 (22 * _ + i)
    rw [r624]
    by_cases w : k' < k
    · rw [if_neg (by omega), if_pos w]
    · rw [if_pos (by omega), if_neg w]
      congr 1
      omega
  have len : (S.1 77).toNatClampNeg = n + 1 := by rw [h1]; exact m_n_cl (by omega)
  have len1 : (S1.1 77).toNatClampNeg = n := by rw [i77]; exact m_n_cl (by omega)
  have ve : vM S1 = (vM S).eraseIdx k := by
    refine List.ext_getElem? (fun i => ?_)
    rw [List.getElem?_eraseIdx]
    unfold vM
    rw [len, len1, List.getElem?_map, List.getElem?_map, List.getElem?_map]
    by_cases w : i < n
    · rw [List.getElem?_range w]
      by_cases w2 : i < k
      · rw [if_pos w2, List.getElem?_range (by omega), Option.map_some, Option.map_some]
        congr 1
        funext x
        by_cases w3 : x < 22
        · rw [if_pos w3, if_pos w3]
          have := rowS i w x w3
          rw [if_pos w2] at this
          exact this
        · rw [if_neg w3, if_neg w3]
      · rw [if_neg w2, List.getElem?_range (by omega), Option.map_some, Option.map_some]
        congr 1
        funext x
        by_cases w3 : x < 22
        · rw [if_pos w3, if_pos w3]
          have := rowS i w x w3
          rw [if_neg w2] at this
          exact this
        · rw [if_neg w3, if_neg w3]
    · rw [if_neg (by omega), List.getElem?_eq_none (by rw [List.length_range]; omega), List.getElem?_eq_none (by rw [List.length_range]; omega)]
      rfl
  obtain ⟨x, hx⟩ : ∃ x, (vM S)[k]? = some x := ⟨_, List.getElem?_eq_getElem (by rw [vM_len h1 (by omega)]; omega)⟩
  obtain ⟨x1, x2⟩ := lst_era hx
  refine ⟨⟨(cs r1).1, r2.fr (kq (by decide) (by decide)) (ag _ _ (by decide) (by decide)), hP, r4.fr (kq (by decide) (by decide)), r5.fr (kq (by decide) (by decide)) (ag _ _ (by decide) (by decide)), r6.fr (kq (by decide) (by decide)) (ag _ _ (by decide) (by decide)), r7.fr (kq (by decide) (by decide)) (ag _ _ (by decide) (by decide)), r8.fr (kq (by decide) (by decide)) (ag _ _ (by decide) (by decide)) (fun z _ r _ => r1' _ _ (by decide)) (fun k _ => r1' _ _ (by decide)), r9.fr (kq (by decide) (by decide)) (ag _ _ (by decide) (by decide)), r10.fr (kq (by decide) (by decide)) (ag _ _ (by decide) (by decide)) (fun k' a b' d => ?_)⟩, _, _, _, x1, ve.trans x2⟩
  have hk' : k' < n := by
    rw [i77] at a
    exact (i_lt (by show k' < 2147483648; omega) (by show n < 2147483648; omega)).mp a
  refine ⟨if k' < k then k' else k' + 1, ⟨?_, ?_⟩, (rowS k' hk' 0 (by decide)).symm.trans d, rowS k' hk' 3 (by decide), rowS k' hk' 5 (by decide), rowS k' hk' 4 (by decide)⟩
  · rw [h1]
    refine (i_lt ?_ (by show n + 1 < 2147483648; omega)).mpr ?_
    · show (if k' < k then k' else k' + 1) < 2147483648
      split <;> omega
    · split <;> omega
  · split <;> omega
/-- lose(k), with the whole relation -/
theorem op_lose2 (hF : 2201 ≤ F) (cM : ClRem I) {x : Int32} (h : RA I T S X Y Z Q [] [] 0 rs c k1 k2) : ∃ v T' S', D_c_EdgeHouse_lose F 512 x T = some (v, T') ∧ D_m_lose F x S = some (v, S') ∧ RA I T' S' X Y Z Q [] [] 0 rs c k1 k2 := by
  have h0 := h.zero
  obtain ⟨hR, hcost, hIv⟩ := id h0
  obtain ⟨n, cap, ms, h1, h2, h3, h4, h5⟩ := id hR.2.2.1
  have hH : T.1 512 = some (house (up1 S 0 0).1) := hR.2.1
  obtain ⟨S0, hS0⟩ : ∃ x, x = up1 S 0 0 := ⟨_, rfl⟩
  rw [← hS0] at h0 hR h1 hH hIv
  unfold D_c_EdgeHouse_lose D_m_lose
  simp only [fput, Option.bind_some]
  rw [← hS0]
  rcases i_cases x with hx | ⟨k, hk, rfl⟩
  · rw [c1_neg hx, cond_true, cond_true]
    exact ⟨0, T, S0, rfl, rfl, h0⟩
  · have ek : m_c1 .lt (Int32.ofNat k) = false := m_c1_ltf hk
    have ls : tls T 523 = some (Int32.ofNat n) := by simp only [tls, tl, h3, Option.map_some, h4]
    rw [ek, cond_false, cond_false, h1]
    simp only [Hr7 hH, Option.bind_some, ls]
    rw [lt_n hk (by omega)]
    by_cases hkn : k < n
    · rw [decide_eq_true hkn, cond_true, cond_true]
      obtain ⟨n, rfl⟩ : ∃ n9, n = n9 + 1 := ⟨n - 1, by omega⟩
      obtain ⟨b, hb⟩ : ∃ b, ms[k]? = some b := ⟨_, List.getElem?_eq_getElem (by omega)⟩
      obtain ⟨S1, g1, g2, g3⟩ := m_remove (F := F) (S := S0) (n := n) (j := k) hF h1 (by omega) (by omega)
      obtain ⟨R1, M1, m, M2, w1, w2⟩ := hR.rem (k := k) (n := n) (S1 := S1) h1 (by omega) h3 (by omega) (fun i hi => by rw [g2, if_neg hi]) (by rw [g2, if_pos rfl]) (fun a i ha => by rw [g3, if_neg (fun q => ha q.1)]) (fun i => by rw [g3]; simp only [true_and])
      have e9 : tlr T 523 (Int32.ofNat k) = some (b, tset T 523 (.inr (.inr (cap, ms.eraseIdx k)))) := by
        simp only [tlr, tl, h3, Option.bind_some]
        rw [if_neg (m_n_neg hk), m_n_cl hk, hb]
        rfl
      obtain ⟨T1, hT1⟩ : ∃ x, x = tset T 523 (.inr (.inr (cap, ms.eraseIdx k))) := ⟨_, rfl⟩
      rw [← hT1] at e9 R1
      have cs1 : Cs T T1 0 0 := K_tlr _ e9
      obtain ⟨S2, hS2⟩ : ∃ x, x = up1 S1 39 (S1.1 39 + 1) := ⟨_, rfl⟩
      have R2 := R1.hs (S' := S2) (fun i hi => by rw [hS2, up1_1, if_neg (by omega)]) (fun a k => by rw [hS2, rd_up1])
      have hH1 : T1.1 512 = some (house S1.1) := R1.2.1
      have cs2 : Cs T1 (tset T1 512 (house S2.1)) 0 0 := cs_house hH1
      have ag : ∀ as is, (∀ i ∈ is, ¬ i = 39) → Ag as is S1 S2 := fun as is q => ⟨fun a _ k => by rw [hS2, rd_up1], fun i hi => by rw [hS2, up1_1, if_neg (q i hi)]⟩
      have ag1 : ∀ as is, (∀ a ∈ as, ¬ a = 624) → (∀ i ∈ is, ¬ i = 77) → Ag as is S0 S1 := fun as is p q => ⟨fun a ha k => by rw [g3, if_neg (fun w => p a ha w.1)], fun i hi => by rw [g2, if_neg (q i hi)]⟩
      refine ⟨1, _, S2, ?_, ?_, R2, (by have := cost_step (cost_step hcost cs1 hR.1) cs2 R1.1; exact ⟨by omega, by omega⟩), ?_⟩
      · simp only [bd2, e9, Option.bind_some, Hg11 hH1, Hp11 hH1]
        rw [show house (fup S1.1 39 (S1.1 39 + 1)) = house S2.1 by rw [hS2]; rfl]
      · rw [g1, Option.bind_some, hS2]
      · rw [vM_ag (ag _ _ (by decide)), vE_ag (ag _ _ (by decide)), vS_ag (ag _ _ (by decide)), w2, vE_ag (ag1 _ _ (by decide) (by decide)), vS_ag (ag1 _ _ (by decide) (by decide))]
        rw [w1] at hIv
        exact cM _ _ _ _ _ _ _ _ _ hIv
    · rw [decide_eq_false hkn, cond_false, cond_false]
      exact ⟨0, T, S0, rfl, rfl, h0⟩
theorem op_fault2 (h : RA I T S X Y Z Q [] [] 0 rs c k1 k2) : ∃ v, D_c_EdgeHouse_fault F 512 T = some v ∧ D_m_fault F S = some (v, up1 S 0 0) ∧ RA I T (up1 S 0 0) X Y Z Q [] [] 0 rs c k1 k2 := by
  refine ⟨S.1 3, ?_, ?_, h.zero⟩
  · obtain ⟨f1, f2, f3, L, x2, x5, x6, x7, x8, x9, x10, x11, y13, y14, y15, e1, _⟩ := h.1.2.2.2.2.2.2.2.2.2.2.2.2.1
    have hH : T.1 512 = some (house S.1) := h.1.2.1
    have e3 : tgi T 513 1 3 = some (S.1 3) := tgi_o e1 rfl
    unfold D_c_EdgeHouse_fault
    simp only [Hr0 hH, Option.bind_some, e3]
  · rfl
theorem op_total2 {x : Int32} (h : RA I T S X Y Z Q [] [] 0 rs c k1 k2) : ∃ v, D_c_EdgeHouse_total F 512 x T = some v ∧ D_m_total F x S = some (v, up1 S 0 0) ∧ RA I T (up1 S 0 0) X Y Z Q [] [] 0 rs c k1 k2 := by
  obtain ⟨⟨cr, r1⟩, r2, r3, _⟩ := h.1.2.2.2.2.2.2.2.2.1
  obtain ⟨v, v1, v2⟩ := op_total (F := F) (x := x) h.1.2.1 h.1.2.2.1 ⟨_, _, _, r3, r1, rfl⟩
  exact ⟨v, v1, v2, h.zero⟩
theorem op_message2 {x y : Int32} (h : RA I T S X Y Z Q [] [] 0 rs c k1 k2) : ∃ v, D_c_EdgeHouse_message F 512 x y T = some v ∧ D_m_message F x y S = some (v, up1 S 0 0) ∧ RA I T (up1 S 0 0) X Y Z Q [] [] 0 rs c k1 k2 := by
  obtain ⟨v, v1, v2⟩ := op_message (F := F) (x := x) (y := y) h.1.2.1 h.1.2.2.1
  exact ⟨v, v1, v2, h.zero⟩
def ClDrop (I : Iv) : Prop := ∀ M Q Z E N k1 k2 p, I M Q [] Z E N k1 k2 → p < 32 → I M Q [] Z E (fun j k => if j = 4 ∧ k = 9 * p then 0 else N j k) k1 k2
/-- drop(path) -/
theorem op_drop (cD : ClDrop I) {x : Int32} (h : RA I T S X Y Z Q [] [] 0 rs c k1 k2) : ∃ v T' S', D_c_EdgeHouse_drop F 512 x T = some (v, T') ∧ D_m_drop F x S = some (v, S') ∧ RA I T' S' X Y Z Q [] [] 0 rs c k1 k2 := by
  have h0 := h.zero
  obtain ⟨S0, hS0⟩ : ∃ x, x = up1 S 0 0 := ⟨_, rfl⟩
  rw [← hS0] at h0
  obtain ⟨hR, hcost, hIv⟩ := id h0
  have hH : T.1 512 = some (house S0.1) := hR.2.1
  have stay : ∃ v T' S', (some ((0 : Int32), T) : Option (Int32 × tT)) = some (v, T') ∧ (some ((0 : Int32), S0) : Option (Int32 × mS)) = some (v, S') ∧ RA I T' S' X Y Z Q [] [] 0 rs c k1 k2 := ⟨0, T, S0, rfl, rfl, h0⟩
  unfold D_c_EdgeHouse_drop D_m_drop D_c_EdgeHouse_isPath
  simp only [fput, Option.bind_some]
  rw [← hS0]
  rcases i_cases x with hx | ⟨p, hk, rfl⟩
  · rw [c1_neg hx]
    exact stay
  · have ek : m_c1 .lt (Int32.ofNat p) = false := m_c1_ltf hk
    rw [ek, cond_false, cond_false, show m_c2 .ge (Int32.ofNat p) (32 : Int32) = decide (32 ≤ p) from ge_n hk (by decide), show m_c2 .gt (Int32.ofNat p) (31 : Int32) = decide (31 < p) from gt_n hk (by decide)]
    by_cases hp : p < 32
    · rw [decide_eq_false (show ¬ 32 ≤ p by omega), decide_eq_false (show ¬ 31 < p by omega), cond_false, cond_false]
      simp only [Option.bind_some, show bret (1 : Int32) = some 1 from rfl, show m_c1 .eq (1 : Int32) = false from rfl, cond_false, Hr1 hH, k9]
      obtain ⟨r1, r2, r3, r4, r5, r6, r7, r8, r9, r10⟩ := id hR
      obtain ⟨⟨⟨ft, t1, t2⟩, t3⟩, e2, e3, e4, e5⟩ := id r10
      have tA : tar T 517 6 (Int32.ofNat p) = vr (ft p) := by
        unfold tar
        rw [ta_o t1 hp (by decide), Option.bind_some]
      have a589 : aget 0 288 S0 589 (Int32.ofNat (9 * p)) = some (rd S0 589 (9 * p)) := aget_n (Or.inl rfl) (by omega) (by decide)
      rw [tA, a589, Option.bind_some]
      rcases t2 p hp with ⟨z0, znull⟩ | ⟨t, zt, zc, zok⟩
      · rw [znull, z0]
        exact stay
      · have ne : ¬ rd S0 589 (9 * p) = 0 := zok.2.1
        have nne : m_c1 .ne (rd S0 589 (9 * p)) = true := by simp [m_c1, ne]
        rw [zt, nne, cond_true]
        have w1 : tasr T 517 6 (Int32.ofNat p) none = some (tset T 517 (.inr (.inl (6, 32, fun j => if j = p then .null else ft j)))) := tas_n t1 hp (by decide)
        have w2 : aput 288 S0 589 (Int32.ofNat (9 * p)) 0 = some (up2 S0 589 (9 * p) 0) := aput_n (by omega) (by decide)
        obtain ⟨T1, hT1⟩ : ∃ x, x = tset T 517 (.inr (.inl (6, 32, fun j => if j = p then .null else ft j))) := ⟨_, rfl⟩
        obtain ⟨S1, hS1⟩ : ∃ x, x = up2 S0 589 (9 * p) 0 := ⟨_, rfl⟩
        rw [← hT1] at w1
        rw [← hS1] at w2
        have st : ∀ b x, T.1 b = some x → ¬ b = 517 → T1.1 b = some x := fun b x hb w => by rw [hT1]; exact tset_o hb w
        have rS : ∀ a k, rd S1 a k = if a = 589 ∧ k = 9 * p then 0 else rd S0 a k := fun a k => by rw [hS1, rd_up2]
        have iS : ∀ i, S1.1 i = S0.1 i := fun i => by rw [hS1, up2_1]
        have ag : ∀ as is, (∀ a ∈ as, ¬ a = 589) → Ag as is S0 S1 := fun as is q => ⟨fun a ha k => by rw [rS, if_neg (fun w => q a ha w.1)], fun i _ => iS i⟩
        have kq : ∀ {A K : List Nat}, 517 ∉ A → 20 ∉ K → Kq A K T T1 := by
          intro A K hA hK b x hb hk'
          refine st b x hb (fun q => ?_)
          rcases hk' with w | w
          · rw [q, t1] at hb
            cases hb
            exact hK w
          · exact hA (q ▸ w)
        have cs : Cs T T1 0 0 := K_tasr _ w1
        have hX : RX T1 S1 := by
          refine ⟨⟨⟨_, by rw [hT1]; exact tset_at, fun p' hp' => ?_⟩, ?_⟩, e2.fa (kq (by decide) (by decide)) (ag _ _ (by decide)), fun m m1 m2 => ?_, e4.fa (kq (by decide) (by decide)) (ag _ _ (by decide)), by rw [rS, if_neg (by omega)]; exact e5⟩
          · by_cases w : p' = p
            · left
              rw [w]
              exact ⟨by rw [rS, if_pos ⟨rfl, rfl⟩], if_pos rfl⟩
            · rcases t2 p' hp' with ⟨y1, y2⟩ | ⟨t', y1, y2, y3⟩
              · left
                exact ⟨by rw [rS, if_neg (by omega)]; exact y1, by rw [if_neg w]; exact y2⟩
              · right
                have en : ∀ i, i < 9 → rd S0 589 (9 * p' + i) = rd S1 589 (9 * p' + i) := fun i hi => by rw [rS, if_neg (by omega)]
                refine ⟨t', by rw [if_neg w]; exact y1, ?_, okT_ext en y3⟩
                rw [← cTold_ext en]
                exact st _ _ y2 (fun q => by rw [q, t1] at y2; cases y2)
          · obtain ⟨f8, y1, y2⟩ := t3
            exact ⟨f8, st _ _ y1 (by decide), fun q hq => (y2 q hq).trans (by rw [rS, if_neg (by omega)])⟩
          · obtain ⟨g', k', a1, a2, a3⟩ := e3 m m1 m2
            refine ⟨g', k', st _ _ a1 (by omega), st _ _ a2 (by omega), ?_⟩
            simp only [rS, show ¬ (618 = 589) by decide, show ¬ (619 = 589) by decide, false_and, if_false]
            exact a3
        have hN : RNodes T1 S1 := by
          obtain ⟨⟨f9, n1, n2⟩, n3, n4⟩ := r5
          refine ⟨⟨f9, st _ _ n1 (by decide), n2⟩, fun m m1 m2 => ?_, fun m m1 m2 => ?_⟩
          · have e : nodeC S1 m = nodeC S0 m := by
              unfold nodeC
              simp only [rS, show ¬ (591 = 589) by decide, show ¬ (593 = 589) by decide, show ¬ (594 = 589) by decide, show ¬ (595 = 589) by decide, show ¬ (596 = 589) by decide, false_and, if_false]
            rw [e, rS, if_neg (by omega)]
            exact ⟨st _ _ (n3 m m1 m2).1 (by omega), (n3 m m1 m2).2⟩
          · obtain ⟨g', a1, a2, a3⟩ := n4 m m1 m2
            exact ⟨g', st _ _ a1 (by omega), by rw [rS, if_neg (by omega)]; exact a2, by rw [rS, if_neg (by omega)]; exact a3⟩
        refine ⟨1, T1, S1, ?_, ?_, hR.arr2 (B := fun b => b = 517) (cs r1).1 st (fun b hb => by rw [hb]; exact ⟨_, t1, Or.inr ⟨6, 32, ft, rfl, by decide⟩⟩) (by decide) (ag _ _ (by decide)) (ag _ _ (by decide)) hN hX, (by have := cost_step hcost cs r1; exact ⟨by omega, by omega⟩), ?_⟩
        · show (tasr T 517 6 (Int32.ofNat p) none).bind _ = _
          rw [w1]
          rfl
        · rw [w2]
          rfl
        · rw [vM_ag (ag _ _ (by decide)), vE_ag (ag _ _ (by decide))]
          have : vS S1 = fun j k => if j = 4 ∧ k = 9 * p then 0 else vS S0 j k := by
            funext j k
            by_cases w : j = 4 ∧ k = 9 * p
            · rw [if_pos w, w.1, w.2]
              show rd S1 589 (9 * p) = 0
              rw [rS, if_pos ⟨rfl, rfl⟩]
            · rw [if_neg w]
              unfold vS
              simp only [rS, iS, show ¬ (593 = 589) by decide, show ¬ (596 = 589) by decide, show ¬ (590 = 589) by decide, show ¬ (597 = 589) by decide, false_and, if_false, true_and]
              by_cases w4 : j = 4
              · subst w4
                rw [if_neg (fun q => w ⟨rfl, q⟩)]
              · simp only [w4, if_false]
          rw [this]
          exact cD _ _ _ _ _ _ _ p hIv hp
    · rw [decide_eq_true (show 32 ≤ p by omega), decide_eq_true (show 31 < p by omega)]
      exact stay
end
