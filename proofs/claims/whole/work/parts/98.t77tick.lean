/-! A fetch is overdue: strikes. -/
section
variable {T T' : tT} {S S' : mS} {X Y : Nat → List (Nat × Nat)} {Z : Nat → List Fz} {Q cz Pd : List Rq} {c F n f j0 p : Nat} {rs : List Nat}
theorem RBx.strike (h : RBx T S X Y Z Q rs c f) (h3 : 3 ≤ n) (h2 : n < 7) (hp : p = 1 ∨ p = 2) : ∃ T' S', D_c_Node_strike F (527 + 8 * n) (Int32.ofNat p) (S.1 36) T = some T' ∧ D_m_strike F (Int32.ofNat n) (Int32.ofNat p) S = some S' ∧ RBx T' S' X Y Z Q rs c f ∧ Cs T T' 0 0 ∧ (∀ b x, T.1 b = some x → ¬ kd x = 20 → T'.1 b = some x) ∧ (∀ a i, ¬ a = 618 → ¬ a = 619 → rd S' a i = rd S a i) ∧ ∀ i, S'.1 i = S.1 i := by
  have h1 : 1 ≤ n := by omega
  obtain ⟨g, k, a1, a2, a3, a4, a5, a6, a7, a8, a9⟩ := h.1.2.2.2.2.2.2.2.2.2.1 n h1 h2
  have hn := (h.1.2.2.2.2.1.2.1 n h1 h2).1
  obtain ⟨e, he⟩ : ∃ e, e = 2 * n + p - 1 := ⟨_, rfl⟩
  have ix : (2 : Int32) * Int32.ofNat n + Int32.ofNat p - (1 : Int32) = Int32.ofNat e := by
    rw [k2, i_add, show (1 : Int32) = Int32.ofNat 1 from rfl, m_n_sub (by omega), he]
  have gp : m_toI (g p) = rd S 618 e := by
    rcases hp with rfl | rfl
    · rw [a5, he]; rfl
    · rw [a6, he]; rfl
  have fl : flag (rd S 618 e) := by
    rcases hp with rfl | rfl
    · rw [he]; exact a3
    · rw [he]; exact a4
  have e4 : tgr T (527 + 8 * n) 4 4 = some (some (533 + 8 * n)) := tgr_o (x := some (533 + 8 * n)) hn rfl
  have v0 : tai T (533 + 8 * n) 0 (Int32.ofNat p) = some (rd S 618 e) := by
    unfold tai
    rw [ta_o a1 (by omega) (by decide), Option.map_some, gp]
  have b1 : aget 0 14 S 618 (Int32.ofNat e) = some (rd S 618 e) := aget_n (Or.inl rfl) (by omega) (by decide)
  have c1 : m_c2 .lt (Int32.ofNat p) (1 : Int32) = false := by rcases hp with rfl | rfl <;> rfl
  have c2 : m_c2 .le (Int32.ofNat p) (2 : Int32) = true := by rcases hp with rfl | rfl <;> rfl
  have w1 : ∀ x : Int32, tasi T (533 + 8 * n) (Int32.ofNat p) x = some (tset T (533 + 8 * n) (.inr (.inl (0, 3, fun j => if j = p then .int x else g j)))) := fun x => tas_n a1 (by omega) (by decide)
  have d1 : ∀ x : Int32, aput 14 S 618 (Int32.ofNat e) x = some (up2 S 618 e x) := fun x => aput_n (by omega) (by decide)
  -- what is left: both arrays
  have fin : ∀ (T2 : tT) (S2 : mS) (G K : Nat → Value) (x y : Int32), D_c_Node_strike F (527 + 8 * n) (Int32.ofNat p) (S.1 36) T = some T2 → D_m_strike F (Int32.ofNat n) (Int32.ofNat p) S = some S2 → (∀ b, ¬ isSk n b → T2.1 b = T.1 b) → T2.1 (533 + 8 * n) = some (.inr (.inl (0, 3, G))) → T2.1 (534 + 8 * n) = some (.inr (.inl (0, 3, K))) → (∀ j, m_toI (G j) = if j = p then x else m_toI (g j)) → (∀ j, m_toI (K j) = if j = p then y else m_toI (k j)) → flag x → (∀ a i, rd S2 a i = if a = 618 ∧ i = e then x else if a = 619 ∧ i = e then y else rd S a i) → (∀ i, S2.1 i = S.1 i) → ∃ T' S', D_c_Node_strike F (527 + 8 * n) (Int32.ofNat p) (S.1 36) T = some T' ∧ D_m_strike F (Int32.ofNat n) (Int32.ofNat p) S = some S' ∧ RBx T' S' X Y Z Q rs c f ∧ Cs T T' 0 0 ∧ (∀ b x, T.1 b = some x → ¬ kd x = 20 → T'.1 b = some x) ∧ (∀ a i, ¬ a = 618 → ¬ a = 619 → rd S' a i = rd S a i) ∧ ∀ i, S'.1 i = S.1 i := by
    intro T2 S2 G K x y hT hS ho hG hK hGv hKv hx hr hi
    have cs : Cs T T2 0 0 := K_c_Node_strike (F := F) _ hT
    obtain ⟨q1', q2', q3'⟩ := h.sk (n := n) (x1 := if p = 1 then x else rd S 618 (2 * n)) (x2 := if p = 2 then x else rd S 618 (2 * n + 1)) (y1 := if p = 1 then y else rd S 619 (2 * n)) (y2 := if p = 2 then y else rd S 619 (2 * n + 1)) h1 h2 (cs h.1.1).1 (fun b z hb w => by rw [ho b w]; exact hb) hG hK (by rw [hGv, a5]; rcases hp with rfl | rfl <;> rfl) (by rw [hGv, a6]; rcases hp with rfl | rfl <;> rfl) (by rw [hKv, a7]; rcases hp with rfl | rfl <;> rfl) (by rw [hKv, a8]; rcases hp with rfl | rfl <;> rfl) (by split; exact hx; exact a3) (by split; exact hx; exact a4) (fun w => absurd w (by omega)) (fun a i => by
      rw [hr]
      rcases hp with rfl | rfl
      · have he' : e = 2 * n := by omega
        rw [he']
        simp only [if_true, show ¬ ((1 : Nat) = 2) by decide, if_false]
        by_cases v1 : a = 618 ∧ i = 2 * n
        · rw [if_pos v1, if_pos v1]
        · rw [if_neg v1, if_neg v1]
          by_cases v2 : a = 618 ∧ i = 2 * n + 1
          · rw [if_neg (by omega), if_pos v2, v2.1, v2.2]
          · rw [if_neg v2]
            by_cases v3 : a = 619 ∧ i = 2 * n
            · rw [if_pos v3, if_pos v3]
            · rw [if_neg v3, if_neg v3]
              by_cases v4 : a = 619 ∧ i = 2 * n + 1
              · rw [if_pos v4, v4.1, v4.2]
              · rw [if_neg v4]
      · have he' : e = 2 * n + 1 := by omega
        rw [he']
        simp only [if_true, show ¬ ((2 : Nat) = 1) by decide, if_false]
        by_cases v1 : a = 618 ∧ i = 2 * n
        · rw [if_neg (by omega), if_neg (by omega), if_pos v1, v1.1, v1.2]
        · rw [if_neg v1]
          by_cases v2 : a = 618 ∧ i = 2 * n + 1
          · rw [if_pos v2, if_pos v2]
          · rw [if_neg v2, if_neg v2]
            by_cases v3 : a = 619 ∧ i = 2 * n
            · rw [if_neg (by omega), if_pos v3, v3.1, v3.2]
            · rw [if_neg v3]) hi
    exact ⟨T2, S2, hT, hS, q1', cs, q2', q3', hi⟩
  have cst : D_c_Node_strike F (527 + 8 * n) (Int32.ofNat p) (S.1 36) T = ((tasi T (533 + 8 * n) (Int32.ofNat p) (rd S 618 e + 1)).bind fun T15 => (tgr T15 (527 + 8 * n) 4 4).bind fun v19 => (v19).bind fun a23 => (tai T15 a23 0 (Int32.ofNat p)).bind fun v26 => cond (m_c2 .ne v26 (2 : Int32)) (some T15) ((tgr T15 (527 + 8 * n) 4 4).bind fun v35 => (v35).bind fun a39 => (tasi T15 a39 (Int32.ofNat p) (0 : Int32)).bind fun T42 => (tgr T42 (527 + 8 * n) 4 5).bind fun v46 => (v46).bind fun a50 => (tasi T42 a50 (Int32.ofNat p) (S.1 36 + (20 : Int32))).bind fun T53 => some T53)) := by
    unfold D_c_Node_strike
    simp only [c1, c2, cond_false, cond_true, e4, Option.bind_some, v0]
  have mst : D_m_strike F (Int32.ofNat n) (Int32.ofNat p) S = ((aget 0 14 (up2 S 618 e (rd S 618 e + 1)) 618 (Int32.ofNat e)).bind fun v5 => cond (m_c2 .ge v5 (2 : Int32)) ((aput 14 (up2 S 618 e (rd S 618 e + 1)) 618 (Int32.ofNat e) (0 : Int32)).bind fun S8 => (aput 14 S8 619 (Int32.ofNat e) ((S8.1 36) + (20 : Int32))).bind fun S10 => some S10) (some (up2 S 618 e (rd S 618 e + 1)))) := by
    unfold D_m_strike
    simp only [ix, b1, Option.bind_some, d1]
  rw [w1, Option.bind_some] at cst
  obtain ⟨v, hv⟩ : ∃ v, v = rd S 618 e + 1 := ⟨_, rfl⟩
  rw [← hv] at cst mst
  obtain ⟨T15, hT15⟩ : ∃ z, z = tset T (533 + 8 * n) (.inr (.inl (0, 3, fun j => if j = p then .int v else g j))) := ⟨_, rfl⟩
  rw [← hT15] at cst
  have n15 : T15.1 (527 + 8 * n) = some (nodeC S n) := by rw [hT15]; exact tset_o hn (by omega)
  have g15 : T15.1 (533 + 8 * n) = some (.inr (.inl (0, 3, fun j => if j = p then .int v else g j))) := by rw [hT15]; exact tset_at
  have k15 : T15.1 (534 + 8 * n) = some (.inr (.inl (0, 3, k))) := by rw [hT15]; exact tset_o a2 (by omega)
  have e4' : tgr T15 (527 + 8 * n) 4 4 = some (some (533 + 8 * n)) := tgr_o (x := some (533 + 8 * n)) n15 rfl
  have v1 : tai T15 (533 + 8 * n) 0 (Int32.ofNat p) = some v := by
    unfold tai
    rw [ta_o g15 (by omega) (by decide), Option.map_some, if_pos rfl]
    rfl
  have b2 : aget 0 14 (up2 S 618 e v) 618 (Int32.ofNat e) = some v := (aget_n (Or.inl rfl) (by omega) (by decide)).trans (by rw [rd_up2, if_pos ⟨rfl, rfl⟩])
  simp only [e4', Option.bind_some, v1] at cst
  rw [b2, Option.bind_some] at mst
  rcases fl with z | z
  · have v1' : v = 1 := by rw [hv, z]; rfl
    subst v1'
    refine fin T15 (up2 S 618 e 1) _ k 1 (rd S 619 e) ?_ ?_ (fun b hb => ?_) g15 k15 (fun j => ?_) (fun j => ?_) (Or.inr rfl) (fun a i => ?_) (fun i => by rw [up2_1])
    · rw [cst]; rfl
    · rw [mst]; rfl
    · rw [hT15, tset_1, if_neg (fun q => hb (Or.inl q))]
    · by_cases w : j = p
      · rw [if_pos w, if_pos w]; rfl
      · rw [if_neg w, if_neg w]
    · by_cases w : j = p
      · rw [if_pos w, w]
        rcases hp with rfl | rfl
        · rw [a7, he]; rfl
        · rw [a8, he]; rfl
      · rw [if_neg w]
    · rw [rd_up2]
      by_cases w : a = 618 ∧ i = e
      · rw [if_pos w, if_pos w]
      · rw [if_neg w, if_neg w]
        by_cases w2 : a = 619 ∧ i = e
        · rw [if_pos w2, w2.1, w2.2]
        · rw [if_neg w2]
  · have v2' : v = 2 := by rw [hv, z]; rfl
    subst v2'
    have w2 : tasi T15 (533 + 8 * n) (Int32.ofNat p) 0 = some (tset T15 (533 + 8 * n) (.inr (.inl (0, 3, fun j => if j = p then .int 0 else (if j = p then .int 2 else g j))))) := tas_n g15 (by omega) (by decide)
    obtain ⟨T42, hT42⟩ : ∃ z, z = tset T15 (533 + 8 * n) (.inr (.inl (0, 3, fun j => if j = p then .int 0 else (if j = p then .int 2 else g j)))) := ⟨_, rfl⟩
    rw [← hT42] at w2
    have n42 : T42.1 (527 + 8 * n) = some (nodeC S n) := by rw [hT42]; exact tset_o n15 (by omega)
    have g42 : T42.1 (533 + 8 * n) = some (.inr (.inl (0, 3, fun j => if j = p then .int 0 else (if j = p then .int 2 else g j)))) := by rw [hT42]; exact tset_at
    have k42 : T42.1 (534 + 8 * n) = some (.inr (.inl (0, 3, k))) := by rw [hT42]; exact tset_o k15 (by omega)
    have e5 : tgr T42 (527 + 8 * n) 4 5 = some (some (534 + 8 * n)) := tgr_o (x := some (534 + 8 * n)) n42 rfl
    have w3 : tasi T42 (534 + 8 * n) (Int32.ofNat p) (S.1 36 + 20) = some (tset T42 (534 + 8 * n) (.inr (.inl (0, 3, fun j => if j = p then .int (S.1 36 + 20) else k j)))) := tas_n k42 (by omega) (by decide)
    obtain ⟨T53, hT53⟩ : ∃ z, z = tset T42 (534 + 8 * n) (.inr (.inl (0, 3, fun j => if j = p then .int (S.1 36 + 20) else k j))) := ⟨_, rfl⟩
    rw [← hT53] at w3
    have x1 : aput 14 (up2 S 618 e 2) 618 (Int32.ofNat e) 0 = some (up2 (up2 S 618 e 2) 618 e 0) := aput_n (by omega) (by decide)
    have x2 : aput 14 (up2 (up2 S 618 e 2) 618 e 0) 619 (Int32.ofNat e) (S.1 36 + 20) = some (up2 (up2 (up2 S 618 e 2) 618 e 0) 619 e (S.1 36 + 20)) := aput_n (by omega) (by decide)
    refine fin T53 (up2 (up2 (up2 S 618 e 2) 618 e 0) 619 e (S.1 36 + 20)) _ _ 0 (S.1 36 + 20) ?_ ?_ (fun b hb => ?_) (by rw [hT53]; exact tset_o g42 (by omega)) (by rw [hT53]; exact tset_at) (fun j => ?_) (fun j => ?_) (Or.inl rfl) (fun a i => ?_) (fun i => by rw [up2_1, up2_1, up2_1])
    · rw [cst, show m_c2 .ne (2 : Int32) (2 : Int32) = false from rfl, cond_false, w2, Option.bind_some, e5, Option.bind_some, Option.bind_some, w3, Option.bind_some]
    · rw [mst, show m_c2 .ge (2 : Int32) (2 : Int32) = true from rfl, cond_true, x1, Option.bind_some]
      show (aput 14 (up2 (up2 S 618 e 2) 618 e 0) 619 (Int32.ofNat e) (S.1 36 + 20)).bind _ = _
      rw [x2]
      rfl
    · rw [hT53, tset_1, if_neg (fun q => hb (Or.inr q)), hT42, tset_1, if_neg (fun q => hb (Or.inl q)), hT15, tset_1, if_neg (fun q => hb (Or.inl q))]
    · by_cases w : j = p
      · rw [if_pos w, if_pos w]; rfl
      · rw [if_neg w, if_neg w, if_neg w]
    · by_cases w : j = p
      · rw [if_pos w, if_pos w]; rfl
      · rw [if_neg w, if_neg w]
    · rw [rd_up2, rd_up2, rd_up2]
      by_cases w : a = 618 ∧ i = e
      · rw [if_neg (by omega), if_pos w, if_pos w]
      · by_cases w2 : a = 619 ∧ i = e
        · rw [if_pos w2, if_neg w, if_pos w2]
        · rw [if_neg w2, if_neg w, if_neg w, if_neg w, if_neg w2]
end
