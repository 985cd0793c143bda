/-! The reference makes a fetch for a row: its blocks. -/
def FetD (F w0 f : Nat) (S : mS) (z : Rq) (o : Option Nat) : Prop := ∃ S2, D_m_fetch F (Int32.ofNat w0) (Int32.ofNat f) S = (D_m_send F (Int32.ofNat f) S2).bind (fun q => (bret q.1).bind fun v => some (v, q.2)) ∧ (∀ i, S2.1 i = S.1 i) ∧ ∀ a k, rd S2 a k = if k = f ∧ a = 613 then newG z.2.2.2.1 (v_mi S z o) 5 else if k = f ∧ a = 614 then newG z.2.2.2.1 (v_mi S z o) 6 else if k = f ∧ a = 610 then z.2.2.2.1 6 else if k = f ∧ a = 616 then rd S 622 (w0 + 11) else rd S a k
section
variable {S : mS} {F w0 f : Nat} {z : Rq}
theorem r_fetch (hF : 17 ≤ F) (h : Rw S w0 z) (hf : f < 896) {o : Option Nat} (hs : D_m_suits F (Int32.ofNat f) (rd S 622 (w0 + 11)) S = some (oI o)) (ho : ∀ e, o = some e → e < 7168 ∧ okT (eT S e) ∧ few 100000 ((rd S 605 e + S.1 36) - rd S 606 e)) : FetD F w0 f S z o := by
  have w2 := wait2 (S := S) h.1
  have w11 := wait11 (S := S) h.1
  have w5 := wait5 (S := S) h.1
  have p13 : ∀ (X : mS) (x : Int32), aput 896 X 613 (Int32.ofNat f) x = some (up2 X 613 f x) := fun X x => aput_n hf (by decide)
  have p14 : ∀ (X : mS) (x : Int32), aput 896 X 614 (Int32.ofNat f) x = some (up2 X 614 f x) := fun X x => aput_n hf (by decide)
  have up3 : ∀ (X : mS) (x y : Int32), (∀ a k, ¬ a = 613 → ¬ a = 614 → rd X a k = rd S a k) → (∀ k, ¬ k = f → rd X 613 k = rd S 613 k) → (∀ k, ¬ k = f → rd X 614 k = rd S 614 k) → (∀ i, X.1 i = S.1 i) → x = z.2.2.2.1 4 → y = z.2.2.2.1 5 → ∃ S2, D_m_fetch_184 F (Int32.ofNat w0) (Int32.ofNat f) (oI o) (up2 (up2 X 613 f x) 614 f y) = (D_m_send F (Int32.ofNat f) S2).bind (fun q => (bret q.1).bind fun v => some (v, q.2)) ∧ (∀ i, S2.1 i = S.1 i) ∧ ∀ a k, rd S2 a k = if k = f ∧ a = 613 then newG z.2.2.2.1 (v_mi S z o) 5 else if k = f ∧ a = 614 then newG z.2.2.2.1 (v_mi S z o) 6 else if k = f ∧ a = 610 then z.2.2.2.1 6 else if k = f ∧ a = 616 then rd S 622 (w0 + 11) else rd S a k := by
    intro X x y hX h13 h14 hi ex ey
    refine r_f184 hF h hf ho (fun a k a3 a4 => by rw [rd_up2, if_neg (fun w => a4 w.1), rd_up2, if_neg (fun w => a3 w.1)]; exact hX a k a3 a4) (fun i => by rw [up2_1, up2_1]; exact hi i) (fun k => ?_) (fun k => ?_)
    · rw [rd_up2, if_neg (by omega), rd_up2]
      by_cases kf : k = f
      · rw [if_pos ⟨rfl, kf⟩, if_pos kf, ex]
      · rw [if_neg (fun w => kf w.2), if_neg kf, h13 k kf]
    · rw [rd_up2]
      by_cases kf : k = f
      · rw [if_pos ⟨rfl, kf⟩, if_pos kf, ey]
      · rw [if_neg (fun w => kf w.2), if_neg kf, rd_up2, if_neg (by omega), h14 k kf]
  have unf : D_m_fetch F (Int32.ofNat w0) (Int32.ofNat f) S = D_m_fetch F (Int32.ofNat w0) (Int32.ofNat f) S := rfl
  conv at unf => rhs; unfold D_m_fetch
  rw [w2, Option.bind_some, w11, Option.bind_some, hs, Option.bind_some] at unf
  cases hz : z.2.2.1 with
  | none =>
    obtain ⟨n, _, _, a3⟩ := h.fetch hz
    have e2 : rd S 622 (w0 + 2) = -1 := a3.2.1
    have e5 : rd S 622 (w0 + 5) = z.2.2.2.1 4 := a3.2.2.2.2.2.1
    have e6 : rd S 622 (w0 + 6) = z.2.2.2.1 5 := a3.2.2.2.2.2.2.1
    have w6 := wait6 (S := up2 S 613 f (z.2.2.2.1 4)) h.1
    rw [rd_up2, if_neg (by omega), e6] at w6
    rw [e5] at w5
    rw [e2, show m_c2 .ne (-1 : Int32) (-1) = false from rfl, cond_false, w5, Option.bind_some, Option.bind_some, p13, Option.bind_some, w6] at unf
    simp only [cond_false, Option.bind_some, p14, show m_c2 .eq (-1 : Int32) (-1) = true from rfl, cond_true] at unf
    obtain ⟨S2, b1, b2⟩ := up3 S (z.2.2.2.1 4) (z.2.2.2.1 5) (fun _ _ _ _ => rfl) (fun _ _ => rfl) (fun _ _ => rfl) (fun _ => rfl) rfl rfl
    exact ⟨S2, unf.trans b1, b2⟩
  | some r =>
    obtain ⟨k, n, _, _, a7⟩ := h.client hz
    have e2 : rd S 622 (w0 + 2) = Int32.ofNat r := a7.2.2.2.1
    have hr : r < 300 := a7.2.1.1
    have bl := a7.2.2.2.2.2.2.2.2.2.2.2.2.2.2.2.1
    have nr : m_c2 .ne (Int32.ofNat r) (-1) = true := ne_m1 (by omega)
    have a21 := asks21 (F := F) (S := up2 (up2 S 613 f 0) 614 f 15) hr
    have a3' := asks3 (F := F) (S := up2 (up2 S 613 f 0) 614 f 15) hr
    rw [rd_up2, if_neg (by omega), rd_up2, if_neg (by omega)] at a21 a3'
    rw [e2, nr] at unf
    simp only [cond_true, Option.bind_some, p13, p14, ofNat_ne_m1 (show r < 2147483648 by omega), cond_false] at unf
    rw [a21, a3', Option.bind_some, Option.bind_some] at unf
    unfold isBl at bl
    -- with a range that counts
    have rng : rd S 620 (23 * r + 21) = -1 ∧ (rd S 620 (23 * r + 3) = 1 ∨ rd S 620 (23 * r + 3) = 2) → D_m_fetch F (Int32.ofNat w0) (Int32.ofNat f) S = D_m_fetch_109 F (Int32.ofNat w0) (Int32.ofNat f) (Int32.ofNat r) (oI o) (up2 (up2 S 613 f 0) 614 f 15) → FetD F w0 f S z o := by
      intro hc he
      rw [if_pos hc] at bl
      obtain ⟨A, A1, A2, A3, bb⟩ := bl
      have a4 := asks4 (F := F) (S := up2 (up2 S 613 f 0) 614 f 15) hr
      rw [rd_up2, if_neg (by omega), rd_up2, if_neg (by omega), A2] at a4
      have v75 : (cond (m_c2 .le (Int32.ofNat A) (255 : Int32)) (some (Int32.ofNat A)) (some (255 : Int32))) = some (Int32.ofNat (min A 255)) := by
        rw [show m_c2 .le (Int32.ofNat A) (255 : Int32) = decide (A ≤ 255) from le_n (by omega) (by decide)]
        by_cases w : A ≤ 255
        · rw [decide_eq_true w, Nat.min_eq_left w]; rfl
        · rw [decide_eq_false w, Nat.min_eq_right (by omega)]; rfl
      have d16 : ∀ B : Nat, B < 100000 → Int32.ofNat B / (16 : Int32) = Int32.ofNat (B / 16) := fun B hB => m_n_div (b := 16) (by show B < 2147483648; omega) (by decide)
      let S6 : mS := up2 (up2 (up2 S 613 f 0) 614 f 15) 613 f (Int32.ofNat (min A 255 / 16))
      have a3 := asks3 (F := F) (S := S6) hr
      have a5 := asks5 (F := F) (S := S6) hr
      have r6 : ∀ a k, ¬ a = 613 → ¬ a = 614 → rd S6 a k = rd S a k := fun a k h3 h4 => by
        show rd (up2 (up2 (up2 S 613 f 0) 614 f 15) 613 f _) a k = _
        rw [rd_up2, if_neg (fun w => h3 w.1), rd_up2, if_neg (fun w => h4 w.1), rd_up2, if_neg (fun w => h3 w.1)]
      rw [r6 620 _ (by decide) (by decide)] at a3 a5
      have v88 : (cond (m_c2 .eq (rd S 620 (23 * r + 3)) (2 : Int32)) (some (15 : Int32)) ((D_m_asks F (Int32.ofNat r) (5 : Int32) S6).bind fun v83 => cond (m_c2 .le v83 (255 : Int32)) ((D_m_asks F (Int32.ofNat r) (5 : Int32) S6).bind fun v86 => some (v86 / (16 : Int32))) (some (15 : Int32)))) = some (z.2.2.2.1 5) := by
        rcases bb with ⟨b1, b2⟩ | ⟨b1, B, B1, B2, B3⟩
        · rw [b1, b2]; rfl
        · rw [b1, a5, Option.bind_some, B2, B3]
          show cond (m_c2 .le (Int32.ofNat B) 255) (some (Int32.ofNat B / 16)) (some 15) = some (Int32.ofNat (min B 255 / 16))
          rw [show m_c2 .le (Int32.ofNat B) (255 : Int32) = decide (B ≤ 255) from le_n (by omega) (by decide)]
          by_cases w : B ≤ 255
          · rw [decide_eq_true w, Nat.min_eq_left w, d16 B B1]; rfl
          · rw [decide_eq_false w, Nat.min_eq_right (by omega)]; rfl
      have u109 : D_m_fetch_109 F (Int32.ofNat w0) (Int32.ofNat f) (Int32.ofNat r) (oI o) (up2 (up2 S 613 f 0) 614 f 15) = D_m_fetch_184 F (Int32.ofNat w0) (Int32.ofNat f) (oI o) (up2 S6 614 f (z.2.2.2.1 5)) := by
        unfold D_m_fetch_109
        rw [a4]
        simp only [Option.bind_some]
        rw [v75, Option.bind_some, d16 _ (by omega), p13, Option.bind_some]
        show (((D_m_asks F (Int32.ofNat r) (3 : Int32) S6).bind fun v78 => _) = _)
        rw [a3]
        simp only [Option.bind_some]
        rw [v88, Option.bind_some, p14, Option.bind_some]
      obtain ⟨S2, b1, b2⟩ := up3 (up2 (up2 S 613 f 0) 614 f 15) (Int32.ofNat (min A 255 / 16)) (z.2.2.2.1 5) (fun a k h3 h4 => by rw [rd_up2, if_neg (fun w => h4 w.1), rd_up2, if_neg (fun w => h3 w.1)]) (fun k hk => by rw [rd_up2, if_neg (by omega), rd_up2, if_neg (fun w => hk w.2)]) (fun k hk => by rw [rd_up2, if_neg (fun w => hk w.2), rd_up2, if_neg (by omega)]) (fun i => by rw [up2_1, up2_1]) A3.symm rfl
      exact ⟨S2, (he.trans u109).trans b1, b2⟩
    have pln : ¬ (rd S 620 (23 * r + 21) = -1 ∧ (rd S 620 (23 * r + 3) = 1 ∨ rd S 620 (23 * r + 3) = 2)) → D_m_fetch F (Int32.ofNat w0) (Int32.ofNat f) S = D_m_fetch_184 F (Int32.ofNat w0) (Int32.ofNat f) (oI o) (up2 (up2 S 613 f 0) 614 f 15) → FetD F w0 f S z o := by
      intro hc he
      rw [if_neg hc] at bl
      obtain ⟨S2, b1, b2⟩ := up3 S 0 15 (fun _ _ _ _ => rfl) (fun _ _ => rfl) (fun _ _ => rfl) (fun _ => rfl) bl.1.symm bl.2.symm
      exact ⟨S2, he.trans b1, b2⟩
    by_cases c21 : rd S 620 (23 * r + 21) = -1
    · rw [c21, show m_c2 .ne (-1 : Int32) (-1) = false from rfl, cond_false] at unf
      by_cases c1 : rd S 620 (23 * r + 3) = 1
      · rw [c1, show m_c2 .eq (1 : Int32) 1 = true from rfl, cond_true] at unf
        exact rng ⟨c21, Or.inl c1⟩ unf
      · have e1 : m_c2 .eq (rd S 620 (23 * r + 3)) 1 = false := by simp [m_c2, c1]
        rw [e1, cond_false, Option.bind_some] at unf
        by_cases c2 : rd S 620 (23 * r + 3) = 2
        · rw [c2, show m_c2 .ne (2 : Int32) 2 = false from rfl, cond_false] at unf
          exact rng ⟨c21, Or.inr c2⟩ unf
        · have e2' : m_c2 .ne (rd S 620 (23 * r + 3)) 2 = true := by simp [m_c2, c2]
          rw [e2', cond_true] at unf
          exact pln (fun w => w.2.elim c1 c2) unf
    · have e1 : m_c2 .ne (rd S 620 (23 * r + 21)) (-1) = true := by simp [m_c2, c21]
      rw [e1, cond_true] at unf
      exact pln (fun w => c21 w.1) unf
end
