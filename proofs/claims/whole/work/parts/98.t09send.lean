/-! The reference sends a FETCH. -/
section
variable {S : mS} {F : Nat}
/-- the version that is told as had -/
def v_had (S : mS) (n f : Nat) (o : Option Nat) : Int32 := match o with
  | none => 0
  | some e => if rd S 593 n ≤ rd S 604 e ∧ v_blocks (eT S e 1) (rd S 613 f) (rd S 614 f) &&& (rd S 607 e ^^^ -1) = 0 then eT S e 0 else 0
theorem m_sendS (hF : 23 ≤ F) {n key to0 : Nat} (hn : n < 7) (hk : key < 128) (ht : to0 ≤ 2) (hg : D_m_goal F (Int32.ofNat n) (Int32.ofNat key) S = some (Int32.ofNat to0)) {o : Option Nat} (ho : ∀ e, o = some e → e < 7168 ∧ few 256 (eT S e 1)) (hsu : ∀ S7 : mS, (∀ a k, ¬ a = 609 → rd S7 a k = rd S a k) → D_m_suits F (Int32.ofNat (128 * n + key)) (rd S 616 (128 * n + key)) S7 = some (oI o)) (h13 : few 16 (rd S 613 (128 * n + key))) (h14 : few 16 (rd S 614 (128 * n + key))) (h10 : flag (rd S 610 (128 * n + key))) : ∃ S2, D_m_send F (Int32.ofNat (128 * n + key)) S = (D_m_post F S2).bind (fun S85 => some ((1 : Int32), S85)) ∧ (∀ i, S2.1 i = S.1 i) ∧ (∀ a k, ¬ a = 596 → ¬ a = 609 → ¬ a = 611 → ¬ a = 612 → ¬ a = 615 → ¬ a = 617 → ¬ a = 625 → rd S2 a k = rd S a k) ∧ (∀ k, rd S2 596 k = if k = n then rd S 596 n + 1 else rd S 596 k) ∧ (∀ k, rd S2 609 k = if k = 128 * n + key then 1 else rd S 609 k) ∧ (∀ k, rd S2 611 k = if k = 128 * n + key then rd S 596 n + 1 else rd S 611 k) ∧ (∀ k, rd S2 612 k = if k = 128 * n + key then S.1 36 else rd S 612 k) ∧ (∀ k, rd S2 615 k = if k = 128 * n + key then rd S 593 n else rd S 615 k) ∧ (∀ k, rd S2 617 k = if k = 128 * n + key then Int32.ofNat to0 else rd S 617 k) ∧ ∀ i, i < 22 → rd S2 625 i = if i = 10 then v_had S n (128 * n + key) o else if i = 21 then rd S 616 (128 * n + key) else if i = 9 then rd S 610 (128 * n + key) else if i = 8 then rd S 593 n else if i = 7 then rd S 614 (128 * n + key) else if i = 6 then rd S 613 (128 * n + key) else if i = 0 then 0 else if i = 1 then Int32.ofNat n else if i = 2 then Int32.ofNat to0 else if i = 3 then rd S 596 n + 1 else if i = 4 then Int32.ofNat (key / 4) else if i = 5 then Int32.ofNat (key % 4) else 0 := by
  generalize hf : 128 * n + key = f at *
  have hf9 : f < 896 := by omega
  have d1 : Int32.ofNat f / (128 : Int32) = Int32.ofNat n := by
    rw [show Int32.ofNat f / (128 : Int32) = Int32.ofNat (f / 128) from m_n_div (b := 128) (by unfold sm; omega) (by unfold sm; omega), show f / 128 = n by omega]
  have d2 : Int32.ofNat f - Int32.ofNat n * (128 : Int32) = Int32.ofNat key := by
    rw [show Int32.ofNat n * (128 : Int32) = Int32.ofNat (n * 128) from m_n_mul n 128, m_n_sub (by omega), show f - n * 128 = key by omega]
  have gn : ∀ (X : mS) (a : Nat), aget 0 7 X a (Int32.ofNat n) = some (rd X a n) := fun X a => aget_n (Or.inl rfl) hn (by decide)
  have pn : ∀ (X : mS) (a : Nat) (x : Int32), aput 7 X a (Int32.ofNat n) x = some (up2 X a n x) := fun X a x => aput_n hn (by decide)
  have gf : ∀ (X : mS) (a : Nat), aget 0 896 X a (Int32.ofNat f) = some (rd X a f) := fun X a => aget_n (Or.inl rfl) hf9 (by decide)
  have gb : ∀ (X : mS) (a : Nat), aget 4 896 X a (Int32.ofNat f) = some (rd X a f) := fun X a => aget_n (Or.inr rfl) hf9 (by decide)
  have pf : ∀ (X : mS) (a : Nat) (x : Int32), aput 896 X a (Int32.ofNat f) x = some (up2 X a f x) := fun X a x => aput_n hf9 (by decide)
  have e6 : ∀ (X : mS) (x : Int32), aput 22 X 625 (6 : Int32) x = some (up2 X 625 6 x) := fun X x => h625 (k := 6) (by decide)
  have e7 : ∀ (X : mS) (x : Int32), aput 22 X 625 (7 : Int32) x = some (up2 X 625 7 x) := fun X x => h625 (k := 7) (by decide)
  have e8 : ∀ (X : mS) (x : Int32), aput 22 X 625 (8 : Int32) x = some (up2 X 625 8 x) := fun X x => h625 (k := 8) (by decide)
  have e9 : ∀ (X : mS) (x : Int32), aput 22 X 625 (9 : Int32) x = some (up2 X 625 9 x) := fun X x => h625 (k := 9) (by decide)
  have e10 : ∀ (X : mS) (x : Int32), aput 22 X 625 (10 : Int32) x = some (up2 X 625 10 x) := fun X x => h625 (k := 10) (by decide)
  have e21 : ∀ (X : mS) (x : Int32), aput 22 X 625 (21 : Int32) x = some (up2 X 625 21 x) := fun X x => h625 (k := 21) (by decide)
  let S7 : mS := up2 S 609 f 1
  let S24 : mS := up2 (up2 (up2 (up2 S7 596 n (rd S 596 n + 1)) 611 f (rd S 596 n + 1)) 612 f (S.1 36)) 617 f (Int32.ofNat to0)
  obtain ⟨S28, b1, b2, b3⟩ := m_blank (F := F) (S := S24) (x1 := 0) (x2 := Int32.ofNat n) (x3 := Int32.ofNat to0) (x4 := rd S 596 n + 1) (key := key) hF hk
  let S56 : mS := up2 (up2 (up2 (up2 (up2 (up2 S28 625 6 (rd S 613 f)) 625 7 (rd S 614 f)) 625 8 (rd S 593 n)) 615 f (rd S 593 n)) 625 9 (rd S 610 f)) 625 21 (rd S 616 f)
  have hs7 : ∀ a k, ¬ a = 609 → rd S7 a k = rd S a k := fun a k ha => by
    show rd (up2 S 609 f 1) a k = _
    rw [rd_up2, if_neg (fun z => ha z.1)]
  have r24 : ∀ a k, rd S24 a k = if a = 617 ∧ k = f then Int32.ofNat to0 else if a = 612 ∧ k = f then S.1 36 else if a = 611 ∧ k = f then rd S 596 n + 1 else if a = 596 ∧ k = n then rd S 596 n + 1 else if a = 609 ∧ k = f then 1 else rd S a k := fun a k => by
    simp only [S24, S7, rd_up2]
  have i24 : ∀ i, S24.1 i = S.1 i := fun i => rfl
  have r28 : ∀ a k, ¬ a = 625 → rd S28 a k = rd S24 a k := fun a k ha => by rw [b3, if_neg (fun z => ha z.1)]
  have r56 : ∀ a k, ¬ a = 596 → ¬ a = 609 → ¬ a = 611 → ¬ a = 612 → ¬ a = 615 → ¬ a = 617 → ¬ a = 625 → rd S56 a k = rd S a k := by
    intro a k h1 h2 h3 h4 h5 h6 h7
    simp only [S56, rd_up2, h5, h7, false_and, if_false]
    rw [r28 a k h7, r24]
    simp only [h1, h2, h3, h4, h6, false_and, if_false]
  have i56 : ∀ i, S56.1 i = S.1 i := fun i => by show S28.1 i = _; rw [b2, i24]
  have hflag : (cond (m_c1 .eq (rd S 610 f)) (some (0 : Int32)) (some (1 : Int32))) = some (rd S 610 f) := flag_if h10
  have ev : D_m_send F (Int32.ofNat f) S = (cond (m_c2 .eq (oI o) ((-1) : Int32)) (D_m_send_274 F S56) ((D_m_told F (oI o) (1 : Int32) S56).bind fun v66 => (D_m_span F (rd S 613 f) (rd S 614 f) v66 S56).bind fun v68 => (aget 0 7168 S56 604 (oI o)).bind fun v70 => (cond (m_c2 .lt v70 (rd S 593 n)) (some (0 : Int32)) ((aget 0 7168 S56 607 (oI o)).bind fun v77 => cond (m_c2 .ne (v77 &&& v68) v68) (some (0 : Int32)) ((D_m_told F (oI o) (0 : Int32) S56).bind fun v80 => some v80))).bind fun v82 => D_m_send_274 F (up2 S56 625 10 v82))) := by
    unfold D_m_send
    rw [d1, d2, hg, Option.bind_some, show m_c2 .eq (Int32.ofNat to0) (-1) = false from decide_eq_false (oI_ne (by omega)), cond_false, Option.bind_some, bput_n hf9 (by decide) (Or.inr rfl), Option.bind_some, ne_m1 (by omega), cond_true]
    have q609 : ∀ a k, ¬ a = 609 → rd (up2 S 609 f 1) a k = rd S a k := hs7
    rw [gf, Option.bind_some, q609 616 f (by decide), hsu (up2 S 609 f 1) q609, Option.bind_some, gn, Option.bind_some, q609 596 n (by decide), pn, Option.bind_some, gn, Option.bind_some, rd_up2, if_pos ⟨rfl, rfl⟩, pf, Option.bind_some, pf, Option.bind_some, pf, Option.bind_some, gf, Option.bind_some]
    have h611 : rd (up2 (up2 (up2 (up2 (up2 S 609 f 1) 596 n (rd S 596 n + 1)) 611 f (rd S 596 n + 1)) 612 f ((up2 (up2 (up2 S 609 f 1) 596 n (rd S 596 n + 1)) 611 f (rd S 596 n + 1)).1 36)) 617 f (Int32.ofNat to0)) 611 f = rd S 596 n + 1 := by
      simp [rd_up2]
    rw [h611, show D_m_blank F (0 : Int32) (Int32.ofNat n) (Int32.ofNat to0) (rd S 596 n + 1) (Int32.ofNat key) (up2 (up2 (up2 (up2 (up2 S 609 f 1) 596 n (rd S 596 n + 1)) 611 f (rd S 596 n + 1)) 612 f ((up2 (up2 (up2 S 609 f 1) 596 n (rd S 596 n + 1)) 611 f (rd S 596 n + 1)).1 36)) 617 f (Int32.ofNat to0)) = some S28 from b1, Option.bind_some]
    have s13 : rd S28 613 f = rd S 613 f := by rw [r28 _ _ (by decide), r24]; simp
    have s14 : rd S28 614 f = rd S 614 f := by rw [r28 _ _ (by decide), r24]; simp
    have s93 : rd S28 593 n = rd S 593 n := by rw [r28 _ _ (by decide), r24]; simp
    have s10 : rd S28 610 f = rd S 610 f := by rw [r28 _ _ (by decide), r24]; simp
    have s16 : rd S28 616 f = rd S 616 f := by rw [r28 _ _ (by decide), r24]; simp
    simp only [gf, gb, gn, pf, e6, e7, e8, e9, e10, e21, Option.bind_some, rd_up2, show ¬ (613 = 625) by decide, show ¬ (613 = 615) by decide, show ¬ (614 = 615) by decide, show ¬ (593 = 615) by decide, show ¬ (614 = 625) by decide, show ¬ (593 = 625) by decide, show ¬ (610 = 625) by decide, show ¬ (610 = 615) by decide, show ¬ (616 = 625) by decide, show ¬ (616 = 615) by decide, false_and, if_false, s13, s14, s93, s10, s16, hflag]
    rfl
  have hand : ∀ i, i < 22 → rd S56 625 i = if i = 21 then rd S 616 f else if i = 9 then rd S 610 f else if i = 8 then rd S 593 n else if i = 7 then rd S 614 f else if i = 6 then rd S 613 f else if i = 0 then 0 else if i = 1 then Int32.ofNat n else if i = 2 then Int32.ofNat to0 else if i = 3 then rd S 596 n + 1 else if i = 4 then Int32.ofNat (key / 4) else if i = 5 then Int32.ofNat (key % 4) else 0 := by
    intro i hi
    simp only [S56, rd_up2, true_and, show ¬ (625 = 615) by decide, false_and, if_false]
    rw [b3, if_pos (show 625 = 625 ∧ i < 22 from ⟨rfl, hi⟩)]
  have o596 : ∀ k, rd S56 596 k = if k = n then rd S 596 n + 1 else rd S 596 k := fun k => by
    simp only [S56, rd_up2, show ¬ (596 = 625) by decide, show ¬ (596 = 615) by decide, false_and, if_false]
    rw [r28 _ _ (by decide), r24]
    simp
  have o609 : ∀ k, rd S56 609 k = if k = f then 1 else rd S 609 k := fun k => by
    simp only [S56, rd_up2, show ¬ (609 = 625) by decide, show ¬ (609 = 615) by decide, false_and, if_false]
    rw [r28 _ _ (by decide), r24]
    simp
  have o611 : ∀ k, rd S56 611 k = if k = f then rd S 596 n + 1 else rd S 611 k := fun k => by
    simp only [S56, rd_up2, show ¬ (611 = 625) by decide, show ¬ (611 = 615) by decide, false_and, if_false]
    rw [r28 _ _ (by decide), r24]
    simp
  have o612 : ∀ k, rd S56 612 k = if k = f then S.1 36 else rd S 612 k := fun k => by
    simp only [S56, rd_up2, show ¬ (612 = 625) by decide, show ¬ (612 = 615) by decide, false_and, if_false]
    rw [r28 _ _ (by decide), r24]
    simp
  have o617 : ∀ k, rd S56 617 k = if k = f then Int32.ofNat to0 else rd S 617 k := fun k => by
    simp only [S56, rd_up2, show ¬ (617 = 625) by decide, show ¬ (617 = 615) by decide, false_and, if_false]
    rw [r28 _ _ (by decide), r24]
    simp
  have o615 : ∀ k, rd S56 615 k = if k = f then rd S 593 n else rd S 615 k := fun k => by
    simp only [S56, rd_up2, show ¬ (615 = 625) by decide, false_and, if_false, true_and]
    rw [r28 _ _ (by decide), r24]
    simp
  cases o with
  | none =>
    refine ⟨S56, ?_, i56, r56, o596, o609, o611, o612, o615, o617, fun i hi => ?_⟩
    · rw [ev, show m_c2 .eq (oI none) ((-1) : Int32) = true from rfl, cond_true]
      rfl
    · rw [hand i hi]
      by_cases z : i = 10
      · subst z; rfl
      · rw [if_neg z]
  | some e =>
    obtain ⟨he, zl, zl1, zl2⟩ := ho e rfl
    obtain ⟨a1, a2, a3⟩ := h13
    obtain ⟨c1, c2, c3⟩ := h14
    have n9 : ∀ k, rd S56 603 k = rd S 603 k := fun k => r56 603 k (by decide) (by decide) (by decide) (by decide) (by decide) (by decide) (by decide)
    have n4 : rd S56 604 e = rd S 604 e := r56 604 e (by decide) (by decide) (by decide) (by decide) (by decide) (by decide) (by decide)
    have n7 : rd S56 607 e = rd S 607 e := r56 607 e (by decide) (by decide) (by decide) (by decide) (by decide) (by decide) (by decide)
    have n13 : rd S56 613 f = rd S 613 f := r56 613 f (by decide) (by decide) (by decide) (by decide) (by decide) (by decide) (by decide)
    have n14 : rd S56 614 f = rd S 614 f := r56 614 f (by decide) (by decide) (by decide) (by decide) (by decide) (by decide) (by decide)
    have n93 : rd S56 593 n = rd S 593 n := r56 593 n (by decide) (by decide) (by decide) (by decide) (by decide) (by decide) (by decide)
    have t1 : D_m_told F (Int32.ofNat e) (1 : Int32) S56 = some (eT S e 1) := by rw [told1 he, n9]; rfl
    have t0 : D_m_told F (Int32.ofNat e) (0 : Int32) S56 = some (eT S e 0) := by rw [told0 he, n9]; rfl
    have sp : D_m_span F (rd S 613 f) (rd S 614 f) (eT S e 1) S56 = some (v_blocks (eT S e 1) (rd S 613 f) (rd S 614 f)) := by
      rw [a3, c3, zl2]
      exact m_span (by omega) (by omega) c2 zl1
    have hv : (cond (m_c2 .lt (rd S 604 e) (rd S 593 n)) (some (0 : Int32)) ((some (rd S 607 e)).bind fun v77 => cond (m_c2 .ne (v77 &&& v_blocks (eT S e 1) (rd S 613 f) (rd S 614 f)) (v_blocks (eT S e 1) (rd S 613 f) (rd S 614 f))) (some (0 : Int32)) ((some (eT S e 0)).bind fun v80 => some v80))) = some (v_had S n f (some e)) := by
      simp only [Option.bind_some, m_c2, v_had]
      by_cases z1 : rd S 593 n ≤ rd S 604 e
      · rw [decide_eq_false (Int32.not_lt.mpr z1), cond_false]
        by_cases z2 : v_blocks (eT S e 1) (rd S 613 f) (rd S 614 f) &&& (rd S 607 e ^^^ -1) = 0
        · rw [decide_eq_false (fun w => w (and_bits.mpr z2)), cond_false, if_pos ⟨z1, z2⟩]
        · rw [decide_eq_true (show ¬ rd S 607 e &&& v_blocks (eT S e 1) (rd S 613 f) (rd S 614 f) = v_blocks (eT S e 1) (rd S 613 f) (rd S 614 f) from fun w => z2 (and_bits.mp w)), cond_true, if_neg (fun w => z2 w.2)]
      · rw [decide_eq_true (Int32.not_le.mp z1), cond_true, if_neg (fun w => z1 w.1)]
    refine ⟨up2 S56 625 10 (v_had S n f (some e)), ?_, fun i => by rw [up2_1]; exact i56 i, fun a k h1 h2 h3 h4 h5 h6 h7 => by rw [rd_up2, if_neg (fun z => h7 z.1)]; exact r56 a k h1 h2 h3 h4 h5 h6 h7, fun k => by rw [rd_up2, if_neg (by omega)]; exact o596 k, fun k => by rw [rd_up2, if_neg (by omega)]; exact o609 k, fun k => by rw [rd_up2, if_neg (by omega)]; exact o611 k, fun k => by rw [rd_up2, if_neg (by omega)]; exact o612 k, fun k => by rw [rd_up2, if_neg (by omega)]; exact o615 k, fun k => by rw [rd_up2, if_neg (by omega)]; exact o617 k, fun i hi => ?_⟩
    · rw [ev, show oI (some e) = Int32.ofNat e from rfl, show m_c2 .eq (Int32.ofNat e) ((-1) : Int32) = false from decide_eq_false (oI_ne he), cond_false, t1, Option.bind_some, sp, Option.bind_some, aget_n (Or.inl rfl) he (by decide), Option.bind_some, n4, aget_n (Or.inl rfl) he (by decide), n7, t0, hv, Option.bind_some]
      rfl
    · rw [rd_up2]
      by_cases z : i = 10
      · rw [if_pos ⟨rfl, z⟩, if_pos z]
      · rw [if_neg (fun w => z w.2), if_neg z, hand i hi]
end
