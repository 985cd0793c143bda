/-! FILL messages with a thing, in both. -/
theorem cTold_ext {p : Int32} {d d' : Nat → Int32} (h : ∀ i, i < 9 → d i = d' i) : cTold p d = cTold p d' := by
  unfold cTold
  rw [h 0 (by omega), h 1 (by omega), h 2 (by omega), h 3 (by omega), h 4 (by omega), h 5 (by omega), h 6 (by omega), h 7 (by omega), h 8 (by omega)]
theorem okT_ext {d d' : Nat → Int32} (h : ∀ i, i < 9 → d i = d' i) (hk : okT d) : okT d' := by
  unfold okT at hk ⊢
  rw [← h 0 (by omega), ← h 1 (by omega), ← h 2 (by omega), ← h 3 (by omega), ← h 4 (by omega), ← h 5 (by omega), ← h 6 (by omega), ← h 7 (by omega), ← h 8 (by omega)]
  exact hk
section
variable {F : Nat}
theorem m_give_loop : ∀ (m i : Nat) (S : mS), i + m = 9 → ∀ f, m < f → ∃ S2, D_m_give_209 F f (Int32.ofNat i) S = (D_m_post F S2).bind (fun S57 => some S57) ∧ (∀ j, S2.1 j = S.1 j) ∧ ∀ a k, rd S2 a k = if a = 625 ∧ 12 + i ≤ k ∧ k < 21 then rd S 626 (k - 12) else rd S a k := by
  intro m
  induction m with
  | zero =>
    intro i S h f hf
    obtain ⟨f, rfl⟩ : ∃ f9, f = f9 + 1 := ⟨f - 1, by omega⟩
    rw [D_m_give_209, show (9 : Int32) = Int32.ofNat 9 from rfl, ge_n (by omega) (by omega), decide_eq_true (by omega), cond_true]
    exact ⟨S, rfl, fun _ => rfl, fun a k => by rw [if_neg (by omega)]⟩
  | succ m ih =>
    intro i S h f hf
    obtain ⟨f, rfl⟩ : ∃ f9, f = f9 + 1 := ⟨f - 1, by omega⟩
    rw [D_m_give_209, show (9 : Int32) = Int32.ofNat 9 from rfl, ge_n (by omega) (by omega), decide_eq_false (by omega), cond_false, aget_n (Or.inl rfl) (by omega) (by decide), Option.bind_some, show (12 : Int32) + Int32.ofNat i = Int32.ofNat (12 + i) from m_n_add 12 i, aput_n (by omega) (by decide), Option.bind_some, q1]
    obtain ⟨S2, g1, g2, g3⟩ := ih (i + 1) (up2 S 625 (12 + i) (rd S 626 i)) (by omega) f (by omega)
    refine ⟨S2, g1, fun j => by rw [g2, up2_1], fun a k => ?_⟩
    rw [g3]
    simp only [rd_up2, show ¬ (626 = 625) by decide, false_and, if_false]
    by_cases e : a = 625
    · subst e
      by_cases e2 : k = 12 + i
      · subst e2
        simp only [true_and, if_neg (show ¬ (12 + (i + 1) ≤ 12 + i ∧ 12 + i < 21) by omega), if_true, if_pos (show 12 + i ≤ 12 + i ∧ 12 + i < 21 by omega)]
        congr 1
        omega
      · by_cases e3 : 12 + (i + 1) ≤ k ∧ k < 21
        · simp only [true_and, if_pos e3, if_pos (show 12 + i ≤ k ∧ k < 21 by omega)]
        · simp only [true_and, if_neg e3, if_neg e2, if_neg (show ¬ (12 + i ≤ k ∧ k < 21) by omega)]
    · simp only [e, false_and, if_false]
end
/-- what is given now is what the entry holds -/
def isNow (S : mS) (d : Nat → Int32) (wh mk ag bl : Int32) : Prop := (∀ i, i < 9 → rd S 626 i = d i) ∧ S.1 84 = mk ∧ S.1 85 = ag ∧ S.1 86 = bl ∧ S.1 87 = wh
section
variable {T : tT} {S : mS} {F w n : Nat}
def fiRow (n : Nat) (g d : Nat → Int32) (wh mk ag bl : Int32) : Nat → Int32 := fun i => if i = 21 then wh else if i = 11 then (if g 17 = d 0 then 0 else bl &&& v_blocks (d 1) (g 4) (g 5)) else if i = 10 then ag else if i = 8 then mk else if i = 7 then d 0 else if i = 6 then (if g 17 = d 0 then 304 else 200) else if i = 0 then 1 else if i = 1 then Int32.ofNat n else if i = 2 then g 15 else if i = 3 then g 16 else if i = 4 then g 0 else if i = 5 then g 1 else if 12 ≤ i then d (i - 12) else 0
theorem fill_both (hF : 23 ≤ F) (hN : okN T) (hH : RHouse T S) (hP : RPost T S) {q e t : Nat} {g d : Nat → Int32} {c r b : Option Nat} {wh mk ag cm bl kp how v9 : Int32} (hq : T.1 q = some (cReq g c r b)) (hw : isFq S w n g) (hfl : ∃ f l, f < 16 ∧ l < 16 ∧ g 4 = Int32.ofNat f ∧ g 5 = Int32.ofNat l ∧ rd S 622 (w + 5) = Int32.ofNat f ∧ rd S 622 (w + 6) = Int32.ofNat l) (he : T.1 e = some (cEntry (g 0) v9 t wh mk ag cm bl kp)) (ht : T.1 t = some (cTold (g 0) d)) (hk : okT d) (hnow : isNow S d wh mk ((ag + S.1 36) - cm) bl) : ∃ T' S', D_c_EdgeHouse_sendFill F 512 (Int32.ofNat n) (some q) (some e) T = some T' ∧ D_m_give F (Int32.ofNat w) how S = some S' ∧ RHouse T' S' ∧ RPost T' S' ∧ FrC [512, 523] T T' ∧ (∀ i, ¬ i = 77 → ¬ i = 39 → S'.1 i = S.1 i) ∧ (∀ b k, ¬ b = 624 → ¬ b = 625 → rd S' b k = rd S b k) ∧ pst S S' (fiRow n g d wh mk (((ag + S.1 36) - cm) - S.1 36) bl) := by
  obtain ⟨hw0, w2, w0, w3, w4, w9, hn, ⟨ed, ed1, ed2, ed3⟩, p, v, hp, hv, g0, g1, w1⟩ := hw
  obtain ⟨fi, la, hfi, hla, f4, f5, w5, w6⟩ := hfl
  obtain ⟨n1, n2, n3, n4, n5⟩ := hnow
  obtain ⟨zl, zl1, zl2⟩ := hk.2.2.1
  obtain ⟨m1, m2, m3⟩ := new_msg hN
  have hqa : ¬ q = T.2.1 := fun z => by rw [z, m3] at hq; cases hq
  have hea : ¬ e = T.2.1 := fun z => by rw [z, m3] at he; cases he
  have hta : ¬ t = T.2.1 := fun z => by rw [z, m3] at ht; cases ht
  have hHa : ¬ 512 = T.2.1 := fun z => by rw [← z] at m3; rw [show T.1 512 = some (house S.1) from hH] at m3; cases m3
  obtain ⟨S1, b1, b2, b3⟩ := m_blank (F := F) (S := S) (x1 := 1) (x2 := Int32.ofNat n) (x3 := g 15) (x4 := g 16) (key := 4 * p + v) hF (by omega)
  have a0 : aget 0 48000 S 622 (Int32.ofNat w) = some (rd S 622 w) := aget_n (Or.inl rfl) (by omega) (by decide)
  let st : Int32 := if g 17 = d 0 then 304 else 200
  let bk : Int32 := if g 17 = d 0 then 0 else bl &&& v_blocks (d 1) (g 4) (g 5)
  let G : Nat → Int32 := fup (fup (fup (fup (fup (fup (fup (fup (fup (fup (fup (fun _ => 0) 0 1) 1 (Int32.ofNat n)) 2 (g 15)) 3 (g 16)) 4 (g 0)) 5 (g 1)) 12 st) 14 wh) 13 mk) 16 ((ag + S.1 36) - cm)) 17 bk
  let Tb : tT := tset (tadd T (cMsg (fun _ => 0) none) 19) T.2.1 (cMsg G (some t))
  let S2 : mS := up2 (up2 (up2 (up2 (up2 (up2 S1 625 6 st) 625 7 (d 0)) 625 8 mk) 625 10 (((ag + S.1 36) - cm) - S.1 36)) 625 11 bk) 625 21 wh
  obtain ⟨S3, l1, l2, l3⟩ := m_give_loop (F := F) 9 0 S2 rfl F (by omega)
  have fa : ∀ X x c9, T.1 x = some c9 → (tset (tadd T (cMsg (fun _ => 0) none) 19) T.2.1 X).1 x = some c9 := by
    intro X x c9 hx
    have : ¬ x = T.2.1 := fun z => by rw [z, m3] at hx; cases hx
    rw [tset_1, if_neg this, tadd_1, if_neg this]
    exact hx
  have fb : ∀ x c9, T.1 x = some c9 → (tadd T (cMsg (fun _ => 0) none) 19).1 x = some c9 := by
    intro x c9 hx
    have : ¬ x = T.2.1 := fun z => by rw [z, m3] at hx; cases hx
    rw [tadd_1, if_neg this]
    exact hx
  have bf : ∀ x c9, T.1 x = some c9 → Tb.1 x = some c9 := fun x c9 hx => fa _ x c9 hx
  have bN : okN Tb := by
    intro x c9 hx
    have hx' : (tset (tadd T (cMsg (fun _ => 0) none) 19) T.2.1 (cMsg G (some t))).1 x = some c9 := hx
    rw [tset_1, tadd_1] at hx'
    show x < T.2.1 + 1
    split at hx'
    · omega
    · exact Nat.lt_succ_of_lt (hN x c9 hx')
  have i1 : ∀ j, S3.1 j = S.1 j := fun j => by rw [l2]; show S1.1 j = _; rw [b2]
  have r3 : ∀ a k, ¬ a = 625 → rd S3 a k = rd S a k := by
    intro a k ha
    rw [l3, if_neg (fun z => ha z.1)]
    simp only [S2, rd_up2, ha, false_and, if_false]
    rw [b3, if_neg (fun z => ha z.1)]
  have bH : RHouse Tb S3 := by
    show Tb.1 512 = some (house S3.1)
    rw [bf 512 _ hH]
    congr 1
    unfold house
    simp only [i1]
  have bP : RPost Tb S3 := by
    obtain ⟨k, cap, ms, z1, z2, z3, z4, z5⟩ := id hP
    refine ⟨k, cap, ms, by rw [i1]; exact z1, z2, bf _ _ z3, z4, fun j dd hd => ?_⟩
    refine ((z5 j dd hd).same (fun x c hx _ => bf x c hx)).ext (fun i hi => ?_)
    exact r3 _ _ (by decide)
  have h12 : ∀ i, i < 9 → rd S3 625 (12 + i) = d i := by
    intro i hi
    rw [l3, if_pos ⟨rfl, by omega, by omega⟩, show 12 + i - 12 = i by omega]
    simp only [S2, rd_up2, show ¬ (626 = 625) by decide, false_and, if_false]
    rw [b3, if_neg (by omega)]
    exact n1 i hi
  have hand : ∀ i, i < 12 ∨ i = 21 → rd S3 625 i = if i = 21 then wh else if i = 11 then bk else if i = 10 then ((ag + S.1 36) - cm) - S.1 36 else if i = 8 then mk else if i = 7 then d 0 else if i = 6 then st else if i = 0 then 1 else if i = 1 then Int32.ofNat n else if i = 2 then g 15 else if i = 3 then g 16 else if i = 4 then Int32.ofNat p else if i = 5 then Int32.ofNat v else 0 := by
    intro i hi
    rw [l3, if_neg (by omega)]
    simp only [S2, rd_up2, true_and]
    rw [b3, if_pos (show 625 = 625 ∧ i < 22 from ⟨rfl, by omega⟩), show (4 * p + v) / 4 = p by omega, show (4 * p + v) % 4 = v by omega]
  obtain ⟨T', S', s1, s2, s3, s4, s5, s6, s7, s8⟩ := send_both (F := F) (T := Tb) (S := S3) (a := T.2.1) (g := G) (t := some t) hF bH bP tset_at (fun cap ms h9 hmem => by
    obtain ⟨k, cap', ms', z1, z2, z3, z4, z5⟩ := id hP
    rw [bf _ _ z3] at h9
    cases h9
    obtain ⟨j, hj⟩ := List.mem_iff_getElem?.mp hmem
    obtain ⟨fs, hc⟩ := (z5 j _ hj).cls
    rw [m3] at hc
    cases hc) (fun T2 h2 hsm => by
    refine ⟨_, some t, h2, ?_, ?_, ?_, Or.inr (Or.inl ?_)⟩
    · intro i hi
      match i, hi with
      | 0, _ => simp [fup, G, hand]
      | 1, _ => simp [fup, G, hand]
      | 2, _ => simp [fup, G, hand]
      | 3, _ => simp [fup, G, hand]
      | 4, _ => simp [fup, G, hand, g0]
      | 5, _ => simp [fup, G, hand, g1]
    · simp [fup, G, hand]
    · simp [fup, G, hand]
    · refine ⟨by simp [hand], by simp [fup, G, hand], by simp [fup, G, hand], by simp [fup, G], by simp [hand], ⟨p, hp, by simp [hand]⟩, ⟨v, hv, by simp [hand]⟩, ⟨n, ed, by simp [hand], by simp [hand, ed1], by omega⟩, Or.inr ⟨t, rfl, ?_, ?_, ?_, ?_, ?_, ?_⟩⟩
      · have ht2 := hsm t _ (bf t _ ht) (show (13 : Nat) ∈ [13] by decide)
        rw [ht2]
        congr 1
        show cTold (g 0) d = cTold (rd S3 625 4) (fun i => rd S3 625 (12 + i))
        rw [hand 4 (by omega)]
        simp only [show ¬ (4 = 21) by decide, show ¬ (4 = 11) by decide, show ¬ (4 = 10) by decide, show ¬ (4 = 8) by decide, show ¬ (4 = 7) by decide, show ¬ (4 = 6) by decide, show ¬ (4 = 0) by decide, show ¬ (4 = 1) by decide, show ¬ (4 = 2) by decide, show ¬ (4 = 3) by decide, if_false, if_true]
        rw [g0]
        exact cTold_ext (fun i hi => (h12 i hi).symm)
      · exact okT_ext (fun i hi => (h12 i hi).symm) hk
      · have : rd S3 625 12 = d 0 := h12 0 (by omega)
        simp [hand, this]
      · show rd S3 625 6 = 200 ∨ rd S3 625 6 = 304
        rw [hand 6 (by omega)]
        simp only [show ¬ (6 = 21) by decide, show ¬ (6 = 11) by decide, show ¬ (6 = 10) by decide, show ¬ (6 = 8) by decide, show ¬ (6 = 7) by decide, if_false, if_true, st]
        split
        · exact Or.inr rfl
        · exact Or.inl rfl
      · simp [fup, G, hand, i1]
      · simp [fup, G, hand])
  refine ⟨T', S', ?_, ?_, s3, s4, ?_, fun i j1 j2 => by rw [s6 i j1 j2, i1], fun x k hx hy => by rw [s7 x k hx, r3 x k hy], s8.of (i1 77) (fun k => r3 624 k (by decide)) (fun i hi => by
    unfold fiRow
    by_cases z : i < 12 ∨ i = 21
    · rw [hand i z, g0, g1]
      rcases z with z | z
      · simp only [show ¬ 12 ≤ i by omega, if_false]
        rfl
      · rw [z]
        rfl
    · have h := h12 (i - 12) (by omega)
      rw [show 12 + (i - 12) = i by omega] at h
      rw [h]
      simp only [show ¬ i = 21 by omega, show ¬ i = 11 by omega, show ¬ i = 10 by omega, show ¬ i = 8 by omega, show ¬ i = 7 by omega, show ¬ i = 6 by omega, show ¬ i = 0 by omega, show ¬ i = 1 by omega, show ¬ i = 2 by omega, show ¬ i = 3 by omega, show ¬ i = 4 by omega, show ¬ i = 5 by omega, show 12 ≤ i by omega, if_false, if_true])⟩
  · have cl : tcl Tb 512 0 = some () := tcl_o (bf 512 _ hH)
    have hhad : ∀ X : tT, (cond (m_c2 .ne (g 17) (d 0)) (some (0 : Int32)) (some (1 : Int32))) = some (b2i (decide (g 17 = d 0))) := by
      intro X
      by_cases z : g 17 = d 0 <;> simp [m_c2, z, b2i]
    have hst : (cond (m_c1 .eq (b2i (decide (g 17 = d 0)))) (some (200 : Int32)) (some (304 : Int32))) = some st := by
      by_cases z : g 17 = d 0 <;> simp [m_c1, z, b2i, st]
    have hbk : (cond (m_c1 .eq (b2i (decide (g 17 = d 0)))) (some (bl &&& v_blocks (d 1) (g 4) (g 5))) (some (0 : Int32))) = some bk := by
      by_cases z : g 17 = d 0 <;> simp [m_c1, z, b2i, bk]
    have qq := fun X => fa X q _ hq
    have ee := fun X => fa X e _ he
    have tt := fun X => fa X t _ ht
    have hh := fun X => fa X 512 _ hH
    simp only [D_c_EdgeHouse_sendFill, bd2, m1, Option.bind_some, Qg17 hq, Er2 he, Tg1 ht, hhad T, hst, Qg15 (fb q _ hq), Qg16 (fb q _ hq), D_c_Message_init, Mp0 m2, Mp1 tset_at, Mp2 tset_at, Mp3 tset_at, Mp4 tset_at, Mp5 tset_at, Mp12 tset_at, Mw15 tset_at, Mp14 tset_at, Mp13 tset_at, Mp16 tset_at, Mp17 tset_at, tset_tset, Qg0 (qq _), Qg1 (qq _), Er2 (ee _), Eg3 (ee _), Eg4 (ee _), Hg14 (hh _), tcl_o (ee _), c_ageAt (ee _), Eg7 (ee _), Qg4 (qq _), Qg5 (qq _), tcl_o (tt _), c_blocks (tt _), hbk]
    show ((tcl Tb 512 0).bind fun _ => (D_c_EdgeHouse_send F 512 (some T.2.1) Tb).bind fun T40 => some T40) = some T'
    rw [cl, Option.bind_some, s1]
    rfl
  · have hu : ∀ (X : mS) (k : Nat) (x : Int32), k < 22 → aput 22 X 625 (Int32.ofNat k) x = some (up2 X 625 k x) := fun X k x hk => h625 hk
    have e6 : ∀ (X : mS) (x : Int32), aput 22 X 625 (6 : Int32) x = some (up2 X 625 6 x) := fun X x => hu X 6 x (by decide)
    have e7 : ∀ (X : mS) (x : Int32), aput 22 X 625 (7 : Int32) x = some (up2 X 625 7 x) := fun X x => hu X 7 x (by decide)
    have e8 : ∀ (X : mS) (x : Int32), aput 22 X 625 (8 : Int32) x = some (up2 X 625 8 x) := fun X x => hu X 8 x (by decide)
    have e10 : ∀ (X : mS) (x : Int32), aput 22 X 625 (10 : Int32) x = some (up2 X 625 10 x) := fun X x => hu X 10 x (by decide)
    have e11 : ∀ (X : mS) (x : Int32), aput 22 X 625 (11 : Int32) x = some (up2 X 625 11 x) := fun X x => hu X 11 x (by decide)
    have e21 : ∀ (X : mS) (x : Int32), aput 22 X 625 (21 : Int32) x = some (up2 X 625 21 x) := fun X x => hu X 21 x (by decide)
    have o0 : ∀ (X : mS), aget 0 9 X 626 (0 : Int32) = some (rd X 626 0) := fun X => aget_n (k := 0) (Or.inl rfl) (by decide) (by decide)
    have o1 : ∀ (X : mS), aget 0 9 X 626 (1 : Int32) = some (rd X 626 1) := fun X => aget_n (k := 1) (Or.inl rfl) (by decide) (by decide)
    have r1 : ∀ k, rd S1 622 k = rd S 622 k := fun k => by rw [b3, if_neg (by omega)]
    have r6 : ∀ k, rd S1 626 k = rd S 626 k := fun k => by rw [b3, if_neg (by omega)]
    have sp : ∀ X : mS, D_m_span F (Int32.ofNat fi) (Int32.ofNat la) (d 1) X = some (v_blocks (d 1) (g 4) (g 5)) := fun X => by
      rw [zl2, f4, f5]
      exact m_span (by omega) (by omega) hla zl1
    have hhad : (cond (m_c2 .ne (g 17) (d 0)) (some (0 : Int32)) (some (1 : Int32))) = some (b2i (decide (g 17 = d 0))) := by
      by_cases z : g 17 = d 0 <;> simp [m_c2, z, b2i]
    have hst : (cond (m_c1 .eq (b2i (decide (g 17 = d 0)))) (some (200 : Int32)) (some (304 : Int32))) = some st := by
      by_cases z : g 17 = d 0 <;> simp [m_c1, z, b2i, st]
    have hbk : (cond (m_c1 .eq (b2i (decide (g 17 = d 0)))) (some (bl &&& v_blocks (d 1) (g 4) (g 5))) (some (0 : Int32))) = some bk := by
      by_cases z : g 17 = d 0 <;> simp [m_c1, z, b2i, bk]
    unfold D_m_give
    rw [wait2 hw0, Option.bind_some, w2, show m_c2 .eq (-1 : Int32) (-1) = true from rfl, cond_true, a0, wait3 hw0, wait4 hw0, wait1 hw0]
    simp only [Option.bind_some, w0, w3, w4, w1, b1, wait9 hw0, wait5 hw0, wait6 hw0, r1, w9, o0, o1, r6, n1 0 (by decide), n1 1 (by decide), hhad, hst, e6, e7, e8, e10, e11, e21, up2_1, b2, n2, n3, n4, n5, rd_up2, show ¬ (622 = 625) by decide, show ¬ (626 = 625) by decide, false_and, if_false, w5, w6, sp, hbk]
    show D_m_give_209 F F (Int32.ofNat 0) S2 = some S'
    rw [l1, s2]
    rfl
  · refine ⟨fun x c9 hx hl => s5.1 x c9 (bf x c9 hx) (fun z => ?_), fun _ => s5.2.1 bN, Nat.le_trans (Nat.le_succ _) s5.2.2.1, Nat.le_trans (Nat.le_add_right _ _) s5.2.2.2⟩
    have : ¬ x = T.2.1 := fun e => by rw [e, m3] at hx; cases hx
    simp only [List.mem_cons, List.mem_nil_iff, or_false] at z hl
    rcases z with z | z | z
    · exact hl (Or.inl z)
    · exact hl (Or.inr z)
    · exact this z
end
