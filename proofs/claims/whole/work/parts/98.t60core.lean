/-! A FETCH becomes a request; FILLs and statuses of any node. -/
def qM (m : Nat → Int32) (l fo : Nat) : Nat → Int32 := fun i => if i = 0 then m 4 else if i = 1 then m 5 else if i = 2 then Int32.ofNat l else if i = 3 then Int32.ofNat fo else if i = 4 then m 6 else if i = 5 then m 7 else if i = 6 then m 9 else if i = 8 then -1 else if i = 9 then -1 else if i = 10 then -1 else if i = 11 then m 8 else if i = 15 then m 1 else if i = 16 then m 3 else if i = 17 then m 10 else 0
section
variable {T : tT} {S S3 : mS} {F n : Nat}
theorem new_req (hN : okN T) : tnw T 6 = some (T.2.1, tadd T (cReq (fun _ => 0) none none none) 19) ∧ (tadd T (cReq (fun _ => 0) none none none) 19).1 T.2.1 = some (cReq (fun _ => 0) none none none) ∧ T.1 T.2.1 = none := by
  refine ⟨rfl, if_pos rfl, ?_⟩
  cases e : T.1 T.2.1 with
  | none => rfl
  | some c => exact absurd (hN _ _ e) (Nat.lt_irrefl _)
theorem Qz6 {a : Nat} {g : Nat → Int32} {c r b : Option Nat} {x : Int32} (hx : flag x) (h9 : T.1 a = some (cReq g c r b)) : tpz T a 6 6 x = some (tset T a (cReq (fup g 6 x) c r b)) := by
  unfold tpz
  rw [if_pos (show x = 0 ∨ x = 1 from hx)]
  exact Qp6 h9
theorem c_req129 (hN : okN T) {am : Nat} {gm m : Nat → Int32} {tm : Option Nat} {l fo : Nat} (hm : T.1 am = some (cMsg gm tm)) (h6 : ∀ i, i < 6 → gm i = m i) (h10 : gm 10 = m 9) (h13 : gm 13 = m 8) (h8 : gm 8 = m 6) (h9 : gm 9 = m 7) (h11 : gm 11 = m 10) (hl : gm 6 = Int32.ofNat l) (hfo : gm 7 = Int32.ofNat fo) (hfl : flag (m 9)) : D_c_Request_init129 F T.2.1 (some am) (tadd T (cReq (fun _ => 0) none none none) 19) = some (tset (tadd T (cReq (fun _ => 0) none none none) 19) T.2.1 (cReq (qM m l fo) none none none)) := by
  obtain ⟨m1, m2, m3⟩ := new_req hN
  have nam : ¬ am = T.2.1 := fun z => by rw [z, m3] at hm; cases hm
  have mm : ∀ X, (tset (tadd T (cReq (fun _ => 0) none none none) 19) T.2.1 X).1 am = some (cMsg gm tm) := fun X => by
    rw [tset_1, if_neg nam, tadd_1, if_neg nam]
    exact hm
  have fl : flag (gm 10) := by rw [h10]; exact hfl
  unfold D_c_Request_init129
  simp only [Qp5 m2, Option.bind_some, Qp8 tset_at, Qp9 tset_at, Qp10 tset_at, tset_tset, Mg4 (mm _), Qp0 tset_at, Mg5 (mm _), Qp1 tset_at, Mg6 (mm _), Qp2 tset_at, Mg7 (mm _), Qp3 tset_at, Mg8 (mm _), Qp4 tset_at, Mg9 (mm _), Qp5 tset_at, Mg10 (mm _), Qz6 fl tset_at, Mg13 (mm _), Qp11 tset_at, Mg1 (mm _), Qp15 tset_at, Mg3 (mm _), Qp16 tset_at, Mg11 (mm _), Qp17 tset_at]
  congr 2
  rw [h6 4 (by decide), h6 5 (by decide), h6 1 (by decide), h6 3 (by decide), hl, hfo, h8, h9, h10, h13, h11]
  rfl
/-- a FILL goes out, whatever the reference did to lay it out -/
theorem fill_core (hF : 23 ≤ F) (hN : okN T) (hH : RHouse T S) (hP : RPost T S) {q e t : Nat} {g d : Nat → Int32} {c r b : Option Nat} {wh mk ag cm bl kp v9 : Int32} (hq : T.1 q = some (cReq g c r b)) (he : T.1 e = some (cEntry (g 0) v9 t wh mk ag cm bl kp)) (ht : T.1 t = some (cTold (g 0) d)) (hk : okT d) (i1 : ∀ j, S3.1 j = S.1 j) (r3 : ∀ a k, ¬ a = 625 → rd S3 a k = rd S a k) (hand : ∀ i, i < 22 → rd S3 625 i = fiRow n g d wh mk (((ag + S.1 36) - cm) - S.1 36) bl i) (g0 : few 32 (g 0)) (g1 : few 4 (g 1)) {ed : Nat} (ed1 : g 15 = Int32.ofNat ed) (hne : (n = 0 ∧ 1 ≤ ed ∧ ed ≤ 2) ∨ (1 ≤ n ∧ n ≤ 2 ∧ 3 ≤ ed ∧ ed ≤ 6)) : ∃ T' S', D_c_EdgeHouse_sendFill F 512 (Int32.ofNat n) (some q) (some e) T = some T' ∧ D_m_post F S3 = some S' ∧ RHouse T' S' ∧ RPost T' S' ∧ FrC [512, 523] T T' ∧ (∀ i, ¬ i = 77 → ¬ i = 39 → S'.1 i = S.1 i) ∧ (∀ b k, ¬ b = 624 → ¬ b = 625 → rd S' b k = rd S b k) ∧ pst S S' (fiRow n g d wh mk (((ag + S.1 36) - cm) - S.1 36) bl) := by
  obtain ⟨m1, m2, m3⟩ := new_msg hN
  let st : Int32 := if g 17 = d 0 then 304 else 200
  let bk : Int32 := if g 17 = d 0 then 0 else bl &&& v_blocks (d 1) (g 4) (g 5)
  let G : Nat → Int32 := fup (fup (fup (fup (fup (fup (fup (fup (fup (fup (fup (fun _ => 0) 0 1) 1 (Int32.ofNat n)) 2 (g 15)) 3 (g 16)) 4 (g 0)) 5 (g 1)) 12 st) 14 wh) 13 mk) 16 ((ag + S.1 36) - cm)) 17 bk
  let Tb : tT := tset (tadd T (cMsg (fun _ => 0) none) 19) T.2.1 (cMsg G (some t))
  have fa : ∀ X x c9, T.1 x = some c9 → (tset (tadd T (cMsg (fun _ => 0) none) 19) T.2.1 X).1 x = some c9 := by
    intro X x c9 hx
    have : ¬ x = T.2.1 := fun z => by rw [z, m3] at hx; cases hx
    rw [tset_1, if_neg this, tadd_1, if_neg this]
    exact hx
  have fb : ∀ x c9, T.1 x = some c9 → (tadd T (cMsg (fun _ => 0) none) 19).1 x = some c9 := by
    intro x c9 hx
    have : ¬ x = T.2.1 := fun z => by rw [z, m3] at hx; cases hx
    rw [tadd_1, if_neg this]
    exact hx
  have bf : ∀ x c9, T.1 x = some c9 → Tb.1 x = some c9 := fun x c9 hx => fa _ x c9 hx
  have bN : okN Tb := by
    intro x c9 hx
    have hx' : (tset (tadd T (cMsg (fun _ => 0) none) 19) T.2.1 (cMsg G (some t))).1 x = some c9 := hx
    rw [tset_1, tadd_1] at hx'
    show x < T.2.1 + 1
    split at hx'
    · omega
    · exact Nat.lt_succ_of_lt (hN x c9 hx')
  have bH : RHouse Tb S3 := by
    show Tb.1 512 = some (house S3.1)
    rw [bf 512 _ hH]
    congr 1
    unfold house
    simp only [i1]
  have bP : RPost Tb S3 := by
    obtain ⟨k, cap, ms, z1, z2, z3, z4, z5⟩ := id hP
    refine ⟨k, cap, ms, by rw [i1]; exact z1, z2, bf _ _ z3, z4, fun j dd hd => ?_⟩
    refine ((z5 j dd hd).same (fun x c hx _ => bf x c hx)).ext (fun i hi => ?_)
    exact r3 _ _ (by decide)
  have h12 : ∀ i, i < 9 → rd S3 625 (12 + i) = d i := by
    intro i hi
    rw [hand _ (by omega)]
    unfold fiRow
    simp only [show ¬ 12 + i = 21 by omega, show ¬ 12 + i = 11 by omega, show ¬ 12 + i = 10 by omega, show ¬ 12 + i = 8 by omega, show ¬ 12 + i = 7 by omega, show ¬ 12 + i = 6 by omega, show ¬ 12 + i = 0 by omega, show ¬ 12 + i = 1 by omega, show ¬ 12 + i = 2 by omega, show ¬ 12 + i = 3 by omega, show ¬ 12 + i = 4 by omega, show ¬ 12 + i = 5 by omega, show 12 ≤ 12 + i by omega, if_false, if_true, show 12 + i - 12 = i by omega]
  have e0 : rd S3 625 0 = 1 := hand 0 (by decide)
  have e1 : rd S3 625 1 = Int32.ofNat n := hand 1 (by decide)
  have e2 : rd S3 625 2 = g 15 := hand 2 (by decide)
  have e3 : rd S3 625 3 = g 16 := hand 3 (by decide)
  have e4 : rd S3 625 4 = g 0 := hand 4 (by decide)
  have e5 : rd S3 625 5 = g 1 := hand 5 (by decide)
  have e6 : rd S3 625 6 = st := hand 6 (by decide)
  have e7 : rd S3 625 7 = d 0 := hand 7 (by decide)
  have e8 : rd S3 625 8 = mk := hand 8 (by decide)
  have e9 : rd S3 625 9 = 0 := hand 9 (by decide)
  have e10 : rd S3 625 10 = ((ag + S.1 36) - cm) - S.1 36 := hand 10 (by decide)
  have e11 : rd S3 625 11 = bk := hand 11 (by decide)
  have e21 : rd S3 625 21 = wh := hand 21 (by decide)
  obtain ⟨T', S', s1, s2, s3, s4, s5, s6, s7, s8⟩ := send_both (F := F) (T := Tb) (S := S3) (a := T.2.1) (g := G) (t := some t) hF bH bP tset_at (fun cap ms h9 hmem => by
    obtain ⟨k, cap', ms', z1, z2, z3, z4, z5⟩ := id hP
    rw [bf _ _ z3] at h9
    cases h9
    obtain ⟨j, hj⟩ := List.mem_iff_getElem?.mp hmem
    obtain ⟨fs, hc⟩ := (z5 j _ hj).cls
    rw [m3] at hc
    cases hc) (fun T2 h2 hsm => by
    refine ⟨_, some t, h2, ?_, ?_, ?_, Or.inr (Or.inl ?_)⟩
    · intro i hi
      match i, hi with
      | 0, _ => exact e0.symm
      | 1, _ => exact e1.symm
      | 2, _ => exact e2.symm
      | 3, _ => exact e3.symm
      | 4, _ => exact e4.symm
      | 5, _ => exact e5.symm
    · exact e9.symm
    · exact e8.symm
    · refine ⟨e0, e6.symm, e21.symm, rfl, e9, by show few 32 (rd S3 625 4); rw [e4]; exact g0, by show few 4 (rd S3 625 5); rw [e5]; exact g1, ⟨n, ed, e1, by show rd S3 625 2 = _; rw [e2, ed1], hne⟩, Or.inr ⟨t, rfl, ?_, ?_, ?_, ?_, ?_, ?_⟩⟩
      · have ht2 := hsm t _ (bf t _ ht) (show (13 : Nat) ∈ [13] by decide)
        rw [ht2]
        congr 1
        show cTold (g 0) d = cTold (rd S3 625 4) (fun i => rd S3 625 (12 + i))
        rw [e4]
        exact cTold_ext (fun i hi => (h12 i hi).symm)
      · exact okT_ext (fun i hi => (h12 i hi).symm) hk
      · have : rd S3 625 12 = d 0 := h12 0 (by omega)
        show rd S3 625 7 = rd S3 625 12
        rw [e7, this]
      · show rd S3 625 6 = 200 ∨ rd S3 625 6 = 304
        rw [e6]
        simp only [st]
        split
        · exact Or.inr rfl
        · exact Or.inl rfl
      · show ((ag + S.1 36) - cm) - S3.1 36 = rd S3 625 10
        rw [e10, i1]
      · exact e11.symm)
  refine ⟨T', S', ?_, s2, s3, s4, ?_, fun i j1 j2 => by rw [s6 i j1 j2, i1], fun x k hx hy => by rw [s7 x k hx, r3 x k hy], s8.of (i1 77) (fun k => r3 624 k (by decide)) hand⟩
  · have cl : tcl Tb 512 0 = some () := tcl_o (bf 512 _ hH)
    have hhad : ∀ X : tT, (cond (m_c2 .ne (g 17) (d 0)) (some (0 : Int32)) (some (1 : Int32))) = some (b2i (decide (g 17 = d 0))) := by
      intro X
      by_cases z : g 17 = d 0 <;> simp [m_c2, z, b2i]
    have hst : (cond (m_c1 .eq (b2i (decide (g 17 = d 0)))) (some (200 : Int32)) (some (304 : Int32))) = some st := by
      by_cases z : g 17 = d 0 <;> simp [m_c1, z, b2i, st]
    have hbk : (cond (m_c1 .eq (b2i (decide (g 17 = d 0)))) (some (bl &&& v_blocks (d 1) (g 4) (g 5))) (some (0 : Int32))) = some bk := by
      by_cases z : g 17 = d 0 <;> simp [m_c1, z, b2i, bk]
    have qq := fun X => fa X q _ hq
    have ee := fun X => fa X e _ he
    have tt := fun X => fa X t _ ht
    have hh := fun X => fa X 512 _ hH
    simp only [D_c_EdgeHouse_sendFill, bd2, m1, Option.bind_some, Qg17 hq, Er2 he, Tg1 ht, hhad T, hst, Qg15 (fb q _ hq), Qg16 (fb q _ hq), D_c_Message_init, Mp0 m2, Mp1 tset_at, Mp2 tset_at, Mp3 tset_at, Mp4 tset_at, Mp5 tset_at, Mp12 tset_at, Mw15 tset_at, Mp14 tset_at, Mp13 tset_at, Mp16 tset_at, Mp17 tset_at, tset_tset, Qg0 (qq _), Qg1 (qq _), Er2 (ee _), Eg3 (ee _), Eg4 (ee _), Hg14 (hh _), tcl_o (ee _), c_ageAt (ee _), Eg7 (ee _), Qg4 (qq _), Qg5 (qq _), tcl_o (tt _), c_blocks (tt _), hbk]
    show ((tcl Tb 512 0).bind fun _ => (D_c_EdgeHouse_send F 512 (some T.2.1) Tb).bind fun T40 => some T40) = some T'
    rw [cl, Option.bind_some, s1]
    rfl
  · refine ⟨fun x c9 hx hl => s5.1 x c9 (bf x c9 hx) (fun z => ?_), fun _ => s5.2.1 bN, Nat.le_trans (Nat.le_succ _) s5.2.2.1, Nat.le_trans (Nat.le_add_right _ _) s5.2.2.2⟩
    have : ¬ x = T.2.1 := fun e => by rw [e, m3] at hx; cases hx
    simp only [List.mem_cons, List.mem_nil_iff, or_false] at z hl
    rcases z with z | z | z
    · exact hl (Or.inl z)
    · exact hl (Or.inr z)
    · exact this z
/-- a status goes out -/
theorem status_core (hF : 23 ≤ F) (hN : okN T) (hH : RHouse T S) (hP : RPost T S) {q : Nat} {g : Nat → Int32} {c r b : Option Nat} (hq : T.1 q = some (cReq g c r b)) {st : Int32} (hst : st = 404 ∨ st = 504) (i1 : ∀ j, S3.1 j = S.1 j) (r3 : ∀ a k, ¬ a = 625 → rd S3 a k = rd S a k) (hand : ∀ i, i < 22 → rd S3 625 i = stRow n g st i) (g0 : few 32 (g 0)) (g1 : few 4 (g 1)) {ed : Nat} (ed1 : g 15 = Int32.ofNat ed) (hne : (n = 0 ∧ 1 ≤ ed ∧ ed ≤ 2) ∨ (1 ≤ n ∧ n ≤ 2 ∧ 3 ≤ ed ∧ ed ≤ 6)) : ∃ T' S', D_c_EdgeHouse_sendStatus F 512 (Int32.ofNat n) (some q) st T = some T' ∧ D_m_post F S3 = some S' ∧ RHouse T' S' ∧ RPost T' S' ∧ FrC [512, 523] T T' ∧ (∀ i, ¬ i = 77 → ¬ i = 39 → S'.1 i = S.1 i) ∧ (∀ b k, ¬ b = 624 → ¬ b = 625 → rd S' b k = rd S b k) ∧ pst S S' (stRow n g st) := by
  obtain ⟨m1, m2, m3⟩ := new_msg hN
  let G : Nat → Int32 := fup (fup (fup (fup (fup (fup (fup (fun _ => 0) 0 1) 1 (Int32.ofNat n)) 2 (g 15)) 3 (g 16)) 4 (g 0)) 5 (g 1)) 12 st
  let Tb : tT := tset (tadd T (cMsg (fun _ => 0) none) 19) T.2.1 (cMsg G none)
  have fa : ∀ X x c9, T.1 x = some c9 → (tset (tadd T (cMsg (fun _ => 0) none) 19) T.2.1 X).1 x = some c9 := by
    intro X x c9 hx
    have : ¬ x = T.2.1 := fun z => by rw [z, m3] at hx; cases hx
    rw [tset_1, if_neg this, tadd_1, if_neg this]
    exact hx
  have fb : ∀ x c9, T.1 x = some c9 → (tadd T (cMsg (fun _ => 0) none) 19).1 x = some c9 := by
    intro x c9 hx
    have : ¬ x = T.2.1 := fun z => by rw [z, m3] at hx; cases hx
    rw [tadd_1, if_neg this]
    exact hx
  have bf : ∀ x c9, T.1 x = some c9 → Tb.1 x = some c9 := fun x c9 hx => fa _ x c9 hx
  have bN : okN Tb := by
    intro x c9 hx
    have hx' : (tset (tadd T (cMsg (fun _ => 0) none) 19) T.2.1 (cMsg G none)).1 x = some c9 := hx
    rw [tset_1, tadd_1] at hx'
    show x < T.2.1 + 1
    split at hx'
    · omega
    · exact Nat.lt_succ_of_lt (hN x c9 hx')
  have bH : RHouse Tb S3 := by
    show Tb.1 512 = some (house S3.1)
    rw [bf 512 _ hH]
    congr 1
    unfold house
    simp only [i1]
  have bP : RPost Tb S3 := by
    obtain ⟨k, cap, ms, z1, z2, z3, z4, z5⟩ := id hP
    refine ⟨k, cap, ms, by rw [i1]; exact z1, z2, bf _ _ z3, z4, fun j dd hd => ?_⟩
    refine ((z5 j dd hd).same (fun x c hx _ => bf x c hx)).ext (fun i hi => ?_)
    exact r3 _ _ (by decide)
  have e0 : rd S3 625 0 = 1 := hand 0 (by decide)
  have e1 : rd S3 625 1 = Int32.ofNat n := hand 1 (by decide)
  have e2 : rd S3 625 2 = g 15 := hand 2 (by decide)
  have e3 : rd S3 625 3 = g 16 := hand 3 (by decide)
  have e4 : rd S3 625 4 = g 0 := hand 4 (by decide)
  have e5 : rd S3 625 5 = g 1 := hand 5 (by decide)
  have e6 : rd S3 625 6 = st := hand 6 (by decide)
  have e7 : rd S3 625 7 = 0 := hand 7 (by decide)
  have e8 : rd S3 625 8 = 0 := hand 8 (by decide)
  have e9 : rd S3 625 9 = 0 := hand 9 (by decide)
  have e12 : rd S3 625 12 = 0 := hand 12 (by decide)
  have e21 : rd S3 625 21 = 0 := hand 21 (by decide)
  obtain ⟨T', S', s1, s2, s3, s4, s5, s6, s7, s8⟩ := send_both (F := F) (T := Tb) (S := S3) (a := T.2.1) (g := G) (t := none) hF bH bP tset_at (fun cap ms h9 hmem => by
    obtain ⟨k, cap', ms', z1, z2, z3, z4, z5⟩ := id hP
    rw [bf _ _ z3] at h9
    cases h9
    obtain ⟨j, hj⟩ := List.mem_iff_getElem?.mp hmem
    obtain ⟨fs, hc⟩ := (z5 j _ hj).cls
    rw [m3] at hc
    cases hc) (fun T2 h2 hsm => by
    refine ⟨_, none, h2, ?_, ?_, ?_, Or.inr (Or.inl ?_)⟩
    · intro i hi
      match i, hi with
      | 0, _ => exact e0.symm
      | 1, _ => exact e1.symm
      | 2, _ => exact e2.symm
      | 3, _ => exact e3.symm
      | 4, _ => exact e4.symm
      | 5, _ => exact e5.symm
    · exact e9.symm
    · exact e8.symm
    · refine ⟨e0, e6.symm, e21.symm, rfl, e9, by show few 32 (rd S3 625 4); rw [e4]; exact g0, by show few 4 (rd S3 625 5); rw [e5]; exact g1, ⟨n, ed, e1, by show rd S3 625 2 = _; rw [e2, ed1], hne⟩, Or.inl ⟨rfl, e7, e12, by show rd S3 625 6 = 404 ∨ rd S3 625 6 = 504; rw [e6]; exact hst⟩⟩)
  refine ⟨T', S', ?_, s2, s3, s4, ?_, fun i j1 j2 => by rw [s6 i j1 j2, i1], fun x k hx hy => by rw [s7 x k hx, r3 x k hy], s8.of (i1 77) (fun k => r3 624 k (by decide)) hand⟩
  · have cl : tcl Tb 512 0 = some () := tcl_o (bf 512 _ hH)
    have qq := fun X => fa X q _ hq
    simp only [D_c_EdgeHouse_sendStatus, bd2, m1, Option.bind_some, Qg15 (fb q _ hq), Qg16 (fb q _ hq), D_c_Message_init, Mp0 m2, Mp1 tset_at, Mp2 tset_at, Mp3 tset_at, Mp4 tset_at, Mp5 tset_at, Mp12 tset_at, tset_tset, Qg0 (qq _), Qg1 (qq _)]
    show ((tcl Tb 512 0).bind fun _ => (D_c_EdgeHouse_send F 512 (some T.2.1) Tb).bind fun T40 => some T40) = some T'
    rw [cl, Option.bind_some, s1]
    rfl
  · refine ⟨fun x c9 hx hl => s5.1 x c9 (bf x c9 hx) (fun z => ?_), fun _ => s5.2.1 bN, Nat.le_trans (Nat.le_succ _) s5.2.2.1, Nat.le_trans (Nat.le_add_right _ _) s5.2.2.2⟩
    have : ¬ x = T.2.1 := fun e => by rw [e, m3] at hx; cases hx
    simp only [List.mem_cons, List.mem_nil_iff, or_false] at z hl
    rcases z with z | z | z
    · exact hl (Or.inl z)
    · exact hl (Or.inr z)
    · exact this z
end
def v_lows (len last : Int32) : Int32 := ((1 : Int32) <<< ((if ((len + (15 : Int32)) >>> ((4 : Int32) &&& 31)) < (last + (1 : Int32)) then ((len + (15 : Int32)) >>> ((4 : Int32) &&& 31)) else (last + (1 : Int32))) &&& 31)) - (1 : Int32)
theorem blk_all : (List.range 256).all (fun z => (List.range 16).all fun l => decide ((v_blocks (Int32.ofNat z) 0 15 &&& v_lows (Int32.ofNat z) (Int32.ofNat l)) = v_lows (Int32.ofNat z) (Int32.ofNat l))) = true := by decide +kernel
theorem blk_sub {z l : Nat} {f : Int32} (hz : z < 256) (hl : l < 16) : v_blocks (Int32.ofNat z) 0 15 &&& v_blocks (Int32.ofNat z) f (Int32.ofNat l) = v_blocks (Int32.ofNat z) f (Int32.ofNat l) := by
  have h := of_decide_eq_true (List.all_eq_true.mp (List.all_eq_true.mp blk_all z (List.mem_range.mpr hz)) l (List.mem_range.mpr hl))
  have e : v_blocks (Int32.ofNat z) f (Int32.ofNat l) = v_lows (Int32.ofNat z) (Int32.ofNat l) &&& (((-1) : Int32) <<< (f &&& 31)) := rfl
  rw [e, ← Int32.and_assoc, h]
