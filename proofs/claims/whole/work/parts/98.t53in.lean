/-! The taking in: up to the old entry's going. -/
section
variable {T : tT} {S : mS} {X Y : Nat → List (Nat × Nat)} {Z : Nat → List Fz} {Q : List Rq} {c F n f : Nat} {rs : List Nat}
theorem in_old (hF : 4001 ≤ F) {pp v la fo wh am fa t : Nat} {gm g : Nat → Int32} {hd tl : Option Nat} (hp : pp < 32) (hv : v < 4) (hw : wh < 8) (h1 : 1 ≤ n) (h2 : n < 7) (hf : f = 128 * n + (4 * pp + v)) (h : RBx T S X Y Z Q rs c f) (hno : ∀ m, 1 ≤ m → m < 7 → ∀ x ∈ Z m, ¬ x.2.1 = f) (hm : T.1 am = some (cMsg gm (some t))) (ht : T.1 t = some (cTold (came S 4) (fun i => came S (12 + i)))) (hfa : T.1 fa = some (cFetch g hd tl)) (g0 : g 0 = Int32.ofNat pp) (g1 : g 1 = Int32.ofNat v) (g2 : g 2 = Int32.ofNat la) (g3 : g 3 = Int32.ofNat fo) (hwh : v_which (came S 20) (Int32.ofNat la) (Int32.ofNat fo) = Int32.ofNat wh) (m13 : gm 13 = came S 8) (m16 : gm 16 - gm 18 = came S 10) (m17 : gm 17 = came S 11) :
    ∃ T2 S2 g' X2 Y2, D_c_EdgeHouse_takeIn F 512 (some (527 + 8 * n)) (some fa) (some am) T = some (some T.2.1, T2) ∧ D_m_takeIn F (Int32.ofNat n) (Int32.ofNat f) (Int32.ofNat (8 * f + wh)) S = D_m_takeIn_13 F (g' + 1) (Int32.ofNat n) (Int32.ofNat f) (Int32.ofNat (8 * f + wh)) (Int32.ofNat (8 * f + 8)) S2 ∧ RBx T2 (up2 S2 601 (8 * f + wh) 0) X2 Y2 Z Q rs c f ∧ T2.1 T.2.1 = some (eNew S pp v t wh (inBl S2 (8 * f + wh)) (inKp S2 (8 * f + wh))) ∧ (∀ m, 1 ≤ m → m < 7 → ∀ r ∈ X2 m ++ Y2 m, ¬ r.1 = T.2.1) ∧ (∀ r ∈ X2 n ++ Y2 n, ¬ r.2 = 8 * f + wh) ∧ (∀ a k, ¬ a = 601 → ¬ (a = 609 ∧ k = f) → rd S2 a k = rd S a k) ∧ rd S2 609 f = 0 ∧ (∀ i, S2.1 i = S.1 i) ∧ (∀ k, rd S2 601 k = if 8 * f ≤ k ∧ k < 8 * f + 8 then (if ¬ rd S 601 k = 0 ∧ eT S k 8 = came S 20 then 1 else 0) else rd S 601 k) ∧ Cs T T2 1 9 ∧ ∀ b x, T.1 b = some x → ¬ kd x = 21 → T2.1 b = some x := by
  have hN : okN T := h.1.1.1
  obtain ⟨m1, m2, m3⟩ := new_entry hN
  have ne : ∀ {b x}, T.1 b = some x → ¬ b = T.2.1 := fun hb w => by rw [w, m3] at hb; cases hb
  obtain ⟨a, ha⟩ : ∃ a, a = T.2.1 := ⟨_, rfl⟩
  obtain ⟨T72, hT72⟩ : ∃ x, x = tset (tadd T eBlank 9) T.2.1 (eNew S pp v t wh (came S 11) 0) := ⟨_, rfl⟩
  have oo : ∀ b x, T.1 b = some x → T72.1 b = some x := fun b x hb => by
    rw [hT72, tset_1, if_neg (ne hb), tadd_1, if_neg (ne hb)]; exact hb
  have e72 : T72.1 a = some (eNew S pp v t wh (came S 11) 0) := by rw [hT72, ha]; exact tset_at
  have cs72 : Cs T T72 1 9 := by
    rw [hT72]
    exact ((Cs.new (T := T) (c := eBlank) (k := 9) rfl).trans (Cs.cell (T := tadd T eBlank 9) m2 rfl rfl)).mono (by decide) (by decide)
  have r72 := h.ext0 (cs72 h.1.1).1 oo
  obtain ⟨o1, o2, o3, o4, o5, o6⟩ := r72.off (by omega) hno
  obtain ⟨S1, hS1⟩ : ∃ x, x = up2 S 609 f 0 := ⟨_, rfl⟩
  rw [← hS1] at o1 o2 o3
  have rd1 : ∀ b k, ¬ (b = 609 ∧ k = f) → rd S1 b k = rd S b k := fun b k w => by rw [hS1, rd_up2, if_neg w]
  have ca1 : came S1 = came S := funext fun i => rd1 628 i (by omega)
  have eT1 : ∀ k, eT S1 k = eT S k := fun k => by funext i; exact rd1 603 _ (by omega)
  have i1 : ∀ i, S1.1 i = S.1 i := fun i => by rw [hS1, up2_1]
  obtain ⟨hR, hl, hh5⟩ := o2.1.2.2.2.2.2.1.1 n h1 h2
  have fresh : ∀ m, 1 ≤ m → m < 7 → ∀ r ∈ X m ++ Y m, ¬ r.1 = a := fun m b1 b2 r hr => by
    obtain ⟨k, hk⟩ := (h.1.2.2.2.2.2.1.1 m b1 b2).1.ent hr
    obtain ⟨fs, hc⟩ := hk.cell
    rw [ha]
    exact ne hc
  -- the class takes other forms out
  obtain ⟨T89, Sx, A, B, c1, c2⟩ := removeOtherVary_loop (F := F) (n := n) (p0 := pp) (v0 := v) (c := a) (tc := t) (S0 := S1) (vy := came S 20) (dc := fun i => came S (12 + i)) (pc := came S 4) hp hv rfl ((X n).length + (Y n).length) (X n) (Y n) T72 S1 (by omega) (Nat.le_refl _) hR (fun _ => rfl) e72 (oo _ _ ht) (fun j r hj hr => by
    have := (List.getElem?_eq_some_iff.mp hr).1
    rw [List.length_append] at this
    omega) F (by omega)
  have rv : D_c_Store_removeOtherVary F (528 + 8 * n) (some a) T72 = some T89 := by
    unfold D_c_Store_removeOtherVary
    rw [hR.stC.1, Option.bind_some, hR.count, Option.bind_some]
    exact c1
  have cs89 : Cs T72 T89 0 0 := K_c_Store_removeOtherVary (F := F) _ rv
  obtain ⟨d1, d2, d3, d4, d5, d6, d7, d8⟩ := id c2
  obtain ⟨x1, x2, x3, x4, x5⟩ := o2.del (P := fun k => (fun e => decide (eP e = pp ∧ eV e = v ∧ ¬ eT S1 e 8 = came S 20)) k = true ∧ ∃ r ∈ X n ++ Y n, r.2 = k) (S2 := Sx) h1 h2 c2 cs89 d7 (fun b k => ⟨fun w => by rw [d8, if_pos ⟨w.1, w.2.1, w.2.2⟩], fun w => by rw [d8, if_neg (fun q => w ⟨q.1, q.2.1, q.2.2⟩)]⟩) (fun r hr hp9 => ⟨hp9, r, hr, rfl⟩) (fun k hk => by
    obtain ⟨hk1, r, hr, rfl⟩ := hk
    obtain ⟨k9, hk9⟩ := hR.ent hr
    have rg := hk9.rng h2
    exact ⟨⟨rg.1, rg.2.1⟩, fun r' _ _ => hk1⟩)
  -- the reference
  obtain ⟨S2, g', e1, e2, e3⟩ := m_in13 (F := F) (e := 8 * f + wh) (x1 := Int32.ofNat n) (f := f) (by omega) 8 0 S1 rfl F (by omega)
  have ref : D_m_takeIn F (Int32.ofNat n) (Int32.ofNat f) (Int32.ofNat (8 * f + wh)) S = D_m_takeIn_13 F (g' + 1) (Int32.ofNat n) (Int32.ofNat f) (Int32.ofNat (8 * f + wh)) (Int32.ofNat (8 * f + 8)) S2 := by
    unfold D_m_takeIn
    rw [o1, Option.bind_some, k8]
    exact e1
  have s2r : ∀ b k, ¬ b = 601 → rd S2 b k = rd S1 b k := fun b k w => by rw [e3, if_neg (fun z => w z.1)]
  have s2x : ∀ b k, ¬ b = 601 → rd S2 b k = rd Sx b k := fun b k w => by rw [s2r b k w, d8, if_neg (fun z => w z.1)]
  have s26 : ∀ k, rd S2 601 k = 0 ↔ rd Sx 601 k = 0 := by
    intro k
    rw [e3, d8, ca1, eT1]
    by_cases w1 : 601 = 601 ∧ 8 * f + 0 ≤ k ∧ k < 8 * f + 8
    · rw [if_pos w1]
      by_cases w2 : rd S1 601 k = 0
      · rw [if_neg (fun z => z.1 w2)]
        refine ⟨fun _ => ?_, fun _ => rfl⟩
        split
        · rfl
        · exact w2
      · obtain ⟨r, r1, r2⟩ := hR.2.2.2.2.2.2.2.2.1 k (by omega) (by omega) w2
        have pv : eP k = pp ∧ eV k = v := by unfold eP eV; omega
        by_cases w3 : eT S k 8 = came S 20
        · rw [if_pos ⟨w2, w3⟩, if_neg (fun z => by have := of_decide_eq_true z.2.1; rw [eT1] at this; exact this.2.2 w3)]
          exact ⟨fun z => absurd z (by decide), fun z => absurd z w2⟩
        · rw [if_neg (fun z => w3 z.2), if_pos ⟨rfl, decide_eq_true ⟨pv.1, pv.2, by rw [eT1]; exact w3⟩, r, List.mem_append.mpr r1, r2⟩]
    · rw [if_neg w1]
      rw [if_neg (fun z => by
        have := of_decide_eq_true z.2.1
        obtain ⟨r, r1, r2⟩ := z.2.2
        obtain ⟨k9, hk9⟩ := hR.ent r1
        have rg := hk9.rng h2
        unfold eP eV at this
        rw [← r2] at this w1
        exact w1 ⟨rfl, by omega, by omega⟩)]
  obtain ⟨y1, y2, y3, y4⟩ := x1.norm (S' := S2) s2x s26 (fun i => (e2 i).trans ((d7 i).symm))
  have uX : upL X n A n = A := if_pos rfl
  have uY : upL Y n B n = B := if_pos rfl
  obtain ⟨hR2, hl2, h52⟩ := y1.1.2.2.2.2.2.1.1 n h1 h2
  rw [uX, uY] at hR2 hl2 h52
  obtain ⟨_, hst72, ⟨cX, lX⟩, ⟨cY, lY⟩, _⟩ := id hR
  have keep89 : ∀ b x, T72.1 b = some x → ¬ kd x = 21 → T89.1 b = some x := fun b x hb hk => d6.1 b x hb (fun w => by rw [w, lX] at hb; cases hb; exact hk rfl) (fun w => by rw [w, lY] at hb; cases hb; exact hk rfl) (by simp)
  have hnode : T.1 (527 + 8 * n) = some (nodeC S n) := (h.1.2.2.2.2.1.2.1 n h1 h2).1
  have node89 := keep89 _ _ (oo _ _ hnode) (show ¬ (4 : Nat) = 21 by decide)
  have e89 := keep89 _ _ e72 (show ¬ (11 : Nat) = 21 by decide)
  have t89 := keep89 _ _ (oo _ _ ht) (show ¬ (13 : Nat) = 21 by decide)
  have hst : ∃ fs, T.1 (528 + 8 * n) = some (.inl (5, fs)) := ⟨_, (h.1.2.2.2.2.2.1.1 n h1 h2).1.2.1⟩
  have ca2 : came S2 = came S := (funext fun i => s2r 628 i (by decide)).trans ca1
  have fe8 : 8 * (128 * n + (4 * pp + v)) + wh = 8 * f + wh := by rw [hf]
  have find := c_findE (F := F) (by omega) hR2 (by omega) (p := pp) (v := v) (w := wh) hp hv hw
  rw [fe8] at find
  have pre := fun {o : Option Nat} hfi => c_inPre (F := F) (n := n) (S := S) (o := o) hN hm ht hfa (show T.1 512 = some (house S.1) from h.1.2.1) g0 g1 g2 g3 hwh m13 m16 m17 hnode hst (T89 := T89) (by rw [← hT72, ← ha]; exact rv) node89 hR2.stC.1 (by rw [← ha]; exact e89) t89 hfi
  rw [← ha] at pre ⊢
  have f609 : rd S2 609 f = 0 := (s2r 609 f (by decide)).trans o3
  have rS : ∀ b k, ¬ b = 601 → ¬ (b = 609 ∧ k = f) → rd S2 b k = rd S b k := fun b k w1 w2 => (s2r b k w1).trans (rd1 b k w2)
  have iS : ∀ i, S2.1 i = S.1 i := fun i => (e2 i).trans (i1 i)
  have r6 : ∀ k, rd S2 601 k = if 8 * f ≤ k ∧ k < 8 * f + 8 then (if ¬ rd S 601 k = 0 ∧ eT S k 8 = came S 20 then 1 else 0) else rd S 601 k := fun k => by
    rw [e3, ca1, eT1, rd1 601 k (by omega)]
    by_cases w : 8 * f ≤ k ∧ k < 8 * f + 8
    · rw [if_pos w, if_pos (show 601 = 601 ∧ 8 * f + 0 ≤ k ∧ k < 8 * f + 8 by omega)]
    · rw [if_neg w, if_neg (show ¬ (601 = 601 ∧ 8 * f + 0 ≤ k ∧ k < 8 * f + 8) by omega)]
  have frA : ∀ m, 1 ≤ m → m < 7 → ∀ r ∈ upL X n A m ++ upL Y n B m, ¬ r.1 = a := fun m b1 b2 r hr => by
    refine fresh m b1 b2 r ?_
    unfold upL at hr
    by_cases w : m = n
    · rw [if_pos w, if_pos w] at hr
      rw [w]
      rcases List.mem_append.mp hr with z | z
      · exact List.mem_append_left _ (d2.subset z)
      · exact List.mem_append_right _ (d3.subset z)
    · rw [if_neg w, if_neg w] at hr
      exact hr
  rcases find with ⟨z1, z2⟩ | ⟨q, z1, z2, z3⟩
  · have kp0 : inKp S2 (8 * f + wh) = 0 := by unfold inKp; rw [if_neg (fun w => w.1 z1)]
    have bl0 : inBl S2 (8 * f + wh) = came S 11 := by unfold inBl; rw [if_neg (fun w => w.1 z1), ca2]; simp
    refine ⟨T89, S2, g', upL X n A, upL Y n B, ?_, ref, (y1.norm (fun b k w => by rw [rd_up2, if_neg (fun z => w z.1)]) (fun k => ?_) (fun i => by rw [up2_1])).1, by rw [kp0, bl0]; exact e89, frA, fun r hr w => ?_, rS, f609, iS, r6, (cs72.trans cs89).mono (by decide) (by decide), fun b x hb hk => keep89 b x (oo b x hb) hk⟩
    · rw [pre z2]
      simp only [nc, D_c_EdgeHouse_takeIn_153, D_c_EdgeHouse_takeIn_167, D_c_EdgeHouse_takeIn_186, D_c_EdgeHouse_takeIn_187, Option.bind_some]
      rw [Ez8 (Or.inl rfl) e89, Option.bind_some]
      rw [show tset T89 a (cEntry (Int32.ofNat pp) (Int32.ofNat v) t (Int32.ofNat wh) (came S 8) (came S 10 + S.1 36) (S.1 36) (came S 11) 0) = T89 from tset_own e89]
    · rw [rd_up2]
      by_cases w : 601 = 601 ∧ k = 8 * f + wh
      · rw [if_pos w, w.2]; exact ⟨fun _ => z1, fun _ => rfl⟩
      · rw [if_neg w]
    · rw [uX, uY] at hr
      obtain ⟨k, hk⟩ := hR2.ent hr
      have := hk.there.1
      rw [w] at this
      exact this z1
  · obtain ⟨k, hk⟩ := hR2.ent z1
    obtain ⟨tq, q1', q2', _⟩ := hk.full
    have thr := hk.there
    have kfl : flag k := by
      rcases List.mem_append.mp z1 with w | w
      · have := (hR2.2.2.2.2.1 q w).there.2
        rw [← thr.2, this]; exact Or.inl rfl
      · have := (hR2.2.2.2.2.2.1 q w).there.2
        rw [← thr.2, this]; exact Or.inr rfl
    have qa : ¬ q.1 = a := frA n h1 h2 q (by rw [uX, uY]; exact z1)
    rw [z2] at q1' q2' thr
    obtain ⟨T143, hT143⟩ : ∃ x, x = tset T89 a (eNew S pp v t wh (inBl S2 (8 * f + wh)) 0) := ⟨_, rfl⟩
    obtain ⟨w1, w2⟩ := y1.cell11 (fs' := [.int (Int32.ofNat pp), .int (Int32.ofNat v), .ref t, .int (Int32.ofNat wh), .int (came S 8), .int (came S 10 + S.1 36), .int (S.1 36), .int (inBl S2 (8 * f + wh)), .int 0]) e89 frA
    have w1 : RBx T143 S2 (upL X n A) (upL Y n B) Z Q rs c f := by rw [hT143]; exact w1
    have w2 : Cs T89 T143 0 0 := by rw [hT143]; exact w2
    have a143 : T143.1 a = some (eNew S pp v t wh (inBl S2 (8 * f + wh)) 0) := by rw [hT143]; exact tset_at
    have k143 : ∀ b x, T89.1 b = some x → ¬ b = a → T143.1 b = some x := fun b x hb hne => by rw [hT143]; exact tset_o hb hne
    have na : ∀ {b x}, T.1 b = some x → ¬ b = a := fun hb => by rw [ha]; exact ne hb
    obtain ⟨T162, A', B', v1, v2, v3, v4, v5, v6, v7, v8, v9⟩ := w1.gone (F := F) (n := n) (q := q) (by omega) h1 h2 (by rw [uX, uY]; exact z1)
    obtain ⟨_, _, ⟨cX', lX'⟩, ⟨cY', lY'⟩, _⟩ := id (w1.1.2.2.2.2.2.1.1 n h1 h2).1
    have keep162 : ∀ b x, T143.1 b = some x → ¬ kd x = 21 → T162.1 b = some x := fun b x hb hk => v8.1 b x hb (fun w => by rw [w, lX'] at hb; cases hb; exact hk rfl) (fun w => by rw [w, lY'] at hb; cases hb; exact hk rfl) (by simp)
    have a162 := keep162 _ _ a143 (show ¬ (11 : Nat) = 21 by decide)
    have q162 := keep162 _ _ (k143 _ _ q1' qa) (show ¬ (11 : Nat) = 21 by decide)
    have st143 := (w1.1.2.2.2.2.2.1.1 n h1 h2).1.stC.1
    have no143 := k143 _ _ node89 (na hnode)
    have fr2 : ∀ m, 1 ≤ m → m < 7 → ∀ r ∈ upL (upL X n A) n A' m ++ upL (upL Y n B) n B' m, ¬ r.1 = a := fun m b1 b2 r hr => by
      refine frA m b1 b2 r ?_
      unfold upL at hr v3 v4 ⊢
      by_cases w : m = n
      · rw [if_pos w, if_pos w] at hr ⊢
        rw [if_pos rfl] at v3 v4
        rcases List.mem_append.mp hr with z | z
        · exact List.mem_append_left _ (v3.subset z)
        · exact List.mem_append_right _ (v4.subset z)
      · rw [if_neg w, if_neg w] at hr ⊢
        rw [if_neg w, if_neg w] at hr
        exact hr
    obtain ⟨p1', p2'⟩ := v2.cell11 (fs' := [.int (Int32.ofNat pp), .int (Int32.ofNat v), .ref t, .int (Int32.ofNat wh), .int (came S 8), .int (came S 10 + S.1 36), .int (S.1 36), .int (inBl S2 (8 * f + wh)), .int (inKp S2 (8 * f + wh))]) a162 fr2
    have kpE : inKp S2 (8 * f + wh) = k := by
      unfold inKp
      rw [thr.2]
      rcases kfl with w | w
      · rw [w, if_neg (fun z => z.2 rfl)]
      · rw [w, if_pos ⟨thr.1, by decide⟩]
    refine ⟨tset T162 a (eNew S pp v t wh (inBl S2 (8 * f + wh)) (inKp S2 (8 * f + wh))), S2, g', _, _, ?_, ref, by rw [← z2]; rw [← z2] at p1'; exact p1', tset_at, fr2, fun r hr => ?_, rS, f609, iS, r6, ((cs72.trans cs89).trans (w2.trans (v9.trans p2'))).mono (by decide) (by decide), fun b x hb hk => ?_⟩
    · rw [pre z3]
      have base : D_c_EdgeHouse_takeIn_153 F 512 (some (527 + 8 * n)) (some a) (some q.1) T143 = some (some a, tset T162 a (eNew S pp v t wh (inBl S2 (8 * f + wh)) (inKp S2 (8 * f + wh)))) := by
        have nd143 : tgr T143 (527 + 8 * n) 4 1 = some (some (528 + 8 * n)) := tgr_o (x := some (528 + 8 * n)) no143 rfl
        have z8 := Ez8 (x := inKp S2 (8 * f + wh)) inKp_flag a162
        have cv : cond (m_c1 .eq k) (some (0 : Int32)) (some (1 : Int32)) = some (inKp S2 (8 * f + wh)) := by
          rw [kpE]
          rcases kfl with w | w <;> rw [w] <;> rfl
        simp only [D_c_EdgeHouse_takeIn_153, D_c_EdgeHouse_takeIn_167, nc, Option.bind_some, nd143, st143, v1, Eg8 q162, cv]
        rw [z8]
        rfl
      simp only [nc, Er2 q1', Option.bind_some, Tg1 q2', Eg7 q1']
      by_cases w : eT S2 (8 * f + wh) 0 = came S 12
      · rw [show m_c2 .ne (eT S2 (8 * f + wh) 0) (came S (12 + 0)) = false by simp [m_c2, w], cond_false]
        have : inBl S2 (8 * f + wh) = came S 11 ||| rd S2 607 (8 * f + wh) := by unfold inBl; rw [if_pos ⟨thr.1, by rw [ca2]; exact w⟩, ca2]
        rw [← this, ← hT143]
        exact base
      · rw [show m_c2 .ne (eT S2 (8 * f + wh) 0) (came S (12 + 0)) = true by simp [m_c2, w], cond_true]
        have : inBl S2 (8 * f + wh) = came S 11 := by unfold inBl; rw [if_neg (fun z => w (by rw [ca2] at z; exact z.2)), ca2]; simp
        have e143 : T143 = T89 := by rw [hT143, this]; exact tset_own e89
        rw [← e143]
        exact base
    · have u1 : upL (upL X n A) n A' n = A' := if_pos rfl
      have u2 : upL (upL Y n B) n B' n = B' := if_pos rfl
      rw [u1, u2] at hr
      rw [← z2]
      exact v5 r hr
    · exact tset_o (keep162 b x (k143 b x (keep89 b x (oo b x hb) hk) (na hb)) hk) (na hb)
end
