/-! The ledger: rows are answered. -/
section
variable {κ : Ko} {G : Gh} {hc : Nat → Nat → Bool} {mo : Nat → Nat → Nat} {τ ν lam b1 b2 k1 k2 n f : Nat} {M : List (Nat → Int32)} {Q R Pd : List Rq} {Z : Nat → List Fz} {E E' : Nat → Option (Nat → Int32)} {N : Nat → Nat → Int32} {y : Fz} {z : Rq} {m : Nat → Int32}
theorem fi_told {g d : Nat → Int32} {wh mk ag bl : Int32} : ∀ i, i < 9 → cut (fiRow n g d wh mk ag bl) (12 + i) = d i := fun i hi => by
  have : i = 0 ∨ i = 1 ∨ i = 2 ∨ i = 3 ∨ i = 4 ∨ i = 5 ∨ i = 6 ∨ i = 7 ∨ i = 8 := by omega
  rcases this with q | q | q | q | q | q | q | q | q <;> (rw [q]; rfl)
theorem blk_in {v h : Int32} (e : v &&& (h ^^^ -1) = 0) : v &&& ((h &&& v) ^^^ -1) = 0 := by
  have e1 := and_bits.mpr e
  rw [e1]
  exact and_bits.mp (Int32.and_self)
theorem age_e {a b c : Int32} : ((a + c) - b) - c = a - b := by
  rw [show (a + c) - b = a - b + c by rw [Int32.sub_eq_add_neg, Int32.sub_eq_add_neg, Int32.add_assoc, Int32.add_comm c, ← Int32.add_assoc], Int32.add_sub_cancel]
theorem cN_le {a b : Int32} {u v : Nat} (ha : upto u a) (hb : upto v b) (hu : u < 2147483648) (hv : v < 2147483648) (h : a ≤ b) : cN a ≤ cN b := by
  obtain ⟨e1, l1⟩ := ha.cN hu
  obtain ⟨e2, l2⟩ := hb.cN hv
  rw [e1, e2] at h
  exact (i_le (by show cN a < 2147483648; omega) (by show cN b < 2147483648; omega)).mp h
/-- an entry as the answer to an edge's request -/
theorem fi_LI {e : Nat} {h : Nat → Int32} (hz : LR G Z N z) (hn : z.2.2.1 = none) (hE : LE G E N) (h2 : upto 60 (N 2 0)) (he : E e = some h) (e8 : e / 8 = pl z) (hm : z.2.2.2.1 11 ≤ h 9) (hb : v_missing z.2.2.2.1 z.2.2.2.2 h (Int32.ofNat (e % 8)) (h 10) = 0) {nd : Nat} {clk : Int32} : LI G Z N (cut (fiRow nd z.2.2.2.1 h (Int32.ofNat (e % 8)) (h 9) (((h 11 + clk) - h 12) - clk) (h 10))) := by
  obtain ⟨q, f, ro, g, cd⟩ := z
  obtain ⟨⟨a1, a2, a3⟩, hr⟩ := hz
  cases hn
  cases cd with
  | some k => exact hr.elim
  | none =>
    obtain ⟨b1, n, b2, b3, b4, b5, b6⟩ := hr
    obtain ⟨c1, c2, c3⟩ := hE.1 e h he
    obtain ⟨_, l2⟩ := h2.cN (by decide)
    have bb : v_blocks (h 1) (g 4) (g 5) &&& (h 10 ^^^ -1) = 0 := by
      have := hb
      rw [v_miss_need] at this
      exact this
    have ep : eP e = pl (q, f, none, g, none) / 4 % 32 := by unfold eP; omega
    refine ⟨n, b4, by omega, by omega, b5, c1, fun y hy y7 => ⟨(b6 y hy y7).1, (b6 y hy y7).2.1⟩, Or.inr ⟨?_, ?_, ⟨eP e, by unfold eP; omega, ?_, ?_⟩, fun y hy y7 => ?_⟩⟩
    · show (if g 17 = h 0 then (304 : Int32) else 200) = 200 ∨ (if g 17 = h 0 then (304 : Int32) else 200) = 304
      split
      · exact Or.inr rfl
      · exact Or.inl rfl
    · show born N (((h 11 + clk) - h 12) - clk)
      rw [age_e]
      exact c2
    · show g 0 = Int32.ofNat (eP e)
      rw [ep]
      exact a2
    · refine ⟨fun i hi => ?_, c3.2.1, c3.2.2.1, c3.2.2.2⟩
      exact (fi_told i hi).trans (c3.1 i hi)
    · obtain ⟨y0, y1, y5, y6, y9, y2, y3, y17⟩ := b6 y hy y7
      refine ⟨?_, fun w => by omega, fun w => ?_, fun w => ?_⟩
      · show (y.2.2 9).toNatClampNeg ≤ cN (h 9)
        rw [y9]
        exact cN_le a3 c1 (by omega) (by omega) hm
      · show v_blocks (h 1) (y.2.2 5) (y.2.2 6) &&& ((if g 17 = h 0 then (0 : Int32) else h 10 &&& v_blocks (h 1) (g 4) (g 5)) ^^^ -1) = 0
        have w' : (if g 17 = h 0 then (304 : Int32) else 200) = 200 := w
        by_cases q7 : g 17 = h 0
        · rw [if_pos q7] at w'
          exact absurd w' (by decide)
        · rw [if_neg q7, y5, y6]
          exact blk_in bb
      · show h 0 = G.1 n (nmb y)
        have w' : (if g 17 = h 0 then (304 : Int32) else 200) = 304 := w
        by_cases q7 : g 17 = h 0
        · rw [← y17]
          exact q7.symm
        · rw [if_neg q7] at w'
          exact absurd w' (by decide)
theorem st_LI {st : Int32} {nd : Nat} (hz : LR G Z N z) (hn : z.2.2.1 = none) (hs : st = 404 ∨ st = 504) : LI G Z N (cut (stRow nd z.2.2.2.1 st)) := by
  obtain ⟨q, f, ro, g, cd⟩ := z
  obtain ⟨⟨a1, a2, a3⟩, hr⟩ := hz
  cases hn
  cases cd with
  | some k => exact hr.elim
  | none =>
    obtain ⟨b1, n, b2, b3, b4, b5, b6⟩ := hr
    exact ⟨n, b4, by omega, by omega, b5, ⟨0, Nat.zero_le _, rfl⟩, fun y hy y7 => ⟨(b6 y hy y7).1, (b6 y hy y7).2.1⟩, Or.inl hs⟩
theorem ans_LI {clk : Int32} (hz : LR G Z N z) (hp : z.2.1 < 1024) (hn : z.2.2.1 = none) (hE : LE G E N) (h2 : upto 60 (N 2 0)) (ha : okAns E clk z m) : LI G Z N m := by
  rcases ha hn with ⟨st, s1, s2⟩ | ⟨e, h, w1, w2, w3, w4, w5, w6⟩
  · rw [s2]
    exact st_LI hz hn s1
  · rw [w6]
    exact fi_LI hz hn hE h2 w1 (by unfold pl; omega) w4 w5
theorem ans_0 {clk : Int32} (hn : z.2.2.1 = none) (ha : okAns E clk z m) : m 0 = 1 := by
  rcases ha hn with ⟨st, _, s2⟩ | ⟨e, h, _, _, _, _, _, w6⟩
  · rw [s2]; rfl
  · rw [w6]; rfl
theorem LR.lk1 (h : LR G Z N (Jvm.Pilot.CEdgeHouseLaw_law_r9563_fb2754.lk1 z)) : LR G Z N z := by
  have e : pl (Jvm.Pilot.CEdgeHouseLaw_law_r9563_fb2754.lk1 z) = pl z := by
    show (z.2.1 + 1024) % 1024 = z.2.1 % 1024
    omega
  unfold LR at h ⊢
  rw [e] at h
  exact h
theorem LR.mk1 (h : LR G Z N z) : LR G Z N (Jvm.Pilot.CEdgeHouseLaw_law_r9563_fb2754.lk1 z) := by
  have e : pl (Jvm.Pilot.CEdgeHouseLaw_law_r9563_fb2754.lk1 z) = pl z := by
    show (z.2.1 + 1024) % 1024 = z.2.1 % 1024
    omega
  unfold LR at h ⊢
  rw [e]
  exact h
theorem rOk.lk (h : rOk (lk1 z :: Pd)) : z.2.1 < 1024 ∧ ∀ x ∈ Pd, x.2.1 = z.2.1 := by
  obtain ⟨h1, h2⟩ := h
  have h1' : z.2.1 + 1024 < 2048 := h1
  refine ⟨by omega, fun x hx => (h2 x hx).trans ?_⟩
  show (z.2.1 + 1024) % 1024 = z.2.1
  omega
theorem rOk.tl (hf : f < 1024) (h : ∀ x ∈ R, x.2.1 = f) : rOk R := by
  cases R with
  | nil => trivial
  | cons x R =>
    have e := h x List.mem_cons_self
    refine ⟨by omega, fun y hy => (h y (List.mem_cons_of_mem _ hy)).trans ?_⟩
    unfold pl
    omega
theorem rw_tl (hf : f < 1024) (h : ∀ x ∈ R, x.2.1 = f) : rw0 κ Z N R ≤ sFu κ R + purse κ Z N f := by
  cases R with
  | nil => exact Nat.zero_le _
  | cons x R =>
    have e := h x List.mem_cons_self
    show wFu κ x + (if 1024 ≤ x.2.1 ∧ x.2.2.2.1 12 = 0 then wMk κ x else 0) + sFu κ R + purse κ Z N (x.2.1 % 1024) ≤ _
    rw [if_neg (by omega), e, show f % 1024 = f by omega, sFu_cons]
    omega
theorem rw_lk (hf : z.2.1 < 1024) : rw0 κ Z N (lk1 z :: Pd) = wFu κ z + (if z.2.2.2.1 12 = 0 then wMk κ z else 0) + sFu κ Pd + purse κ Z N z.2.1 := by
  show wFu κ z + (if 1024 ≤ z.2.1 + 1024 ∧ z.2.2.2.1 12 = 0 then wMk κ z else 0) + sFu κ Pd + purse κ Z N ((z.2.1 + 1024) % 1024) = _
  rw [show (z.2.1 + 1024) % 1024 = z.2.1 by omega]
  by_cases w : z.2.2.2.1 12 = 0
  · rw [if_pos ⟨by omega, w⟩, if_pos w]
  · rw [if_neg (fun q => w q.2), if_neg w]
theorem opn_tl (hf : z.2.1 < 1024) (h : ∀ x ∈ Pd, x.2.1 = z.2.1) : opn Z Pd ≤ opn Z (lk1 z :: Pd) := by
  cases Pd with
  | nil => exact Nat.zero_le _
  | cons x R =>
    have e := h x List.mem_cons_self
    have e1 : pl x = z.2.1 := by unfold pl; omega
    have e2 : pl (lk1 z) = z.2.1 := by show (z.2.1 + 1024) % 1024 = _; omega
    show cif (3 ≤ pl x / 128 ∧ ∀ y ∈ Z (pl x / 128), ¬ y.2.1 = pl x) 1 0 ≤ cif (3 ≤ pl (lk1 z) / 128 ∧ ∀ y ∈ Z (pl (lk1 z) / 128), ¬ y.2.1 = pl (lk1 z)) 1 0
    rw [e1, e2]
    exact Nat.le_refl _
theorem gv_sM (h : z.2.2.1 = none → m 0 = 1) : sM κ (gvM M z m) ≤ sM κ M := by
  unfold gvM
  cases hz : z.2.2.1 with
  | some r => exact Nat.le_refl _
  | none =>
    refine Nat.le_trans sM_psh ?_
    have m0 := h hz
    have : wM κ m = 0 := by
      unfold wM
      rw [m0]
      rfl
    omega
theorem gv_bs : κ.2.2.1 * gvC z ≤ wBs κ z := by
  unfold gvC wBs
  cases z.2.2.1 with
  | some r => exact Nat.zero_le _
  | none => show κ.2.2.1 * 1 ≤ κ.2.2.1; omega
theorem gv_LM (h : LM G M Z N) (hl : z.2.2.1 = none → LI G Z N m) (h0 : z.2.2.1 = none → m 0 = 1) : LM G (gvM M z m) Z N := by
  unfold gvM
  cases hz : z.2.2.1 with
  | some r => exact h
  | none =>
    have m0 := h0 hz
    exact h.psh (fun e => by rw [m0] at e; exact absurd e (by decide)) (fun _ => hl hz) (fun e => by rw [m0] at e; exact absurd e (by decide))
theorem gv_pCnt (h0 : z.2.2.1 = none → m 0 = 1) : pCnt (gvM M z m) n = pCnt M n := by
  unfold gvM
  cases hz : z.2.2.1 with
  | some r => rfl
  | none => exact pCnt_psh (fun e => by rw [h0 hz] at e; exact absurd e (by decide))
theorem gv_tCnt : tCnt (gvM M z m) ≤ tCnt M + gvC z := by
  unfold gvM gvC
  cases z.2.2.1 with
  | some r => exact Nat.le_refl _
  | none =>
    refine Nat.le_trans tCnt_psh (Nat.add_le_add_left ?_ _)
    show _ ≤ 1
    split <;> omega
theorem cnt_cons {A B : List Rq} {x : Rq} : cCnt (A ++ x :: B) = cCnt (A ++ B) + (if x.2.2.1.isSome then 1 else 0) ∧ eCnt (A ++ x :: B) = eCnt (A ++ B) + gvC x := by
  refine ⟨filt_rem _, (filt_rem _).trans ?_⟩
  congr 1
  unfold gvC
  cases x.2.2.1 <;> rfl
theorem Led.clA : ClA (Led τ ν lam b1 b2) := by
  intro M Q Pd Z E E' N k1 k2 z m h ha hs
  obtain ⟨hp, G, ⟨a1, a2, a3, a4, a5, a6, a7, a8, c1, c2⟩, p1', p2'⟩ := h
  obtain ⟨zl, zp⟩ := a6.lk
  have hz := (a4 (lk1 z) (by simp)).lk1
  have m0 : z.2.2.1 = none → m 0 = 1 := fun w => ans_0 w ha
  have key : ∀ κ, Pot κ G.2.2.1 G.2.1 (gvM M z m) Q Pd Z N + κ.2.2.1 * gvC z ≤ Pot κ G.2.2.1 G.2.1 M Q (lk1 z :: Pd) Z N := fun κ => by
    unfold Pot
    rw [rw_lk zl]
    have q1 := gv_sM (κ := κ) (M := M) m0
    have q2 := rw_tl (κ := κ) (Z := Z) (N := N) zl zp
    have q3 := gv_bs (κ := κ) (z := z)
    have q4 : wBs κ z ≤ wFu κ z := by unfold wFu; omega
    omega
  have ks := key κs
  have kc := key κc
  have es : κs.2.2.1 = 19 := rfl
  have ec : κc.2.2.1 = 1 := rfl
  rw [es] at ks
  rw [ec, Nat.one_mul] at kc
  have cc := cnt_cons (A := Q) (B := Pd) (x := lk1 z)
  have g1 : gvC (lk1 z) = gvC z := rfl
  have t1 := gv_tCnt (M := M) (z := z) (m := m)
  have o1 := opn_tl (Z := Z) zl zp
  refine ⟨hp, G, ⟨a1.le (by omega) (fun n => Nat.le_of_eq (gv_pCnt m0)), a2.le NLe.refl (fun _ _ _ _ => Nat.le_refl _) hs (fun _ => List.Sublist.refl _), gv_LM a3 (fun w => ans_LI hz zl w a7 a1.2.1 ha) m0, fun x hx => a4 x ?_, a5, rOk.tl zl zp, a7.le NLe.refl hs, a8, by omega, by omega⟩, by omega, by omega⟩
  rcases List.mem_append.mp hx with w | w
  · exact List.mem_append_left _ w
  · exact List.mem_append_right _ (List.mem_cons_of_mem _ w)
theorem Led.clG : ClG (Led τ ν lam b1 b2) := by
  intro M Q Pd Z E N k1 k2 z h zl
  obtain ⟨hp, G, ⟨a1, a2, a3, a4, a5, a6, a7, a8, c1, c2⟩, p1', p2'⟩ := h
  have e1 : pl z = z.2.1 := by unfold pl; omega
  have e2 : pl (lk1 (ag1 z)) = z.2.1 := by show (z.2.1 + 1024) % 1024 = _; omega
  have key : ∀ κ, Pot κ G.2.2.1 G.2.1 M Q (lk1 (ag1 z) :: Pd) Z N ≤ Pot κ G.2.2.1 G.2.1 M Q (z :: Pd) Z N := fun κ => by
    unfold Pot
    have q0 : rw0 κ Z N (lk1 (ag1 z) :: Pd) = wFu κ z + (if (ag1 z).2.2.2.1 12 = 0 then wMk κ z else 0) + sFu κ Pd + purse κ Z N z.2.1 := rw_lk (z := ag1 z) (by show z.2.1 < 1024; omega)
    have q : rw0 κ Z N (z :: Pd) = wFu κ z + sFu κ Pd + purse κ Z N z.2.1 := by
      show wFu κ z + (if 1024 ≤ z.2.1 ∧ z.2.2.2.1 12 = 0 then wMk κ z else 0) + sFu κ Pd + purse κ Z N (z.2.1 % 1024) = _
      rw [if_neg (by omega), show z.2.1 % 1024 = z.2.1 by omega]
      omega
    have g12 : (ag1 z).2.2.2.1 12 = 1 := show fup z.2.2.2.1 12 1 12 = 1 from fup_eq
    rw [q, q0, if_neg (by rw [g12]; decide)]
    omega
  have ks := key κs
  have kc := key κc
  have cc := cnt_cons (A := Q) (B := Pd) (x := z)
  have cc' := cnt_cons (A := Q) (B := Pd) (x := lk1 (ag1 z))
  have g1 : gvC (lk1 (ag1 z)) = gvC z := rfl
  have g2 : (lk1 (ag1 z)).2.2.1 = z.2.2.1 := rfl
  rw [g1] at cc'
  rw [g2] at cc'
  have op : opn Z (lk1 (ag1 z) :: Pd) = opn Z (z :: Pd) := by
    show cif (3 ≤ pl (lk1 (ag1 z)) / 128 ∧ ∀ y ∈ Z (pl (lk1 (ag1 z)) / 128), ¬ y.2.1 = pl (lk1 (ag1 z))) 1 0 = cif (3 ≤ pl z / 128 ∧ ∀ y ∈ Z (pl z / 128), ¬ y.2.1 = pl z) 1 0
    rw [e1, e2]
  refine ⟨hp, G, ⟨a1, a2, a3, fun x hx => ?_, a5, ?_, a7, a8, by omega, by omega⟩, by omega, by omega⟩
  · rcases List.mem_append.mp hx with w | w
    · exact a4 x (List.mem_append_left _ w)
    · rcases List.mem_cons.mp w with w | w
      · rw [w]
        have hz := a4 z (by simp)
        refine LR.mk1 ?_
        obtain ⟨q, f, ro, g, cd⟩ := z
        obtain ⟨⟨b1, b2, b3⟩, hr⟩ := hz
        refine ⟨⟨b1, (show fup g 12 1 0 = g 0 from fup_ne (by decide)).trans b2, by show upto (cN (N 2 0)) (fup g 12 1 11); rw [fup_ne (show ¬ (11 : Nat) = 12 by decide)]; exact b3⟩, ?_⟩
        cases ro with
        | none =>
          cases cd with
          | none =>
            obtain ⟨d1, n, d2, d3, d4, d5, d6⟩ := hr
            refine ⟨d1, n, d2, d3, (show fup g 12 1 15 = g 15 from fup_ne (by decide)).trans d4, by show upto (cN (N 1 n)) (fup g 12 1 16); rw [fup_ne (show ¬ (16 : Nat) = 12 by decide)]; exact d5, fun y hy y7 => ?_⟩
            have f16 : fup g 12 1 16 = g 16 := fup_ne (by decide)
            have y7' : y.2.2 7 = g 16 := y7.trans f16
            obtain ⟨x0, x1, x5, x6, x9, x2, x3, x17⟩ := d6 y hy y7'
            exact ⟨x0.trans (show g 0 = fup g 12 1 0 from (fup_ne (by decide)).symm), x1.trans (show g 1 = fup g 12 1 1 from (fup_ne (by decide)).symm), x5.trans (show g 4 = fup g 12 1 4 from (fup_ne (by decide)).symm), x6.trans (show g 5 = fup g 12 1 5 from (fup_ne (by decide)).symm), x9.trans (show g 11 = fup g 12 1 11 from (fup_ne (by decide)).symm), x2.trans (show g 2 = fup g 12 1 2 from (fup_ne (by decide)).symm), x3.trans (show g 3 = fup g 12 1 3 from (fup_ne (by decide)).symm), (show fup g 12 1 17 = g 17 from fup_ne (by decide)).trans x17⟩
          | some k => exact hr.elim
        | some r =>
          cases cd with
          | none => exact hr.elim
          | some k =>
            obtain ⟨d1, d2, d3⟩ := hr
            refine ⟨d1, (show fup g 12 1 11 = g 11 from fup_ne (by decide)).trans d2, ?_⟩
            have f4 : fup g 12 1 4 = g 4 := fup_ne (by decide)
            have f5 : fup g 12 1 5 = g 5 := fup_ne (by decide)
            show isGk (fup g 12 1) k
            unfold isGk at d3 ⊢
            rw [f4, f5]
            exact d3
      · exact a4 x (List.mem_append_right _ (List.mem_cons_of_mem _ w))
  · refine ⟨by show z.2.1 + 1024 < 2048; omega, fun x hx => ?_⟩
    rw [e2, ← e1]
    exact a6.2 x hx
end
