/-! A request fails. -/
def sE (E : Nat → Option (Nat → Int32)) (f : Nat) (x y : Int32) (e : Nat) : Prop := e / 8 = f ∧ ∃ h, E e = some h ∧ Int32.ofNat (e % 8) = v_which (h 8) x y
/-- an answer to a request: a status, or what an entry has -/
def okAns (E : Nat → Option (Nat → Int32)) (clk : Int32) (z : Rq) (m : Nat → Int32) : Prop := z.2.2.1 = none → (∃ st : Int32, (st = 404 ∨ st = 504) ∧ m = cut (stRow (z.2.1 / 128) z.2.2.2.1 st)) ∨ ∃ e h, E e = some h ∧ e / 8 = z.2.1 ∧ Int32.ofNat (e % 8) = v_which (h 8) (z.2.2.2.1 2) (z.2.2.2.1 3) ∧ z.2.2.2.1 11 ≤ h 9 ∧ v_missing z.2.2.2.1 z.2.2.2.2 h (Int32.ofNat (e % 8)) (h 10) = 0 ∧ m = cut (fiRow (z.2.1 / 128) z.2.2.2.1 h (Int32.ofNat (e % 8)) (h 9) (((h 11 + clk) - h 12) - clk) (h 10))
/-- the age of what is stored is small -/
def okAge (S : mS) : Prop := ∀ e h, vE S e = some h → few 100000 ((h 11 + S.1 36) - h 12)
theorem okAge.at {S : mS} (h : okAge S) {e : Nat} (he : e < 7168) (ht : ¬ rd S 601 e = 0) : few 100000 ((rd S 605 e + S.1 36) - rd S 606 e) := h e _ (vE_some he ht)
theorem v_missing_ext {g d d' : Nat → Int32} {cd : Option (Nat → Int32)} {wh bl : Int32} (h0 : d 0 = d' 0) (h1 : d 1 = d' 1) : v_missing g cd d wh bl = v_missing g cd d' wh bl := by
  unfold v_missing
  rw [h0, h1]
theorem fiRow_ext {n : Nat} {g d d' : Nat → Int32} {wh mk ag bl : Int32} (h : ∀ i, i < 9 → d i = d' i) : cut (fiRow n g d wh mk ag bl) = cut (fiRow n g d' wh mk ag bl) := by
  funext i
  unfold cut fiRow
  by_cases hi : i < 22
  · rw [if_pos hi, if_pos hi, h 0 (by decide), h 1 (by decide)]
    by_cases h21 : i = 21
    · rw [if_pos h21, if_pos h21]
    · by_cases h12 : 12 ≤ i
      · rw [h (i - 12) (by omega)]
      · simp only [h12, if_false]
  · rw [if_neg hi, if_neg hi]
section
variable {T : tT} {S : mS} {X Y : Nat → List (Nat × Nat)} {Z : Nat → List Fz} {Q Pd : List Rq} {j0 c F n : Nat} {rs : List Nat} {z : Rq}
/-- a request is served from an entry's cell -/
theorem P_serveC {a e t p v : Nat} {how kp : Int32} (hF : 30 ≤ F) (h : RB T S X Y Z Q [z] Pd j0 rs c) (hn : n < 7) (hf : z.2.1 = 128 * n + (4 * p + v)) (hp : p < 32) (hv : v < 4) (he : e < 7168) (ha : T.1 a = some (cEntry (z.2.2.2.1 0) (z.2.2.2.1 1) t (Int32.ofNat (e % 8)) (rd S 604 e) (rd S 605 e) (rd S 606 e) (rd S 607 e) kp)) (ht : T.1 t = some (cTold (z.2.2.2.1 0) (eT S e))) (hd : okT (eT S e)) (hag : few 100000 ((rd S 605 e + S.1 36) - rd S 606 e)) (hhow : how = 0 ∨ how = 1 ∨ how = 2) : ∃ T' S', D_c_EdgeHouse_serve F 512 (some (527 + 8 * n)) (some z.1) (some a) how T = some T' ∧ D_m_serve F (Int32.ofNat (wOf Q)) (Int32.ofNat e) how S = some S' ∧ RB T' S' X Y Z Q [] Pd j0 rs c ∧ vM S' = gvM (vM S) z (cut (fiRow n z.2.2.2.1 (hE S e) (Int32.ofNat (e % 8)) (hE S e 9) (((hE S e 11 + S.1 36) - hE S e 12) - S.1 36) (hE S e 10))) ∧ vE S' = vE S ∧ vS S' = vS S ∧ Kq [] kX T T' ∧ Cs T T' (gvC z) (19 * gvC z) ∧ FrA S S' := by
  obtain ⟨S2, m1, m2, m3, m4⟩ := m_serveS (F := F) (S := S) (w := Int32.ofNat (wOf Q)) (how := how) (by omega) he
  have hi : ∀ i, ¬ (84 ≤ i ∧ i ≤ 87) → ¬ i = 0 → S2.1 i = S.1 i := fun i i1 _ => m3 i i1
  have hr : ∀ b k, ¬ b = 625 → ¬ b = 626 → ¬ b = 628 → rd S2 b k = rd S b k := fun b k _ b2 _ => m4 b k b2
  have h2 := h.now hi hr (by rw [m2.1 1 (by decide)]; exact hd.2.2.1)
  obtain ⟨v1, v2, v3⟩ := now_views hi hr
  have c36 : S2.1 36 = S.1 36 := hi 36 (by decide) (by decide)
  rw [← c36] at m2 hag
  obtain ⟨T', S', s1, s2, s3, s4, s5, s6, s7, s8, s9⟩ := P_give (F := F) (how := how) (n := n) hF h2 (by omega) ha ht hd ⟨e % 8, by omega, rfl⟩ hag m2 hhow
  rw [c36] at s4
  refine ⟨T', S', s1, ?_, s3, ?_, s5.trans v2, s6.trans v3, s7, s8, FrA.trans ⟨fun a k ha => m4 a k (by omega), fun i hi => m3 i (by omega)⟩ s9⟩
  · rw [m1, s2]
    rfl
  · rw [s4, v1]
    congr 1
    exact fiRow_ext (fun i hi => by unfold hE eT; rw [if_pos hi])
theorem one_eq (b : Bool) : m_c1 .eq (b2i b) = !b := by cases b <;> rfl
theorem two_ne (b : Bool) : m_c1 .ne (b2i b) = b := by cases b <;> rfl
/-- the cells of a request, as its missing blocks ask for them -/
theorem isQt.hasC (h : isQt T S rs z) : ∃ cc rr bb, T.1 z.1 = some (cReq z.2.2.2.1 cc rr bb) ∧ hasC T cc z.2.2.2.2 := by
  obtain ⟨q, f, ro, g, cd⟩ := z
  cases ro with
  | none =>
    cases cd with
    | none => obtain ⟨b, h⟩ := h; exact ⟨none, none, b, h, trivial⟩
    | some k => exact absurd h (fun w => w)
  | some r =>
    cases cd with
    | none => exact absurd h (fun w => w)
    | some k => obtain ⟨⟨ca, ra, s, b, h1, h2, _⟩, _⟩ := h; exact ⟨some ca, some ra, b, h1, s, h2⟩
/-- what is found of a request in the store, in both -/
theorem RB.suB (hF : 400 ≤ F) (h : RB T S X Y Z Q [z] Pd j0 rs c) (h1 : 1 ≤ n) (h2 : n < 7) {p v la fo : Nat} (hff : z.2.1 = 128 * n + (4 * p + v)) (hp : p < 32) (hv : v < 4) (hla : la < 4) (hfo : fo < 2) (g0 : z.2.2.2.1 0 = Int32.ofNat p) (g1 : z.2.2.2.1 1 = Int32.ofNat v) (g2 : z.2.2.2.1 2 = Int32.ofNat la) (g3 : z.2.2.2.1 3 = Int32.ofNat fo) : ∃ o : Option (Nat × Nat), D_c_Store_suiting F (528 + 8 * n) (some z.1) T = some (o.map Prod.fst) ∧ D_m_suits F (Int32.ofNat z.2.1) (Int32.ofNat (la + 4 * fo)) S = some (oI (o.map Prod.snd)) ∧ (∀ q, o = some q → q ∈ X n ++ Y n ∧ suitE S z.2.1 la fo q.2 ∧ q.2 < 7168 ∧ okT (eT S q.2) ∧ ∃ t k, T.1 q.1 = some (cEntry (z.2.2.2.1 0) (z.2.2.2.1 1) t (Int32.ofNat (q.2 % 8)) (rd S 604 q.2) (rd S 605 q.2) (rd S 606 q.2) (rd S 607 q.2) k) ∧ T.1 t = some (cTold (z.2.2.2.1 0) (eT S q.2))) ∧ (o = none → ∀ e, ¬ suitE S z.2.1 la fo e) := by
  obtain ⟨cc, rr, bb, hq⟩ := h.cur.1.cell
  obtain ⟨hRS, hl, _⟩ := h.2.2.2.2.2.1.1 n h1 h2
  obtain ⟨o, o1, o2, o3, o4⟩ := suit (F := F) hF hRS h.2.2.2.2.2.1.2.2.1 (by omega) hq hp hv hla hfo g0 g1 g2 g3
  rw [← hff] at o2 o3 o4
  refine ⟨o, o1, o2, fun q hq' => ?_, o4⟩
  obtain ⟨a1, a2⟩ := o3 q hq'
  obtain ⟨e1, e2, e3, e4⟩ := suit_pv a2 hff hp hv h2
  obtain ⟨k, hk⟩ := hRS.ent a1
  obtain ⟨t, t1, t2, t3⟩ := hk.full
  rw [e1, e2, ← g0, ← g1] at t1
  rw [e1, ← g0] at t2
  exact ⟨a1, a2, e3, t3, t, k, t1, t2⟩
/-- a request that fails, in both: the class's loop goes on behind it -/
theorem P_giveUp (hF : 400 ≤ F) (h : RB T S X Y Z Q [z] Pd j0 rs c) (hA : okAge S) (hn : z.2.1 / 128 = n) : ∃ T' S' m, (∀ k, D_c_EdgeHouse_failAll_2 F (k + 1) 512 (some (527 + 8 * n)) (some z.1) T = (tgr T' z.1 6 18).bind fun v => D_c_EdgeHouse_failAll_2 F k 512 (some (527 + 8 * n)) v T') ∧ D_m_giveUp F (Int32.ofNat (wOf Q)) S = some S' ∧ RB T' S' X Y Z Q [] Pd j0 rs c ∧ okAns (vE S) (S.1 36) z m ∧ vM S' = gvM (vM S) z m ∧ vE S' = vE S ∧ vS S' = vS S ∧ Kq [] kX T T' ∧ Cs T T' (gvC z) (19 * gvC z) ∧ FrA S S' := by
  obtain ⟨n', p, v, la, fo, hn1, hp, hv, hla, hfo, hff, hfn, g0, g1, g2, g3, w0, w1, w11, w10, fl12, fl6, hnf, hnc⟩ := h.nd
  have : n' = n := hfn.symm.trans hn
  subst this
  obtain ⟨cc, rr, bb, hq, hC⟩ := h.cur.1.hasC
  obtain ⟨o, o1, o2, o3, o4⟩ := h.suB (F := F) hF hn1.1 hn1.2 hff hp hv hla hfo g0 g1 g2 g3
  have hnode := (h.2.2.2.2.1.2.1 n' hn1.1 hn1.2).1
  have hH : T.1 512 = some (house S.1) := h.2.1
  have e41 : tgr T (527 + 8 * n') 4 1 = some (some (528 + 8 * n')) := tgr_o (x := some (528 + 8 * n')) hnode rfl
  have e40 : tgi T (527 + 8 * n') 4 0 = some (Int32.ofNat n') := tgi_o hnode rfl
  have e5 : tcl T (528 + 8 * n') 5 = some () := (h.2.2.2.2.2.1.1 n' hn1.1 hn1.2).1.stC.1
  have a0 : aget 0 48000 S 622 (Int32.ofNat (wOf Q)) = some (Int32.ofNat n') := by rw [← w0]; exact aget_n (Or.inl rfl) (by have := h.w.1; omega) (by decide)
  have a1 : aget 0 48000 S 622 (Int32.ofNat (wOf Q) + 1) = some (Int32.ofNat (4 * p + v)) := by rw [← w1]; exact wait1 h.w.1
  have a11 : aget 0 48000 S 622 (Int32.ofNat (wOf Q) + 11) = some (Int32.ofNat (la + 4 * fo)) := by rw [← w11]; exact wait11 h.w.1
  have ekey : (128 : Int32) * Int32.ofNat n' + Int32.ofNat (4 * p + v) = Int32.ofNat z.2.1 := by rw [k128, i_add, hff]
  have mk := r_marked (F := F) h.rw (o := o.map Prod.snd) (fun e he => by
    cases o with
    | none => cases he
    | some q => cases he; exact (o3 q rfl).2.2.1)
  -- what the reference does
  have mstart : D_m_giveUp F (Int32.ofNat (wOf Q)) S = D_m_giveUp F (Int32.ofNat (wOf Q)) S := rfl
  conv at mstart => rhs; unfold D_m_giveUp
  rw [a0, Option.bind_some, a1, Option.bind_some, a11, Option.bind_some, ekey, o2, Option.bind_some, mk, Option.bind_some, one_eq] at mstart
  -- it is refused
  have ref : D_m_giveUp F (Int32.ofNat (wOf Q)) S = D_m_giveUp_81 F (Int32.ofNat (wOf Q)) S → (∀ k, D_c_EdgeHouse_failAll_2 F (k + 1) 512 (some (527 + 8 * n')) (some z.1) T = D_c_EdgeHouse_failAll_62 F (D_c_EdgeHouse_failAll_2 F k) 512 (some (527 + 8 * n')) (some z.1) T) → ∃ T' S' m, (∀ k, D_c_EdgeHouse_failAll_2 F (k + 1) 512 (some (527 + 8 * n')) (some z.1) T = (tgr T' z.1 6 18).bind fun v => D_c_EdgeHouse_failAll_2 F k 512 (some (527 + 8 * n')) v T') ∧ D_m_giveUp F (Int32.ofNat (wOf Q)) S = some S' ∧ RB T' S' X Y Z Q [] Pd j0 rs c ∧ okAns (vE S) (S.1 36) z m ∧ vM S' = gvM (vM S) z m ∧ vE S' = vE S ∧ vS S' = vS S ∧ Kq [] kX T T' ∧ Cs T T' (gvC z) (19 * gvC z) ∧ FrA S S' := by
    intro hm hcl
    cases hz : z.2.2.1 with
    | none =>
      obtain ⟨T', S', n9, b, y1, y2, y3, y4, y5, y6, y7, y8, y9, y10, y11⟩ := P_reff (F := F) (st := 504) (by omega) h hz (Or.inr rfl)
      have : n9 = n' := y2.symm.trans hn
      subst this
      refine ⟨T', S', cut (stRow n9 z.2.2.2.1 504), fun k => ?_, ?_, y5, fun _ => Or.inl ⟨504, Or.inr rfl, by rw [hn]⟩, ?_, y7, y8, y9, ?_, y11⟩
      · rw [hcl k]
        unfold D_c_EdgeHouse_failAll_62
        simp only [Option.bind_some, Qr14 y1, nc, e40, tcl_o hH, y3, D_c_EdgeHouse_failAll_95]
      · rw [hm]; unfold D_m_giveUp_81; rw [y4]; rfl
      · rw [y6]; unfold gvM; rw [hz]
      · unfold gvC; rw [hz]; exact y10
    | some r =>
      obtain ⟨T', S', ca, ra, b, y1, y2, y3, y4, y5, y6, y7, y8, y9, y10, y11, y12⟩ := P_refc (F := F) (st := 504) h hz (Or.inr (Or.inr (Or.inr (Or.inr rfl)))) (-1)
      refine ⟨T', S', fun _ => 0, fun k => ?_, ?_, y6, fun w => (by rw [hz] at w; cases w), ?_, y8, y9, y10, ?_, y12⟩
      · rw [hcl k]
        unfold D_c_EdgeHouse_failAll_62
        simp only [Option.bind_some, Qr14 y1, nc, tcl_o hH, y2, D_c_EdgeHouse_failAll_95]
      · rw [hm]
        unfold D_m_giveUp_81 D_m_refuse
        have a2 := wait2 (S := S) h.w.1
        rw [y4] at a2
        rw [a2, Option.bind_some, ofNat_ne_m1 (show r < 2147483648 by omega), cond_false, Option.bind_some, y3]
        rfl
      · rw [y7]; unfold gvM; rw [hz]
      · unfold gvC; rw [hz]; exact y11
  cases o with
  | none =>
    refine ref ?_ (fun k => ?_)
    · rw [mstart]; rfl
    · conv => lhs; unfold D_c_EdgeHouse_failAll_2
      simp only [nc, Option.bind_some, e41, e5, o1, Option.map_none]
  | some q =>
    obtain ⟨q1', q2', q3', q4', t, kp, t1, t2⟩ := o3 q rfl
    have en := c_enough (F := F) hq hC t1 t2
    have ws := r_whole (F := F) (by omega) h.rw q3' q4'.2.2.1
    have ag := hA.at q3' q2'.2.1
    obtain ⟨A, A1, A2⟩ := ag
    obtain ⟨L, L1, L2⟩ := life_few q4'
    obtain ⟨W, W1, W2⟩ := q4'.2.2.2.2.1
    have lf := m_life (F := F) q3' q4'.2.2.2.2.2.2.2.1
    have t3 : D_m_told F (Int32.ofNat q.2) 3 S = some (eT S q.2 3) := told3 q3'
    have suits : decide (z.2.2.2.1 0 = z.2.2.2.1 0 ∧ z.2.2.2.1 1 = z.2.2.2.1 1 ∧ Int32.ofNat (q.2 % 8) = v_which (eT S q.2 8) (z.2.2.2.1 2) (z.2.2.2.1 3)) = true := decide_eq_true ⟨rfl, rfl, by rw [g2, g3]; exact q2'.2.2⟩
    rw [suits, Bool.true_and] at en
    have cstart : ∀ k, D_c_EdgeHouse_failAll_2 F (k + 1) 512 (some (527 + 8 * n')) (some z.1) T = cond (m_c1 .eq (b2i (decide (z.2.2.2.1 11 ≤ rd S 604 q.2) && decide (v_missing z.2.2.2.1 z.2.2.2.2 (eT S q.2) (Int32.ofNat (q.2 % 8)) (rd S 607 q.2) = 0)))) (D_c_EdgeHouse_failAll_62 F (D_c_EdgeHouse_failAll_2 F k) 512 (some (527 + 8 * n')) (some z.1) T) (cond (m_c1 .eq (b2i (decide ((rd S 605 q.2 + S.1 36) - rd S 606 q.2 < v_life (eT S q.2) + eT S q.2 3)))) (D_c_EdgeHouse_failAll_62 F (D_c_EdgeHouse_failAll_2 F k) 512 (some (527 + 8 * n')) (some z.1) T) ((D_c_EdgeHouse_serve F 512 (some (527 + 8 * n')) (some z.1) (some q.1) (2 : Int32) T).bind fun T76 => D_c_EdgeHouse_failAll_95 F (D_c_EdgeHouse_failAll_2 F k) 512 (some (527 + 8 * n')) (some z.1) T76)) := by
      intro k
      conv => lhs; unfold D_c_EdgeHouse_failAll_2
      simp only [nc, Option.bind_some, e41, e5, o1, Option.map_some, tcl_o t1, en, Er2 t1, Hg14 hH, c_ageAt t1, tcl_o t2, c_helps t2, tcl_o hH]
    have mk2 : D_m_giveUp F (Int32.ofNat (wOf Q)) S = cond (!decide (z.2.2.2.1 11 ≤ rd S 604 q.2)) (D_m_giveUp_81 F (Int32.ofNat (wOf Q)) S) (cond (!decide (v_missing z.2.2.2.1 z.2.2.2.2 (eT S q.2) (Int32.ofNat (q.2 % 8)) (rd S 607 q.2) = 0)) (D_m_giveUp_81 F (Int32.ofNat (wOf Q)) S) (cond (m_c2 .ge ((rd S 605 q.2 + S.1 36) - rd S 606 q.2) (v_life (eT S q.2) + eT S q.2 3)) (D_m_giveUp_81 F (Int32.ofNat (wOf Q)) S) ((D_m_serve F (Int32.ofNat (wOf Q)) (Int32.ofNat q.2) (2 : Int32) S).bind fun S37 => some S37))) := by
      refine mstart.trans ?_
      simp only [Option.map_some, oI]
      rw [ws, Option.bind_some, one_eq, m_ageOf q3', Option.bind_some, lf, Option.bind_some, t3, Option.bind_some]
    by_cases c1 : z.2.2.2.1 11 ≤ rd S 604 q.2
    · by_cases c2 : v_missing z.2.2.2.1 z.2.2.2.2 (eT S q.2) (Int32.ofNat (q.2 % 8)) (rd S 607 q.2) = 0
      · rw [decide_eq_true c1, decide_eq_true c2] at mk2 cstart
        have gew : m_c2 .ge (Int32.ofNat A) (Int32.ofNat L + Int32.ofNat W) = decide (L + W ≤ A) := by rw [i_add]; exact ge_n (by omega) (by omega)
        have ilt : (Int32.ofNat A < Int32.ofNat L + Int32.ofNat W) ↔ A < L + W := by rw [i_add]; exact i_lt (by show A < 2147483648; omega) (by show L + W < 2147483648; omega)
        rw [A2, L2, W2, gew] at mk2
        rw [A2, L2, W2] at cstart
        by_cases c3 : A < L + W
        · rw [decide_eq_false (show ¬ L + W ≤ A by omega)] at mk2
          rw [decide_eq_true (ilt.mpr c3)] at cstart
          obtain ⟨T', S', s1, s2, s3, s4, s5, s6, s7, s8, s9⟩ := P_serveC (F := F) (how := 2) (n := n') (by omega) h hn1.2 hff hp hv q3' t1 t2 q4' (hA.at q3' q2'.2.1) (Or.inr (Or.inr rfl))
          refine ⟨T', S', _, fun k => ?_, ?_, s3, fun hz => Or.inr ⟨q.2, hE S q.2, vE_some q3' q2'.2.1, q2'.1, by rw [g2, g3]; exact q2'.2.2, c1, (v_missing_ext rfl rfl).trans c2, by rw [hn]⟩, s4, s5, s6, s7, s8, s9⟩
          · rw [cstart k, s1]
            rfl
          · rw [mk2, s2]
            rfl
        · rw [decide_eq_true (show L + W ≤ A by omega)] at mk2
          rw [decide_eq_false (fun w => c3 (ilt.mp w))] at cstart
          exact ref (mk2.trans rfl) (fun k => (cstart k).trans rfl)
      · rw [decide_eq_true c1, decide_eq_false c2] at mk2 cstart
        exact ref (mk2.trans rfl) (fun k => (cstart k).trans rfl)
    · rw [decide_eq_false c1] at mk2 cstart
      exact ref (mk2.trans rfl) (fun k => (cstart k).trans rfl)
/-- a request ends with a status, in both -/
theorem P_end {st : Int32} (hF : 400 ≤ F) (h : RB T S X Y Z Q [z] Pd j0 rs c) (hn : z.2.1 / 128 = n) (hst : st = 404 ∨ st = 504) : ∃ T' S' m, (∀ k, D_c_EdgeHouse_endAll_3 F (k + 1) 512 (some (527 + 8 * n)) st (some z.1) T = (tgr T' z.1 6 18).bind fun v => D_c_EdgeHouse_endAll_3 F k 512 (some (527 + 8 * n)) st v T') ∧ D_m_refuse F (Int32.ofNat (wOf Q)) st S = some S' ∧ RB T' S' X Y Z Q [] Pd j0 rs c ∧ okAns (vE S) (S.1 36) z m ∧ vM S' = gvM (vM S) z m ∧ vE S' = vE S ∧ vS S' = vS S ∧ Kq [] kX T T' ∧ Cs T T' (gvC z) (19 * gvC z) ∧ FrA S S' := by
  obtain ⟨n', p, v, la, fo, hn1, hp, hv, hla, hfo, hff, hfn, _⟩ := h.nd
  have : n' = n := hfn.symm.trans hn
  subst this
  have hnode := (h.2.2.2.2.1.2.1 n' hn1.1 hn1.2).1
  have hH : T.1 512 = some (house S.1) := h.2.1
  have e40 : tgi T (527 + 8 * n') 4 0 = some (Int32.ofNat n') := tgi_o hnode rfl
  cases hz : z.2.2.1 with
  | none =>
    obtain ⟨T', S', n9, b, y1, y2, y3, y4, y5, y6, y7, y8, y9, y10, y11⟩ := P_reff (F := F) (st := st) (by omega) h hz hst
    have : n9 = n' := y2.symm.trans hn
    subst this
    refine ⟨T', S', cut (stRow n9 z.2.2.2.1 st), fun k => ?_, y4, y5, fun _ => Or.inl ⟨st, hst, by rw [hn]⟩, ?_, y7, y8, y9, ?_, y11⟩
    · conv => lhs; unfold D_c_EdgeHouse_endAll_3
      simp only [nc, Option.bind_some, Qr14 y1, e40, tcl_o hH, y3, D_c_EdgeHouse_endAll_40]
    · rw [y6]; unfold gvM; rw [hz]
    · unfold gvC; rw [hz]; exact y10
  | some r =>
    obtain ⟨T', S', ca, ra, b, y1, y2, y3, y4, y5, y6, y7, y8, y9, y10, y11, y12⟩ := P_refc (F := F) (st := st) h hz (by rcases hst with w | w <;> simp [w]) (-1)
    refine ⟨T', S', fun _ => 0, fun k => ?_, ?_, y6, fun w => (by rw [hz] at w; cases w), ?_, y8, y9, y10, ?_, y12⟩
    · conv => lhs; unfold D_c_EdgeHouse_endAll_3
      simp only [nc, Option.bind_some, Qr14 y1, tcl_o hH, y2, D_c_EdgeHouse_endAll_40]
    · unfold D_m_refuse
      have a2 := wait2 (S := S) h.w.1
      rw [y4] at a2
      rw [a2, Option.bind_some, ofNat_ne_m1 (show r < 2147483648 by omega), cond_false, Option.bind_some, y3]
      rfl
    · rw [y7]; unfold gvM; rw [hz]
    · unfold gvC; rw [hz]; exact y11
end
