/-! A request is looked at, in both. -/
def hadOK (E : Nat → Option (Nat → Int32)) (seen : Int32) (G : Nat → Int32) (f : Nat) (x y had : Int32) : Prop := ∃ o : Option Nat, (∀ e, o = some e → sE E f x y e) ∧ (o = none → ∀ e, ¬ sE E f x y e) ∧ had = (match o with | none => 0 | some e => match E e with | none => 0 | some h => if seen ≤ h 9 ∧ v_blocks (h 1) (G 5) (G 6) &&& (h 10 ^^^ -1) = 0 then h 0 else 0)
def toOK (n to0 : Nat) : Prop := (n ≤ 2 ∧ to0 = 0) ∨ (3 ≤ n ∧ 1 ≤ to0 ∧ to0 ≤ 2)
def mkY (N : Nat → Nat → Int32) (fa f n to0 : Nat) (G : Nat → Int32) : Fz := (fa, f, fup (fup (fup (fup G 7 (N 1 n + 1)) 8 (Int32.ofNat to0)) 9 (N 0 n)) 10 (N 7 0))
def mkM (N : Nat → Nat → Int32) (n to0 : Nat) (G : Nat → Int32) (wants had : Int32) : Nat → Int32 := cut (fetRow n to0 (N 1 n + 1) (N 0 n) G wants had)
def mkN (N : Nat → Nat → Int32) (n : Nat) : Nat → Nat → Int32 := fun j k => if j = 1 ∧ k = n then N 1 n + 1 else N j k
def ClA (I : Iv) : Prop := ∀ M Q Pd Z E E' N k1 k2 z m, I M Q (lk1 z :: Pd) Z E N k1 k2 → okAns E (N 7 0) z m → vShr E E' → I (gvM M z m) Q Pd Z E' N (k1 + gvC z) (k2 + 19 * gvC z)
def ClB (I : Iv) : Prop := ∀ M Q Pd Z E N k1 k2 z, I M Q (lk1 z :: Pd) Z E N k1 k2 → (∃ y ∈ Z (z.2.1 / 128), y.2.1 = z.2.1) → I M (Q ++ [z]) Pd Z E N k1 k2
/-- what a fetch that is made keeps to -/
def okMk (Z : Nat → List Fz) (E : Nat → Option (Nat → Int32)) (N : Nat → Nat → Int32) (z : Rq) (mi : Int32) (to0 la fo : Nat) (had : Int32) : Prop := (∀ y ∈ Z (z.2.1 / 128), ¬ y.2.1 = z.2.1) ∧ (mi = 0 ∨ z.2.2.2.1 12 = 0) ∧ few 16 (newG z.2.2.2.1 mi 5) ∧ few 16 (newG z.2.2.2.1 mi 6) ∧ la < 4 ∧ fo < 2 ∧ z.2.2.2.1 2 = Int32.ofNat la ∧ z.2.2.2.1 3 = Int32.ofNat fo ∧ toOK (z.2.1 / 128) to0 ∧ hadOK E (N 0 (z.2.1 / 128)) (newG z.2.2.2.1 mi) z.2.1 (z.2.2.2.1 2) (z.2.2.2.1 3) had
def ClC (I : Iv) : Prop := ∀ M Q Pd Z E N k1 k2 z mi fa to0 la fo had, I M Q (lk1 z :: Pd) Z E N k1 k2 → okMk Z E N z mi to0 la fo had → I (psh M (mkM N (z.2.1 / 128) to0 (newG z.2.2.2.1 mi) (Int32.ofNat (la + 4 * fo)) had)) (Q ++ [z]) Pd (zAdd Z (z.2.1 / 128) (mkY N fa z.2.1 (z.2.1 / 128) to0 (newG z.2.2.2.1 mi))) E (mkN N (z.2.1 / 128)) (k1 + 2) (k2 + 33)
def ClC0 (I : Iv) : Prop := ∀ M Q Pd Z E N k1 k2 z m, I M Q (lk1 z :: Pd) Z E N k1 k2 → 3 ≤ z.2.1 / 128 → okAns E (N 7 0) z m → I (gvM M z m) Q Pd Z E N (k1 + 1 + gvC z) (k2 + 14 + 19 * gvC z)
def ClD (I : Iv) : Prop := ∀ M Q Pd Z E N k1 k2 z m fa to0 la fo had, I M Q (lk1 z :: Pd) Z E N k1 k2 → okAns E (N 7 0) z m → okMk Z E N z 0 to0 la fo had → I (psh (gvM M z m) (mkM N (z.2.1 / 128) to0 (newG z.2.2.2.1 0) (Int32.ofNat (la + 4 * fo)) had)) Q Pd (zAdd Z (z.2.1 / 128) (mkY N fa z.2.1 (z.2.1 / 128) to0 (newG z.2.2.2.1 0))) E (mkN N (z.2.1 / 128)) (k1 + gvC z + 2) (k2 + 19 * gvC z + 33)
def FaJ (I : Iv) : Prop := ∀ M Q Pd Z E N k1 k2, I M Q Pd Z E N k1 k2 → ∀ n, 1 ≤ n → n < 7 → ∃ J, N 1 n = Int32.ofNat J ∧ J + 1 < 1000000000 ∧ ∀ y ∈ Z n, nmb y ≤ J
def FaE (I : Iv) : Prop := ∀ M Q Pd Z E N k1 k2, I M Q Pd Z E N k1 k2 → ∀ e h, E e = some h → few 100000 ((h 11 + N 7 0) - h 12)
def Clo (I : Iv) : Prop := ClA I ∧ ClB I ∧ ClC I ∧ ClC0 I ∧ ClD I ∧ FaJ I ∧ FaE I
theorem cost_step {T T' : tT} {k1 k2 a b : Nat} (hc : T.2.1 ≤ k1 + capS T ∧ T.2.2 ≤ k2 + 4 * capS T) (cs : Cs T T' a b) (hL : okL T) : T'.2.1 ≤ (k1 + a) + capS T' ∧ T'.2.2 ≤ (k2 + b) + 4 * capS T' := by
  obtain ⟨_, c1, c2⟩ := cs hL
  omega
theorem vShr.refl {E : Nat → Option (Nat → Int32)} : vShr E E := fun e => Or.inr rfl
section
variable {I : Iv} {T : tT} {S : mS} {X Y : Nat → List (Nat × Nat)} {Z : Nat → List Fz} {Q Pd : List Rq} {j0 c F n k1 k2 : Nat} {rs : List Nat} {z : Rq}
theorem sE_iff {f la fo : Nat} {x y : Int32} (hx : x = Int32.ofNat la) (hy : y = Int32.ofNat fo) (hf : f < 896) (e : Nat) : sE (vE S) f x y e ↔ suitE S f la fo e := by
  unfold sE suitE
  constructor
  · rintro ⟨h1, h, h2, h3⟩
    unfold vE at h2
    by_cases w : e < 7168 ∧ ¬ rd S 601 e = 0
    · rw [if_pos w] at h2
      cases h2
      exact ⟨h1, w.2, by rw [← hx, ← hy]; exact h3⟩
    · rw [if_neg w] at h2
      cases h2
  · rintro ⟨h1, h2, h3⟩
    exact ⟨h1, hE S e, vE_some (by omega) h2, by rw [hx, hy]; exact h3⟩
theorem hadOK_of {f la fo : Nat} {G : Nat → Int32} {x y : Int32} (hx : x = Int32.ofNat la) (hy : y = Int32.ofNat fo) (hf : f < 896) {o : Option Nat} (o1 : ∀ e, o = some e → suitE S f la fo e) (o2 : o = none → ∀ e, ¬ suitE S f la fo e) : hadOK (vE S) (rd S 593 n) G f x y (v_hadG S n G o) := by
  refine ⟨o, fun e he => (sE_iff hx hy hf e).mpr (o1 e he), fun ho e he => o2 ho e ((sE_iff hx hy hf e).mp he), ?_⟩
  cases o with
  | none => rfl
  | some e =>
    have hs := o1 e rfl
    have := vE_some (S := S) (show e < 7168 by have := hs.1; omega) hs.2.1
    show v_hadG S n G (some e) = match vE S e with | none => 0 | some h => if rd S 593 n ≤ h 9 ∧ v_blocks (h 1) (G 5) (G 6) &&& (h 10 ^^^ -1) = 0 then h 0 else 0
    rw [this]
    rfl
/-- what is left when neither a HIT nor a stale entry serves -/
theorem look_rest (hF : 1100 ≤ F) (hI : Clo I) (h : RA I T S X Y Z Q [z] Pd j0 rs c k1 k2) (hn : z.2.1 / 128 = n) (hb : ∃ cc rr, T.1 z.1 = some (cReq z.2.2.2.1 cc rr none)) {p v la fo : Nat} (h1 : 1 ≤ n) (h2 : n < 7) (hff : z.2.1 = 128 * n + (4 * p + v)) (hp : p < 32) (hv : v < 4) (hla : la < 4) (hfo : fo < 2) (g0 : z.2.2.2.1 0 = Int32.ofNat p) (g1 : z.2.2.2.1 1 = Int32.ofNat v) (g2 : z.2.2.2.1 2 = Int32.ofNat la) (g3 : z.2.2.2.1 3 = Int32.ofNat fo) (w11 : rd S 622 (wOf Q + 11) = Int32.ofNat (la + 4 * fo)) {o : Option Nat} (o1 : ∀ e, o = some e → suitE S z.2.1 la fo e) (o2 : o = none → ∀ e, ¬ suitE S z.2.1 la fo e) (ho : ∀ e, o = some e → e < 7168 ∧ okT (eT S e) ∧ few 100000 ((rd S 605 e + S.1 36) - rd S 606 e)) {x6 x7 : Int32} (hx : (cond (m_c1 .eq x7) (some (0 : Int32)) (cond (m_c1 .ne (z.2.2.2.1 12)) (some (0 : Int32)) (some x6))) = some (v_mi S z o)) : ∃ T' S' Z' Q' k1' k2', D_c_EdgeHouse_look_199 F 512 (some (527 + 8 * n)) (some z.1) x6 x7 T = some T' ∧ D_m_look_168 F (Int32.ofNat (wOf Q)) (Int32.ofNat n) (Int32.ofNat z.2.1) (rd S 622 (wOf Q + 2)) S = some S' ∧ RA I T' S' X Y Z' Q' [] Pd j0 rs c k1' k2' := by
  obtain ⟨hR, hcost, hIv⟩ := h
  obtain ⟨cc, rr, hq⟩ := hb
  obtain ⟨cA, cB, cC, cC0, cD, fJ, fE⟩ := hI
  have hnode := (hR.2.2.2.2.1.2.1 n h1 h2).1
  have hH : T.1 512 = some (house S.1) := hR.2.1
  have hcur := hR.cur
  have hIv1 : I (vM S) Q (lk1 z :: Pd) Z (vE S) (vS S) k1 k2 := hIv
  have hA : okAge S := fun e h he => fE _ _ _ _ _ _ _ _ hIv e h he
  -- only if it is cached
  have oc : z.2.2.2.1 7 = 1 → ∃ T' S' Z' Q' k1' k2', D_c_EdgeHouse_look_199 F 512 (some (527 + 8 * n)) (some z.1) x6 x7 T = some T' ∧ D_m_look_168 F (Int32.ofNat (wOf Q)) (Int32.ofNat n) (Int32.ofNat z.2.1) (rd S 622 (wOf Q + 2)) S = some S' ∧ RA I T' S' X Y Z' Q' [] Pd j0 rs c k1' k2' := by
    intro g7
    cases hz : z.2.2.1 with
    | none =>
      obtain ⟨b, m, _, _, _, a3⟩ := hcur.fetch hz
      exact absurd (a3.2.2.2.2.2.2.2.2.2.2.1.symm.trans g7) (by decide)
    | some r =>
      obtain ⟨T', S', m, e1, e2, e3, e4, e5, e6, e7, e8, e9, e10⟩ := P_end (F := F) (st := 504) (by omega) hR hn (Or.inr rfl)
      obtain ⟨k, ca, ra, s, b, m9, _, _, _, _, _, _, _, a7⟩ := hcur.client hz
      have w2 : rd S 622 (wOf Q + 2) = Int32.ofNat r := a7.2.2.2.1
      have hr : r < 300 := a7.2.1.1
      have q7 : rd S 620 (23 * r + 17) = 1 := a7.2.2.2.2.2.2.2.2.1.symm.trans g7
      have qT : T'.1 z.1 = some (cReq z.2.2.2.1 cc rr none) := e8.k hq (show (6 : Nat) ∈ kX by decide)
      refine ⟨T', S', Z, Q, k1 + gvC z, k2 + 19 * gvC z, ?_, ?_, e3, cost_step hcost e9 hR.1, ?_⟩
      · have ee : D_c_EdgeHouse_endAll F 512 (some (527 + 8 * n)) (some z.1) 504 T = some T' := by
          unfold D_c_EdgeHouse_endAll
          obtain ⟨F', rfl⟩ : ∃ G, F = G + 2 := ⟨F - 2, by omega⟩
          rw [e1 (F' + 1), Qr18 qT, Option.bind_some]
          rfl
        unfold D_c_EdgeHouse_look_199
        simp only [Option.bind_some, Qg7 hq, g7, show m_c1 .eq (1 : Int32) = false from rfl, cond_false, tcl_o hH, ee]
      · have ec : D_m_close F (Int32.ofNat r) 504 (-1) 0 S = some S' := by
          unfold D_m_refuse at e2
          have a2 := wait2 (S := S) hR.w.1
          rw [w2] at a2
          rw [a2, Option.bind_some, ofNat_ne_m1 (show r < 2147483648 by omega), cond_false, Option.bind_some] at e2
          cases hx : D_m_close F (Int32.ofNat r) 504 (-1) 0 S with
          | none => rw [hx] at e2; cases e2
          | some S9 => rw [hx] at e2; exact e2
        unfold D_m_look_168
        have a17 := asks17 (F := F) (S := S) hr
        rw [q7] at a17
        rw [w2, ofNat_ne_m1 (show r < 2147483648 by omega), cond_false, a17, Option.bind_some, show m_c2 .ne (1 : Int32) 1 = false from rfl, cond_false, ec]
        rfl
      · rw [e5, e6, e7]
        exact cA _ _ _ _ _ _ _ _ _ _ _ hIv1 e4 vShr.refl
  have f7 : flag (z.2.2.2.1 7) := by
    cases hz : z.2.2.1 with
    | none =>
      obtain ⟨b, m, _, _, _, a3⟩ := hcur.fetch hz
      exact Or.inl a3.2.2.2.2.2.2.2.2.2.2.1
    | some r =>
      obtain ⟨k, ca, ra, s, b, m9, _, _, _, _, _, _, _, a7⟩ := hcur.client hz
      exact a7.2.2.2.2.2.2.2.2.2.1
  by_cases g71 : z.2.2.2.1 7 = 1
  · exact oc g71
  have g7 : z.2.2.2.1 7 = 0 := f7.resolve_right g71
  -- it goes on to wait
  have c199 : ∀ (u : Option Nat) (T2 : tT), D_c_EdgeHouse_letWait F 512 (some (527 + 8 * n)) (some z.1) (v_mi S z o) T = some (u, T2) → D_c_EdgeHouse_look_199 F 512 (some (527 + 8 * n)) (some z.1) x6 x7 T = nc u (some T2) fun a394 => ((tcl T2 512 0).bind fun _ => bd2 (D_c_EdgeHouse_sendFetch F 512 (some (527 + 8 * n)) (some a394) T2) fun v399 T400 => cond (m_c1 .ne v399) (some T400) ((tcl T400 512 0).bind fun _ => (D_c_EdgeHouse_failAll F 512 (some (527 + 8 * n)) (some z.1) T400).bind fun T413 => some T413)) := by
    intro u T2 hu
    unfold D_c_EdgeHouse_look_199
    simp only [Option.bind_some, Qg7 hq, g7, show m_c1 .eq (0 : Int32) = true from rfl, cond_true, Qg12 hq]
    rw [hx]
    simp only [Option.bind_some, tcl_o hH, bd2, hu]
  have m168 : D_m_look_168 F (Int32.ofNat (wOf Q)) (Int32.ofNat n) (Int32.ofNat z.2.1) (rd S 622 (wOf Q + 2)) S = D_m_look_200 F (Int32.ofNat (wOf Q)) (Int32.ofNat n) (Int32.ofNat z.2.1) S := by
    unfold D_m_look_168
    cases hz : z.2.2.1 with
    | none =>
      obtain ⟨b, m, _, _, _, a3⟩ := hcur.fetch hz
      rw [show rd S 622 (wOf Q + 2) = -1 from a3.2.1]
      rfl
    | some r =>
      obtain ⟨k, ca, ra, s, b, m9, _, _, _, _, _, _, _, a7⟩ := hcur.client hz
      have w2 : rd S 622 (wOf Q + 2) = Int32.ofNat r := a7.2.2.2.1
      have hr : r < 300 := a7.2.1.1
      have q7 : rd S 620 (23 * r + 17) = 0 := a7.2.2.2.2.2.2.2.2.1.symm.trans g7
      have a17 := asks17 (F := F) (S := S) hr
      rw [q7] at a17
      rw [w2, ofNat_ne_m1 (show r < 2147483648 by omega), cond_false, a17, Option.bind_some]
      rfl
  have a609 : aget 4 896 S 609 (Int32.ofNat z.2.1) = some (rd S 609 z.2.1) := aget_n (Or.inr rfl) (by omega) (by decide)
  rcases c_fetchOf (F := F) (by omega) hR.2.2.2.2.2.2.1 h1 h2 hnode hp hv with ⟨f1, f2, f3⟩ | ⟨y, f1, f2, f3, f4⟩
  · -- nothing is out
    rw [← hff] at f1 f2
    obtain ⟨J, J1, J2, J3⟩ := fJ _ _ _ _ _ _ _ _ hIv n h1 h2
    have a595 : aget 0 7 S 595 (Int32.ofNat n) = some (rd S 595 n) := aget_n (Or.inl rfl) (by omega) (by decide)
    have p595 : aput 7 S 595 (Int32.ofNat n) (rd S 595 n + 1) = some (up2 S 595 n (rd S 595 n + 1)) := aput_n (by omega) (by decide)
    obtain ⟨T1, t1, cs1, hh⟩ := P_make (F := F) (by omega) hR h1 h2 hff hp hv hla hfo g0 g1 g2 g3 w11 f1 f2 f3 o1 o2 ho (J := J) ⟨J1, J2, J3⟩
    rcases hh with ⟨S1, u0, u1, u2, u3, u4, u5, u6, cc', rr', u7⟩ | ⟨to0, T', S1, S', u1, u2, u3, u4, u5, u6, u7, u8, u9⟩
    · -- nobody to ask
      have clk1 : S1.1 36 = S.1 36 := congrFun (congrFun u6 7) 0
      have hA1 : okAge S1 := fun e h he => by
        rw [u5] at he
        rw [clk1]
        exact hA e h he
      obtain ⟨T', S', m, e1, e2, e3, e4, e5, e6, e7, e8, e9, e10⟩ := P_giveUp (F := F) (by omega) u3 hA1 hn
      have qT : T'.1 z.1 = some (cReq z.2.2.2.1 cc' rr' none) := e8.k u7 (show (6 : Nat) ∈ kX by decide)
      have hH1 : T1.1 512 = some (house S1.1) := u3.2.1
      refine ⟨T', S', Z, Q, k1 + 1 + gvC z, k2 + 14 + 19 * gvC z, ?_, ?_, e3, ?_, ?_⟩
      · have ee : D_c_EdgeHouse_failAll F 512 (some (527 + 8 * n)) (some z.1) T1 = some T' := by
          unfold D_c_EdgeHouse_failAll
          obtain ⟨F', rfl⟩ : ∃ G, F = G + 2 := ⟨F - 2, by omega⟩
          rw [e1 (F' + 1), Qr18 qT, Option.bind_some]
          rfl
        rw [c199 _ _ t1]
        simp only [nc, tcl_o hH1, Option.bind_some, bd2, u1, show m_c1 .ne (0 : Int32) = false from rfl, cond_false, ee]
      · rw [m168]
        unfold D_m_look_200
        rw [a609, f1, Option.bind_some, show m_c1 .eq (0 : Int32) = true from rfl, cond_true, a595, Option.bind_some, p595, Option.bind_some, u2, Option.bind_some]
        simp only [show m_c1 .eq (0 : Int32) = true from rfl, cond_true, e2]
        rfl
      · have := cost_step (cost_step hcost cs1 hR.1) e9 u3.1
        exact this
      · rw [e5, e6, e7, u4, u5, u6]
        refine cC0 _ _ _ _ _ _ _ _ _ _ hIv1 (by rw [hn]; exact u0) ?_
        rw [u5, clk1] at e4
        exact e4
    · refine ⟨T', S', _, Q ++ [z], k1 + 2, k2 + 33, ?_, ?_, u5, ?_, ?_⟩
      · have hH1 : T1.1 512 = some (house S.1) := by
          obtain ⟨T9, t1', _, _, _, _, t6⟩ := c_letNew (F := F) hR.1.1 hnode hq g0 g1 (by obtain ⟨_, m, q2, _⟩ := hcur; exact q2.2.2.2.2.2.1) f3 (v_mi S z o)
          rw [t1] at t1'
          cases t1'
          exact t6 512 _ hH (by omega) (fun w => by rw [← w, hH] at hq; cases hq)
        rw [c199 _ _ t1]
        simp only [nc, tcl_o hH1, Option.bind_some, bd2, u2, show m_c1 .ne (1 : Int32) = true from rfl, cond_true]
      · rw [m168]
        unfold D_m_look_200
        rw [a609, f1, Option.bind_some, show m_c1 .eq (0 : Int32) = true from rfl, cond_true, a595, Option.bind_some, p595, Option.bind_some, u3, Option.bind_some]
        simp only [show m_c1 .eq (1 : Int32) = false from rfl, cond_false, u4]
        rfl
      · have := cost_step (cost_step hcost cs1 hR.1) u9 (cs1 hR.1).1
        exact ⟨by omega, by omega⟩
      · rw [u6, u7, u8]
        have mi : v_mi S z o = 0 ∨ z.2.2.2.1 12 = 0 := by
          unfold v_mi
          cases o with
          | none => exact Or.inl rfl
          | some e =>
            simp only []
            split
            · rename_i w; exact Or.inr w.1
            · exact Or.inl rfl
        obtain ⟨n5, n6⟩ := newG_few hR.rw ho
        have := cC _ _ _ _ _ _ _ _ _ (v_mi S z o) T.2.1 to0 la fo (v_hadG S n (newG z.2.2.2.1 (v_mi S z o)) o) hIv1 ⟨by rw [hn]; exact f2, mi, n5, n6, hla, hfo, g2, g3, by rw [hn]; exact u1, by rw [hn]; exact hadOK_of g2 g3 (by omega) o1 o2⟩
        rw [hn] at this
        exact this
  · -- one is out
    rw [← hff] at f2 f3
    obtain ⟨T', S', s1, s2, s3, s4, s5, s6, s7⟩ := P_stay (F := F) (by omega) hR h1 h2 f1 f2
    have yc : ∃ g' h' t', T.1 y.1 = some (cFetch g' h' t') := ⟨_, _, _, ((hR.2.2.2.2.2.2.1.1 n h1 h2).2.1 y f1).1⟩
    obtain ⟨g', h', t', yc⟩ := yc
    refine ⟨T', S', Z, Q ++ [z], k1, k2, ?_, ?_, s3, (by have := cost_step hcost s7 hR.1; exact ⟨by omega, by omega⟩), ?_⟩
    · have lw : D_c_EdgeHouse_letWait F 512 (some (527 + 8 * n)) (some z.1) (v_mi S z o) T = some (none, T') := by
        unfold D_c_EdgeHouse_letWait
        simp only [Option.bind_some, Qg0 hq, Qg1 hq, g0, g1, tcl_o hnode, f4, nc, tcl_o yc, s1]
      rw [c199 _ _ lw]
      rfl
    · rw [m168]
      unfold D_m_look_200
      rw [a609, f3, Option.bind_some, show m_c1 .eq (1 : Int32) = false from rfl, cond_false, s2]
      rfl
    · rw [s4, s5, s6]
      exact cB _ _ _ _ _ _ _ _ _ hIv1 ⟨y, by rw [hn]; exact f1, f2⟩
end
