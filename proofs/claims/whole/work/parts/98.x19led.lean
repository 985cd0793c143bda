/-! The ledger: a FILL is taken in. -/
section
variable {κ : Ko} {G : Gh} {τ ν lam b1 b2 k1 k2 n i wh p : Nat} {M1 M2 : List (Nat → Int32)} {Q Pe : List Rq} {Z : Nat → List Fz} {E E' : Nat → Option (Nat → Int32)} {N : Nat → Nat → Int32} {y x : Fz} {z : Rq} {m : Nat → Int32} {bl : Int32}
theorem LZ.inn (h : LZ G E N n x) (hE : ∀ e, e / 8 = x.2.1 → E' e = none ∨ E' e = E e) : LZ G E' N n x := by
  obtain ⟨h1, h2, h3, h4, h5, h6, h7⟩ := h
  have up : ∀ e g, e / 8 = x.2.1 → E' e = some g → E e = some g := fun e g q he => by
    rcases hE e q with w | w
    · rw [w] at he; cases he
    · rw [← w]; exact he
  have hs : ∀ {e a b}, sE E' x.2.1 a b e → sE E x.2.1 a b e := fun {e a b} q => by
    obtain ⟨q1, g, q2, q3⟩ := q
    exact ⟨q1, g, up e g q1 q2, q3⟩
  exact ⟨h1, h2, h3, h4, h5, fun w => ⟨(h6 w).1, fun e q => (h6 w).2 e (hs q)⟩, fun w e g q he => h7 w e g (hs q) (up e g q.1 he)⟩
theorem in_LZs (h : LZs G Z E N) (n1 : 1 ≤ n) (n2 : n < 7) (hy : (Z n)[i]? = some y) (hw : wh < 8) {vy : Int32} {hh : Nat → Int32} (hv : vIn E E' y.2.1 (8 * y.2.1 + wh) vy hh) : LZs G (zDel Z n i) E' N := fun a a1 a2 => by
  have hd : LZs G (zDel Z n i) E N := h.le NLe.refl (fun _ _ _ _ => Nat.le_refl _) vShr.refl zDel_sl
  obtain ⟨q1, q2⟩ := hd a a1 a2
  refine ⟨fun x hx => (q1 x hx).inn (fun e he => ?_), q2⟩
  have hne : ¬ x.2.1 = y.2.1 := by
    by_cases w : a = n
    · subst w
      exact del_ne h n1 n2 hy hx
    · intro q
      have w1 := (q1 x hx).1.1
      have w2 := ((h n n1 n2).1 y (List.mem_of_getElem? hy)).1.1
      rw [q] at w1
      exact w (w1.symm.trans w2)
  rcases hv e with w | w | w
  · exact Or.inl w
  · exact Or.inr w.2.1
  · exfalso
    omega
/-- what a FILL tells -/
theorem fill_LI (a3 : LM G (M1 ++ m :: M2) Z N) (n2 : n < 7) (m0 : m 0 = 1) (m2 : m 2 = Int32.ofNat n) (m6 : m 6 = 200 ∨ m 6 = 304) (hyZ : y ∈ Z n) (y7 : y.2.2 7 = m 3) : upto (cN (N 2 0)) (m 8) ∧ born N (m 10) ∧ (∃ p, p < 32 ∧ y.2.2 0 = Int32.ofNat p ∧ toldH G N p (fun i => m (12 + i))) ∧ lst y ≤ cN (m 8) ∧ (n ≤ 2 → G.2.2.1 n (nmb y) ≤ cN (m 8)) ∧ (m 6 = 200 → v_blocks (m 13) (y.2.2 5) (y.2.2 6) &&& (m 11 ^^^ -1) = 0) ∧ (m 6 = 304 → m 12 = G.1 n (nmb y)) := by
  obtain ⟨n', q1, q2, q3, _, q8, qy, w | ⟨_, qb, ⟨p, pp, p4, pt⟩, qa⟩⟩ := (a3 m (by simp)).2.1 m0
  · rcases m6 with q | q <;> rcases w with w | w <;> rw [q] at w <;> exact absurd w (by decide)
  · have en : n' = n := ofNat_in (by omega) (by omega) (q1.symm.trans m2)
    subst en
    exact ⟨q8, qb, ⟨p, pp, (qy y hyZ y7).1.trans p4, pt⟩, qa y hyZ y7⟩
theorem hIv_lo {clk : Int32} (hi : i < 9) : hIv m clk bl i = m (12 + i) := if_pos hi
theorem in_LE (hE : LE G E N) (q8 : upto (cN (N 2 0)) (m 8)) (qb : born N (m 10)) (pt : toldH G N p (fun i => m (12 + i))) (yp : y.2.1 / 4 % 32 = p) (hw : wh < 8) (hv : vIn E E' y.2.1 (8 * y.2.1 + wh) (m 20) (hIv m (N 7 0) bl)) : LE G E' N := by
  have ep : eP (8 * y.2.1 + wh) = p := by unfold eP; omega
  have h8 : hIv m (N 7 0) bl 8 = m 20 := rfl
  refine ⟨fun e h he => ?_, fun e e' h h' q he he' => ?_⟩
  · rcases hv e with w | ⟨_, w, _⟩ | ⟨w1, w2⟩
    · rw [w] at he; cases he
    · rw [w] at he
      exact hE.1 e h he
    · rw [w2] at he
      cases he
      rw [w1, ep]
      refine ⟨q8, ?_, fun i hi => ?_, pt.2.1, pt.2.2.1, pt.2.2.2⟩
      · show born N ((m 10 + N 7 0) - N 7 0)
        rw [Int32.add_sub_cancel]
        exact qb
      · rw [hIv_lo hi]
        exact pt.1 i hi
  · rcases hv e with w | ⟨v1, w, v2⟩ | ⟨w1, w2⟩
    · rw [w] at he; cases he
    · rw [w] at he
      rcases hv e' with w' | ⟨v1', w', v2'⟩ | ⟨w1', w2'⟩
      · rw [w'] at he'; cases he'
      · rw [w'] at he'
        exact hE.2 e e' h h' q he he'
      · rw [w2'] at he'
        cases he'
        rw [h8]
        exact v2 (by omega) h he
    · rw [w2] at he
      cases he
      rcases hv e' with w' | ⟨v1', w', v2'⟩ | ⟨w1', w2'⟩
      · rw [w'] at he'; cases he'
      · rw [w'] at he'
        rw [h8]
        exact (v2' (by omega) h' he').symm
      · rw [w2'] at he'
        cases he'
        rfl
/-- the rows that waited: what they weigh -/
theorem wZ_pu (hc : Nat → Nat → Bool) (hl : lst y ≤ seenN N n) (hf : y.2.1 / 128 = n) : purse κ (zDel Z n i) N y.2.1 + κ.2.1 ≤ wZ κ hc N n y := by
  have h1 : purse κ (zDel Z n i) N y.2.1 ≤ if 3 ≤ n then w367 κ * (60 - seenN N n) else 0 := by
    unfold purse
    rw [hf]
    by_cases w : 3 ≤ n
    · rw [if_pos w]
      by_cases q : 3 ≤ n ∧ ∀ y' ∈ zDel Z n i n, ¬ y'.2.1 = y.2.1
      · rw [cif_pos q]; exact Nat.le_refl _
      · rw [cif_neg q]; exact Nat.zero_le _
    · rw [if_neg w, cif_neg (fun q => w q.1)]
      exact Nat.le_refl _
  unfold wZ
  by_cases w : 3 ≤ n
  · rw [if_pos w] at h1 ⊢
    have : w367 κ * (60 - seenN N n) ≤ w367 κ * (60 - lst y) := Nat.mul_le_mul_left _ (by omega)
    omega
  · rw [if_neg w] at h1 ⊢
    omega
theorem opn_in (hR : ∀ x ∈ Pe, x.2.1 = y.2.1) (hl : y.2.1 < 1024) (hf : y.2.1 / 128 = n) : opn (zDel Z n i) Pe ≤ if n = 1 ∨ n = 2 then 0 else 1 := by
  cases Pe with
  | nil => exact Nat.zero_le _
  | cons x R =>
    have e := hR x List.mem_cons_self
    have e1 : pl x = y.2.1 := by unfold pl; omega
    show cif (3 ≤ pl x / 128 ∧ ∀ y ∈ zDel Z n i (pl x / 128), ¬ y.2.1 = pl x) 1 0 ≤ _
    rw [e1, hf]
    by_cases w : n = 1 ∨ n = 2
    · rw [if_pos w, cif_neg (fun q => by omega)]
      exact Nat.le_refl _
    · rw [if_neg w]
      by_cases q : 3 ≤ n ∧ ∀ y' ∈ zDel Z n i n, ¬ y'.2.1 = y.2.1
      · rw [cif_pos q]; exact Nat.le_refl _
      · rw [cif_neg q]; exact Nat.zero_le _
theorem Led.clOk1 : ClOk1 (Led τ ν lam b1 b2) := by
  intro M1 m M2 Q Z E E' N k1 k2 n i y wh bl z Pe h n1 n2 m0 m2 hy y7 m6 hok hq he
  obtain ⟨hp, G, ⟨a1, a2, a3, a4, a5, a6, a7, a8, c1, c2⟩, p1', p2'⟩ := h
  have hyZ : y ∈ Z n := List.mem_of_getElem? hy
  have hL := (a2 n n1 n2).1 y hyZ
  obtain ⟨⟨yf, y0, g5, g6⟩, yn, y9, y10, ymo, yc, yh⟩ := id hL
  obtain ⟨q8, qb, ⟨p, pp, p4, pt⟩, al, amo, a200, a304⟩ := fill_LI a3 n2 m0 m2 m6 hyZ y7
  obtain ⟨⟨_, _, w8, _⟩, hv, _, _⟩ := hok
  obtain ⟨_, l2⟩ := a1.2.1.cN (by decide)
  obtain ⟨e0, l0⟩ := (a1.2.2.1 n n1 n2).1.cN (by omega)
  have sN : seenN N n = cN (N 0 n) := rfl
  obtain ⟨e9, l9⟩ := y9.cN (by omega)
  have ls9 : lst y = cN (y.2.2 9) := rfl
  have yp : y.2.1 / 4 % 32 = p := ofNat_in (by omega) (by omega) (y0.symm.trans p4)
  have zs : ∀ m, ∀ x ∈ zDel Z n i m, x ∈ Z m := fun m x hx => (zDel_sl m).subset hx
  have rows : ∀ x ∈ Q, LR G (zDel Z n i) N x := fun x hx => (a4 x (List.mem_append_left _ hx)).le NLe.refl zs
  have inQ : ∀ x ∈ qIn Q y.2.1, x ∈ Q ∧ x.2.1 = y.2.1 := fun x hx => ⟨(List.mem_filter.mp hx).1, qIn_nd hx⟩
  have zin := inQ z (by rw [hq]; exact List.mem_cons_self)
  have zl : z.2.1 < 1024 := (a5 z zin.1).1
  have yl : y.2.1 < 1024 := by rw [← zin.2]; exact zl
  have pin : ∀ x ∈ Pe, x ∈ Q ∧ x.2.1 = y.2.1 := fun x hx => inQ x (by rw [hq]; exact List.mem_cons_of_mem _ hx)
  have hE' := in_LE a7 q8 qb pt yp w8 hv
  have hE1 : LE G (fun k => if k = 8 * y.2.1 + wh then some (hIv m (N 7 0) bl) else none) N := in_LE (E := fun _ => none) (wh := wh) (y := y) (bl := bl) ⟨fun _ _ q => (by cases q), fun _ _ _ _ _ q => (by cases q)⟩ q8 qb pt yp w8 (fun k => by
    by_cases w : k = 8 * y.2.1 + wh
    · exact Or.inr (Or.inr ⟨w, if_pos w⟩)
    · exact Or.inl (if_neg w))
  have a3d : LM G (M1 ++ M2) (zDel Z n i) N := a3.le NLe.refl (fun x hx => by
    rcases List.mem_append.mp hx with w | w
    · exact List.mem_append_left _ w
    · exact List.mem_append_right _ (List.mem_cons_of_mem _ w)) zs
  have em : (8 * y.2.1 + wh) % 8 = wh := by omega
  have hLI : z.2.2.1 = none → LI G (zDel Z n i) N (anR z (hIv m (N 7 0) bl) wh (N 7 0)) := fun w => by
    have := fi_LI (e := 8 * y.2.1 + wh) (h := hIv m (N 7 0) bl) (nd := z.2.1 / 128) (clk := N 7 0) (rows z zin.1) w hE1 a1.2.1 (if_pos rfl) (by unfold pl; omega) he.2.1 (by rw [em]; exact he.2.2)
    rw [em] at this
    exact this
  have mm0 : z.2.2.1 = none → anR z (hIv m (N 7 0) bl) wh (N 7 0) 0 = 1 := fun _ => rfl
  obtain ⟨an, han⟩ : ∃ a, a = anR z (hIv m (N 7 0) bl) wh (N 7 0) := ⟨_, rfl⟩
  rw [← han] at hLI mm0 ⊢
  have hLM := gv_LM a3d hLI mm0
  have key : ∀ κ, Pot κ G.2.2.1 G.2.1 (gvM (M1 ++ M2) z an) (qOut Q y.2.1) Pe (zDel Z n i) N + κ.2.1 + κ.2.2.1 * gvC z ≤ Pot κ G.2.2.1 G.2.1 (M1 ++ m :: M2) Q [] Z N := fun κ => by
    unfold Pot
    have v1 := gv_sM (κ := κ) (M := M1 ++ M2) mm0
    have v2 := qw_split (κ := κ) (mo := G.2.2.1) (Z := Z) y.2.1 Q []
    have v3 := qw_chain (κ := κ) (mo := G.2.2.1) (Z := Z) hq
    have v4 := qw_mono (κ := κ) (mo := G.2.2.1) (mo' := G.2.2.1) (Z := Z) (Z' := zDel Z n i) (Q := qOut Q y.2.1) (fun x hx w => own_del hy (out_ne hx).1 w) []
    have v5 := sZ_del (κ := κ) (hc := G.2.1) (N := N) n1 n2 hy
    have v6 := rw_tl (κ := κ) (Z := zDel Z n i) (N := N) yl (fun x hx => (pin x hx).2)
    have v7 := wZ_pu (κ := κ) (Z := Z) (i := i) (N := N) G.2.1 (show lst y ≤ seenN N n by omega) yf
    have v8 : wBs κ z ≤ cif (ownZ G.2.2.1 Z z) (wBs κ z) (wFu κ z) := by
      by_cases w : ownZ G.2.2.1 Z z
      · rw [cif_pos w]; exact Nat.le_refl _
      · rw [cif_neg w]; unfold wFu; omega
    have v9 := gv_bs (κ := κ) (z := z)
    have v10 := sM_rem (κ := κ) (M1 := M1) (M2 := M2) (m := m)
    have v11 : rw0 κ Z N [] = 0 := rfl
    omega
  have ks := key κs
  have kc := key κc
  have es : κs.2.2.1 = 19 := rfl
  have ec : κc.2.2.1 = 1 := rfl
  have es2 : κs.2.1 = 9 := rfl
  have ec2 : κc.2.1 = 1 := rfl
  rw [es, es2] at ks
  rw [ec, Nat.one_mul, ec2] at kc
  obtain ⟨s1, s2⟩ := cnt_split (Q := Q) y.2.1
  rw [hq] at s1 s2
  have cc := cnt_cons (A := []) (B := Pe) (x := z)
  rw [List.nil_append, List.nil_append] at cc
  rw [List.append_nil] at c1 c2
  have o0 : opn Z ([] : List Rq) = 0 := rfl
  have o1 := opn_in (Z := Z) (i := i) (n := n) (fun x hx => (pin x hx).2) yl yf
  have t1 := gv_tCnt (M := M1 ++ M2) (z := z) (m := an)
  have t2 := tCnt_rem (M1 := M1) (M2 := M2) (m := m)
  rw [tCnt_to n2 m0 m2] at t2
  have ap1 : cCnt (qOut Q y.2.1 ++ Pe) = cCnt (qOut Q y.2.1) + cCnt Pe := by unfold cCnt; rw [List.filter_append, List.length_append]
  have ap2 : eCnt (qOut Q y.2.1 ++ Pe) = eCnt (qOut Q y.2.1) + eCnt Pe := by unfold eCnt; rw [List.filter_append, List.length_append]
  refine ⟨hp, G, ⟨a1.le (by omega) (fun k => ?_), in_LZs a2 n1 n2 hy w8 hv, hLM, fun x hx => ?_, a5.del hy, rOk.tl yl (fun x hx => (pin x hx).2), hE', a8, by rw [ap1]; omega, by rw [ap2]; omega⟩, by omega, by omega⟩
  · rw [gv_pCnt mm0]
    exact pCnt_rem
  · rcases List.mem_append.mp hx with w | w
    · exact rows x (out_ne w).2
    · exact rows x (pin x w).1
/-- what came is enough for the row that asked for it -/
theorem own_en (a2 : LZs G Z E N) (a3 : LM G (M1 ++ m :: M2) Z N) (a7 : LE G E N) (h2 : upto 60 (N 2 0)) (n1 : 1 ≤ n) (n2 : n < 7) (m0 : m 0 = 1) (m2 : m 2 = Int32.ofNat n) (hy : (Z n)[i]? = some y) (y7 : y.2.2 7 = m 3) (m6 : m 6 = 200 ∨ m 6 = 304) (hok : okIn E E' N y m wh bl) (hz : LR G Z N z) (zl : z.2.1 < 1024) (zp : z.2.1 = y.2.1) (ho : ownZ G.2.2.1 Z z) : enR z (hIv m (N 7 0) bl) wh := by
  have hyZ : y ∈ Z n := List.mem_of_getElem? hy
  have hL := (a2 n n1 n2).1 y hyZ
  obtain ⟨⟨yf, y0, g5, g6⟩, yn, y9, y10, ymo, yc, yh⟩ := id hL
  obtain ⟨q8, qb, ⟨p, pp, p4, pt⟩, al, amo, a200, a304⟩ := fill_LI a3 n2 m0 m2 m6 hyZ y7
  obtain ⟨⟨_, wv, w8, w304⟩, hv, hbl, hbl'⟩ := hok
  obtain ⟨_, l2⟩ := h2.cN (by decide)
  obtain ⟨e8, l8⟩ := q8.cN (by omega)
  obtain ⟨q1, v, q2, q3, q4, q5, q6, q7, q9⟩ := ho
  have en : z.2.1 / 128 = n := by rw [zp]; exact yf
  rw [en] at q2 q4
  have hvy := one_y a2 n1 n2 hy q2 (q3.trans zp)
  rw [hvy] at q4 q5 q6 q7 q9
  have h8 : hIv m (N 7 0) bl 8 = m 20 := rfl
  have h9 : hIv m (N 7 0) bl 9 = m 8 := rfl
  have h10 : hIv m (N 7 0) bl 10 = bl := rfl
  have h1 : hIv m (N 7 0) bl 1 = m 13 := rfl
  have hbb : v_blocks (m 13) (y.2.2 5) (y.2.2 6) &&& (bl ^^^ -1) = 0 := by
    rcases m6 with w | w
    · have b1 := a200 w
      rcases hbl' with q | ⟨hh, _, _, _, q⟩
      · rw [q]; exact b1
      · rw [q]; exact bits_tr b1 (and_bits.mp or_l)
    · have m12 := a304 w
      have hne : ¬ G.1 n (nmb y) = 0 := fun q => pt.2.2.1 (m12.trans q)
      obtain ⟨hh, he, hh0⟩ := w304 w
      obtain ⟨_, _, t1, _⟩ := a7.1 _ hh he
      have ep : eP (8 * y.2.1 + wh) = p := by
        have : y.2.1 / 4 % 32 = p := ofNat_in (by omega) (by omega) (y0.symm.trans p4)
        unfold eP; omega
      rw [ep, hh0] at t1
      have hh8 : hh 8 = m 20 := (t1 8 (by decide)).trans (pt.1 8 (by decide)).symm
      obtain ⟨f1, f2⟩ := fill_304 hL a7 hne m12 pp pt p4 ⟨by omega, hh, he, by rw [hh8, show (8 * y.2.1 + wh) % 8 = wh by omega]; exact wv⟩ he
      rw [hbl hh he hh0 hh8]
      have := f1 1 (by decide)
      rw [this] at f2
      exact bits_tr f2 (and_bits.mp or_r)
  have node := hz.node zl
  rw [en] at node
  refine ⟨by rw [h8, ← q5, ← q6]; exact wv, ?_, ?_⟩
  · rw [h9]
    rcases node.2.2.2.2 with ⟨k1', k2'⟩ | ⟨⟨r, k1'⟩, k2'⟩
    · obtain ⟨e11, l11⟩ := hz.1.2.2.cN (by omega)
      rw [e11, e8]
      have := amo k2'
      have q4' : cN (z.2.2.2.1 11) ≤ G.2.2.1 n (nmb y) := q4
      exact (i_le (by show cN (z.2.2.2.1 11) < 2147483648; omega) (by show cN (m 8) < 2147483648; omega)).mpr (by omega)
    · have g11 : z.2.2.2.1 11 = 0 := by
        obtain ⟨q, f, ro, g, cd⟩ := z
        cases k1'
        cases cd with
        | none => exact hz.2.elim
        | some k => exact hz.2.2.1
      rw [g11, e8]
      exact (i_le (a := 0) (by show 0 < 2147483648; decide) (by show cN (m 8) < 2147483648; omega)).mpr (Nat.zero_le _)
  · rw [v_miss_need, h10, h1]
    rcases node.2.2.2.2 with ⟨k1', k2'⟩ | ⟨⟨r, k1'⟩, k2'⟩
    · have hcd : z.2.2.2.2 = none := by
        obtain ⟨q, f, ro, g, cd⟩ := z
        cases k1'
        cases cd with
        | none => rfl
        | some k => exact hz.2.elim
      rw [hcd]
      show v_blocks (m 13) (z.2.2.2.1 4) (z.2.2.2.1 5) &&& (bl ^^^ -1) = 0
      rw [← q7, ← q9]
      exact hbb
    · obtain ⟨k, hcd, hgk⟩ : ∃ k, z.2.2.2.2 = some k ∧ isGk z.2.2.2.1 k := by
        obtain ⟨q, f, ro, g, cd⟩ := z
        cases k1'
        cases cd with
        | none => exact hz.2.elim
        | some k => exact ⟨k, rfl, hz.2.2.2⟩
      obtain ⟨zz, z1, z2⟩ := pt.2.2.2
      have m13 : m 13 = Int32.ofNat zz := z2
      rw [q7, q9] at hbb
      rw [hcd]
      rw [m13] at hbb ⊢
      exact bits_tr (need_sub hgk z1) hbb
theorem Led.clOk2 : ClOk2 (Led τ ν lam b1 b2) := by
  intro M1 m M2 Q Z E E' N k1 k2 n i y wh bl h n1 n2 m0 m2 hy y7 m6 hok hnen
  obtain ⟨hp, G, ⟨a1, a2, a3, a4, a5, a6, a7, a8, c1, c2⟩, p1', p2'⟩ := h
  have hyZ : y ∈ Z n := List.mem_of_getElem? hy
  have hL := (a2 n n1 n2).1 y hyZ
  obtain ⟨⟨yf, y0, g5, g6⟩, yn, y9, y10, ymo, yc, yh⟩ := id hL
  obtain ⟨q8, qb, ⟨p, pp, p4, pt⟩, al, amo, a200, a304⟩ := fill_LI a3 n2 m0 m2 m6 hyZ y7
  obtain ⟨⟨_, _, w8, _⟩, hv, _, _⟩ := id hok
  obtain ⟨_, l2⟩ := a1.2.1.cN (by decide)
  obtain ⟨e0, l0⟩ := (a1.2.2.1 n n1 n2).1.cN (by omega)
  have sN : seenN N n = cN (N 0 n) := rfl
  obtain ⟨e9, l9⟩ := y9.cN (by omega)
  have ls9 : lst y = cN (y.2.2 9) := rfl
  have yp : y.2.1 / 4 % 32 = p := ofNat_in (by omega) (by omega) (y0.symm.trans p4)
  have zs : ∀ m, ∀ x ∈ zDel Z n i m, x ∈ Z m := fun m x hx => (zDel_sl m).subset hx
  have rows : ∀ x ∈ Q, LR G (zDel Z n i) N x := fun x hx => (a4 x (List.mem_append_left _ hx)).le NLe.refl zs
  have inQ : ∀ x ∈ qIn Q y.2.1, x ∈ Q ∧ x.2.1 = y.2.1 := fun x hx => ⟨(List.mem_filter.mp hx).1, qIn_nd hx⟩
  have yl : y.2.1 < 1024 := by omega
  have hE' := in_LE a7 q8 qb pt yp w8 hv
  have a3d : LM G (M1 ++ M2) (zDel Z n i) N := a3.le NLe.refl (fun x hx => by
    rcases List.mem_append.mp hx with w | w
    · exact List.mem_append_left _ w
    · exact List.mem_append_right _ (List.mem_cons_of_mem _ w)) zs
  have full : ∀ κ, sFu κ (qIn Q y.2.1) ≤ qw κ G.2.2.1 Z [] (qIn Q y.2.1) := fun κ => by
    cases hq : qIn Q y.2.1 with
    | nil => exact Nat.le_refl _
    | cons z Pe =>
      have zin := inQ z (by rw [hq]; exact List.mem_cons_self)
      have no : ¬ ownZ G.2.2.1 Z z := fun w => hnen z Pe hq (own_en a2 a3 a7 a1.2.1 n1 n2 m0 m2 hy y7 m6 hok (a4 z (List.mem_append_left _ zin.1)) (a5 z zin.1).1 zin.2 w)
      rw [← hq, qw_chain hq, cif_neg no, hq]
      exact Nat.le_refl _
  have key : ∀ κ, Pot κ G.2.2.1 G.2.1 (M1 ++ M2) (qOut Q y.2.1) (qIn Q y.2.1) (zDel Z n i) N + κ.2.1 ≤ Pot κ G.2.2.1 G.2.1 (M1 ++ m :: M2) Q [] Z N := fun κ => by
    unfold Pot
    have v2 := qw_split (κ := κ) (mo := G.2.2.1) (Z := Z) y.2.1 Q []
    have v3 := full κ
    have v4 := qw_mono (κ := κ) (mo := G.2.2.1) (mo' := G.2.2.1) (Z := Z) (Z' := zDel Z n i) (Q := qOut Q y.2.1) (fun x hx w => own_del hy (out_ne hx).1 w) []
    have v5 := sZ_del (κ := κ) (hc := G.2.1) (N := N) n1 n2 hy
    have v6 := rw_tl (κ := κ) (Z := zDel Z n i) (N := N) yl (fun x hx => (inQ x hx).2)
    have v7 := wZ_pu (κ := κ) (Z := Z) (i := i) (N := N) G.2.1 (show lst y ≤ seenN N n by omega) yf
    have v10 := sM_rem (κ := κ) (M1 := M1) (M2 := M2) (m := m)
    have v11 : rw0 κ Z N [] = 0 := rfl
    omega
  have ks := key κs
  have kc := key κc
  have es2 : κs.2.1 = 9 := rfl
  have ec2 : κc.2.1 = 1 := rfl
  rw [es2] at ks
  rw [ec2] at kc
  obtain ⟨s1, s2⟩ := cnt_split (Q := Q) y.2.1
  rw [List.append_nil] at c1 c2
  have o0 : opn Z ([] : List Rq) = 0 := rfl
  have o1 := opn_in (Z := Z) (i := i) (n := n) (fun x hx => (inQ x hx).2) yl yf
  have t2 := tCnt_rem (M1 := M1) (M2 := M2) (m := m)
  rw [tCnt_to n2 m0 m2] at t2
  have ap1 : cCnt (qOut Q y.2.1 ++ qIn Q y.2.1) = cCnt (qOut Q y.2.1) + cCnt (qIn Q y.2.1) := by unfold cCnt; rw [List.filter_append, List.length_append]
  have ap2 : eCnt (qOut Q y.2.1 ++ qIn Q y.2.1) = eCnt (qOut Q y.2.1) + eCnt (qIn Q y.2.1) := by unfold eCnt; rw [List.filter_append, List.length_append]
  refine ⟨hp, G, ⟨a1.le (by omega) (fun k => pCnt_rem), in_LZs a2 n1 n2 hy w8 hv, a3d, fun x hx => ?_, a5.del hy, rOk.tl yl (fun x hx => (inQ x hx).2), hE', a8, by rw [ap1]; omega, by rw [ap2]; omega⟩, by omega, by omega⟩
  rcases List.mem_append.mp hx with w | w
  · exact rows x (out_ne w).2
  · exact rows x (inQ x w).1
end
