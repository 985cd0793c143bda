/-! The ledger: rows wait, a fetch is let go. -/
section
variable {κ : Ko} {G : Gh} {hc : Nat → Nat → Bool} {mo : Nat → Nat → Nat} {τ ν lam b1 b2 k1 k2 n i f : Nat} {M : List (Nat → Int32)} {Q R Pd : List Rq} {Z : Nat → List Fz} {E E' : Nat → Option (Nat → Int32)} {N : Nat → Nat → Int32} {y : Fz} {z : Rq} {m : Nat → Int32}
theorem Led.clB : ClB (Led τ ν lam b1 b2) := by
  intro M Q Pd Z E N k1 k2 z h hy
  obtain ⟨hp, G, ⟨a1, a2, a3, a4, a5, a6, a7, a8, c1, c2⟩, p1', p2'⟩ := h
  obtain ⟨zl, zp⟩ := a6.lk
  have hz := (a4 (lk1 z) (by simp)).lk1
  have key : ∀ κ, Pot κ G.2.2.1 G.2.1 M (Q ++ [z]) Pd Z N ≤ Pot κ G.2.2.1 G.2.1 M Q (lk1 z :: Pd) Z N := fun κ => by
    unfold Pot
    rw [rw_lk zl]
    have q1 := qw_snoc (κ := κ) (mo := G.2.2.1) (Z := Z) (z := z) Q []
    have q2 := rw_tl (κ := κ) (Z := Z) (N := N) zl zp
    omega
  have ks := key κs
  have kc := key κc
  have ap : Q ++ [z] ++ Pd = Q ++ z :: Pd := by simp
  have cc := cnt_cons (A := Q) (B := Pd) (x := lk1 z)
  have cc' := cnt_cons (A := Q) (B := Pd) (x := z)
  have g1 : gvC (lk1 z) = gvC z := rfl
  have g2 : (lk1 z).2.2.1 = z.2.2.1 := rfl
  rw [g1, g2] at cc
  have o1 := opn_tl (Z := Z) zl zp
  refine ⟨hp, G, ⟨a1, a2, a3, fun x hx => ?_, fun x hx => ?_, rOk.tl zl zp, a7, a8, by rw [ap]; omega, by rw [ap]; omega⟩, by omega, by omega⟩
  · rw [ap] at hx
    rcases List.mem_append.mp hx with w | w
    · exact a4 x (List.mem_append_left _ w)
    · rcases List.mem_cons.mp w with w | w
      · rw [w]; exact hz
      · exact a4 x (List.mem_append_right _ (List.mem_cons_of_mem _ w))
  · rcases List.mem_append.mp hx with w | w
    · exact a5 x w
    · rw [List.mem_singleton.mp w]
      exact ⟨zl, hy⟩
theorem Led.clC0 : ClC0 (Led τ ν lam b1 b2) := by
  intro M Q Pd Z E N k1 k2 z m h h3 ha
  obtain ⟨hp, G, ⟨a1, a2, a3, a4, a5, a6, a7, a8, c1, c2⟩, p1', p2'⟩ := h
  obtain ⟨zl, zp⟩ := a6.lk
  have hz := (a4 (lk1 z) (by simp)).lk1
  have cl : ∃ r, z.2.2.1 = some r := by
    obtain ⟨q, f, ro, g, cd⟩ := z
    cases ro with
    | some r => exact ⟨r, rfl⟩
    | none =>
      cases cd with
      | some k => exact hz.2.elim
      | none =>
        have hq2 := hz.2.1.2
        have e : pl (q, f, none, g, none) = f := by
          have zl' : f < 1024 := zl
          show f % 1024 = f
          omega
        have h3' : 3 ≤ f / 128 := h3
        omega
  obtain ⟨r, hr⟩ := cl
  have gM : gvM M z m = M := by unfold gvM; rw [hr]
  have gC : gvC z = 0 := by unfold gvC; rw [hr]
  have wf : ∀ κ, wFu κ z = w757 κ := fun κ => by unfold wFu wBs wMk; rw [hr]; show 0 + w757 κ = _; omega
  have key : ∀ κ, Pot κ G.2.2.1 G.2.1 M Q Pd Z N + w757 κ ≤ Pot κ G.2.2.1 G.2.1 M Q (lk1 z :: Pd) Z N := fun κ => by
    unfold Pot
    rw [rw_lk zl, wf]
    have q2 := rw_tl (κ := κ) (Z := Z) (N := N) zl zp
    omega
  have ks := key κs
  have kc := key κc
  have es : w757 κs = 757 := rfl
  have ec : w757 κc = 48 := rfl
  have cc := cnt_cons (A := Q) (B := Pd) (x := lk1 z)
  have o1 := opn_tl (Z := Z) zl zp
  rw [gM, gC]
  refine ⟨hp, G, ⟨a1.le (by omega) (fun n => Nat.le_refl _), a2, a3, fun x hx => a4 x ?_, a5, rOk.tl zl zp, a7, a8, by omega, by omega⟩, by omega, by omega⟩
  rcases List.mem_append.mp hx with w | w
  · exact List.mem_append_left _ w
  · exact List.mem_append_right _ (List.mem_cons_of_mem _ w)
theorem sum_del {α : Type} (g : α → Nat) : ∀ (L : List α) (i : Nat) (x : α), L[i]? = some x → ((L.eraseIdx i).map g).sum + g x = (L.map g).sum := by
  intro L
  induction L with
  | nil => intro i x h; simp at h
  | cons a L ih =>
    intro i x h
    cases i with
    | zero =>
      cases h
      show (L.map g).sum + g a = g a + (L.map g).sum
      omega
    | succ i =>
      have := ih i x h
      show g a + ((L.eraseIdx i).map g).sum + g x = g a + (L.map g).sum
      omega
theorem zDel_sl : ∀ m, (zDel Z n i m).Sublist (Z m) := fun m => by
  unfold zDel
  split
  · rename_i e
    rw [e]
    exact List.eraseIdx_sublist _ _
  · exact List.Sublist.refl _
theorem mem_del {x : Fz} (hy : (Z n)[i]? = some y) (hx : x ∈ Z n) (hne : ¬ x.2.1 = y.2.1) : x ∈ zDel Z n i n := by
  have : zDel Z n i n = (Z n).eraseIdx i := if_pos rfl
  rw [this]
  obtain ⟨j, hj⟩ := List.mem_iff_getElem?.mp hx
  refine List.mem_eraseIdx_iff_getElem?.mpr ⟨j, fun e => ?_, hj⟩
  rw [e, hy] at hj
  cases hj
  exact hne rfl
theorem zDel_o {m : Nat} (h : ¬ m = n) : zDel Z n i m = Z m := if_neg h
theorem sZn_del (hy : (Z n)[i]? = some y) : sZn κ hc N (zDel Z n i) n + wZ κ hc N n y = sZn κ hc N Z n := by
  unfold sZn
  rw [show zDel Z n i n = (Z n).eraseIdx i from if_pos rfl]
  exact sum_del _ _ _ _ hy
theorem sZ_del (n1 : 1 ≤ n) (n2 : n < 7) (hy : (Z n)[i]? = some y) : sZ κ hc N (zDel Z n i) + wZ κ hc N n y = sZ κ hc N Z := by
  have e := sZn_del (κ := κ) (hc := hc) (N := N) hy
  have o : ∀ m, ¬ m = n → sZn κ hc N (zDel Z n i) m = sZn κ hc N Z m := fun m h => by unfold sZn; rw [zDel_o h]
  unfold sZ
  have : n = 1 ∨ n = 2 ∨ n = 3 ∨ n = 4 ∨ n = 5 ∨ n = 6 := by omega
  rcases this with q | q | q | q | q | q
  · subst q; rw [o 2 (by decide), o 3 (by decide), o 4 (by decide), o 5 (by decide), o 6 (by decide)]; omega
  · subst q; rw [o 1 (by decide), o 3 (by decide), o 4 (by decide), o 5 (by decide), o 6 (by decide)]; omega
  · subst q; rw [o 1 (by decide), o 2 (by decide), o 4 (by decide), o 5 (by decide), o 6 (by decide)]; omega
  · subst q; rw [o 1 (by decide), o 2 (by decide), o 3 (by decide), o 5 (by decide), o 6 (by decide)]; omega
  · subst q; rw [o 1 (by decide), o 2 (by decide), o 3 (by decide), o 4 (by decide), o 6 (by decide)]; omega
  · subst q; rw [o 1 (by decide), o 2 (by decide), o 3 (by decide), o 4 (by decide), o 5 (by decide)]; omega
/-- rows of other places keep their fetches -/
theorem own_del (hy : (Z n)[i]? = some y) (hz : ¬ z.2.1 = y.2.1) (h : ownZ mo Z z) : ownZ mo (zDel Z n i) z := by
  obtain ⟨h1, x, h2, h3, h4⟩ := h
  refine ⟨h1, x, ?_, h3, h4⟩
  by_cases e : z.2.1 / 128 = n
  · rw [e] at h2 ⊢
    exact mem_del hy h2 (fun w => hz (h3.symm.trans w))
  · rw [zDel_o e]
    exact h2
theorem out_ne {x : Rq} (h : x ∈ qOut Q f) : ¬ x.2.1 = f ∧ x ∈ Q := by
  have := List.mem_filter.mp h
  exact ⟨by simpa using this.2, this.1⟩
theorem LQ.del (h : LQ Q Z) (hy : (Z n)[i]? = some y) : LQ (qOut Q y.2.1) (zDel Z n i) := fun x hx => by
  obtain ⟨h1, h2⟩ := out_ne hx
  obtain ⟨g1, w, g2, g3⟩ := h x h2
  refine ⟨g1, w, ?_, g3⟩
  by_cases e : x.2.1 / 128 = n
  · rw [e] at g2 ⊢
    exact mem_del hy g2 (fun q => h1 (g3.symm.trans q))
  · rw [zDel_o e]
    exact g2
theorem cnt_split (f : Nat) : cCnt Q = cCnt (qOut Q f) + cCnt (qIn Q f) ∧ eCnt Q = eCnt (qOut Q f) + eCnt (qIn Q f) := by
  unfold cCnt eCnt
  induction Q with
  | nil => exact ⟨rfl, rfl⟩
  | cons x Q ih =>
    by_cases w : x.2.1 = f
    · have e1 : qOut (x :: Q) f = qOut Q f := by unfold qOut; rw [List.filter_cons, if_neg (by simp [w])]
      have e2 : qIn (x :: Q) f = x :: qIn Q f := by unfold qIn; rw [List.filter_cons, if_pos (by simp [w])]
      rw [e1, e2]
      simp only [List.filter_cons]
      cases x.2.2.1 with
      | none => simp only [Option.isSome_none, Option.isNone_none, if_true, List.length_cons, Bool.false_eq_true, if_false]; omega
      | some r => simp only [Option.isSome_some, Option.isNone_some, if_true, List.length_cons, Bool.false_eq_true, if_false]; omega
    · have e1 : qOut (x :: Q) f = x :: qOut Q f := by unfold qOut; rw [List.filter_cons, if_pos (by simp [w])]
      have e2 : qIn (x :: Q) f = qIn Q f := by unfold qIn; rw [List.filter_cons, if_neg (by simp [w])]
      rw [e1, e2]
      simp only [List.filter_cons]
      cases x.2.2.1 with
      | none => simp only [Option.isSome_none, Option.isNone_none, if_true, List.length_cons, Bool.false_eq_true, if_false]; omega
      | some r => simp only [Option.isSome_some, Option.isNone_some, if_true, List.length_cons, Bool.false_eq_true, if_false]; omega
theorem flC_e : ∀ R : List Rq, flC R = eCnt R := by
  intro R
  induction R with
  | nil => rfl
  | cons x R ih =>
    have := (cnt_cons (A := []) (B := R) (x := x)).2
    rw [List.nil_append, List.nil_append] at this
    rw [this, ← ih]
    show gvC x + flC R = flC R + gvC x
    omega
theorem qw_ge : ∀ (Q : List Rq) (seen : List Nat), κ.2.2.1 * flC Q ≤ qw κ mo Z seen Q := by
  intro Q
  induction Q with
  | nil => intro seen; exact Nat.zero_le _
  | cons x Q ih =>
    intro seen
    have h1 := ih (x.2.1 :: seen)
    have h2 := gv_bs (κ := κ) (z := x)
    have h3 : wBs κ x ≤ cif (x.2.1 ∉ seen ∧ ownZ mo Z x) (wBs κ x) (wFu κ x) := by
      by_cases w : x.2.1 ∉ seen ∧ ownZ mo Z x
      · rw [cif_pos w]; exact Nat.le_refl _
      · rw [cif_neg w]; unfold wFu; omega
    show κ.2.2.1 * (gvC x + flC Q) ≤ cif (x.2.1 ∉ seen ∧ ownZ mo Z x) (wBs κ x) (wFu κ x) + qw κ mo Z (x.2.1 :: seen) Q
    rw [Nat.mul_add]
    omega
/-- rows given up, one after the other -/
theorem fl_all {clk : Int32} (hE : LE G E N) (h2 : upto 60 (N 2 0)) : ∀ (R : List Rq) (ms M : List (Nat → Int32)), ms.length = R.length → (∀ (i : Nat) z m, R[i]? = some z → ms[i]? = some m → okAns E clk z m) → (∀ z ∈ R, LR G Z N z ∧ z.2.1 < 1024) → LM G M Z N → LM G (flM M R ms) Z N ∧ (∀ n, pCnt (flM M R ms) n = pCnt M n) ∧ tCnt (flM M R ms) ≤ tCnt M + flC R ∧ ∀ κ, sM κ (flM M R ms) ≤ sM κ M := by
  intro R
  induction R with
  | nil =>
    intro ms M hl _ _ hM
    cases ms with
    | nil => exact ⟨hM, fun _ => rfl, Nat.le_refl _, fun _ => Nat.le_refl _⟩
    | cons m ms => simp at hl
  | cons z R ih =>
    intro ms M hl ha hr hM
    cases ms with
    | nil => simp at hl
    | cons m ms =>
      have a0 := ha 0 z m rfl rfl
      obtain ⟨r0, r1⟩ := hr z List.mem_cons_self
      have m0 : z.2.2.1 = none → m 0 = 1 := fun w => ans_0 w a0
      have hM' : LM G (gvM M z m) Z N := gv_LM hM (fun w => ans_LI r0 r1 w hE h2 a0) m0
      obtain ⟨q1, q2, q3, q4⟩ := ih ms (gvM M z m) (by simpa using hl) (fun i z' m' e1 e2 => ha (i + 1) z' m' e1 e2) (fun x hx => hr x (List.mem_cons_of_mem _ hx)) hM'
      have t1 := gv_tCnt (M := M) (z := z) (m := m)
      refine ⟨q1, fun n => (q2 n).trans (gv_pCnt m0), ?_, fun κ => Nat.le_trans (q4 κ) (gv_sM m0)⟩
      show tCnt (flM (gvM M z m) R ms) ≤ tCnt M + (gvC z + flC R)
      omega
theorem Led.clLet : ClLet (Led τ ν lam b1 b2) := by
  intro M Q Z E N k1 k2 n i y h n1 n2 hy
  have fE := Led.faE _ _ _ _ _ _ _ _ h
  obtain ⟨hp, G, ⟨a1, a2, a3, a4, a5, a6, a7, a8, c1, c2⟩, p1', p2'⟩ := h
  refine ⟨fE, fun ms hl ha => ?_⟩
  have zs : ∀ m, ∀ x ∈ zDel Z n i m, x ∈ Z m := fun m x hx => (zDel_sl m).subset hx
  have inQ : ∀ x ∈ qIn Q y.2.1, x ∈ Q := fun x hx => (List.mem_filter.mp hx).1
  have rows : ∀ x ∈ Q, LR G (zDel Z n i) N x := fun x hx => (a4 x (List.mem_append_left _ hx)).le NLe.refl zs
  obtain ⟨q1, q2, q3, q4⟩ := fl_all (clk := N 7 0) a7 a1.2.1 (qIn Q y.2.1) ms M hl ha (fun x hx => ⟨rows x (inQ x hx), (a5 x (inQ x hx)).1⟩) (a3.le NLe.refl (fun _ h => h) zs)
  have key : ∀ κ, Pot κ G.2.2.1 G.2.1 (flM M (qIn Q y.2.1) ms) (qOut Q y.2.1) [] (zDel Z n i) N + κ.2.2.1 * flC (qIn Q y.2.1) ≤ Pot κ G.2.2.1 G.2.1 M Q [] Z N := fun κ => by
    unfold Pot
    have w1 := q4 κ
    have w2 := qw_split (κ := κ) (mo := G.2.2.1) (Z := Z) y.2.1 Q []
    have w3 := qw_ge (κ := κ) (mo := G.2.2.1) (Z := Z) (qIn Q y.2.1) []
    have w4 := qw_mono (κ := κ) (mo := G.2.2.1) (mo' := G.2.2.1) (Z := Z) (Z' := zDel Z n i) (Q := qOut Q y.2.1) (fun x hx w => own_del hy (out_ne hx).1 w) []
    have w5 := sZ_del (κ := κ) (hc := G.2.1) (N := N) n1 n2 hy
    have w6 : rw0 κ (zDel Z n i) N [] = 0 := rfl
    have w7 : rw0 κ Z N [] = 0 := rfl
    omega
  have ks := key κs
  have kc := key κc
  have es : κs.2.2.1 = 19 := rfl
  have ec : κc.2.2.1 = 1 := rfl
  rw [es] at ks
  rw [ec, Nat.one_mul] at kc
  obtain ⟨s1, s2⟩ := cnt_split (Q := Q) y.2.1
  rw [List.append_nil] at c1 c2
  have o1 : opn (zDel Z n i) ([] : List Rq) = 0 := rfl
  have fe := flC_e (qIn Q y.2.1)
  refine ⟨hp, G, ⟨a1.le (by omega) (fun m => Nat.le_of_eq (q2 m)), a2.le NLe.refl (fun _ _ _ _ => Nat.le_refl _) vShr.refl zDel_sl, q1, fun x hx => ?_, a5.del hy, trivial, a7, a8, by rw [List.append_nil]; omega, by rw [List.append_nil, o1]; omega⟩, by omega, by omega⟩
  rw [List.append_nil] at hx
  exact rows x (out_ne hx).2
end
