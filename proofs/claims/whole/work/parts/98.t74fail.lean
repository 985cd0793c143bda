/-! fail(node): the class. -/
/-- requests of a chain -/
def lkQ (T : tT) (rs : List Nat) : List Rq → Prop
  | [] => True
  | z :: L => (∃ cc rr, T.1 z.1 = some (cReq z.2.2.2.1 cc rr (L.map Prod.fst).head?) ∧ (z.2.2.1 = none → rr = none) ∧ (∀ r, z.2.2.1 = some r → ∃ ra g, rr = some ra ∧ rs[r]? = some ra ∧ T.1 ra = some (cReply g 31))) ∧ lkQ T rs L
/-- some replies are closed -/
def CSr (rs : List Nat) (y : Nat → Int32) (T0 T : tT) (R : List Nat) : Prop := T.2 = T0.2 ∧ T.1 512 = some (house (fup y 71 (y 71 + Int32.ofNat R.length))) ∧ (∀ b, ¬ b = 512 → (∀ r ∈ R, ¬ rs[r]? = some b) → T.1 b = T0.1 b) ∧ ∀ r ∈ R, ∀ a g, rs[r]? = some a → T0.1 a = some (cReply g 31) → T.1 a = some (cReply (fup (fup g 1 502) 12 (y 36)) 31)
section
variable {T T0 : tT} {S : mS} {X Y : Nat → List (Nat × Nat)} {Z : Nat → List Fz} {Q : List Rq} {j0 c F n : Nat} {rs R : List Nat} {y : Nat → Int32}
theorem lkQ_of (h : RB T S X Y Z Q [] [] j0 rs c) : ∀ (L : List Rq), (∀ z ∈ L, z ∈ Q) → lnk T (L.map Prod.fst) → lkQ T rs L
  | [], _, _ => trivial
  | z :: L, hs, hl => by
    obtain ⟨⟨_, _⟩, b1, _⟩ := h.2.2.2.2.2.2.2.1
    obtain ⟨⟨g, cc, rr, hz⟩, hl'⟩ := hl
    refine ⟨?_, lkQ_of h L (fun x hx => hs x (List.mem_cons_of_mem _ hx)) hl'⟩
    obtain ⟨k, hk⟩ := List.mem_iff_getElem?.mp (hs z List.mem_cons_self)
    have iq := b1 k z hk
    have hz' : T.1 z.1 = some (cReq g cc rr (L.map Prod.fst).head?) := hz
    cases hzc : z.2.2.1 with
    | none =>
      obtain ⟨b, m, _, q1', _⟩ := iq.fetch hzc
      rw [q1'] at hz'
      have e := Option.some.inj hz'
      refine ⟨none, none, ?_, fun _ => rfl, fun r hr => (by cases hr)⟩
      rw [q1', e, cReq_b e.symm ((L.map Prod.fst).head?)]
    | some r =>
      obtain ⟨kc, ca, ra, s, b, m, _, q1', _, _, q4', q5', _⟩ := iq.client hzc
      rw [q1'] at hz'
      have e := Option.some.inj hz'
      obtain ⟨gr, sr, t1, t2, t3, t4, t5⟩ := h.2.2.2.2.2.2.2.2.1.2.2.2.2 r ra q4'
      obtain ⟨_, t7⟩ := t4 q5'
      subst t7
      refine ⟨some ca, some ra, ?_, fun w => (by cases w), fun r' hr' => ?_⟩
      · rw [q1', e, cReq_b e.symm ((L.map Prod.fst).head?)]
      · cases hr'
        exact ⟨ra, gr, rfl, q4', t1⟩
theorem CSr.refl (h : T0.1 512 = some (house y)) : CSr rs y T0 T0 [] := by
  refine ⟨rfl, ?_, fun _ _ _ => rfl, fun r hr => by cases hr⟩
  rw [h]
  congr 2
  funext i
  unfold fup
  by_cases w : i = 71
  · rw [if_pos w, w]; simp
  · rw [if_neg w]
theorem CSr.step (h : CSr rs y T0 T R) (hnd : rs.Nodup) {r ra : Nat} {g : Nat → Int32} (hn : ¬ r ∈ R) (hr : rs[r]? = some ra) (hg : T0.1 ra = some (cReply g 31)) (h5 : T0.1 512 = some (house y)) : ∃ T', D_c_EdgeHouse_close F 512 (some ra) 502 T = some T' ∧ CSr rs y T0 T' (R ++ [r]) := by
  obtain ⟨h1, h2, h3, h4⟩ := h
  have n5 : ¬ ra = 512 := fun w => by rw [w, h5] at hg; cases hg
  have uq : ∀ r', rs[r']? = some ra → r' = r := fun r' q => by
    obtain ⟨i1, i2⟩ := List.getElem?_eq_some_iff.mp hr
    obtain ⟨j1, j2⟩ := List.getElem?_eq_some_iff.mp q
    exact (List.getElem_inj hnd).mp (j2.trans i2.symm)
  have hT : T.1 ra = some (cReply g 31) := by
    rw [h3 ra n5 (fun r' hr' q => hn (by rw [← uq r' q]; exact hr'))]
    exact hg
  have e := c_close (F := F) (x := 502) h2 hT
  refine ⟨_, e, ?_, ?_, fun b w1 w2 => ?_, fun r' hr' a g' q1' q2' => ?_⟩
  · exact h1
  · rw [tset_at, List.length_append, List.length_singleton]
    congr 2
    funext i
    unfold fup
    by_cases w : i = 71
    · rw [if_pos w, if_pos w, if_pos rfl, ← p1, Int32.add_assoc]
    · rw [if_neg w, if_neg w, if_neg w]
  · have w3 : ¬ b = ra := fun w => w2 r (List.mem_append_right _ (List.mem_singleton.mpr rfl)) (by rw [w]; exact hr)
    rw [tset_1, if_neg w1, tset_1, if_neg w3]
    exact h3 b w1 (fun r' hr' => w2 r' (List.mem_append_left _ hr'))
  · have n5' : ¬ a = 512 := fun w => by rw [w, h5] at q2'; cases q2'
    rcases List.mem_append.mp hr' with w | w
    · have w3 : ¬ a = ra := fun q => hn (by rw [← uq r' (by rw [← q]; exact q1')]; exact w)
      rw [tset_1, if_neg n5', tset_1, if_neg w3]
      exact h4 r' w a g' q1' q2'
    · rw [List.mem_singleton.mp w, hr] at q1'
      cases q1'
      rw [hg] at q2'
      have hgg : cReply g 31 = cReply g' 31 := Option.some.inj q2'
      rw [tset_1, if_neg n5', tset_at]
      congr 1
      show cReply (fup (fup g 1 502) 12 (fup y 71 (y 71 + Int32.ofNat R.length) 36)) 31 = cReply (fup (fup g' 1 502) 12 (y 36)) 31
      unfold cReply at hgg ⊢
      simp only [Sum.inl.injEq, Prod.mk.injEq, List.cons.injEq, Value.int.injEq, true_and, and_true] at hgg
      obtain ⟨e0, e1, e2, e3, e4, e5, e6, e7, e8, e9, e10, e11, e12⟩ := hgg
      simp only [fup, show ¬ (0 = 12) by decide, show ¬ (0 = 1) by decide, show ¬ (1 = 12) by decide, show ¬ (2 = 12) by decide, show ¬ (2 = 1) by decide, show ¬ (3 = 12) by decide, show ¬ (3 = 1) by decide, show ¬ (4 = 12) by decide, show ¬ (4 = 1) by decide, show ¬ (5 = 12) by decide, show ¬ (5 = 1) by decide, show ¬ (6 = 12) by decide, show ¬ (6 = 1) by decide, show ¬ (7 = 12) by decide, show ¬ (7 = 1) by decide, show ¬ (8 = 12) by decide, show ¬ (8 = 1) by decide, show ¬ (9 = 12) by decide, show ¬ (9 = 1) by decide, show ¬ (10 = 12) by decide, show ¬ (10 = 1) by decide, show ¬ (11 = 12) by decide, show ¬ (11 = 1) by decide, show ¬ (36 = 71) by decide, if_false, if_true, e0, e2, e3, e4, e5, e6, e7, e8, e9, e10, e11]
/-- the chain of one fetch -/
theorem c_fl_chain {rec : Nat → Int32 → Option Nat → Int32 → tT → Option (Int32 × tT)} {x1 x3 : Int32} {x2 : Option Nat} (hnd : rs.Nodup) (h5 : T0.1 512 = some (house y)) (hrep : ∀ (r b : Nat), rs[r]? = some b → ∃ g s, T0.1 b = some (cReply g s)) : ∀ (L : List Rq) (T : tT) (R : List Nat), CSr rs y T0 T R → lkQ T0 rs L → (∀ z ∈ L, ∀ r, z.2.2.1 = some r → ¬ r ∈ R) → (L.filterMap (fun z => z.2.2.1)).Nodup → ∀ f, L.length < f → ∃ T', D_c_EdgeHouse_fail_54 F rec f 512 x1 x2 x3 (L.map Prod.fst).head? T = rec 512 x1 x2 (x3 + Int32.ofInt 1) T' ∧ CSr rs y T0 T' (R ++ L.filterMap (fun z => z.2.2.1)) := by
  intro L
  induction L with
  | nil =>
    intro T R h hl hcl hn f hf
    obtain ⟨f, rfl⟩ : ∃ q, f = q + 1 := ⟨f - 1, by omega⟩
    exact ⟨T, rfl, by simpa using h⟩
  | cons z L ih =>
    intro T R h hl hcl hn f hf
    obtain ⟨f, rfl⟩ : ∃ q, f = q + 1 := ⟨f - 1, by omega⟩
    obtain ⟨⟨cc, rr, hz, hz1, hz2⟩, hl'⟩ := hl
    have zT : ∀ {T R}, CSr rs y T0 T R → T.1 z.1 = some (cReq z.2.2.2.1 cc rr (L.map Prod.fst).head?) := fun {T R} hc => by
      rw [hc.2.2.1 z.1 (fun w => by rw [w, h5] at hz; cases hz) (fun r _ q => by
        obtain ⟨g, s, q'⟩ := hrep r _ q
        rw [q'] at hz
        cases hz)]
      exact hz
    have hT := zT h
    have llen : (z :: L).length = L.length + 1 := rfl
    have hd : (List.map Prod.fst (z :: L)).head? = some z.1 := rfl
    cases hzc : z.2.2.1 with
    | none =>
      have hr0 := hz1 hzc
      subst hr0
      obtain ⟨T', y1, y2⟩ := ih T R h hl' (fun x hx => hcl x (List.mem_cons_of_mem _ hx)) (by rw [List.filterMap_cons_none (f := fun z : Rq => z.2.2.1) (a := z) hzc] at hn; exact hn) f (by omega)
      refine ⟨T', ?_, by rw [List.filterMap_cons_none (f := fun z : Rq => z.2.2.1) (a := z) hzc]; exact y2⟩
      rw [← y1, hd]
      conv => lhs; unfold D_c_EdgeHouse_fail_54
      simp only [nc, Qr14 hT, Option.bind_some, D_c_EdgeHouse_fail_79, Qr18 hT]
    | some r =>
      obtain ⟨ra, g, e1, e2, e3⟩ := hz2 r hzc
      subst e1
      obtain ⟨T1, t1, t2⟩ := h.step (F := F) hnd (hcl z List.mem_cons_self r hzc) e2 e3 h5
      rw [List.filterMap_cons_some (f := fun z : Rq => z.2.2.1) (a := z) hzc] at hn
      obtain ⟨n1, n2⟩ := List.nodup_cons.mp hn
      obtain ⟨T', y1, y2⟩ := ih T1 (R ++ [r]) t2 hl' (fun x hx r' hr' w => by
        rcases List.mem_append.mp w with w | w
        · exact hcl x (List.mem_cons_of_mem _ hx) r' hr' w
        · rw [List.mem_singleton.mp w] at hr'
          exact n1 (List.mem_filterMap.mpr ⟨x, hx, hr'⟩)) n2 f (by omega)
      refine ⟨T', ?_, by rw [List.filterMap_cons_some (f := fun z : Rq => z.2.2.1) (a := z) hzc]; rw [List.append_assoc] at y2; exact y2⟩
      rw [← y1, hd]
      conv => lhs; unfold D_c_EdgeHouse_fail_54
      simp only [nc, Qr14 hT, Option.bind_some, tcl_o h.2.1, t1, D_c_EdgeHouse_fail_79, Qr18 (zT t2)]
/-- all fetches of a node -/
def clZ (Q : List Rq) (L : List Fz) : List Nat := L.flatMap (fun z => (qIn Q z.2.1).filterMap (fun q => q.2.2.1))
theorem c_fl_loop {x1 : Int32} (h : RB T0 S X Y Z Q [] [] j0 rs c) (h1 : 1 ≤ n) (h2 : n < 7) (hF : 1000 ≤ F) : ∀ (m i : Nat) (T : tT) (R : List Nat), i + m = (Z n).length → CSr rs S.1 T0 T R → (∀ r ∈ R, ∃ z ∈ (Z n).take i, ∃ q ∈ Q, q.2.1 = z.2.1 ∧ q.2.2.1 = some r) → ∀ f, m < f → ∃ T', D_c_EdgeHouse_fail_33 F f 512 x1 (some (531 + 8 * n)) (Int32.ofNat i) T = ((tgr T' 512 0 3).bind fun v52 => (v52).bind fun a56 => (tar T' a56 7 x1).bind fun v59 => (v59).bind fun a63 => (tcl T' a63 4).bind fun _ => (D_c_Node_goDown F a63 T').bind fun T69 => some ((1 : Int32), T69)) ∧ CSr rs S.1 T0 T' (R ++ clZ Q ((Z n).drop i)) := by
  have hnd : rs.Nodup := h.2.2.2.2.2.2.2.2.1.2.2.2.1.1
  have h5 : T0.1 512 = some (house S.1) := h.2.1
  have hrep : ∀ (r b : Nat), rs[r]? = some b → ∃ g s, T0.1 b = some (cReply g s) := fun r b hb => by
    obtain ⟨g, s, q1', _⟩ := h.2.2.2.2.2.2.2.2.1.2.2.2.2 r b hb
    exact ⟨g, s, q1'⟩
  obtain ⟨⟨_, a2, _⟩, b1, _, _, c1, c2, d1, _, _⟩ := id h.2.2.2.2.2.2.2.1
  rw [List.nil_append, List.append_nil] at c2 a2
  obtain ⟨⟨cp, hl⟩, z2, z3, z4⟩ := h.2.2.2.2.2.2.1.1 n h1 h2
  have zlen := h.2.2.2.2.2.2.1.len h1 h2
  have keep : ∀ {T R b x}, CSr rs S.1 T0 T R → T0.1 b = some x → ¬ kd x = 0 → ¬ kd x = 8 → T.1 b = some x := fun {T R b x} hc hb w0 w8 => by
    rw [hc.2.2.1 b (fun w => by rw [w, h5] at hb; cases hb; exact w0 rfl) (fun r _ q => by
      obtain ⟨g, s, q'⟩ := hrep r _ q
      rw [q'] at hb
      cases hb
      exact w8 rfl)]
    exact hb
  intro m
  induction m with
  | zero =>
    intro i T R hi hc hR f hf
    obtain ⟨f, rfl⟩ : ∃ q, f = q + 1 := ⟨f - 1, by omega⟩
    have lT := keep hc hl (show ¬ (21 : Nat) = 0 by decide) (show ¬ (21 : Nat) = 8 by decide)
    have ls : tls T (531 + 8 * n) = some (Int32.ofNat (Z n).length) := by simp only [tls, tl, lT, Option.map_some, List.length_map]
    refine ⟨T, ?_, ?_⟩
    · conv => lhs; unfold D_c_EdgeHouse_fail_33
      simp only [Option.bind_some, ls]
      rw [ge_n (by omega) (by omega), decide_eq_true (by omega), cond_true]
    · rw [List.drop_eq_nil_of_le (by omega)]
      show CSr rs S.1 T0 T (R ++ [])
      rw [List.append_nil]
      exact hc
  | succ m ih =>
    intro i T R hi hc hR f hf
    obtain ⟨f, rfl⟩ : ∃ q, f = q + 1 := ⟨f - 1, by omega⟩
    have lT := keep hc hl (show ¬ (21 : Nat) = 0 by decide) (show ¬ (21 : Nat) = 8 by decide)
    have ls : tls T (531 + 8 * n) = some (Int32.ofNat (Z n).length) := by simp only [tls, tl, lT, Option.map_some, List.length_map]
    obtain ⟨z, hz⟩ : ∃ z, (Z n)[i]? = some z := ⟨_, List.getElem?_eq_getElem (by omega)⟩
    have fe := z2 z (List.mem_of_getElem? hz)
    have fT := keep hc fe.1 (show ¬ (10 : Nat) = 0 by decide) (show ¬ (10 : Nat) = 8 by decide)
    have lg : tlg T (531 + 8 * n) (Int32.ofNat i) = some z.1 := by
      simp only [tlg, tl, lT, Option.bind_some]
      rw [if_neg (m_n_neg (by omega)), m_n_cl (by omega), List.getElem?_map, hz]
      rfl
    have qs : ∀ q ∈ qIn Q z.2.1, q ∈ Q ∧ q.2.1 = z.2.1 := fun q hq => by
      obtain ⟨w1, w2⟩ := List.mem_filter.mp hq
      exact ⟨w1, of_decide_eq_true w2⟩
    have plc : ∀ z' ∈ (Z n).take i, ¬ z'.2.1 = z.2.1 := fun z' hz' e => by
      have fe' := z2 z' (List.mem_of_mem_take hz')
      have n1 : z'.2.2 7 = z.2.2 7 := by rw [← fe'.2.2.2.2.2.2.2.2.2.1, ← fe.2.2.2.2.2.2.2.2.2.1, e]
      have n2 : nmb z' = nmb z := by unfold nmb; rw [n1]
      obtain ⟨k, hk⟩ := List.mem_iff_getElem?.mp hz'
      have hki : k < i := by
        have := (List.getElem?_eq_some_iff.mp hk).1
        rw [List.length_take] at this
        omega
      rw [List.getElem?_take, if_pos hki] at hk
      obtain ⟨q1', q2'⟩ := List.getElem?_eq_some_iff.mp hk
      obtain ⟨q3', q4'⟩ := List.getElem?_eq_some_iff.mp hz
      have := (List.pairwise_iff_getElem.mp z3) k i q1' q3' hki
      rw [q2', q4'] at this
      omega
    have nin : ∀ q ∈ qIn Q z.2.1, ∀ r, q.2.2.1 = some r → ¬ r ∈ R := fun q hq r hr w => by
      obtain ⟨z', z1', q', q2', q3', q4'⟩ := hR r w
      have := fm_uniq c2 q (qs q hq).1 q' q2' r hr q4'
      subst this
      exact plc z' z1' (q3'.symm.trans (qs q hq).2)
    obtain ⟨T1, t1, t2⟩ := c_fl_chain (F := F) (rec := D_c_EdgeHouse_fail_33 F f) (x1 := x1) (x3 := Int32.ofNat i) (x2 := some (531 + 8 * n)) hnd h5 hrep (qIn Q z.2.1) T R hc (lkQ_of h _ (fun q hq => (qs q hq).1) (d1 z.2.1)) nin (c2.sublist (List.Sublist.filterMap _ List.filter_sublist)) F (by
      have : (qIn Q z.2.1).length ≤ Q.length := List.length_filter_le _ _
      omega)
    obtain ⟨T', y1, y2⟩ := ih (i + 1) T1 (R ++ (qIn Q z.2.1).filterMap (fun q => q.2.2.1)) (by omega) t2 (fun r hr => by
      rcases List.mem_append.mp hr with w | w
      · obtain ⟨z', q1', q2'⟩ := hR r w
        exact ⟨z', (List.take_subset_take_left (Z n) (Nat.le_succ i)) q1', q2'⟩
      · obtain ⟨q, q1', q2'⟩ := List.mem_filterMap.mp w
        refine ⟨z, ?_, q, (qs q q1').1, (qs q q1').2, q2'⟩
        rw [List.take_add_one, hz]
        simp) f (by omega)
    refine ⟨T', ?_, ?_⟩
    · rw [← y1]
      conv => lhs; unfold D_c_EdgeHouse_fail_33
      simp only [Option.bind_some, ls]
      rw [ge_n (by omega) (by omega), decide_eq_false (by omega), cond_false]
      have hd : tgr T z.1 10 12 = some ((qIn Q z.2.1).map Prod.fst).head? := Fr12 fT
      simp only [lg, Option.bind_some, tcc, tcl_o fT, hd]
      rw [t1, q1]
    · have : (Z n).drop i = z :: (Z n).drop (i + 1) := by
        obtain ⟨q1', q2'⟩ := List.getElem?_eq_some_iff.mp hz
        rw [List.drop_eq_getElem_cons q1', q2']
      rw [this]
      show CSr rs S.1 T0 T' (R ++ (_ ++ clZ Q ((Z n).drop (i + 1))))
      rw [← List.append_assoc]
      exact y2
end
